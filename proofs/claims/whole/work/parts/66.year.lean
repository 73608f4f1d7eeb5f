/-! ===== years ===== -/
def heal (R S : Nat → Nat) (k : Nat) : Bool := (decide (k < R 0) && decide (0 < S k)) && (((decide (0 < k) && decide (S (k - 1) = 0)) || (decide (k + 1 < R 0) && decide (S (k + 1) = 0))) && !decide (R (129 + k) = 1))
def yr (R S : Nat → Nat) : Nat → Nat := fun k => if k < 60 then (if heal R S k = true then S k - 1 else S k) else if k = 62 then S 62 + 1 else S k
def yrs (R S : Nat → Nat) : Nat → (Nat → Nat)
  | 0 => S
  | n + 1 => yr R (yrs R S n)
section YEAR
variable {N : Nat} {R S : Nat → Nat} {σ : Sg}
theorem yr_lt {k : Nat} (h : k < 60) : yr R S k = if heal R S k = true then S k - 1 else S k := by unfold yr; rw [if_pos h]
theorem heal_pos {k : Nat} (h : heal R S k = true) : k < R 0 ∧ 0 < S k := by
  unfold heal at h
  simp only [Bool.and_eq_true, decide_eq_true_eq] at h
  exact h.1
theorem WfC.yrd (h : WfC R S) : WfC R (yr R S) := by
  refine ⟨fun k hk => ?_, fun k h1 h2 => ?_⟩
  · have := h.1 k hk
    rw [yr_lt hk]
    split <;> omega
  · have := h.2 k h1 h2
    rw [yr_lt h2, if_neg (fun q => by have := heal_pos q; omega)]
    exact this
theorem WfC.yrsd (h : WfC R S) : ∀ n, WfC R (yrs R S n) := by
  intro n
  induction n with
  | zero => exact h
  | succ n ih => exact ih.yrd
theorem px_healing {o : Nat} (hL : LX 10 R σ) (hC : R 0 ≤ 60) (hB : SB o S σ) (hw : WfC R S) : ∃ w, f_state_healing N o σ = some (w, σ) ∧ tb w = heal R S := by
  unfold f_state_healing
  simp only [px_allCells hL hC, px_goneCells, Option.bind_some, f_country_healable]
  refine ⟨_, rfl, ?_⟩
  have ht := tb_there (n := R 0) hC (hB.gone hw.1)
  funext k
  rw [tb_and, tb_and, hB.gone hw.1, tb_or, tb_shl1, tb_shr1, tb_nt, ht, hL.bog]
  unfold heal gon
  have h1 := hw.1 k
  have h2 := hw.2 k
  have h3 := hw.2 (k - 1)
  have h4 := hw.2 (k + 1)
  rw [Bool.eq_iff_iff]
  simp only [Bool.or_eq_true, Bool.and_eq_true, Bool.not_eq_true', decide_eq_true_eq, decide_eq_false_iff_not, beq_iff_eq]
  omega
def lesN (S : Nat → Nat) (w : Int64) : Nat → Nat := fun k => if tb w k = true then S k - 1 else S k
theorem px_lessen {o : Nat} {w : Int64} (hB : SB o S σ) (hs : ∀ k, k < 60 → S k ≤ 3) (hw : ∀ k, tb w k = true → k < 60 ∧ 0 < S k) : ok (f_state_lessen N o w σ) (fun z => SB o (lesN S w) z.2) := by
  unfold f_state_lessen
  refine okS.mpr ⟨fun k => ?_, fun k => ?_⟩
  · rw [gL_ne (by omega), gL_eq, tb_xor, hB.1]
    have h1 := hs k
    by_cases t : tb w k = true
    · have h2 := hw k t
      rw [show lesN S w k = S k - 1 from if_pos t, t, Bool.xor_true, Bool.eq_iff_iff]
      simp only [Bool.not_eq_true', decide_eq_true_eq, decide_eq_false_iff_not]
      omega
    · rw [show lesN S w k = S k from if_neg t, show tb w k = false by simpa using t, Bool.xor_false]
  · rw [gL_eq, gL_ne (by omega), tb_xor, tb_and, tb_nt, hB.1, hB.2]
    have h1 := hs k
    by_cases t : tb w k = true
    · have h2 := hw k t
      rw [show lesN S w k = S k - 1 from if_pos t, t, Bool.true_and, Bool.eq_iff_iff]
      by_cases c : S k % 2 = 1
      · simp only [c, and_true, decide_eq_true (show k < 60 by omega), Bool.not_true, Bool.and_false, Bool.xor_false, decide_eq_true_eq]
        omega
      · simp only [c, and_false, decide_false, Bool.not_false, Bool.and_true, decide_eq_true (show k < 64 by omega), Bool.xor_true, Bool.not_eq_true', decide_eq_true_eq, decide_eq_false_iff_not]
        omega
    · rw [show lesN S w k = S k from if_neg t, show tb w k = false by simpa using t, Bool.false_and, Bool.xor_false]
theorem SB.ext {o : Nat} {S' : Nat → Nat} (h : SB o S σ) (e : ∀ k, k < 60 → S' k = S k) : SB o S' σ := by
  refine ⟨fun k => ?_, fun k => ?_⟩
  · rw [h.1 k]; exact decide_eq_decide.mpr ⟨fun q => ⟨q.1, by rw [e k q.1]; exact q.2⟩, fun q => ⟨q.1, by rw [← e k q.1]; exact q.2⟩⟩
  · rw [h.2 k]; exact decide_eq_decide.mpr ⟨fun q => ⟨q.1, by rw [e k q.1]; exact q.2⟩, fun q => ⟨q.1, by rw [← e k q.1]; exact q.2⟩⟩
theorem px_passYear {o : Nat} (hL : LX 10 R σ) (hC : R 0 ≤ 60) (hB : SB o S σ) (hw : WfC R S) : ok (f_state_passYear N o σ) (fun z => SB o (yr R S) z.2) := by
  unfold f_state_passYear
  obtain ⟨w, e, hh⟩ := px_healing (N := N) hL hC hB hw
  rw [e, Option.bind_some, okB]
  refine (px_lessen hB hw.1 (fun k hk => by rw [hh] at hk; have := heal_pos hk; omega)).imp (fun z hz => okS.mpr (hz.ext (fun k hk => ?_)))
  rw [yr_lt hk]
  unfold lesN
  rw [hh]
/-- the reference's year on the row a4 -/
theorem pm_yearOn {a4 : Nat} (hN : 200000 ≤ N) (hR : AR σ 69 189 R) (hS : AR σ a4 63 S) (h4 : a4 = 74 ∨ a4 = 75) (hC : R 0 ≤ 60) (hw : WfC R S) (hG : ∀ k, k < 60 → R (129 + k) ≤ 2) : ok (f_m_yearOn N 69 63 60 78 a4 189 66 σ) (fun z => z.1 = iI (cnt (fun k => heal R S k && decide (S k = 1)) (R 0) : Int) ∧ AR z.2 a4 63 (yr R S) ∧ gI z.2 66 27 = iI (if cnt (heal R S) (R 0) = 0 then 0 else 1)) := by
  have hr := hw.r
  have main : ∀ n i τ, i ≤ R 0 → R 0 - i < n → AR τ 69 189 R → (∀ k, k < R 0 → gI τ 78 k = iI (S k : Int)) → AR τ a4 63 (fun k => if k < i ∧ heal R S k = true then S k - 1 else S k) → gI τ 66 27 = iI (if cnt (heal R S) i = 0 then 0 else 1) →
      ok (f_m_yearOn_L36 N 69 63 60 78 a4 189 66 n (iI (cnt (fun k => heal R S k && decide (S k = 1)) i : Int)) (iI (i : Int)) τ) (fun z => z.1 = iI (cnt (fun k => heal R S k && decide (S k = 1)) (R 0) : Int) ∧ AR z.2 a4 63 (yr R S) ∧ gI z.2 66 27 = iI (if cnt (heal R S) (R 0) = 0 then 0 else 1)) := by
    intro n
    induction n with
    | zero => intro i τ _ h; omega
    | succ n ih =>
      intro i τ hi hn hRt h78 hSt h27
      unfold f_m_yearOn_L36
      have e0 := hRt.A (z := 0) 0 rfl (by omega) (by omega)
      by_cases c : i = R 0
      · have e62 := hSt.A (z := 62) 62 rfl (by omega) (by omega)
        rw [if_neg (by omega)] at e62
        rw [if_pos (show gA τ 69 0 ≤ iI (i : Int) by rw [show gA τ 69 0 = iI (R 0 : Int) from e0, iI_le (by omega) (by omega) (by omega) (by omega)]; omega), show gA τ a4 62 + 1 = iI ((S 62 : Int) + 1) by rw [show gA τ a4 62 = iI (S 62 : Int) from e62]; exact iI_add _ 1]
        subst c
        refine okS.mpr ⟨rfl, hSt.set (z := 62) 62 rfl (by omega) (fun j hj => ?_), ?_⟩
        · unfold yr
          by_cases c1 : j = 62
          · subst c1
            rw [if_pos rfl, if_neg (by omega), if_pos rfl]
            rfl
          · rw [if_neg c1, if_neg c1]
            by_cases c2 : j < 60
            · rw [if_pos c2]
              by_cases c3 : heal R S j = true
              · rw [if_pos c3, if_pos ⟨(heal_pos c3).1, c3⟩]
              · rw [if_neg c3, if_neg (fun q => c3 q.2)]
            · rw [if_neg c2, if_neg (by omega)]
        · show gI (sI τ a4 _ _) 66 27 = _
          rw [gI_ne (by omega)]; exact h27
      · have e1 : gA τ 78 (iI (i : Int)) = iI (S i : Int) := by rw [gA_iI (by omega) (by omega), Int.toNat_natCast]; exact h78 i (by omega)
        have e2 : 0 < i → gA τ 78 (iI ((i : Int) - 1)) = iI (S (i - 1) : Int) := fun h => by
          rw [gA_iI (by omega) (by omega), show ((i : Int) - 1).toNat = i - 1 by omega]; exact h78 _ (by omega)
        have e3 : i + 1 < R 0 → gA τ 78 (iI ((i : Int) + 1)) = iI (S (i + 1) : Int) := fun h => by
          rw [gA_iI (by omega) (by omega), show ((i : Int) + 1).toNat = i + 1 by omega]; exact h78 _ (by omega)
        have e4 := hRt.A (z := 129 + (i : Int)) (129 + i) (by omega) (by omega) (by omega)
        have e5 := hSt.A (z := (i : Int)) i rfl (by omega) (by omega)
        rw [if_neg (by omega)] at e5
        have r1 := hr i (by omega)
        have r2 := hr (i - 1) (by omega)
        have r3 : i + 1 < R 0 → S (i + 1) < 2147483648 := fun h => hr _ (by omega)
        have r4 : (R (129 + i) : Int) < 2147483648 ∨ True := Or.inr trivial
        have stay : heal R S i = false → ok (f_m_yearOn_L36 N 69 63 60 78 a4 189 66 n (iI (cnt (fun k => heal R S k && decide (S k = 1)) i : Int)) (iI ((i : Int) + 1)) τ) (fun z => z.1 = iI (cnt (fun k => heal R S k && decide (S k = 1)) (R 0) : Int) ∧ AR z.2 a4 63 (yr R S) ∧ gI z.2 66 27 = iI (if cnt (heal R S) (R 0) = 0 then 0 else 1)) := by
          intro hf
          have h := ih (i + 1) τ (by omega) (by omega) hRt h78 (fun j hj => by
            rw [hSt j hj]
            dsimp only
            by_cases c1 : j < i ∧ heal R S j = true
            · rw [if_pos c1, if_pos ⟨by omega, c1.2⟩]
            · rw [if_neg c1, if_neg]
              intro q
              by_cases c2 : j = i
              · rw [c2, hf] at q; exact absurd q.2 (by decide)
              · exact c1 ⟨by omega, q.2⟩) (by rw [h27, cnt_succ, hf]; rfl)
          rw [cnt_succ, hf] at h
          exact h
        have less : heal R S i = true → ∀ τ', τ' = sI (sA τ a4 (iI (i : Int)) (iI ((S i : Int) - 1))) 66 27 (iI 1) → gA τ' a4 (iI (i : Int)) = iI ((S i : Int) - 1) ∧ ok (f_m_yearOn_L36 N 69 63 60 78 a4 189 66 n (iI ((cnt (fun k => heal R S k && decide (S k = 1)) i : Int) + (if S i = 1 then 1 else 0))) (iI ((i : Int) + 1)) τ') (fun z => z.1 = iI (cnt (fun k => heal R S k && decide (S k = 1)) (R 0) : Int) ∧ AR z.2 a4 63 (yr R S) ∧ gI z.2 66 27 = iI (if cnt (heal R S) (R 0) = 0 then 0 else 1)) := by
          intro hf τ' hτ
          have hpos := (heal_pos hf).2
          have hs : τ' = sI (sI τ a4 i (iI ((S i : Int) - 1))) 66 27 (iI 1) := by
            rw [hτ, sA_iI (by omega) (by omega), Int.toNat_natCast]
          constructor
          · rw [hs, gA_iI (by omega) (by omega), Int.toNat_natCast, gI_ne (by omega), gI_eq]
          · have h := ih (i + 1) τ' (by omega) (by omega) (fun j hj => by
              rw [hs, gI_ne (by omega), gI_ne (by omega)]; exact hRt j hj) (fun j hj => by
              rw [hs, gI_ne (by omega), gI_ne (by omega)]; exact h78 j hj) (fun j hj => by
              rw [hs, gI_ne (by omega), gI_sI]
              dsimp only
              by_cases c2 : j = i
              · subst c2
                rw [if_pos ⟨rfl, rfl⟩, if_pos ⟨by omega, hf⟩]
                congr 1; omega
              · rw [if_neg (fun q => c2 q.2), hSt j hj]
                dsimp only
                by_cases c1 : j < i ∧ heal R S j = true
                · rw [if_pos c1, if_pos ⟨by omega, c1.2⟩]
                · rw [if_neg c1, if_neg (fun q => c1 ⟨by omega, q.2⟩)]) (by
              rw [hs, gI_eq, cnt_succ, hf, if_neg]
              rw [if_pos rfl]; omega)
            rw [cnt_succ, hf, Bool.true_and] at h
            by_cases c1 : S i = 1
            · rw [if_pos c1]
              rw [if_pos (by simp [c1])] at h
              exact h
            · rw [if_neg c1]
              rw [if_neg (by simp [c1])] at h
              exact h
        have hheal : heal R S i = true ↔ 0 < S i ∧ ((0 < i ∧ S (i - 1) = 0) ∨ (i + 1 < R 0 ∧ S (i + 1) = 0)) ∧ R (129 + i) ≠ 1 := by
          unfold heal
          simp only [Bool.or_eq_true, Bool.and_eq_true, Bool.not_eq_true', decide_eq_true_eq, decide_eq_false_iff_not]
          constructor
          · rintro ⟨⟨a, b⟩, c, d⟩; exact ⟨b, c, d⟩
          · rintro ⟨b, c, d⟩; exact ⟨⟨by omega, b⟩, c, d⟩
        have eT : (sI (sA τ a4 (iI (i : Int)) ((gA τ a4 (iI (i : Int))) - 1)) 66 27 1) = sI (sA τ a4 (iI (i : Int)) (iI ((S i : Int) - 1))) 66 27 (iI 1) := by
          rw [e5, show iI (S i : Int) - 1 = iI ((S i : Int) - 1) from iI_sub _ 1]; rfl
        have e6 : gA (sI (sA τ a4 (iI (i : Int)) ((gA τ a4 (iI (i : Int))) - 1)) 66 27 1) a4 (iI (i : Int)) = iI ((S i : Int) - 1) := by
          rw [eT, sA_iI (by omega) (by omega), Int.toNat_natCast, gA_iI (by omega) (by omega), Int.toNat_natCast, gI_ne (by omega), gI_eq]
        have rg := hG i (by omega)
        have ei : iI (i : Int) + 1 = iI ((i : Int) + 1) := iI_add _ 1
        have stay' : ¬ (0 < S i ∧ ((0 < i ∧ S (i - 1) = 0) ∨ (i + 1 < R 0 ∧ S (i + 1) = 0)) ∧ R (129 + i) ≠ 1) → ok (f_m_yearOn_L36 N 69 63 60 78 a4 189 66 n (iI (cnt (fun k => heal R S k && decide (S k = 1)) i : Int)) (iI (i : Int) + 1) τ) (fun z => z.1 = iI (cnt (fun k => heal R S k && decide (S k = 1)) (R 0) : Int) ∧ AR z.2 a4 63 (yr R S) ∧ gI z.2 66 27 = iI (if cnt (heal R S) (R 0) = 0 then 0 else 1)) := fun q => by
          rw [ei]
          exact stay (by
            cases hx : heal R S i with
            | false => rfl
            | true => exact absurd (hheal.mp hx) q)
        have less1 : (0 < S i ∧ ((0 < i ∧ S (i - 1) = 0) ∨ (i + 1 < R 0 ∧ S (i + 1) = 0)) ∧ R (129 + i) ≠ 1) → S i = 1 → ok (f_m_yearOn_L36 N 69 63 60 78 a4 189 66 n (iI (cnt (fun k => heal R S k && decide (S k = 1)) i : Int) + 1) (iI (i : Int) + 1) (sI (sA τ a4 (iI (i : Int)) ((gA τ a4 (iI (i : Int))) - 1)) 66 27 1)) (fun z => z.1 = iI (cnt (fun k => heal R S k && decide (S k = 1)) (R 0) : Int) ∧ AR z.2 a4 63 (yr R S) ∧ gI z.2 66 27 = iI (if cnt (heal R S) (R 0) = 0 then 0 else 1)) := fun q h1 => by
          have h := (less (hheal.mpr q) _ rfl).2
          rw [if_pos h1] at h
          rw [ei, eT, show iI (cnt (fun k => heal R S k && decide (S k = 1)) i : Int) + 1 = iI ((cnt (fun k => heal R S k && decide (S k = 1)) i : Int) + 1) from iI_add _ 1]
          exact h
        have less2 : (0 < S i ∧ ((0 < i ∧ S (i - 1) = 0) ∨ (i + 1 < R 0 ∧ S (i + 1) = 0)) ∧ R (129 + i) ≠ 1) → ¬ S i = 1 → ok (f_m_yearOn_L36 N 69 63 60 78 a4 189 66 n (iI (cnt (fun k => heal R S k && decide (S k = 1)) i : Int) + 0) (iI (i : Int) + 1) (sI (sA τ a4 (iI (i : Int)) ((gA τ a4 (iI (i : Int))) - 1)) 66 27 1)) (fun z => z.1 = iI (cnt (fun k => heal R S k && decide (S k = 1)) (R 0) : Int) ∧ AR z.2 a4 63 (yr R S) ∧ gI z.2 66 27 = iI (if cnt (heal R S) (R 0) = 0 then 0 else 1)) := fun q h1 => by
          have h := (less (hheal.mpr q) _ rfl).2
          rw [if_neg h1] at h
          rw [ei, eT, show iI (cnt (fun k => heal R S k && decide (S k = 1)) i : Int) + 0 = iI ((cnt (fun k => heal R S k && decide (S k = 1)) i : Int) + 0) from iI_add _ 0]
          exact h
        have z0 : (0 : Int32) = iI 0 := rfl
        have k1 : ¬ gA τ 69 0 ≤ iI (i : Int) := by rw [show gA τ 69 0 = iI (R 0 : Int) from e0, iI_le (by omega) (by omega) (by omega) (by omega)]; omega
        have k2 : (iI (i : Int) ≤ 0) = (i = 0) := by rw [z0, iI_le (by omega) (by omega) (by omega) (by omega)]; exact propext (by omega)
        have k3 : (gA τ 69 0 ≤ iI (i : Int) + 1) = ¬ (i + 1 < R 0) := by rw [ei, show gA τ 69 0 = iI (R 0 : Int) from e0, iI_le (by omega) (by omega) (by omega) (by omega)]; exact propext (by omega)
        have v1 : vin (iI (i : Int)) 60 := by rw [vin_iI (by omega) (by omega)]; omega
        have v2 : vin (iI (i : Int)) 63 := by rw [vin_iI (by omega) (by omega)]; omega
        have v3 : vin (129 + iI (i : Int)) 189 := by rw [show (129 : Int32) + iI (i : Int) = iI (129 + (i : Int)) from iI_add 129 _, vin_iI (by omega) (by omega)]; omega
        have k6 : (gA τ 78 (iI (i : Int)) = 0) = (S i = 0) := by rw [e1, z0, iI_eq (by omega) (by omega) (by omega) (by omega)]; exact propext (by omega)
        have k8 : (gA τ 69 (129 + iI (i : Int)) = 1) = (R (129 + i) = 1) := by
          rw [show (129 : Int32) + iI (i : Int) = iI (129 + (i : Int)) from iI_add 129 _, e4, show (1 : Int32) = iI 1 from rfl, iI_eq (by omega) (by omega) (by omega) (by omega)]; exact propext (by omega)
        have k9 : (gA (sI (sA τ a4 (iI (i : Int)) ((gA τ a4 (iI (i : Int))) - 1)) 66 27 1) a4 (iI (i : Int)) = 0) = (S i = 1) := by rw [e6, z0, iI_eq (by omega) (by omega) (by omega) (by omega)]; exact propext (by omega)
        have k7 : 0 < i → (vin (iI (i : Int) - 1) 60 ∧ (gA τ 78 (iI (i : Int) - 1) = 0) = (S (i - 1) = 0)) := fun h => by
          rw [show iI (i : Int) - 1 = iI ((i : Int) - 1) from iI_sub _ 1, vin_iI (by omega) (by omega), e2 h, z0]
          refine ⟨by omega, ?_⟩
          rw [iI_eq (by omega) (by omega) (by omega) (by omega)]; exact propext (by omega)
        have k5 : i + 1 < R 0 → (vin (iI (i : Int) + 1) 60 ∧ (gA τ 78 (iI (i : Int) + 1) = 0) = (S (i + 1) = 0)) := fun h => by
          have r3' := r3 h
          rw [ei, vin_iI (by omega) (by omega), e3 h, z0]
          refine ⟨by omega, ?_⟩
          rw [iI_eq (by omega) (by omega) (by omega) (by omega)]; exact propext (by omega)
        clear stay less hheal ih h27 hSt h78 hRt
        rw [if_neg k1]
        simp only [k2, k3, k6, k8, k9, v1, v2, v3, if_true]
        by_cases i0 : i = 0
        · rw [if_pos i0]
          by_cases rr : i + 1 < R 0
          · obtain ⟨v4, k5'⟩ := k5 rr
            rw [if_neg (fun q => q rr), if_pos v4]
            simp only [k5']
            by_cases rz : S (i + 1) = 0
            · rw [if_pos rz]
              by_cases sz : S i = 0
              · rw [if_pos sz]
                repeat (first | rw [if_pos v1] | rw [if_pos v2] | rw [if_pos v3])
                exact stay' (by omega)
              · rw [if_neg sz]
                by_cases bg : R (129 + i) = 1
                · rw [if_pos bg]
                  repeat (first | rw [if_pos v1] | rw [if_pos v2] | rw [if_pos v3])
                  exact stay' (by omega)
                · rw [if_neg bg]
                  by_cases s1 : S i = 1
                  · rw [if_pos s1]
                    repeat (first | rw [if_pos v1] | rw [if_pos v2] | rw [if_pos v3])
                    exact less1 (by omega) s1
                  · rw [if_neg s1]
                    repeat (first | rw [if_pos v1] | rw [if_pos v2] | rw [if_pos v3])
                    exact less2 (by omega) s1
            · rw [if_neg rz, ite_self]
              repeat (first | rw [if_pos v1] | rw [if_pos v2] | rw [if_pos v3])
              exact stay' (by omega)
          · rw [if_pos rr, ite_self]
            repeat (first | rw [if_pos v1] | rw [if_pos v2] | rw [if_pos v3])
            exact stay' (by omega)
        · obtain ⟨v5, k7'⟩ := k7 (by omega)
          rw [if_neg i0, if_pos v5]
          simp only [k7']
          by_cases lz : S (i - 1) = 0
          · rw [if_pos lz]
            by_cases sz : S i = 0
            · rw [if_pos sz]
              repeat (first | rw [if_pos v1] | rw [if_pos v2] | rw [if_pos v3])
              exact stay' (by omega)
            · rw [if_neg sz]
              by_cases bg : R (129 + i) = 1
              · rw [if_pos bg]
                repeat (first | rw [if_pos v1] | rw [if_pos v2] | rw [if_pos v3])
                exact stay' (by omega)
              · rw [if_neg bg]
                by_cases s1 : S i = 1
                · rw [if_pos s1]
                  repeat (first | rw [if_pos v1] | rw [if_pos v2] | rw [if_pos v3])
                  exact less1 (by omega) s1
                · rw [if_neg s1]
                  repeat (first | rw [if_pos v1] | rw [if_pos v2] | rw [if_pos v3])
                  exact less2 (by omega) s1
          · rw [if_neg lz]
            by_cases rr : i + 1 < R 0
            · obtain ⟨v4, k5'⟩ := k5 rr
              rw [if_neg (fun q => q rr), if_pos v4]
              simp only [k5']
              by_cases rz : S (i + 1) = 0
              · rw [if_pos rz]
                by_cases sz : S i = 0
                · rw [if_pos sz]
                  repeat (first | rw [if_pos v1] | rw [if_pos v2] | rw [if_pos v3])
                  exact stay' (by omega)
                · rw [if_neg sz]
                  by_cases bg : R (129 + i) = 1
                  · rw [if_pos bg]
                    repeat (first | rw [if_pos v1] | rw [if_pos v2] | rw [if_pos v3])
                    exact stay' (by omega)
                  · rw [if_neg bg]
                    by_cases s1 : S i = 1
                    · rw [if_pos s1]
                      repeat (first | rw [if_pos v1] | rw [if_pos v2] | rw [if_pos v3])
                      exact less1 (by omega) s1
                    · rw [if_neg s1]
                      repeat (first | rw [if_pos v1] | rw [if_pos v2] | rw [if_pos v3])
                      exact less2 (by omega) s1
              · rw [if_neg rz, ite_self]
                repeat (first | rw [if_pos v1] | rw [if_pos v2] | rw [if_pos v3])
                exact stay' (by omega)
            · rw [if_pos rr, ite_self]
              repeat (first | rw [if_pos v1] | rw [if_pos v2] | rw [if_pos v3])
              exact stay' (by omega)
  have lay : ∀ n i τ, i ≤ R 0 → R 0 - i < n → AR τ 69 189 R → AR τ a4 63 S → (∀ k, k < i → gI τ 78 k = iI (S k : Int)) → gI τ 66 27 = iI 0 →
      ok (f_m_yearOn_L9 N 69 63 60 78 a4 189 66 n (iI 0) (iI (i : Int)) τ (fun (w2 : Int32) (t1 : Sg) => f_m_yearOn_L36 N 69 63 60 78 a4 189 66 N w2 0 t1)) (fun z => z.1 = iI (cnt (fun k => heal R S k && decide (S k = 1)) (R 0) : Int) ∧ AR z.2 a4 63 (yr R S) ∧ gI z.2 66 27 = iI (if cnt (heal R S) (R 0) = 0 then 0 else 1)) := by
    intro n
    induction n with
    | zero => intro i τ _ h; omega
    | succ n ih =>
      intro i τ hi hn hRt hSt h78 h27
      unfold f_m_yearOn_L9
      have e0 := hRt.A (z := 0) 0 rfl (by omega) (by omega)
      by_cases c : i = R 0
      · simp (disch := omega) only [e0, nI_iI, iI_lit, iI_neg, iI_add, iI_sub, iI_mul, iI_le]
        rw [if_pos (by omega)]
        subst c
        exact main N 0 τ (by omega) (by omega) hRt h78 (fun j hj => by rw [hSt j hj]; dsimp only; rw [if_neg (by omega)]) (by rw [h27]; rfl)
      · have e1 := hSt.A (z := (i : Int)) i rfl (by omega) (by omega)
        simp (maxSteps := 4000000) (disch := omega) only [e0, e1, nI_iI, iI_lit, iI_neg, iI_add, iI_sub, iI_mul, iI_lt, iI_le, iI_eq, vin_iI]
        rw [if_neg (by omega), if_pos (by omega), if_pos (by omega)]
        rw [sA_iI (by omega) (by omega), Int.toNat_natCast]
        refine ih (i + 1) _ (by omega) (by omega) (fun j hj => ?_) (fun j hj => ?_) (fun j hj => ?_) ?_
        · rw [gI_ne (by omega)]; exact hRt j hj
        · rw [gI_ne (by omega)]; exact hSt j hj
        · rw [gI_sI]
          by_cases c2 : j = i
          · rw [if_pos ⟨rfl, c2⟩, c2]
          · rw [if_neg (fun q => c2 q.2)]; exact h78 j (by omega)
        · rw [gI_ne (by omega)]; exact h27
  unfold f_m_yearOn
  refine lay N 0 _ (by omega) (by omega) (fun j hj => ?_) (fun j hj => ?_) (fun j hj => by omega) gI_eq
  · rw [gI_ne (by omega)]; exact hR j hj
  · rw [gI_ne (by omega)]; exact hS j hj
/-- years on the trial of both -/
theorem px_goneBehind (hN : 200000 ≤ N) (hL : LX 10 R σ) (hX : SX 40 S σ) (hC : R 0 ≤ 60) (hw : WfC R S) {n : Nat} (hn : n ≤ 60) : ok (f_x_goneBehind N (iI (n : Int)) σ) (fun z => tb z.1 = gon (yrs R S n)) := by
  have key : ∀ m i τ, i ≤ n → n - i < m → LX 10 R τ → SB 41 (yrs R S i) τ → ok (f_x_goneBehind_L13 N m (iI (n : Int)) (iI (i : Int)) τ) (fun z => tb z.1 = gon (yrs R S n)) := by
    intro m
    induction m with
    | zero => intro i τ _ h; omega
    | succ m ih =>
      intro i τ hi hm hLt hB
      unfold f_x_goneBehind_L13
      simp (disch := omega) only [nI_iI, iI_lit, iI_neg, iI_add, iI_sub, iI_mul, iI_lt, iI_le, iI_eq, vin_iI]
      by_cases c : i = n
      · rw [if_pos (by omega)]
        subst c
        exact okS.mpr (hB.gone (hw.yrsd i).1)
      · rw [if_neg (by omega), okB]
        refine ((px_passYear hLt hC hB (hw.yrsd i)).and (fun z => w_f_state_passYear)).imp (fun q hq => ?_)
        exact ih (i + 1) q.2 (by omega) (by omega) (hLt.fr hq.2 rfl) hq.1
  unfold f_x_goneBehind
  rw [okB]
  refine ((px_copy hX).and (fun z => w_f_state_copy)).imp (fun q hq => ?_)
  exact key N 0 q.2 (by omega) (by omega) (hL.fr hq.2 rfl) hq.1.b
theorem pm_yearsOn (hN : 200000 ≤ N) (hR : AR σ 69 189 R) (hS : AR σ 74 63 S) (hW : WfL R) (hw : WfC R S) {n : Nat} (hn : n ≤ 60) : ok (f_m_yearsOn N (iI (n : Int)) σ) (fun z => AR z.2 75 63 (yrs R S n)) := by
  have hC := hW.c.2
  have key : ∀ m i τ, i ≤ n → n - i < m → AR τ 69 189 R → AR τ 75 63 (yrs R S i) → ok (f_m_yearsOn_L6 N m (iI (n : Int)) (iI (i : Int)) τ) (fun z => AR z.2 75 63 (yrs R S n)) := by
    intro m
    induction m with
    | zero => intro i τ _ h; omega
    | succ m ih =>
      intro i τ hi hm hRt hSt
      unfold f_m_yearsOn_L6
      simp (disch := omega) only [nI_iI, iI_lit, iI_neg, iI_add, iI_sub, iI_mul, iI_lt, iI_le, iI_eq, vin_iI]
      by_cases c : i = n
      · rw [if_pos (by omega)]
        subst c
        exact okS.mpr hSt
      · rw [if_neg (by omega), okB]
        refine ((pm_yearOn hN hRt hSt (Or.inr rfl) hC (hw.yrsd i) (fun k hk => hW.gd hk)).and (fun z => w_f_m_yearOn)).imp (fun q hq => ?_)
        exact ih (i + 1) q.2 (by omega) (by omega) (hRt.fr hq.2 rfl) hq.1.2.1
  unfold f_m_yearsOn
  rw [okB]
  refine ((pm_begin hN hS).and (fun z => w_f_m_begin)).imp (fun q hq => ?_)
  exact key N 0 q.2 (by omega) (by omega) (hR.fr hq.2 rfl) hq.1
theorem pm_aheadWhy (h : LandM R S σ) {z : Int} (h1 : -2147483648 ≤ z) (h2 : z < 2147483648) : f_m_aheadWhy N (gI σ 66 14) (iI z) σ = some (iI (tN R z 60), σ) := by
  unfold f_m_aheadWhy
  have e := pm_numWhy (N := N) h h1 h2 (m := 60) (by omega) (by omega)
  rw [show (0 : Int32) = iI 0 from rfl, show (60 : Int32) = iI 60 from rfl]
  rw [pm_in h1 h2 (by omega) (by omega) (by omega) (by omega)] at e ⊢
  simp only [Option.bind_some] at e ⊢
  rw [e]
  rfl
theorem sim_goneIn (hN : 200000 ≤ N) (v : Int32) (h : Sim σ) : Both (f_x_goneIn N v σ) (f_m_goneIn N v) := by
  obtain ⟨R, S, B, h, hr⟩ := h
  obtain ⟨z, rfl, z1, z2⟩ := iI_of v
  refine sim_ro (a := ra (tN R z 60) (cnt (gon (yrs R S z.toNat)) 64 : Int)) h hr (ra_t tN_3) ?_ (fun z => w_f_x_goneIn) rfl (fun τ g => ?_) (fun τ y => w_f_m_goneIn) rfl rfl
  · have e := tx_num (N := N) h.lx.c h.gd.c z1 z2 (m := 60) (by omega) (by omega)
    simp only [f_x_goneIn, show (60 : Int32) = iI 60 from rfl, e, px_gr N tN_r, Option.bind_some, bind_ite, Bool.false_eq_true, ↓reduceIte]
    refine x_fin (fun h0 => ?_)
    rw [tN_0] at h0
    obtain ⟨n, rfl⟩ : ∃ b : Nat, z = (b : Int) := ⟨z.toNat, by omega⟩
    have hS := h.gd.ws h0.1
    rw [okB]
    refine ((px_goneBehind hN h.lx.tr (h.sx.tr (by decide)) h.gd.c hS.c (n := n) (by omega)).and (fun z => w_f_x_goneBehind)).imp (fun q hq => ?_)
    rw [px_bitCount, hq.1, Int.toNat_natCast]
    refine okS.mpr ⟨rfl, ?_⟩
    rw [hq.2.I 0 10 rfl]; exact gI_eq
  · simp only [f_m_goneIn, pm_anew, pm_aheadWhy g.lm.an z1 z2, f_m_no, Option.bind_some, bind_ite, Bool.false_eq_true, ↓reduceIte, iI_0 tN_r]
    refine m_fin (fun h0 => ?_)
    rw [tN_0] at h0
    obtain ⟨n, rfl⟩ : ∃ b : Nat, z = (b : Int) := ⟨z.toNat, by omega⟩
    have hW := g.gd.wl h0.1
    have hS := g.gd.ws h0.1
    rw [okB]
    refine ((pm_yearsOn hN g.lm.an.1 g.lm.an.2.1 hW hS.c (n := n) (by omega)).and (fun z => w_f_m_yearsOn)).imp (fun q hq => ?_)
    have hw := hS.c.yrsd n
    rw [pm_goneOn hN (g.lm.an.1.fr hq.2 rfl) hq.1 g.gd.c hw.2 hw.r, Int.toNat_natCast]
    refine okS.mpr ⟨rfl, ?_⟩
    rw [hq.2.I 66 11 rfl]; exact an_t
theorem sim_lostIn (hN : 200000 ≤ N) (v : Int32) (h : Sim σ) : Both (f_x_lostIn N v σ) (f_m_lostIn N v) := by
  obtain ⟨R, S, B, h, hr⟩ := h
  obtain ⟨z, rfl, z1, z2⟩ := iI_of v
  refine sim_ro (a := ra (tN R z 60) (lost R (gon (yrs R S z.toNat)) : Int)) h hr (ra_t tN_3) ?_ (fun z => w_f_x_lostIn) rfl (fun τ g => ?_) (fun τ y => w_f_m_lostIn) rfl rfl
  · have e := tx_num (N := N) h.lx.c h.gd.c z1 z2 (m := 60) (by omega) (by omega)
    simp only [f_x_lostIn, show (60 : Int32) = iI 60 from rfl, e, px_gr N tN_r, Option.bind_some, bind_ite, Bool.false_eq_true, ↓reduceIte]
    refine x_fin (fun h0 => ?_)
    rw [tN_0] at h0
    obtain ⟨n, rfl⟩ : ∃ b : Nat, z = (b : Int) := ⟨z.toNat, by omega⟩
    have hS := h.gd.ws h0.1
    rw [okB]
    refine ((px_goneBehind hN h.lx.tr (h.sx.tr (by decide)) h.gd.c hS.c (n := n) (by omega)).and (fun z => w_f_x_goneBehind)).imp (fun q hq => ?_)
    rw [px_lost hN (h.lx.tr.fr hq.2 rfl) (h.gd.wl h0.1), hq.1, Int.toNat_natCast]
    refine okS.mpr ⟨rfl, ?_⟩
    rw [hq.2.I 0 10 rfl]; exact gI_eq
  · simp only [f_m_lostIn, pm_anew, pm_aheadWhy g.lm.an z1 z2, f_m_no, Option.bind_some, bind_ite, Bool.false_eq_true, ↓reduceIte, iI_0 tN_r]
    refine m_fin (fun h0 => ?_)
    rw [tN_0] at h0
    obtain ⟨n, rfl⟩ : ∃ b : Nat, z = (b : Int) := ⟨z.toNat, by omega⟩
    have hW := g.gd.wl h0.1
    have hS := g.gd.ws h0.1
    rw [okB]
    refine ((pm_yearsOn hN g.lm.an.1 g.lm.an.2.1 hW hS.c (n := n) (by omega)).and (fun z => w_f_m_yearsOn)).imp (fun q hq => ?_)
    have hw := hS.c.yrsd n
    rw [pm_lostOn hN (g.lm.an.1.fr hq.2 rfl) hq.1 hW hw.r, Int.toNat_natCast]
    refine okS.mpr ⟨rfl, ?_⟩
    rw [hq.2.I 66 11 rfl]; exact an_t
/-- the first year of so many at which something holds -/
def fy (p : Nat → Bool) : Nat → Nat → Int
  | 0, _ => -2
  | n + 1, i => if p i = true then (i : Int) else fy p n (i + 1)
theorem sim_backIn (hN : 200000 ≤ N) (v : Int32) (h : Sim σ) : Both (f_x_backIn N v σ) (f_m_backIn N v) := by
  obtain ⟨R, S, B, h, hr⟩ := h
  obtain ⟨z, rfl, z1, z2⟩ := iI_of v
  refine sim_ro (a := ra (tC R z) (fy (fun i => decide (yrs R S i z.toNat = 0)) 61 0)) h hr (ra_t tC_3) ?_ (fun z => w_f_x_backIn) rfl (fun τ g => ?_) (fun τ y => w_f_m_backIn) rfl rfl
  · simp only [f_x_backIn, tx_cell h.lx.c h.gd.c z1 z2, px_gr N tC_r, Option.bind_some, bind_ite, Bool.false_eq_true, ↓reduceIte]
    refine x_fin (fun h0 => ?_)
    rw [tC_0] at h0
    obtain ⟨k, rfl⟩ : ∃ b : Nat, z = (b : Int) := ⟨z.toNat, by omega⟩
    have hS := h.gd.ws (by omega)
    have hc := h.gd.c
    rw [Int.toNat_natCast]
    have key : ∀ m i τ, i ≤ 61 → 61 - i < m → gI τ 0 10 = iI 0 → LX 10 R τ → SB 41 (yrs R S i) τ → ok (f_x_backIn_L27 N m (iI (k : Int)) (iI (i : Int)) τ) (An (fy (fun i => decide (yrs R S i k = 0)) (61 - i) i, 0)) := by
      intro m
      induction m with
      | zero => intro i τ _ h; omega
      | succ m ih =>
        intro i τ hi hm ht hLt hB
        have hw := hS.c.yrsd i
        have h3 := hw.1 k (by omega)
        unfold f_x_backIn_L27
        rw [px_depthAt hB (by omega) h3, Option.bind_some]
        dsimp only
        simp (disch := omega) only [nI_iI, iI_lit, iI_neg, iI_add, iI_sub, iI_mul, iI_lt, iI_le, iI_eq, vin_iI]
        by_cases c : i = 61
        · rw [if_pos (by omega), c]
          exact okS.mpr ⟨rfl, ht⟩
        · rw [if_neg (by omega), show 61 - i = (61 - (i + 1)) + 1 by omega]
          unfold fy
          by_cases c2 : yrs R S i k = 0
          · rw [if_pos (by omega), if_pos (by simp [c2])]
            exact okS.mpr ⟨rfl, ht⟩
          · rw [if_neg (by omega), if_neg (by simp [c2]), okB]
            refine ((px_passYear hLt hc hB hw).and (fun z => w_f_state_passYear)).imp (fun q hq => ?_)
            exact ih (i + 1) q.2 (by omega) (by omega) (by rw [hq.2.I 0 10 rfl]; exact ht) (hLt.fr hq.2 rfl) hq.1
    rw [okB]
    refine ((px_copy (h.sx.tr (by decide))).and (fun z => w_f_state_copy)).imp (fun q hq => ?_)
    exact key N 0 q.2 (by omega) (by omega) (by rw [hq.2.I 0 10 rfl]; exact gI_eq) (h.lx.tr.fr hq.2 rfl) hq.1.b
  · simp only [f_m_backIn, pm_anew, pm_isCell g.lm.an g.gd.c z1 z2, f_m_no, Option.bind_some, bind_ite, Bool.false_eq_true, ↓reduceIte, decide_eq_true_eq]
    refine m_finC (fun h0 => ?_)
    obtain ⟨k, rfl⟩ : ∃ b : Nat, z = (b : Int) := ⟨z.toNat, by omega⟩
    have hW := g.gd.wl (by omega)
    have hS := g.gd.ws (by omega)
    have hc := g.gd.c
    rw [Int.toNat_natCast]
    have key : ∀ m i τ, i ≤ 61 → 61 - i < m → gI τ 66 11 = iI 0 → AR τ 69 189 R → AR τ 75 63 (yrs R S i) → ok (f_m_backIn_L24 N m (iI (k : Int)) (iI (i : Int)) τ) (Am (fy (fun i => decide (yrs R S i k = 0)) (61 - i) i, 0)) := by
      intro m
      induction m with
      | zero => intro i τ _ h; omega
      | succ m ih =>
        intro i τ hi hm ht hRt hSt
        have hw := hS.c.yrsd i
        have h3 := hw.1 k (by omega)
        unfold f_m_backIn_L24
        have e1 := hSt.A (z := (k : Int)) k rfl (by omega) (by omega)
        simp (disch := omega) only [e1, nI_iI, iI_lit, iI_neg, iI_add, iI_sub, iI_mul, iI_lt, iI_le, iI_eq, vin_iI]
        by_cases c : i = 61
        · rw [if_pos (by omega), c]
          exact okS.mpr ⟨rfl, ht⟩
        · rw [if_neg (by omega), if_pos (by omega), show 61 - i = (61 - (i + 1)) + 1 by omega]
          unfold fy
          by_cases c2 : yrs R S i k = 0
          · rw [if_pos (by omega), if_pos (by simp [c2])]
            exact okS.mpr ⟨rfl, ht⟩
          · rw [if_neg (by omega), if_neg (by simp [c2]), okB]
            refine ((pm_yearOn hN hRt hSt (Or.inr rfl) hc hw (fun k hk => hW.gd hk)).and (fun z => w_f_m_yearOn)).imp (fun q hq => ?_)
            exact ih (i + 1) q.2 (by omega) (by omega) (by rw [hq.2.I 66 11 rfl]; exact ht) (hRt.fr hq.2 rfl) hq.1.2.1
    rw [okB]
    refine ((pm_begin hN g.lm.an.2.1).and (fun z => w_f_m_begin)).imp (fun q hq => ?_)
    exact key N 0 q.2 (by omega) (by omega) (by rw [hq.2.I 66 11 rfl]; exact an_t) (g.lm.an.1.fr hq.2 rfl) hq.1
theorem cnt_0 {p : Nat → Bool} {n : Nat} : cnt p n = 0 ↔ ∀ k, k < n → p k = false := by
  constructor
  · intro h
    induction n with
    | zero => intro k hk; omega
    | succ n ih =>
      intro k hk
      rw [cnt_succ] at h
      by_cases c : k = n
      · rw [c]
        cases hx : p n with
        | false => rfl
        | true => rw [hx] at h; simp at h
      · exact ih (by omega) k (by omega)
  · intro h; exact cnt_zero h
theorem sim_stillIn (hN : 200000 ≤ N) (h : Sim σ) : Both (f_x_stillIn N σ) (f_m_stillIn N) := by
  obtain ⟨R, S, B, h, hr⟩ := h
  refine sim_ro (a := ra (tL R) (fy (fun i => decide (cnt (heal R (yrs R S i)) (R 0) = 0)) 61 0)) h hr (ra_t tL_3) ?_ (fun z => w_f_x_stillIn) rfl (fun τ g => ?_) (fun τ y => w_f_m_stillIn) rfl rfl
  · simp only [f_x_stillIn, tx_land h.lx.c h.gd.c, px_gr N tL_r, Option.bind_some, bind_ite, Bool.false_eq_true, ↓reduceIte]
    refine x_fin (fun h0 => ?_)
    have hS := h.gd.ws (tL_0.mp h0)
    have hc := h.gd.c
    have key : ∀ m i τ, i ≤ 61 → 61 - i < m → gI τ 0 10 = iI 0 → LX 10 R τ → SB 41 (yrs R S i) τ → ok (f_x_stillIn_L26 N m (iI (i : Int)) τ) (An (fy (fun i => decide (cnt (heal R (yrs R S i)) (R 0) = 0)) (61 - i) i, 0)) := by
      intro m
      induction m with
      | zero => intro i τ _ h; omega
      | succ m ih =>
        intro i τ hi hm ht hLt hB
        have hw := hS.c.yrsd i
        unfold f_x_stillIn_L26
        obtain ⟨w, e, hh⟩ := px_healing (N := N) hLt hc hB hw
        rw [e, Option.bind_some]
        dsimp only
        simp only [lg_cmp_0]
        have hz : w = 0 ↔ cnt (heal R (yrs R S i)) (R 0) = 0 := by
          rw [cnt_0]
          constructor
          · intro q k hk; rw [← hh, q, tb_0]
          · intro q
            refine tb_ext (fun k _ => ?_)
            rw [tb_0, hh]
            by_cases c : k < R 0
            · exact q k c
            · cases hx : heal R (yrs R S i) k with
              | false => rfl
              | true => exact absurd (heal_pos hx).1 c
        simp (disch := omega) only [hz, nI_iI, iI_lit, iI_neg, iI_add, iI_sub, iI_mul, iI_lt, iI_le, iI_eq, vin_iI]
        by_cases c : i = 61
        · rw [if_pos (by omega), c]
          exact okS.mpr ⟨rfl, ht⟩
        · rw [if_neg (by omega), show 61 - i = (61 - (i + 1)) + 1 by omega]
          unfold fy
          by_cases c2 : cnt (heal R (yrs R S i)) (R 0) = 0
          · rw [if_pos c2, if_pos (by simp [c2])]
            exact okS.mpr ⟨rfl, ht⟩
          · rw [if_neg c2, if_neg (by simp [c2]), okB]
            refine ((px_passYear hLt hc hB hw).and (fun z => w_f_state_passYear)).imp (fun q hq => ?_)
            exact ih (i + 1) q.2 (by omega) (by omega) (by rw [hq.2.I 0 10 rfl]; exact ht) (hLt.fr hq.2 rfl) hq.1
    rw [okB]
    refine ((px_copy (h.sx.tr (by decide))).and (fun z => w_f_state_copy)).imp (fun q hq => ?_)
    exact key N 0 q.2 (by omega) (by omega) (by rw [hq.2.I 0 10 rfl]; exact gI_eq) (h.lx.tr.fr hq.2 rfl) hq.1.b
  · simp only [f_m_stillIn, pm_anew, g.lm.an.has, f_m_no, Option.bind_some, bind_ite, Bool.false_eq_true, ↓reduceIte]
    refine m_finL (fun h0 => ?_)
    have hW := g.gd.wl h0
    have hS := g.gd.ws h0
    have hc := g.gd.c
    have key : ∀ m i τ, i ≤ 61 → 61 - i < m → gI τ 66 11 = iI 0 → AR τ 69 189 R → AR τ 75 63 (yrs R S i) → ok (f_m_stillIn_L23 N m (iI (i : Int)) τ) (Am (fy (fun i => decide (cnt (heal R (yrs R S i)) (R 0) = 0)) (61 - i) i, 0)) := by
      intro m
      induction m with
      | zero => intro i τ _ h; omega
      | succ m ih =>
        intro i τ hi hm ht hRt hSt
        have hw := hS.c.yrsd i
        unfold f_m_stillIn_L23
        simp (disch := omega) only [nI_iI, iI_lit, iI_neg, iI_add, iI_sub, iI_mul, iI_lt, iI_le, iI_eq, vin_iI]
        by_cases c : i = 61
        · rw [if_pos (by omega), c]
          exact okS.mpr ⟨rfl, ht⟩
        · rw [if_neg (by omega), show 61 - i = (61 - (i + 1)) + 1 by omega, okB]
          refine ((pm_yearOn hN hRt hSt (Or.inr rfl) hc hw (fun k hk => hW.gd hk)).and (fun z => w_f_m_yearOn)).imp (fun q hq => ?_)
          rw [hq.1.2.2]
          unfold fy
          have ht2 : gI q.2 66 11 = iI 0 := by rw [hq.2.I 66 11 rfl]; exact ht
          by_cases c2 : cnt (heal R (yrs R S i)) (R 0) = 0
          · rw [if_pos c2, if_pos rfl, if_pos (by simp [c2])]
            exact okS.mpr ⟨rfl, ht2⟩
          · rw [if_neg c2, if_neg (by decide), if_neg (by simp [c2])]
            exact ih (i + 1) q.2 (by omega) (by omega) ht2 (hRt.fr hq.2 rfl) hq.1.2.1
    rw [okB]
    refine ((pm_begin hN g.lm.an.2.1).and (fun z => w_f_m_begin)).imp (fun q hq => ?_)
    exact key N 0 q.2 (by omega) (by omega) (by rw [hq.2.I 66 11 rfl]; exact an_t) (g.lm.an.1.fr hq.2 rfl) hq.1
end YEAR
