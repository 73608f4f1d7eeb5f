/-! ===== the reference's rows, one within the other ===== -/
section ROWS
variable {N : Nat} {R S : Nat → Nat} {σ : Sg}
theorem pm_load {made : Nat} (hN : 200000 ≤ N) (hm : made ≤ 5) (h : ∀ k, k < 63 → gI σ 80 (63 * made + k) = iI (S k : Int)) : ok (f_m_copy N 378 63 81 80 (63 * iI (made : Int)) 0 63 σ) (fun z => AR z.2 81 63 S) := by
  rw [show (63 : Int32) * iI (made : Int) = iI ((63 * made : Nat) : Int) by rw [show (63 : Int32) = iI 63 from rfl, iI_mul]; congr 1]
  refine (pm_copy (N := N) (a0 := 378) (a1 := 63) (a2 := 81) (a3 := 80) (p := 63 * made) (q := 0) (m := 63) (σ := σ) hN (by decide) (by omega) (by decide) (by decide) (by decide)).imp (fun z hz => ?_)
  intro k hk
  rw [hz k, if_pos (by omega), Nat.sub_zero]
  exact h k hk
theorem pm_save {made : Nat} (hN : 200000 ≤ N) (hm : made + 1 ≤ 5) (h : AR σ 81 63 S) : ok (f_m_copy N 63 378 80 81 0 (63 * (iI (made : Int) + 1)) 63 σ) (fun z => (∀ k, k < 63 → gI z.2 80 (63 * (made + 1) + k) = iI (S k : Int)) ∧ ∀ k, k < 63 * (made + 1) → gI z.2 80 k = gI σ 80 k) := by
  rw [show (63 : Int32) * (iI (made : Int) + 1) = iI ((63 * (made + 1) : Nat) : Int) by rw [show (63 : Int32) = iI 63 from rfl, show (1 : Int32) = iI 1 from rfl, iI_add, iI_mul]; congr 1]
  refine (pm_copy (N := N) (a0 := 63) (a1 := 378) (a2 := 80) (a3 := 81) (p := 0) (q := 63 * (made + 1)) (m := 63) (σ := σ) hN (by decide) (by decide) (by omega) (by decide) (by decide)).imp (fun z hz => ⟨fun k hk => ?_, fun k hk => ?_⟩)
  · rw [hz, if_pos (by omega), show 0 + (63 * (made + 1) + k - 63 * (made + 1)) = k by omega]
    exact h k hk
  · rw [hz, if_neg (by omega)]
def MF (mi : Nat → Option Nat) (sp : Option (Nat × Nat × Nat)) (tgt : Nat) (l : List Vs) (σ : Sg) : Prop := MT (fun k => l.foldl (mnS k) (mi k)) (l.foldl (msS tgt) sp) σ
theorem MF.app {mi : Nat → Option Nat} {sp : Option (Nat × Nat × Nat)} {tgt : Nat} {l l' : List Vs} (h : MF (fun k => l.foldl (mnS k) (mi k)) (l.foldl (msS tgt) sp) tgt l' σ) : MF mi sp tgt (l ++ l') σ := by
  unfold MF at h ⊢
  simp only [List.foldl_append]
  exact h
theorem mn_step {mi : Nat → Option Nat} {s made row l : Nat} {τ : Sg} (hs : s < 60) (hm : made ≤ 5) (h : ∀ k, k < 60 → gI σ 82 k = iI (mnV (mi k))) (hτ : τ = if mnV (mi s) ≤ made then σ else sI σ 82 s (iI (made : Int))) (k : Nat) (hk : k < 60) : gI τ 82 k = iI (mnV (mnS k (mi k) (made, s, row, l))) := by
  unfold mnS
  by_cases c : s = k
  · subst c
    rw [if_pos rfl]
    cases e : mi s with
    | none =>
      rw [e] at hτ
      rw [hτ, if_neg (show ¬ mnV none ≤ (made : Int) by show ¬ (100000000 : Int) ≤ made; omega), gI_eq]
      rfl
    | some a =>
      rw [e] at hτ
      dsimp only
      by_cases c2 : made < a
      · rw [hτ, if_neg (show ¬ mnV (some a) ≤ (made : Int) by show ¬ (a : Int) ≤ made; omega), gI_eq, if_pos c2]
        rfl
      · rw [hτ, if_pos (show mnV (some a) ≤ (made : Int) by show (a : Int) ≤ made; omega), if_neg c2, h s hs, e]
  · rw [if_neg (show ¬ (made, s, row, l).2.1 = k from c), ← h k hk, hτ]
    split
    · rfl
    · rw [gI_ne (by omega)]
theorem mn_b {mi : Nat → Option Nat} {v : Vs} (hm : v.1 ≤ 5) (h : ∀ k a, mi k = some a → a ≤ 5) : ∀ k a, mnS k (mi k) v = some a → a ≤ 5 := by
  intro k a
  unfold mnS
  split
  · split
    · intro e; cases e; exact hm
    · split
      · intro e; cases e; exact hm
      · intro e
        rename_i e2 _
        exact h k a (e2.trans e)
  · exact h k a
theorem ms_b {sp : Option (Nat × Nat × Nat)} {v : Vs} {tgt : Nat} (h1 : v.1 ≤ 5) (h2 : v.2.2.1 < 1000000) (h3 : v.2.2.2 ≤ 594) (h : ∀ a, sp = some a → a.1 ≤ 594 ∧ a.2.1 ≤ 5 ∧ a.2.2 < 1000000) : ∀ a, msS tgt sp v = some a → a.1 ≤ 594 ∧ a.2.1 ≤ 5 ∧ a.2.2 < 1000000 := by
  intro a
  unfold msS
  split
  · split
    · intro e; cases e; exact ⟨h3, h1, h2⟩
    · split
      · intro e; cases e; exact ⟨h3, h1, h2⟩
      · intro e
        exact h a e
  · exact h a
theorem pow_row {made row d : Nat} (h : row < 10 ^ made) (hd : d ≤ 6) : 10 * row + d < 10 ^ (made + 1) := by
  rw [Nat.pow_succ]
  omega
theorem row_le {made row : Nat} (h : row < 10 ^ made) (hm : made ≤ 5) : row < 1000000 := by
  have : 10 ^ made ≤ 10 ^ 5 := Nat.pow_le_pow_right (by omega) hm
  omega
theorem MsK.co {o : Option (Nat × Nat × Nat)} {τ : Sg} (h : MsK o σ) (h1 : gI τ 66 39 = gI σ 66 39) (h2 : gI τ 66 37 = gI σ 66 37) (h3 : gI τ 66 38 = gI σ 66 38) : MsK o τ := by
  unfold MsK at h ⊢
  rw [h1, h2, h3]
  exact h
theorem MT.co {mi : Nat → Option Nat} {sp : Option (Nat × Nat × Nat)} {τ : Sg} (h : MT mi sp σ) (h0 : ∀ k, gI τ 82 k = gI σ 82 k) (h1 : gI τ 66 39 = gI σ 66 39) (h2 : gI τ 66 37 = gI σ 66 37) (h3 : gI τ 66 38 = gI σ 66 38) : MT mi sp τ := ⟨fun k hk => by rw [h0]; exact h.1 k hk, h.2.1.co h1 h2 h3, h.2.2⟩
/-- what a row does before the rows that go on from it -/
theorem pm_tryB {lim tgt D made row : Nat} {tv : Int32} {mi : Nat → Option Nat} {sp : Option (Nat × Nat × Nat)} {P : Unit × Sg → Prop} {rec : Int32 → Int32 → Sg → Option (Unit × Sg)} (hN : 200000 ≤ N) (hW : WfL R) (hv : ∀ x : Nat, x < 60 → (iI (x : Int) = tv) = (x = tgt)) (hm : made ≤ 5) (hC : WfC R S) (hs : S 60 < R 0) (hrow : row < 10 ^ made) (hR : AR σ 69 189 R) (h80 : ∀ k, k < 63 → gI σ 80 (63 * made + k) = iI (S k : Int)) (h35 : gI σ 66 35 = tv) (h : MT mi sp σ)
    (hK : ∀ τ, Fr [(66, some 37), (66, some 38), (66, some 39), (81, none), (82, none)] σ τ → MT (fun k => mnS k (mi k) (made, S 60, row, lost R (gon S))) (msS tgt sp (made, S 60, row, lost R (gon S))) τ → ok (f_m_tryRows_L129 N rec N (iI (made : Int)) (iI (row : Int)) 1 τ) P) : ok (f_m_tryRows_B N rec (iI (made : Int)) (iI (row : Int)) σ) P := by
  have hc := hW.c
  have hl := lost_le hW (gon S)
  unfold f_m_tryRows_B
  rw [okB]
  refine ((pm_load hN hm h80).and (fun z => w_f_m_copy)).imp (fun q hq => ?_)
  have f1 := hq.2
  have e60 : gA q.2 81 60 = iI (S 60 : Int) := hq.1.A (z := 60) 60 rfl (by omega) (by omega)
  have hmt : MT mi sp q.2 := h.co (fun k => f1.I 82 k rfl) (f1.I 66 39 rfl) (f1.I 66 37 rfl) (f1.I 66 38 rfl)
  have hr := mnV_r hmt.2.2.1 (S 60)
  rw [e60, if_pos (show vin (iI (S 60 : Int)) 60 by rw [vin_iI (by omega) (by omega)]; omega), gA_iI (by omega) (by omega), Int.toNat_natCast, hmt.1 (S 60) (by omega)]
  have fin : ∀ τ, (τ = if mnV (mi (S 60)) ≤ made then q.2 else sI q.2 82 (S 60) (iI (made : Int))) → ∀ τ2, Fr [(66, some 37), (66, some 38), (66, some 39)] τ τ2 → MsK (msS tgt sp (made, S 60, row, lost R (gon S))) τ2 → ok (f_m_tryRows_L129 N rec N (iI (made : Int)) (iI (row : Int)) 1 τ2) P := by
    intro τ e τ2 f2 hms
    have f0 : Fr [(82, none)] q.2 τ := by
      rw [e]
      split
      · exact Fr.rf
      · exact Fr.wIc Fr.rf (by simp)
    refine hK τ2 ((f1.mono rfl).tr ((f0.mono rfl).tr (f2.mono rfl))) ⟨fun k hk => ?_, hms, mn_b hm h.2.2.1, ms_b hm (row_le hrow hm) hl h.2.2.2⟩
    rw [f2.I 82 k rfl]
    exact mn_step (by omega) hm hmt.1 e k hk
  by_cases c : mnV (mi (S 60)) ≤ made
  · rw [if_pos (show iI (mnV (mi (S 60))) ≤ iI (made : Int) by rw [iI_le (by omega) (by omega) (by omega) (by omega)]; omega)]
    exact pm_look (mi := mi) (tgt := tgt) (K := fun τ => f_m_tryRows_L129 N rec N (iI (made : Int)) (iI (row : Int)) 1 τ) hN (hR.fr f1 rfl) hq.1 hW hC hm (row_le hrow hm) ((f1.I 66 35 rfl).trans h35) (hv (S 60) (by omega)) hmt.2.1 h.2.2.2 (fun τ2 f2 hms => fin q.2 (by rw [if_pos c]) τ2 f2 hms)
  · rw [if_neg (show ¬ iI (mnV (mi (S 60))) ≤ iI (made : Int) by rw [iI_le (by omega) (by omega) (by omega) (by omega)]; omega), if_pos (show vin (iI (S 60 : Int)) 60 by rw [vin_iI (by omega) (by omega)]; omega), sA_iI (by omega) (by omega), Int.toNat_natCast]
    have f3 : Fr [(82, none)] q.2 (sI q.2 82 (S 60) (iI (made : Int))) := Fr.wIc Fr.rf (by simp)
    exact pm_look (mi := mi) (tgt := tgt) (K := fun τ => f_m_tryRows_L129 N rec N (iI (made : Int)) (iI (row : Int)) 1 τ) hN ((hR.fr f1 rfl).fr f3 rfl) (hq.1.fr f3 rfl) hW hC hm (row_le hrow hm) ((f3.I 66 35 rfl).trans ((f1.I 66 35 rfl).trans h35)) (hv (S 60) (by omega)) (hmt.2.1.co (f3.I 66 39 rfl) (f3.I 66 37 rfl) (f3.I 66 38 rfl)) h.2.2.2 (fun τ2 f2 hms => fin (sI q.2 82 (S 60) (iI (made : Int))) (by rw [if_neg c]) τ2 f2 hms)
theorem pm_tryRows {lim tgt : Nat} {tv : Int32} (hN : 200000 ≤ N) (hW : WfL R) (hlim : lim ≤ 5) (hv : ∀ x : Nat, x < 60 → (iI (x : Int) = tv) = (x = tgt)) : ∀ (f D made : Nat) (S : Nat → Nat) (row : Nat) (σ : Sg) (mi : Nat → Option Nat) (sp : Option (Nat × Nat × Nat)), made + f = lim → f < D → WfC R S → S 60 < R 0 → row < 10 ^ made → AR σ 69 189 R → (∀ k, k < 63 → gI σ 80 (63 * made + k) = iI (S k : Int)) → gI σ 66 35 = tv → gI σ 66 36 = iI (lim : Int) → MT mi sp σ →
    ok (f_m_tryRows N D (iI (made : Int)) (iI (row : Int)) σ) (fun z => MF mi sp tgt (vis R f made (gon S) (S 60) row) z.2 ∧ ∀ k, k < 63 * (made + 1) → gI z.2 80 k = gI σ 80 k) := by
  have hc := hW.c
  have hnb := hW.nb
  intro f
  induction f with
  | zero =>
    intro D made S row σ mi sp hm hD hC hs hrow hR h80 h35 h36 h
    obtain ⟨D, rfl⟩ : ∃ D', D = D' + 1 := ⟨D - 1, by omega⟩
    unfold f_m_tryRows
    refine pm_tryB (lim := lim) (tgt := tgt) (D := D) hN hW hv (by omega) hC hs hrow hR h80 h35 h (fun τ fr hmt => ?_)
    have e2 : gA τ 69 2 = iI (R 2 : Int) := (hR.fr fr rfl).A (z := 2) 2 rfl (by omega) (by omega)
    obtain ⟨M, hM⟩ : ∃ M, N = M + 1 := ⟨N - 1, by omega⟩
    have e : f_m_tryRows_L129 N (f_m_tryRows N D) N (iI (made : Int)) (iI (row : Int)) 1 τ = some ((), τ) := by
      rw [show f_m_tryRows_L129 N (f_m_tryRows N D) N = f_m_tryRows_L129 N (f_m_tryRows N D) (M + 1) by rw [← hM]]
      unfold f_m_tryRows_L129
      rw [e2, fr.I 66 36 rfl, h36, if_pos (show iI (lim : Int) ≤ iI (made : Int) by rw [iI_le (by omega) (by omega) (by omega) (by omega)]; omega)]
      split <;> rfl
    rw [e]
    exact okS.mpr ⟨hmt, fun k hk => fr.I 80 k rfl⟩
  | succ f ihf =>
    intro D made S row σ mi sp hm hD hC hs hrow hR h80 h35 h36 h
    obtain ⟨D, rfl⟩ : ∃ D', D = D' + 1 := ⟨D - 1, by omega⟩
    have loop : ∀ (m i : Nat) (τ : Sg) (mi : Nat → Option Nat) (sp : Option (Nat × Nat × Nat)), i ≤ 2 * R 2 → 2 * R 2 - i < m → AR τ 69 189 R → (∀ k, k < 63 → gI τ 80 (63 * made + k) = iI (S k : Int)) → gI τ 66 35 = tv → gI τ 66 36 = iI (lim : Int) → MT mi sp τ → ok (f_m_tryRows_L129 N (f_m_tryRows N D) m (iI (made : Int)) (iI (row : Int)) (iI ((i + 1 : Nat) : Int)) τ) (fun z => MF mi sp tgt (((List.range (2 * R 2)).drop i).flatMap (nxv R f made (gon S) (S 60) row)) z.2 ∧ ∀ k, k < 63 * (made + 1) → gI z.2 80 k = gI τ 80 k) := by
      intro m
      induction m with
      | zero => intro i τ mi sp _ h; omega
      | succ m ih =>
        intro i τ mi sp hi hm2 hRt t80 t35 t36 ht
        unfold f_m_tryRows_L129
        have e2 : gA τ 69 2 = iI (R 2 : Int) := hRt.A (z := 2) 2 rfl (by omega) (by omega)
        rw [e2, show (2 : Int32) * iI (R 2 : Int) = iI ((2 * R 2 : Nat) : Int) by rw [show (2 : Int32) = iI 2 from rfl, iI_mul]; rfl]
        by_cases c : i = 2 * R 2
        · rw [if_pos (show iI ((2 * R 2 : Nat) : Int) < iI ((i + 1 : Nat) : Int) by rw [iI_lt (by omega) (by omega) (by omega) (by omega)]; omega)]
          refine okS.mpr ⟨?_, fun k hk => rfl⟩
          rw [List.drop_eq_nil_of_le (by rw [List.length_range]; omega)]
          exact ht
        · rw [if_neg (show ¬ iI ((2 * R 2 : Nat) : Int) < iI ((i + 1 : Nat) : Int) by rw [iI_lt (by omega) (by omega) (by omega) (by omega)]; omega), t36, if_neg (show ¬ iI (lim : Int) ≤ iI (made : Int) by rw [iI_le (by omega) (by omega) (by omega) (by omega)]; omega), drop_range (by omega), List.flatMap_cons, show iI ((i + 1 : Nat) : Int) + 1 = iI ((i + 1 + 1 : Nat) : Int) from iI_add _ 1, okB]
          refine ((pm_load hN (by omega) t80).and (fun z => w_f_m_copy)).imp (fun q hq => ?_)
          rw [okB]
          refine ((pm_digitOn hN (hRt.fr hq.2 rfl) hq.1 (by decide) hW hs hC.r (by omega) (by omega)).and (fun z => w_f_m_digitOn)).imp (fun q2 hq2 => ?_)
          have f2 : Fr [(81, none)] τ q2.2 := hq.2.tr hq2.2
          have ht2 : MT mi sp q2.2 := ht.co (fun k => f2.I 82 k rfl) (f2.I 66 39 rfl) (f2.I 66 37 rfl) (f2.I 66 38 rfl)
          cases hld : lead R (gon S) (S 60) (i + 1) with
          | none =>
            have ev : nxv R f made (gon S) (S 60) row i = [] := by unfold nxv; rw [hld]
            have ec : can R S (i + 1) = false := by unfold can; rw [hld]; rfl
            rw [hq2.1.1, ec, if_neg (by decide), ev, List.nil_append]
            refine (ih (i + 1) q2.2 mi sp (by omega) (by omega) (hRt.fr f2 rfl) (fun k hk => (f2.I 80 _ rfl).trans (t80 k hk)) ((f2.I 66 35 rfl).trans t35) ((f2.I 66 36 rfl).trans t36) ht2).imp (fun z hz => ⟨hz.1, fun k hk => (hz.2 k hk).trans (f2.I 80 k rfl)⟩)
          | some t =>
            have htl := lead_lt hs hld
            have ev : nxv R f made (gon S) (S 60) row i = vis R f (made + 1) (nxg (gon S) (S 60) t) t (10 * row + (i + 1)) := by unfold nxv; rw [hld]
            have ec : can R S (i + 1) = true := by unfold can; rw [hld]; rfl
            have eg : go R S (i + 1) = mv R S t := go_some hld
            have hA := hq2.1.2
            rw [eg] at hA
            rw [hq2.1.1, ec, if_pos rfl, ev, okB]
            refine ((pm_save hN (by omega) hA).and (fun z => w_f_m_copy)).imp (fun q3 hq3 => ?_)
            have f3 : Fr [(80, none), (81, none)] τ q3.2 := (f2.mono rfl).tr (hq3.2.mono rfl)
            have ht3 : MT mi sp q3.2 := ht.co (fun k => f3.I 82 k rfl) (f3.I 66 39 rfl) (f3.I 66 37 rfl) (f3.I 66 38 rfl)
            rw [show iI (made : Int) + 1 = iI ((made + 1 : Nat) : Int) from iI_add _ 1, show (10 : Int32) * iI (row : Int) + iI ((i + 1 : Nat) : Int) = iI ((10 * row + (i + 1) : Nat) : Int) by rw [show (10 : Int32) = iI 10 from rfl, iI_mul, iI_add]; congr 1, okB]
            have e60 : mv R S t 60 = t := rfl
            have hi2 := ihf D (made + 1) (mv R S t) (10 * row + (i + 1)) q3.2 mi sp (by omega) (by omega) (hC.mvd hW hs htl) (by rw [e60]; exact htl) (pow_row hrow (by omega)) (hRt.fr f3 rfl) hq3.1.1 ((f3.I 66 35 rfl).trans t35) ((f3.I 66 36 rfl).trans t36) ht3
            rw [gon_mv (by omega) (by omega), e60] at hi2
            refine (hi2.and (fun z => w_f_m_tryRows _ _ _ _ _)).imp (fun q4 hq4 => ?_)
            have k80 : ∀ k, k < 63 * (made + 1) → gI q4.2 80 k = gI τ 80 k := fun k hk => (hq4.1.2 k (by omega)).trans ((hq3.1.2 k hk).trans (f2.I 80 k rfl))
            refine (ih (i + 1) q4.2 _ _ (by omega) (by omega) ((hRt.fr f3 rfl).fr hq4.2 rfl) (fun k hk => (k80 _ (by omega)).trans (t80 k hk)) ((hq4.2.I 66 35 rfl).trans ((f3.I 66 35 rfl).trans t35)) ((hq4.2.I 66 36 rfl).trans ((f3.I 66 36 rfl).trans t36)) hq4.1.1).imp (fun z hz => ⟨MF.app hz.1, fun k hk => (hz.2 k hk).trans (k80 k hk)⟩)
    unfold f_m_tryRows
    refine pm_tryB (lim := lim) (tgt := tgt) (D := D) hN hW hv (by omega) hC hs hrow hR h80 h35 h (fun τ fr hmt => ?_)
    rw [vis_s]
    refine (loop N 0 τ _ _ (by omega) (by omega) (hR.fr fr rfl) (fun k hk => (fr.I 80 _ rfl).trans (h80 k hk)) ((fr.I 66 35 rfl).trans h35) ((fr.I 66 36 rfl).trans h36) hmt).imp (fun z hz => ⟨hz.1, fun k hk => (hz.2 k hk).trans (fr.I 80 k rfl)⟩)
end ROWS
