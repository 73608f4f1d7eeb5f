/-! ===== unsure strides: the other side ===== -/
theorem xor_1 : ∀ d, d < 16 → iI ((d : Nat) : Int) ^^^ 1 = iI (((if d % 2 = 0 then d + 1 else d - 1 : Nat)) : Int) := by decide +kernel
def orS (p : Nat → Bool) : Nat → Nat
  | 0 => 0
  | s + 1 => if p s = true then orS p s ||| s else orS p s
def andS (p : Nat → Bool) (a : Nat) : Nat → Nat
  | 0 => a
  | s + 1 => if p s = true then andS p a s &&& s else andS p a s
def fnd (p : Nat → Bool) (z : Int) : Nat → Int
  | 0 => -1
  | s + 1 => if p s = true ∧ (cnt p s : Int) = z then (s : Int) else fnd p z s
section FITM
variable {N : Nat} {R S B : Nat → Nat} {σ : Sg}
theorem pm_hasBit {s k : Nat} (hs : s < 1024) (hk : k < 11) : f_m_hasBit N (iI (s : Int)) (iI (k : Int)) σ = some (bt s k, σ) := by
  unfold f_m_hasBit bt
  rw [shr_bit s hs k hk]
  by_cases c : s / 2 ^ k % 2 = 1
  · rw [if_pos (show iI ((s / 2 ^ k % 2 : Nat) : Int) = 1 by rw [c]; rfl)]; simp [c]
  · rw [if_neg (show ¬ iI ((s / 2 ^ k % 2 : Nat) : Int) = 1 by rw [show s / 2 ^ k % 2 = 0 by omega]; decide)]; simp [c]
def dgv (d : Nat) (b : Bool) : Nat := if b = true then (if d % 2 = 0 then d + 1 else d - 1) else d
theorem pm_wrongBy (hN : 200000 ≤ N) (hR : AR σ 69 189 R) (hB71 : AR σ 71 63 B) (hB : WfC R B ∧ B 60 < R 0) (hW : WfL R) {s : Nat} (hs : s < 1024) : ok (f_m_wrongBy N (iI (s : Int)) σ) (fun z => z.1 = iI (wrI R B s)) := by
  have h8 := hW.ns
  have h4 := hW.nu
  have h6 := hW.ne
  have h3 := hW.nb
  have hc := hW.c
  have inner : ∀ τ, AR τ 69 189 R → ∀ (i : Nat), i < R 4 → ∀ m j (k : Int32 → Int32 → Int32 → Sg → Option (Int32 × Sg)), j ≤ R 5 → R 5 - j < m → f_m_wrongBy_L40 N m (iI (s : Int)) (iI (i : Int)) (iI (dgv (R (24 + i)) (flN R s i j) : Int)) (iI (j : Int)) τ k = k (iI (s : Int)) (iI (i : Int)) (iI (dgv (R (24 + i)) (flN R s i (R 5)) : Int)) τ := by
    intro τ hRt i hi m
    induction m with
    | zero => intro j k _ h; omega
    | succ m ih =>
      intro j k hj hm
      have hsd := hW.sd hi
      unfold f_m_wrongBy_L40
      rw [show gA τ 69 5 = iI (R 5 : Int) from hRt.A (z := 5) 5 rfl (by omega) (by omega)]
      by_cases c : j = R 5
      · rw [if_pos (show iI (R 5 : Int) ≤ iI (j : Int) by rw [iI_le (by omega) (by omega) (by omega) (by omega)]; omega), c]
      · have hdu := hW.du (i := j) (by omega)
        have e1 := hRt.A (z := 32 + (j : Int)) (32 + j) (by omega) (by omega) (by omega)
        rw [if_neg (show ¬ iI (R 5 : Int) ≤ iI (j : Int) by rw [iI_le (by omega) (by omega) (by omega) (by omega)]; omega), pm_hasBit hs (by omega), Option.bind_some]
        dsimp only
        rw [show (32 : Int32) + iI (j : Int) = iI (32 + (j : Int)) from iI_add 32 _, e1, if_pos (show vin (iI (32 + (j : Int))) 189 by rw [vin_iI (by omega) (by omega)]; omega), show iI (j : Int) + 1 = iI ((j + 1 : Nat) : Int) from iI_add _ 1, show iI (i : Int) + 1 = iI ((i + 1 : Nat) : Int) from iI_add _ 1]
        have hi2 := ih (j + 1) k (by omega) (by omega)
        have hfl : flN R s i (j + 1) = (flN R s i j ^^ (bt s j && decide (R (32 + j) = i + 1))) := rfl
        rw [hfl] at hi2
        have hd : dgv (R (24 + i)) (flN R s i j) < 16 := by unfold dgv; split <;> (try split) <;> omega
        cases hb : bt s j with
        | false =>
          rw [if_neg (by decide)]
          rw [hb, Bool.false_and, Bool.xor_false] at hi2
          exact hi2
        | true =>
          rw [if_pos rfl]
          rw [hb, Bool.true_and] at hi2
          by_cases c2 : R (32 + j) = i + 1
          · rw [if_pos (show iI (R (32 + j) : Int) = iI ((i + 1 : Nat) : Int) by rw [c2]), xor_1 _ hd]
            rw [decide_eq_true c2, Bool.xor_true] at hi2
            have e : (if dgv (R (24 + i)) (flN R s i j) % 2 = 0 then dgv (R (24 + i)) (flN R s i j) + 1 else dgv (R (24 + i)) (flN R s i j) - 1) = dgv (R (24 + i)) (!flN R s i j) := by
              unfold dgv
              cases flN R s i j <;> simp <;> (repeat' split) <;> omega
            rw [e]
            exact hi2
          · rw [if_neg (show ¬ iI (R (32 + j) : Int) = iI ((i + 1 : Nat) : Int) by rw [iI_eq (by omega) (by omega) (by omega) (by omega)]; omega)]
            rw [decide_eq_false c2, Bool.xor_false] at hi2
            exact hi2
  have tail : ∀ T τ, AR τ 69 189 R → AR τ 75 63 T → WfC R T → f_m_wrongBy_L118 N N 0 τ = some (iI (unI R (gon T)), τ) := by
    intro T τ hRt hTt hT
    have key : ∀ m i, i ≤ R 6 → R 6 - i < m → f_m_wrongBy_L118 N m (iI (i : Int)) τ = some (iI (unF R (gon T) (R 6 - i) i), τ) := by
      intro m
      induction m with
      | zero => intro i _ h; omega
      | succ m ih =>
        intro i hi hm
        unfold f_m_wrongBy_L118
        rw [show gA τ 69 6 = iI (R 6 : Int) from hRt.A (z := 6) 6 rfl (by omega) (by omega)]
        by_cases h : i < R 6
        · have hse := hW.se h
          have hTk := hT.1 (R (36 + 2 * i)) (by omega)
          have e1 := hRt.A (z := 36 + 2 * (i : Int)) (36 + 2 * i) (by omega) (by omega) (by omega)
          have e2 := hTt.A (z := (R (36 + 2 * i) : Int)) (R (36 + 2 * i)) rfl (by omega) (by omega)
          have e3 := hRt.A (z := 36 + 2 * (i : Int) + 1) (37 + 2 * i) (by omega) (by omega) (by omega)
          rw [if_neg (show ¬ iI (R 6 : Int) ≤ iI (i : Int) by rw [iI_le (by omega) (by omega) (by omega) (by omega)]; omega), show (36 : Int32) + 2 * iI (i : Int) = iI (36 + 2 * (i : Int)) by rw [show (36 : Int32) = iI 36 from rfl, show (2 : Int32) = iI 2 from rfl, iI_mul, iI_add], e1, e2, show iI (36 + 2 * (i : Int)) + 1 = iI (36 + 2 * (i : Int) + 1) from iI_add _ 1, e3]
          rw [if_pos (show vin (iI (36 + 2 * (i : Int))) 189 by rw [vin_iI (by omega) (by omega)]; omega), if_pos (show vin (iI (R (36 + 2 * i) : Int)) 63 by rw [vin_iI (by omega) (by omega)]; omega), if_pos (show vin (iI (36 + 2 * (i : Int) + 1)) 189 by rw [vin_iI (by omega) (by omega)]; omega), show iI (i : Int) + 1 = iI ((i + 1 : Nat) : Int) from iI_add _ 1, show R 6 - i = (R 6 - (i + 1)) + 1 by omega]
          unfold unF
          have hd : decide (¬ iI (T (R (36 + 2 * i)) : Int) ≤ 0) = gon T (R (36 + 2 * i)) := by
            unfold gon
            refine decide_eq_decide.mpr ?_
            rw [show (0 : Int32) = iI 0 from rfl, iI_le (by omega) (by omega) (by omega) (by omega)]
            omega
          rw [hd]
          have hi2 := ih (i + 1) (by omega) (by omega)
          have hR1 : R (37 + 2 * i) = 0 ∨ R (37 + 2 * i) = 1 := by omega
          rcases hR1 with e | e
          · rw [e]
            cases hg : gon T (R (36 + 2 * i)) with
            | false => rw [if_pos (show b2i false = iI ((0 : Nat) : Int) from rfl), if_pos (by simp)]; exact hi2
            | true => rw [if_neg (show ¬ b2i true = iI ((0 : Nat) : Int) by decide), if_neg (by simp)]
          · rw [e]
            cases hg : gon T (R (36 + 2 * i)) with
            | false => rw [if_neg (show ¬ b2i false = iI ((1 : Nat) : Int) by decide), if_neg (by simp)]
            | true => rw [if_pos (show b2i true = iI ((1 : Nat) : Int) from rfl), if_pos (by simp)]; exact hi2
        · rw [if_pos (show iI (R 6 : Int) ≤ iI (i : Int) by rw [iI_le (by omega) (by omega) (by omega) (by omega)]; omega), show R 6 - i = 0 by omega]
          rfl
    exact key N 0 (by omega) (by omega)
  have key : ∀ m i τ, i ≤ R 4 → R 4 - i < m → AR τ 69 189 R → AR τ 75 63 (rgo R B (dgF R s) i) → rcan R B (dgF R s) i = true → ok (f_m_wrongBy_L17 N m (iI (s : Int)) (iI (i : Int)) τ (fun (t5 : Sg) => f_m_wrongBy_L118 N N 0 t5)) (fun z => z.1 = iI (wrI R B s)) := by
    intro m
    induction m with
    | zero => intro i τ _ h; omega
    | succ m ih =>
      intro i τ hi hm hRt hTt hr
      have hw := rgo_wf (ds := dgF R s) hW hB.1 hB.2 i
      unfold f_m_wrongBy_L17
      rw [show gA τ 69 4 = iI (R 4 : Int) from hRt.A (z := 4) 4 rfl (by omega) (by omega)]
      by_cases c : i = R 4
      · rw [if_pos (show iI (R 4 : Int) ≤ iI (i : Int) by rw [iI_le (by omega) (by omega) (by omega) (by omega)]; omega)]
        dsimp only
        rw [tail _ τ hRt hTt hw.1]
        subst c
        refine okS.mpr ?_
        unfold wrI fok fend
        rw [if_pos hr]
      · have hsd := hW.sd (i := i) (by omega)
        have e1 := hRt.A (z := 24 + (i : Int)) (24 + i) (by omega) (by omega) (by omega)
        have hd := dgF_r hW (s := s) (i := i) (by omega)
        rw [if_neg (show ¬ iI (R 4 : Int) ≤ iI (i : Int) by rw [iI_le (by omega) (by omega) (by omega) (by omega)]; omega), show (24 : Int32) + iI (i : Int) = iI (24 + (i : Int)) from iI_add 24 _, e1, if_pos (show vin (iI (24 + (i : Int))) 189 by rw [vin_iI (by omega) (by omega)]; omega)]
        have e2 := inner τ hRt i (by omega) N 0
        rw [show iI (R (24 + i) : Int) = iI (dgv (R (24 + i)) (flN R s i 0) : Int) from rfl, show (0 : Int32) = iI ((0 : Nat) : Int) from rfl, e2 _ (by omega) (by omega)]
        have hdg : dgF R s i = dgv (R (24 + i)) (flN R s i (R 5)) + 1 := rfl
        generalize dgv (R (24 + i)) (flN R s i (R 5)) = d at *
        rw [show iI (d : Int) - iI (d : Int) / 2 * 2 = iI ((d % 2 : Nat) : Int) from iI_rem (b := 2) (by omega) (by omega) (by omega) (by omega), show iI (d : Int) / 2 = iI ((d / 2 : Nat) : Int) from iI_div (b := 2) (by omega) (by omega) (by omega) (by omega), okB]
        have hst := pm_strideOn (N := N) (a0 := 75) (a3 := 69) (b := d / 2) (w := d % 2) hN hRt hTt (by decide) hc.2 (by omega) (hW.bt (by omega)).2 hw.2 hw.1.r (by omega)
        rw [show 2 * (d / 2) + 1 + d % 2 = dgF R s i by omega] at hst
        refine (hst.and (fun z => w_f_m_strideOn)).imp (fun q hq => ?_)
        rw [hq.1.1, show iI (i : Int) + 1 = iI ((i + 1 : Nat) : Int) from iI_add _ 1]
        by_cases c2 : can R (rgo R B (dgF R s) i) (dgF R s i) = true
        · rw [if_pos c2]
          exact ih (i + 1) q.2 (by omega) (by omega) (hRt.fr hq.2 rfl) hq.1.2 (by unfold rcan; rw [hr, c2]; rfl)
        · rw [if_neg c2]
          refine okS.mpr ?_
          unfold wrI fok
          rw [if_neg (fun hx => c2 (rcan_lt (show rcan R B (dgF R s) (R 4) = true from hx) (by omega)))]
          rfl
  unfold f_m_wrongBy
  rw [show (0 : Int32) = iI ((0 : Nat) : Int) from rfl, show (63 : Int32) = iI ((63 : Nat) : Int) from rfl, okB]
  refine ((pm_copy (N := N) (a0 := 63) (a1 := 63) (a2 := 75) (a3 := 71) (p := 0) (q := 0) (m := 63) (σ := σ) hN (by decide) (by decide) (by decide) (by decide) (by decide)).and (fun z => w_f_m_copy)).imp (fun q hq => ?_)
  refine key N 0 q.2 (by omega) (by omega) (hR.fr hq.2 rfl) (fun k hk => ?_) rfl
  rw [hq.1 k, if_pos (by omega), show 0 + (k - 0) = k by omega]
  exact hB71 k hk
theorem wr_fit (hW : WfL R) (s : Nat) : (iI (wrI R B s) = -2) = (fit R B s = true) := by
  have hu := unF_r (R := R) (g := gon (fend R B s)) (R 6) 0 (by have := hW.ne; omega)
  unfold wrI fit
  refine propext ?_
  cases hx : fok R B s with
  | false => simp; decide
  | true =>
    rw [if_pos rfl, Bool.true_and, decide_eq_true_eq, show (-2 : Int32) = iI (-2) from rfl, iI_eq (by unfold unI; omega) (by unfold unI; omega) (by omega) (by omega)]
theorem orS_lt {p : Nat → Bool} : ∀ n, n ≤ 16 → orS p n < 16 := by
  intro n
  induction n with
  | zero => intro _; show 0 < 16; omega
  | succ n ih =>
    intro hn
    unfold orS
    have := ih (by omega)
    split
    · have : orS p n ||| n < 2 ^ 4 := Nat.or_lt_two_pow (by omega) (by omega)
      omega
    · exact this
theorem andS_lt {p : Nat → Bool} {a : Nat} (ha : a < 16) : ∀ n, n ≤ 16 → andS p a n < 16 := by
  intro n
  induction n with
  | zero => intro _; exact ha
  | succ n ih =>
    intro hn
    unfold andS
    have := ih (by omega)
    split
    · have : andS p a n &&& n < 2 ^ 4 := Nat.and_lt_two_pow _ (by omega)
      omega
    · exact this
theorem orS_s {p : Nat → Bool} {s : Nat} : orS p (s + 1) = if p s = true then orS p s ||| s else orS p s := rfl
theorem andS_s {p : Nat → Bool} {a s : Nat} : andS p a (s + 1) = if p s = true then andS p a s &&& s else andS p a s := rfl
theorem fnd_s {p : Nat → Bool} {z : Int} {s : Nat} : fnd p z (s + 1) = if p s = true ∧ (cnt p s : Int) = z then (s : Int) else fnd p z s := rfl
theorem pm_seekSets (hN : 200000 ≤ N) (hR : AR σ 69 189 R) (hB71 : AR σ 71 63 B) (hB : WfC R B ∧ B 60 < R 0) (hW : WfL R) {z : Int} (z1 : -2147483648 ≤ z) (z2 : z < 2147483648) : ok (f_m_seekSets N (iI z) σ) (fun q => q.1 = iI (fnd (fit R B) z (nS R)) ∧ gI q.2 66 45 = iI (cnt (fit R B) (nS R) : Int) ∧ gI q.2 66 46 = iI (orS (fit R B) (nS R) : Int) ∧ gI q.2 66 47 = iI ((if cnt (fit R B) (nS R) = 0 then 0 else andS (fit R B) (nS R - 1) (nS R) : Nat) : Int) ∧ ∀ k, k < R 5 → gI q.2 84 k = iI (cnt (fun x => fit R B x && bt x k) (nS R) : Int)) := by
  have h4 := hW.nu
  have hn := nS_le hW
  have e2n : 2 ^ R 5 = nS R := rfl
  have hpos : 0 < nS R := Nat.pow_pos (by omega)
  have tally : ∀ (s : Nat) (v1 v2 : Int32), s < 16 → ∀ m k τ (K : Int32 → Int32 → Int32 → Sg → Option (Int32 × Sg)) (P : Int32 × Sg → Prop), k ≤ R 5 → R 5 - k < m → AR τ 69 189 R → (∀ j, j < R 5 → gI τ 84 j = iI ((cnt (fun x => fit R B x && bt x j) s + (if j < k ∧ bt s j = true then 1 else 0) : Nat) : Int)) →
      (∀ τ', Fr [(84, none)] τ τ' → (∀ j, j < R 5 → gI τ' 84 j = iI ((cnt (fun x => fit R B x && bt x j) s + (if bt s j = true then 1 else 0) : Nat) : Int)) → ok (K v1 v2 (iI (s : Int)) τ') P) → ok (f_m_seekSets_L116 N m v1 v2 (iI (s : Int)) (iI (k : Int)) τ K) P := by
    intro s v1 v2 hs m
    induction m with
    | zero => intro k τ K P _ h; omega
    | succ m ih =>
      intro k τ K P hk hm hRt h84 hK
      unfold f_m_seekSets_L116
      rw [show gA τ 69 5 = iI (R 5 : Int) from hRt.A (z := 5) 5 rfl (by omega) (by omega)]
      by_cases c : k = R 5
      · rw [if_pos (show iI (R 5 : Int) ≤ iI (k : Int) by rw [iI_le (by omega) (by omega) (by omega) (by omega)]; omega)]
        refine hK τ Fr.rf (fun j hj => ?_)
        rw [h84 j hj]
        by_cases b : bt s j = true
        · rw [if_pos b, if_pos ⟨by omega, b⟩]
        · rw [if_neg b, if_neg (fun q => b q.2)]
      · have hv : vin (iI (k : Int)) 4 := by rw [vin_iI (by omega) (by omega)]; omega
        have hg : gA τ 84 (iI (k : Int)) = iI ((cnt (fun x => fit R B x && bt x k) s : Nat) : Int) := by
          rw [gA_iI (by omega) (by omega), Int.toNat_natCast, h84 k (by omega), if_neg (by omega), Nat.add_zero]
        rw [if_neg (show ¬ iI (R 5 : Int) ≤ iI (k : Int) by rw [iI_le (by omega) (by omega) (by omega) (by omega)]; omega), if_pos hv, if_pos hv, hg, shr_bit s (by omega) k (by omega), iI_add, sA_iI (by omega) (by omega), Int.toNat_natCast, show iI (k : Int) + 1 = iI ((k + 1 : Nat) : Int) from iI_add _ 1]
        refine ih (k + 1) _ K P (by omega) (by omega) (fun j hj => ?_) (fun j hj => ?_) (fun τ' hf h => hK τ' ((Fr.wIc Fr.rf (by simp)).tr hf) h)
        · rw [gI_ne (by omega)]; exact hRt j hj
        · rw [gI_sI]
          by_cases c2 : j = k
          · subst c2
            rw [if_pos ⟨rfl, rfl⟩]
            unfold bt
            by_cases b : s / 2 ^ j % 2 = 1
            · rw [if_pos ⟨by omega, by simp [b]⟩, b]; rfl
            · rw [if_neg (fun q => b (by simpa using q.2)), show s / 2 ^ j % 2 = 0 by omega]; rfl
          · rw [if_neg (fun q => c2 q.2), h84 j hj]
            by_cases b : j < k ∧ bt s j = true
            · rw [if_pos b, if_pos ⟨by omega, b.2⟩]
            · rw [if_neg b, if_neg (fun q => b ⟨by omega, q.2⟩)]
  have main : ∀ m s τ, s ≤ nS R → nS R - s < m → AR τ 69 189 R → AR τ 71 63 B → gI τ 66 45 = iI (cnt (fit R B) s : Int) → gI τ 66 46 = iI (orS (fit R B) s : Int) → gI τ 66 47 = iI (andS (fit R B) (nS R - 1) s : Int) → (∀ k, k < R 5 → gI τ 84 k = iI (cnt (fun x => fit R B x && bt x k) s : Int)) →
      ok (f_m_seekSets_L48 N m (iI z) (iI (fnd (fit R B) z s)) (iI (s : Int)) τ) (fun q => q.1 = iI (fnd (fit R B) z (nS R)) ∧ gI q.2 66 45 = iI (cnt (fit R B) (nS R) : Int) ∧ gI q.2 66 46 = iI (orS (fit R B) (nS R) : Int) ∧ gI q.2 66 47 = iI ((if cnt (fit R B) (nS R) = 0 then 0 else andS (fit R B) (nS R - 1) (nS R) : Nat) : Int) ∧ ∀ k, k < R 5 → gI q.2 84 k = iI (cnt (fun x => fit R B x && bt x k) (nS R) : Int)) := by
    intro m
    induction m with
    | zero => intro s τ _ h; omega
    | succ m ih =>
      intro s τ hs hm hRt hBt g45 g46 g47 g84
      have hcl := cnt_le (fit R B) s
      unfold f_m_seekSets_L48
      rw [show gA τ 69 5 = iI (R 5 : Int) from hRt.A (z := 5) 5 rfl (by omega) (by omega), shl_1 (R 5) (by omega)]
      by_cases c : s = nS R
      · rw [if_pos (show iI ((2 ^ R 5 : Nat) : Int) ≤ iI (s : Int) by rw [iI_le (by omega) (by omega) (by omega) (by omega)]; omega), g45]
        rw [c] at g45 g46 g47 g84 hcl ⊢
        by_cases c0 : cnt (fit R B) (nS R) = 0
        · rw [if_pos (show iI (cnt (fit R B) (nS R) : Int) = 0 by rw [c0]; rfl), if_pos c0]
          refine okS.mpr ⟨rfl, ?_, ?_, gI_eq, fun k hk => ?_⟩
          · rw [gI_ne (by omega)]; exact g45
          · rw [gI_ne (by omega)]; exact g46
          · rw [gI_ne (by omega)]; exact g84 k hk
        · rw [if_neg (show ¬ iI (cnt (fit R B) (nS R) : Int) = 0 by rw [show (0 : Int32) = iI 0 from rfl, iI_eq (by omega) (by omega) (by omega) (by omega)]; omega), if_neg c0]
          exact okS.mpr ⟨rfl, g45, g46, g47, g84⟩
      · rw [if_neg (show ¬ iI ((2 ^ R 5 : Nat) : Int) ≤ iI (s : Int) by rw [iI_le (by omega) (by omega) (by omega) (by omega)]; omega), okB]
        refine ((pm_wrongBy hN hRt hBt hB hW (show s < 1024 by omega)).and (fun z => w_f_m_wrongBy)).imp (fun q hq => ?_)
        have hR2 := hRt.fr hq.2 rfl
        have hB2 := hBt.fr hq.2 rfl
        have k45 : gI q.2 66 45 = iI (cnt (fit R B) s : Int) := by rw [hq.2.I 66 45 rfl]; exact g45
        have k46 : gI q.2 66 46 = iI (orS (fit R B) s : Int) := by rw [hq.2.I 66 46 rfl]; exact g46
        have k47 : gI q.2 66 47 = iI (andS (fit R B) (nS R - 1) s : Int) := by rw [hq.2.I 66 47 rfl]; exact g47
        have k84 : ∀ k, k < R 5 → gI q.2 84 k = iI (cnt (fun x => fit R B x && bt x k) s : Int) := fun k hk => by rw [hq.2.I 84 k rfl]; exact g84 k hk
        rw [hq.1]
        simp only [wr_fit hW s]
        by_cases cf : fit R B s = true
        · rw [if_pos cf]
          have ho := orS_lt (p := fit R B) s (by omega)
          have ha := andS_lt (p := fit R B) (a := nS R - 1) (by omega) s (by omega)
          have upd : ∀ (fv : Int32), fv = iI (fnd (fit R B) z (s + 1)) → ok (f_m_seekSets_L116 N N (iI z) fv (iI (s : Int)) 0 (sI (sI (sI q.2 66 45 ((gI q.2 66 45) + 1)) 66 46 ((gI (sI q.2 66 45 ((gI q.2 66 45) + 1)) 66 46) ||| (iI (s : Int)))) 66 47 ((gI (sI (sI q.2 66 45 ((gI q.2 66 45) + 1)) 66 46 ((gI (sI q.2 66 45 ((gI q.2 66 45) + 1)) 66 46) ||| (iI (s : Int)))) 66 47) &&& (iI (s : Int)))) (fun (w1 : Int32) (w2 : Int32) (w3 : Int32) (t3 : Sg) => f_m_seekSets_L48 N m w1 w2 (w3 + 1) t3)) (fun q => q.1 = iI (fnd (fit R B) z (nS R)) ∧ gI q.2 66 45 = iI (cnt (fit R B) (nS R) : Int) ∧ gI q.2 66 46 = iI (orS (fit R B) (nS R) : Int) ∧ gI q.2 66 47 = iI ((if cnt (fit R B) (nS R) = 0 then 0 else andS (fit R B) (nS R - 1) (nS R) : Nat) : Int) ∧ ∀ k, k < R 5 → gI q.2 84 k = iI (cnt (fun x => fit R B x && bt x k) (nS R) : Int)) := by
            intro fv hfv
            rw [show gI (sI q.2 66 45 (gI q.2 66 45 + 1)) 66 46 = iI (orS (fit R B) s : Int) by rw [gI_ne (by omega)]; exact k46, iI_or (by omega) (by omega)]
            rw [show gI (sI (sI q.2 66 45 (gI q.2 66 45 + 1)) 66 46 (iI ((orS (fit R B) s ||| s : Nat) : Int))) 66 47 = iI (andS (fit R B) (nS R - 1) s : Int) by rw [gI_ne (by omega), gI_ne (by omega)]; exact k47, iI_and (by omega) (by omega), k45, show iI (cnt (fit R B) s : Int) + 1 = iI ((cnt (fit R B) s + 1 : Nat) : Int) from iI_add _ 1]
            rw [show (0 : Int32) = iI ((0 : Nat) : Int) from rfl]
            refine tally s (iI z) fv (by omega) N 0 _ _ _ (by omega) (by omega) (fun j hj => ?_) (fun j hj => ?_) (fun τ' hf h => ?_)
            · rw [gI_ne (by omega), gI_ne (by omega), gI_ne (by omega)]; exact hR2 j hj
            · rw [gI_ne (by omega), gI_ne (by omega), gI_ne (by omega), k84 j hj, if_neg (by omega), Nat.add_zero]
            · rw [hfv, show iI (s : Int) + 1 = iI ((s + 1 : Nat) : Int) from iI_add _ 1]
              refine ih (s + 1) τ' (by omega) (by omega) (fun j hj => ?_) (fun j hj => ?_) ?_ ?_ ?_ (fun k hk => ?_)
              · rw [hf.I 69 j rfl, gI_ne (by omega), gI_ne (by omega), gI_ne (by omega)]; exact hR2 j hj
              · rw [hf.I 71 j rfl, gI_ne (by omega), gI_ne (by omega), gI_ne (by omega)]; exact hB2 j hj
              · rw [hf.I 66 45 rfl, gI_ne (by omega), gI_ne (by omega), gI_eq, cnt_succ, if_pos cf]
              · rw [hf.I 66 46 rfl, gI_ne (by omega), gI_eq, orS_s, if_pos cf]
              · rw [hf.I 66 47 rfl, gI_eq, andS_s, if_pos cf]
              · rw [h k hk, cnt_succ, cf, Bool.true_and]
          rw [k45]
          by_cases cz : (cnt (fit R B) s : Int) = z
          · rw [if_pos (show iI (cnt (fit R B) s : Int) = iI z by rw [cz])]
            have u := upd (iI (s : Int)) (by rw [fnd_s, if_pos ⟨cf, cz⟩])
            rw [k45] at u
            exact u
          · rw [if_neg (show ¬ iI (cnt (fit R B) s : Int) = iI z by rw [iI_eq (by omega) (by omega) z1 z2]; exact cz)]
            have u := upd (iI (fnd (fit R B) z s)) (by rw [fnd_s, if_neg (fun q => cz q.2)])
            rw [k45] at u
            exact u
        · rw [if_neg cf, show iI (s : Int) + 1 = iI ((s + 1 : Nat) : Int) from iI_add _ 1]
          have hi := ih (s + 1) q.2 (by omega) (by omega) hR2 hB2 (by rw [k45, cnt_succ, if_neg cf, Nat.add_zero]) (by rw [k46, orS_s, if_neg cf]) (by rw [k47, andS_s, if_neg cf]) (fun k hk => by rw [k84 k hk, cnt_succ, if_neg (by simp [cf]), Nat.add_zero])
          rw [fnd_s, if_neg (fun q => cf q.1)] at hi
          exact hi
  have zero : ∀ m k τ (K : Int32 → Int32 → Sg → Option (Int32 × Sg)) (P : Int32 × Sg → Prop), k ≤ 4 → 4 - k < m → (∀ j, j < k → gI τ 84 j = iI 0) → (∀ τ', Fr [(84, none)] τ τ' → (∀ j, j < 4 → gI τ' 84 j = iI 0) → ok (K (iI z) (-1) τ') P) → ok (f_m_seekSets_L28 N m (iI z) (-1) (iI (k : Int)) τ K) P := by
    intro m
    induction m with
    | zero => intro k τ K P _ h; omega
    | succ m ih =>
      intro k τ K P hk hm h84 hK
      unfold f_m_seekSets_L28
      by_cases c : k = 4
      · subst c
        rw [if_pos (by decide)]
        exact hK τ Fr.rf h84
      · rw [if_neg (show ¬ 4 ≤ iI (k : Int) by rw [show (4 : Int32) = iI 4 from rfl, iI_le (by omega) (by omega) (by omega) (by omega)]; omega), if_pos (show vin (iI (k : Int)) 4 by rw [vin_iI (by omega) (by omega)]; omega), sA_iI (by omega) (by omega), Int.toNat_natCast, show iI (k : Int) + 1 = iI ((k + 1 : Nat) : Int) from iI_add _ 1]
        refine ih (k + 1) _ K P (by omega) (by omega) (fun j hj => ?_) (fun τ' hf h => hK τ' ((Fr.wIc Fr.rf (by simp)).tr hf) h)
        rw [gI_sI]
        by_cases c2 : j = k
        · rw [if_pos ⟨rfl, c2⟩]; rfl
        · rw [if_neg (fun q => c2 q.2)]; exact h84 j (by omega)
  unfold f_m_seekSets
  have e5 : gA (sI (sI σ 66 45 0) 66 46 0) 69 5 = iI (R 5 : Int) := by
    show gI (sI (sI σ 66 45 0) 66 46 0) 69 5 = _
    rw [gI_ne (by omega), gI_ne (by omega)]; exact hR 5 (by omega)
  rw [e5, shl_1 (R 5) (by omega), show iI ((2 ^ R 5 : Nat) : Int) - 1 = iI ((nS R - 1 : Nat) : Int) by rw [show (1 : Int32) = iI 1 from rfl, iI_sub]; congr 1; omega, show (0 : Int32) = iI ((0 : Nat) : Int) from rfl]
  refine zero N 0 _ _ _ (by omega) (by omega) (fun j hj => by omega) (fun τ' hf h => ?_)
  refine main N 0 τ' (by omega) (by omega) (fun j hj => ?_) (fun j hj => ?_) ?_ ?_ ?_ (fun k hk => ?_)
  · rw [hf.I 69 j rfl, gI_ne (by omega), gI_ne (by omega), gI_ne (by omega)]; exact hR j hj
  · rw [hf.I 71 j rfl, gI_ne (by omega), gI_ne (by omega), gI_ne (by omega)]; exact hB71 j hj
  · rw [hf.I 66 45 rfl, gI_ne (by omega), gI_ne (by omega), gI_eq]; rfl
  · rw [hf.I 66 46 rfl, gI_ne (by omega), gI_eq]; rfl
  · rw [hf.I 66 47 rfl, gI_eq]; rfl
  · rw [h k (by omega)]; rfl
end FITM
