section TOK4
variable {N : Nat} {σ : Sg} {T : Nat → Nat} {L : Nat}
theorem pm_isSmall {z : Int} (h1 : -1 ≤ z) (h2 : z < 256) : f_m_isSmall N (iI z) σ = some (decide (97 ≤ z ∧ z ≤ 122), σ) := by
  unfold f_m_isSmall
  by_cases c1 : z < 97
  · rw [if_pos (show iI z < 97 by rw [show (97 : Int32) = iI 97 from rfl, iI_lt (by omega) (by omega) (by omega) (by omega)]; omega), decide_eq_false (by omega)]
  · rw [if_neg (show ¬ iI z < 97 by rw [show (97 : Int32) = iI 97 from rfl, iI_lt (by omega) (by omega) (by omega) (by omega)]; omega)]
    by_cases c2 : 122 < z
    · rw [if_pos (show (122 : Int32) < iI z by rw [show (122 : Int32) = iI 122 from rfl, iI_lt (by omega) (by omega) (by omega) (by omega)]; omega), decide_eq_false (by omega)]
    · rw [if_neg (show ¬ (122 : Int32) < iI z by rw [show (122 : Int32) = iI 122 from rfl, iI_lt (by omega) (by omega) (by omega) (by omega)]; omega), decide_eq_true (by omega)]
theorem pm_isDigit {z : Int} (h1 : -1 ≤ z) (h2 : z < 256) : f_m_isDigit N (iI z) σ = some (decide (48 ≤ z ∧ z ≤ 57), σ) := by
  unfold f_m_isDigit
  by_cases c1 : z < 48
  · rw [if_pos (show iI z < 48 by rw [show (48 : Int32) = iI 48 from rfl, iI_lt (by omega) (by omega) (by omega) (by omega)]; omega), decide_eq_false (by omega)]
  · rw [if_neg (show ¬ iI z < 48 by rw [show (48 : Int32) = iI 48 from rfl, iI_lt (by omega) (by omega) (by omega) (by omega)]; omega)]
    by_cases c2 : 57 < z
    · rw [if_pos (show (57 : Int32) < iI z by rw [show (57 : Int32) = iI 57 from rfl, iI_lt (by omega) (by omega) (by omega) (by omega)]; omega), decide_eq_false (by omega)]
    · rw [if_neg (show ¬ (57 : Int32) < iI z by rw [show (57 : Int32) = iI 57 from rfl, iI_lt (by omega) (by omega) (by omega) (by omega)]; omega), decide_eq_true (by omega)]
theorem pm_word (hL : L ≤ 900) {b : Nat} : ∀ (m j : Nat) (τ : Sg), b + j ≤ L → L - (b + j) < m → TxM T L τ → gI τ 66 8 = iI (j : Int) → (∀ i, i < min 8 j → gI τ 68 i = iI (T (b + i) : Int)) → ok (f_m_next_L67 N m (iI ((b + j : Nat) : Int)) τ) (fun z => gI z.2 66 6 = iI (if 8 < rn tkL T L (b + j) - b then 1 else 2) ∧ gI z.2 66 5 = iI (rn tkL T L (b + j) : Int) ∧ gI z.2 66 8 = iI ((rn tkL T L (b + j) - b : Nat) : Int) ∧ ∀ i, i < min 8 (rn tkL T L (b + j) - b) → gI z.2 68 i = iI (T (b + i) : Int)) := by
  intro m
  induction m with
  | zero => intro j τ _ h; omega
  | succ m ih =>
    intro j τ hj hm ht h8 h68
    have fin : rn tkL T L (b + j) = b + j → ok (if (gI (sI τ 66 5 (iI ((b + j : Nat) : Int))) 66 8) ≤ 8 then some ((), sI (sI τ 66 5 (iI ((b + j : Nat) : Int))) 66 6 2) else some ((), sI (sI τ 66 5 (iI ((b + j : Nat) : Int))) 66 6 1)) (fun z => gI z.2 66 6 = iI (if 8 < rn tkL T L (b + j) - b then 1 else 2) ∧ gI z.2 66 5 = iI (rn tkL T L (b + j) : Int) ∧ gI z.2 66 8 = iI ((rn tkL T L (b + j) - b : Nat) : Int) ∧ ∀ i, i < min 8 (rn tkL T L (b + j) - b) → gI z.2 68 i = iI (T (b + i) : Int)) := by
      intro e
      rw [e, show b + j - b = j by omega, show gI (sI τ 66 5 (iI ((b + j : Nat) : Int))) 66 8 = iI (j : Int) by rw [gI_ne (by omega)]; exact h8]
      by_cases c : 8 < j
      · rw [if_neg (show ¬ iI (j : Int) ≤ 8 by rw [show (8 : Int32) = iI 8 from rfl, iI_le (by omega) (by omega) (by omega) (by omega)]; omega), if_pos c]
        refine okS.mpr ⟨gI_eq, ?_, ?_, fun i hi => ?_⟩
        · rw [gI_ne (by omega), gI_eq]
        · rw [gI_ne (by omega), gI_ne (by omega)]; exact h8
        · rw [gI_ne (by omega), gI_ne (by omega)]; exact h68 i hi
      · rw [if_pos (show iI (j : Int) ≤ 8 by rw [show (8 : Int32) = iI 8 from rfl, iI_le (by omega) (by omega) (by omega) (by omega)]; omega), if_neg c]
        refine okS.mpr ⟨gI_eq, ?_, ?_, fun i hi => ?_⟩
        · rw [gI_ne (by omega), gI_eq]
        · rw [gI_ne (by omega), gI_ne (by omega)]; exact h8
        · rw [gI_ne (by omega), gI_ne (by omega)]; exact h68 i hi
    unfold f_m_next_L67
    rw [pm_see hL ht hj, Option.bind_some]
    dsimp only
    by_cases c : b + j < L
    · have hb := (ht.2 _ c).1
      rw [if_pos c, pm_isSmall (by omega) (by omega), Option.bind_some]
      dsimp only
      by_cases c2 : 97 ≤ T (b + j) ∧ T (b + j) ≤ 122
      · rw [if_pos (show decide ((97 : Int) ≤ (T (b + j) : Int) ∧ (T (b + j) : Int) ≤ 122) = true by rw [decide_eq_true_eq]; omega), rn_yes c (decide_eq_true c2), show b + j + 1 = b + (j + 1) by omega, show iI ((b + j : Nat) : Int) + 1 = iI ((b + (j + 1) : Nat) : Int) from iI_add _ 1, h8]
        by_cases c8 : 8 ≤ j
        · rw [if_pos (show (8 : Int32) ≤ iI (j : Int) by rw [show (8 : Int32) = iI 8 from rfl, iI_le (by omega) (by omega) (by omega) (by omega)]; omega)]
          refine ih (j + 1) _ (by omega) (by omega) ⟨by rw [gI_ne (by omega)]; exact ht.1, fun k hk => ⟨(ht.2 k hk).1, by rw [gI_ne (by omega)]; exact (ht.2 k hk).2⟩⟩ ?_ (fun i hi => ?_)
          · rw [gI_eq]; exact iI_add _ 1
          · rw [gI_ne (by omega)]; exact h68 i (by omega)
        · rw [if_neg (show ¬ (8 : Int32) ≤ iI (j : Int) by rw [show (8 : Int32) = iI 8 from rfl, iI_le (by omega) (by omega) (by omega) (by omega)]; omega), pm_see hL ht hj, Option.bind_some, if_pos c]
          dsimp only
          rw [if_pos (show vin (iI (j : Int)) 8 by rw [vin_iI (by omega) (by omega)]; omega), sA_iI (by omega) (by omega), Int.toNat_natCast]
          refine ih (j + 1) _ (by omega) (by omega) ⟨by rw [gI_ne (by omega), gI_ne (by omega)]; exact ht.1, fun k hk => ⟨(ht.2 k hk).1, by rw [gI_ne (by omega), gI_ne (by omega)]; exact (ht.2 k hk).2⟩⟩ ?_ (fun i hi => ?_)
          · rw [gI_eq, gI_ne (by omega), h8]; exact iI_add _ 1
          · rw [gI_ne (by omega)]
            by_cases d : i = j
            · rw [d, gI_eq]
            · rw [gI_ne (by omega)]; exact h68 i (by omega)
      · rw [if_neg (show ¬ decide ((97 : Int) ≤ (T (b + j) : Int) ∧ (T (b + j) : Int) ≤ 122) = true by rw [decide_eq_true_eq]; omega)]
        exact fin (rn_no (by unfold tkL; rw [decide_eq_true_eq]; exact c2))
    · rw [if_neg c, pm_isSmall (by omega) (by omega), Option.bind_some]
      dsimp only
      rw [if_neg (show ¬ decide ((97 : Int) ≤ -1 ∧ (-1 : Int) ≤ 122) = true by decide)]
      exact fin (rn_end (by omega))
end TOK4
