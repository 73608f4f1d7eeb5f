section TOK5
variable {N : Nat} {σ : Sg} {T : Nat → Nat} {L : Nat}
theorem pm_num (hL : L ≤ 900) {b : Nat} : ∀ (m j : Nat) (τ : Sg), b + j ≤ L → L - (b + j) < m → TxM T L τ → gI τ 66 7 = iI (tvl T b (min 3 j) : Int) → ok (f_m_next_L152 N m (iI ((b + j : Nat) : Int)) (iI (j : Int)) τ) (fun z => gI z.2 66 6 = iI (if 3 < rn tkD T L (b + j) - b then 1 else 3) ∧ gI z.2 66 5 = iI (rn tkD T L (b + j) : Int) ∧ gI z.2 66 7 = iI (tvl T b (min 3 (rn tkD T L (b + j) - b)) : Int)) := by
  intro m
  induction m with
  | zero => intro j τ _ h; omega
  | succ m ih =>
    intro j τ hj hm ht h7
    have fin : rn tkD T L (b + j) = b + j → ok (if iI (j : Int) ≤ 3 then some ((), sI (sI τ 66 5 (iI ((b + j : Nat) : Int))) 66 6 3) else some ((), sI (sI τ 66 5 (iI ((b + j : Nat) : Int))) 66 6 1)) (fun z => gI z.2 66 6 = iI (if 3 < rn tkD T L (b + j) - b then 1 else 3) ∧ gI z.2 66 5 = iI (rn tkD T L (b + j) : Int) ∧ gI z.2 66 7 = iI (tvl T b (min 3 (rn tkD T L (b + j) - b)) : Int)) := by
      intro e
      rw [e, show b + j - b = j by omega]
      by_cases c : 3 < j
      · rw [if_neg (show ¬ iI (j : Int) ≤ 3 by rw [show (3 : Int32) = iI 3 from rfl, iI_le (by omega) (by omega) (by omega) (by omega)]; omega), if_pos c]
        refine okS.mpr ⟨gI_eq, ?_, ?_⟩
        · rw [gI_ne (by omega), gI_eq]
        · rw [gI_ne (by omega), gI_ne (by omega)]; exact h7
      · rw [if_pos (show iI (j : Int) ≤ 3 by rw [show (3 : Int32) = iI 3 from rfl, iI_le (by omega) (by omega) (by omega) (by omega)]; omega), if_neg c]
        refine okS.mpr ⟨gI_eq, ?_, ?_⟩
        · rw [gI_ne (by omega), gI_eq]
        · rw [gI_ne (by omega), gI_ne (by omega)]; exact h7
    unfold f_m_next_L152
    rw [pm_see hL ht hj, Option.bind_some]
    dsimp only
    by_cases c : b + j < L
    · have hb := (ht.2 _ c).1
      rw [if_pos c, pm_isDigit (by omega) (by omega), Option.bind_some]
      dsimp only
      by_cases c2 : 48 ≤ T (b + j) ∧ T (b + j) ≤ 57
      · rw [if_pos (show decide ((48 : Int) ≤ (T (b + j) : Int) ∧ (T (b + j) : Int) ≤ 57) = true by rw [decide_eq_true_eq]; omega), rn_yes c (decide_eq_true c2), show b + j + 1 = b + (j + 1) by omega, show iI ((b + j : Nat) : Int) + 1 = iI ((b + (j + 1) : Nat) : Int) from iI_add _ 1, show iI (j : Int) + 1 = iI ((j + 1 : Nat) : Int) from iI_add _ 1]
        by_cases c8 : 3 ≤ j
        · rw [if_pos (show (3 : Int32) ≤ iI (j : Int) by rw [show (3 : Int32) = iI 3 from rfl, iI_le (by omega) (by omega) (by omega) (by omega)]; omega)]
          refine ih (j + 1) _ (by omega) (by omega) ht ?_
          rw [h7, show min 3 j = min 3 (j + 1) by omega]
        · rw [if_neg (show ¬ (3 : Int32) ≤ iI (j : Int) by rw [show (3 : Int32) = iI 3 from rfl, iI_le (by omega) (by omega) (by omega) (by omega)]; omega), pm_see hL ht hj, Option.bind_some, if_pos c]
          dsimp only
          refine ih (j + 1) _ (by omega) (by omega) ⟨by rw [gI_ne (by omega)]; exact ht.1, fun k hk => ⟨(ht.2 k hk).1, by rw [gI_ne (by omega)]; exact (ht.2 k hk).2⟩⟩ ?_
          rw [gI_eq, h7, show min 3 j = j by omega, show min 3 (j + 1) = j + 1 by omega, show (10 : Int32) = iI 10 from rfl, show (48 : Int32) = iI 48 from rfl, iI_mul, iI_add, iI_sub]
          congr 1
          show 10 * (tvl T b j : Int) + (T (b + j) : Int) - 48 = ((10 * tvl T b j + (T (b + j) - 48) : Nat) : Int)
          omega
      · rw [if_neg (show ¬ decide ((48 : Int) ≤ (T (b + j) : Int) ∧ (T (b + j) : Int) ≤ 57) = true by rw [decide_eq_true_eq]; omega)]
        exact fin (rn_no (by unfold tkD; rw [decide_eq_true_eq]; exact c2))
    · rw [if_neg c, pm_isDigit (by omega) (by omega), Option.bind_some]
      dsimp only
      rw [if_neg (show ¬ decide ((48 : Int) ≤ -1 ∧ (-1 : Int) ≤ 57) = true by decide)]
      exact fin (rn_end (by omega))
end TOK5
