section TOK2
variable {N : Nat} {σ : Sg} {T : Nat → Nat} {L : Nat}
theorem rn_ge {c : Nat → Bool} : ∀ (f p : Nat), p ≤ rnU c T f p ∧ rnU c T f p ≤ p + f := by
  intro f
  induction f with
  | zero => intro p; exact ⟨Nat.le_refl _, Nat.le_refl _⟩
  | succ f ih =>
    intro p
    have h := ih (p + 1)
    unfold rnU
    split <;> omega
theorem rn_le {c : Nat → Bool} {p : Nat} (h : p ≤ L) : p ≤ rn c T L p ∧ rn c T L p ≤ L := by
  have := rn_ge (c := c) (T := T) (L - p) p
  unfold rn
  omega
theorem px_word (hL : L ≤ 900) {b : Nat} (hb : b ≤ L) : ∀ (m p : Nat) (τ : Sg), b ≤ p → p ≤ L → L - p < m → TxX T L τ → gI τ 1 4 = iI (b : Int) → gI τ 1 5 = iI (p : Int) → ok (f_reader_nextToken_L86 N m τ) (fun z => gI z.2 1 3 = iI (if 8 < rn tkL T L p - b then 4 else 1) ∧ gI z.2 1 5 = iI (rn tkL T L p : Int)) := by
  intro m
  induction m with
  | zero => intro p τ _ _ h; omega
  | succ m ih =>
    intro p τ hbp hp hm ht h4 h5
    have fin : rn tkL T L p = p → ok (if 8 < (gI τ 1 5) - (gI τ 1 4) then some ((), sI τ 1 3 4) else some ((), sI τ 1 3 1)) (fun z => gI z.2 1 3 = iI (if 8 < rn tkL T L p - b then 4 else 1) ∧ gI z.2 1 5 = iI (rn tkL T L p : Int)) := by
      intro e
      rw [e, h4, h5, iI_sub]
      by_cases c : 8 < p - b
      · rw [if_pos (show (8 : Int32) < iI ((p : Int) - (b : Int)) by rw [show (8 : Int32) = iI 8 from rfl, iI_lt (by omega) (by omega) (by omega) (by omega)]; omega), if_pos c]
        refine okS.mpr ⟨gI_eq, ?_⟩
        rw [gI_ne (by omega)]; exact h5
      · rw [if_neg (show ¬ (8 : Int32) < iI ((p : Int) - (b : Int)) by rw [show (8 : Int32) = iI 8 from rfl, iI_lt (by omega) (by omega) (by omega) (by omega)]; omega), if_neg c]
        refine okS.mpr ⟨gI_eq, ?_⟩
        rw [gI_ne (by omega)]; exact h5
    unfold f_reader_nextToken_L86
    rw [ht.1]
    by_cases c : p < L
    · rw [if_neg (show ¬ iI (L : Int) ≤ gI τ 1 5 by rw [h5, iI_le (by omega) (by omega) (by omega) (by omega)]; omega)]
      rw [show f_reader_byteAt N (gI τ 1 5) τ = some (iI (sgn (T p)), τ) by rw [h5]; exact px_byteAt hL ht c, Option.bind_some]
      dsimp only
      rw [px_isLetter (ht.2 p c).1, Option.bind_some]
      dsimp only
      by_cases c2 : tkL (T p) = true
      · rw [if_pos c2, rn_yes c c2, show gI τ 1 5 + 1 = iI ((p + 1 : Nat) : Int) by rw [h5]; exact iI_add _ 1]
        exact ih (p + 1) _ (by omega) (by omega) (by omega) ⟨ht.1, ht.2⟩ (by rw [gI_ne (by omega)]; exact h4) gI_eq
      · rw [if_neg c2]
        exact fin (rn_no c2)
    · rw [if_pos (show iI (L : Int) ≤ gI τ 1 5 by rw [h5, iI_le (by omega) (by omega) (by omega) (by omega)]; omega)]
      exact fin (rn_end (by omega))
def tvl (T : Nat → Nat) (b : Nat) : Nat → Nat
  | 0 => 0
  | j + 1 => 10 * tvl T b j + (T (b + j) - 48)
theorem tvl_lt {b : Nat} : ∀ j, (∀ i, i < j → T (b + i) ≤ 57) → tvl T b j < 10 ^ j := by
  intro j
  induction j with
  | zero => intro _; show 0 < 1; omega
  | succ j ih =>
    intro h
    have h1 := ih (fun i hi => h i (by omega))
    have h2 := h j (by omega)
    rw [Nat.pow_succ]
    show 10 * tvl T b j + (T (b + j) - 48) < _
    omega
theorem px_num (hL : L ≤ 900) {b : Nat} (hb : b ≤ L) : ∀ (m j : Nat) (τ : Sg), b + j ≤ L → L - (b + j) < m → (∀ i, i < j → 48 ≤ T (b + i) ∧ T (b + i) ≤ 57) → TxX T L τ → gI τ 1 4 = iI (b : Int) → gI τ 1 5 = iI ((b + j : Nat) : Int) → gI τ 1 6 = iI (tvl T b (min 3 j) : Int) → ok (f_reader_nextToken_L169 N m τ) (fun z => gI z.2 1 3 = iI (if 3 < rn tkD T L (b + j) - b then 4 else 2) ∧ gI z.2 1 5 = iI (rn tkD T L (b + j) : Int) ∧ gI z.2 1 6 = iI (tvl T b (min 3 (rn tkD T L (b + j) - b)) : Int)) := by
  intro m
  induction m with
  | zero => intro j τ _ h; omega
  | succ m ih =>
    intro j τ hj hm hd ht h4 h5 h6
    have fin : rn tkD T L (b + j) = b + j → ok (if 3 < (gI τ 1 5) - (gI τ 1 4) then some ((), sI τ 1 3 4) else some ((), sI τ 1 3 2)) (fun z => gI z.2 1 3 = iI (if 3 < rn tkD T L (b + j) - b then 4 else 2) ∧ gI z.2 1 5 = iI (rn tkD T L (b + j) : Int) ∧ gI z.2 1 6 = iI (tvl T b (min 3 (rn tkD T L (b + j) - b)) : Int)) := by
      intro e
      rw [e, h4, h5, iI_sub, show b + j - b = j by omega]
      by_cases c : 3 < j
      · rw [if_pos (show (3 : Int32) < iI (((b + j : Nat) : Int) - (b : Int)) by rw [show (3 : Int32) = iI 3 from rfl, iI_lt (by omega) (by omega) (by omega) (by omega)]; omega), if_pos c]
        refine okS.mpr ⟨gI_eq, ?_, ?_⟩
        · rw [gI_ne (by omega)]; exact h5
        · rw [gI_ne (by omega)]; exact h6
      · rw [if_neg (show ¬ (3 : Int32) < iI (((b + j : Nat) : Int) - (b : Int)) by rw [show (3 : Int32) = iI 3 from rfl, iI_lt (by omega) (by omega) (by omega) (by omega)]; omega), if_neg c]
        refine okS.mpr ⟨gI_eq, ?_, ?_⟩
        · rw [gI_ne (by omega)]; exact h5
        · rw [gI_ne (by omega)]; exact h6
    have ed : gI τ 1 5 - gI τ 1 4 = iI (j : Int) := by rw [h4, h5, iI_sub]; congr 1; omega
    unfold f_reader_nextToken_L169
    rw [ht.1]
    by_cases c : b + j < L
    · rw [if_neg (show ¬ iI (L : Int) ≤ gI τ 1 5 by rw [h5, iI_le (by omega) (by omega) (by omega) (by omega)]; omega)]
      have eb : f_reader_byteAt N (gI τ 1 5) τ = some (iI (sgn (T (b + j))), τ) := by rw [h5]; exact px_byteAt hL ht c
      rw [eb, Option.bind_some]
      dsimp only
      rw [px_isDigit (ht.2 _ c).1, Option.bind_some]
      dsimp only
      by_cases c2 : tkD (T (b + j)) = true
      · have c3 := c2
        unfold tkD at c3
        rw [decide_eq_true_eq] at c3
        have hd' : ∀ i, i < j + 1 → 48 ≤ T (b + i) ∧ T (b + i) ≤ 57 := fun i hi => by
          by_cases e : i = j
          · rw [e]; exact c3
          · exact hd i (by omega)
        have es : sgn (T (b + j)) = (T (b + j) : Int) := by unfold sgn; rw [if_pos (by omega)]
        rw [if_pos c2, rn_yes c c2, show b + j + 1 = b + (j + 1) by omega]
        by_cases c4 : 3 ≤ j
        · rw [if_pos (show (3 : Int32) ≤ gI τ 1 5 - gI τ 1 4 by rw [ed, show (3 : Int32) = iI 3 from rfl, iI_le (by omega) (by omega) (by omega) (by omega)]; omega)]
          refine ih (j + 1) _ (by omega) (by omega) hd' ⟨ht.1, ht.2⟩ ?_ ?_ ?_
          · rw [gI_ne (by omega), gI_ne (by omega)]; exact h4
          · rw [gI_eq, gI_ne (by omega), h5]; exact iI_add _ 1
          · rw [gI_ne (by omega), gI_eq, h6, show min 3 j = min 3 (j + 1) by omega]
        · rw [if_neg (show ¬ (3 : Int32) ≤ gI τ 1 5 - gI τ 1 4 by rw [ed, show (3 : Int32) = iI 3 from rfl, iI_le (by omega) (by omega) (by omega) (by omega)]; omega), eb, Option.bind_some]
          dsimp only
          refine ih (j + 1) _ (by omega) (by omega) hd' ⟨ht.1, ht.2⟩ ?_ ?_ ?_
          · rw [gI_ne (by omega), gI_ne (by omega)]; exact h4
          · rw [gI_eq, gI_ne (by omega), h5]; exact iI_add _ 1
          · rw [gI_ne (by omega), gI_eq, h6, es, show min 3 j = j by omega, show min 3 (j + 1) = j + 1 by omega, show (10 : Int32) = iI 10 from rfl, show (48 : Int32) = iI 48 from rfl, iI_mul, iI_add, iI_sub]
            congr 1
            show (tvl T b j : Int) * 10 + (T (b + j) : Int) - 48 = ((10 * tvl T b j + (T (b + j) - 48) : Nat) : Int)
            omega
      · rw [if_neg c2]
        exact fin (rn_no c2)
    · rw [if_pos (show iI (L : Int) ≤ gI τ 1 5 by rw [h5, iI_le (by omega) (by omega) (by omega) (by omega)]; omega)]
      exact fin (rn_end (by omega))
end TOK2
