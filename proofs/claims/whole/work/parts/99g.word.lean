section WORD4
variable {N : Nat} {σ : Sg} {T : Nat → Nat} {L : Nat}
theorem pm_isWord (hN : 200000 ≤ N) {k b e w : Nat} (hw : w < 20) (hk : k ≤ 4) (hbe : b ≤ e) (he : e ≤ 900) (hT : ∀ i, T i < 256) (h13 : gI σ 66 13 = 0) (h6 : gI σ 66 6 = iI (tkM k)) (h8 : k = 1 → gI σ 66 8 = iI ((e - b : Nat) : Int) ∧ ∀ i, i < e - b → gI σ 68 i = iI (T (b + i) : Int)) : f_m_isWord N w σ = some (isW T k b e w, σ) := by
  have hl := wlen_8 hw
  have key : k = 1 → e - b = wlen w → ∀ (m j : Nat), j ≤ wlen w → wlen w - j < m → f_m_isWord_L32 N w m (b2i (wal T b w j)) (iI (j : Int)) σ = some (wal T b w (wlen w), σ) := by
    intro hk1 hlen m
    induction m with
    | zero => intro j _ h; omega
    | succ m ih =>
      intro j hj hm
      obtain ⟨g8, g68⟩ := h8 hk1
      unfold f_m_isWord_L32
      rw [g8, hlen]
      by_cases c : j = wlen w
      · rw [if_pos (show iI (wlen w : Int) ≤ iI (j : Int) by rw [iI_le (by omega) (by omega) (by omega) (by omega)]; omega), ← c]
        cases wal T b w j <;> rfl
      · have hb := hT (b + j)
        have hc2 : 97 ≤ wch w j ∧ wch w j ≤ 122 := (wch_e ⟨w, hw⟩ ⟨j, by omega⟩ (show j < wlen w by omega)).2
        rw [if_neg (show ¬ iI (wlen w : Int) ≤ iI (j : Int) by rw [iI_le (by omega) (by omega) (by omega) (by omega)]; omega), show iI (j : Int) + 1 = iI ((j + 1 : Nat) : Int) from iI_add _ 1]
        have es : wal T b w (j + 1) = (wal T b w j && decide (T (b + j) = wch w j)) := rfl
        have hi := ih (j + 1) (by omega) (by omega)
        rw [es] at hi
        cases hv : wal T b w j with
        | false =>
          rw [hv, Bool.false_and] at hi
          rw [if_pos (show b2i false = 0 from rfl)]
          exact hi
        | true =>
          rw [hv, Bool.true_and] at hi
          rw [if_neg (show ¬ b2i true = 0 by decide), if_pos (show vin (iI (j : Int)) 8 by rw [vin_iI (by omega) (by omega)]; omega), js_char hw (by omega), Option.bind_some, gA_iI (by omega) (by omega), Int.toNat_natCast, g68 j (by omega)]
          dsimp only
          by_cases c2 : T (b + j) = wch w j
          · rw [decide_eq_true c2] at hi
            rw [if_pos (show iI (T (b + j) : Int) = iI (wch w j : Int) by rw [c2])]
            exact hi
          · rw [decide_eq_false c2] at hi
            rw [if_neg (show ¬ iI (T (b + j) : Int) = iI (wch w j : Int) by rw [iI_eq (by omega) (by omega) (by omega) (by omega)]; omega)]
            exact hi
  unfold f_m_isWord isW
  rw [h13, if_pos rfl, h6]
  by_cases c1 : k = 1
  · rw [if_pos (show iI (tkM k) = 2 by rw [c1]; rfl), js_len hw, Option.bind_some, (h8 c1).1, decide_eq_true c1, Bool.true_and]
    dsimp only
    by_cases c2 : e - b = wlen w
    · rw [if_pos (show iI ((e - b : Nat) : Int) = iI (wlen w : Int) by rw [c2]), decide_eq_true c2, Bool.true_and]
      exact key c1 c2 N 0 (by omega) (by omega)
    · rw [if_neg (show ¬ iI ((e - b : Nat) : Int) = iI (wlen w : Int) by rw [iI_eq (by omega) (by omega) (by omega) (by omega)]; omega), decide_eq_false c2, Bool.false_and]
  · have hne : ¬ iI (tkM k) = 2 := by
      have h : k = 0 ∨ k = 2 ∨ k = 3 ∨ k = 4 := by omega
      rcases h with rfl | rfl | rfl | rfl <;> decide
    rw [if_neg hne, decide_eq_false c1, Bool.false_and]
end WORD4
