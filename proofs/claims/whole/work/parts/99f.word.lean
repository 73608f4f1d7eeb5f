section WORD3
variable {N : Nat} {σ : Sg} {T : Nat → Nat} {L : Nat}
def wal (T : Nat → Nat) (b w : Nat) : Nat → Bool
  | 0 => true
  | n + 1 => wal T b w n && decide (T (b + n) = wch w n)
theorem wal_no {b w : Nat} : ∀ (n i : Nat), i < n → T (b + i) ≠ wch w i → wal T b w n = false := by
  intro n
  induction n with
  | zero => intro i h; omega
  | succ n ih =>
    intro i hi hne
    show (wal T b w n && decide (T (b + n) = wch w n)) = false
    by_cases c : i = n
    · rw [← c, decide_eq_false hne, Bool.and_false]
    · rw [ih i (by omega) hne, Bool.false_and]
/-- is the token from b to e (of the class's kind k) the word w -/
def isW (T : Nat → Nat) (k b e w : Nat) : Bool := decide (k = 1) && (decide (e - b = wlen w) && wal T b w (wlen w))
theorem px_isWord (hN : 200000 ≤ N) (hL : L ≤ 900) (ht : TxX T L σ) {k b e w : Nat} (hw : w < 20) (hk : k ≤ 4) (hbe : b ≤ e) (he : e ≤ L) (h3 : gI σ 1 3 = iI (k : Int)) (h4 : gI σ 1 4 = iI (b : Int)) (h5 : gI σ 1 5 = iI (e : Int)) : f_reader_isWord N w σ = some (isW T k b e w, σ) := by
  have h8 := wlen_8 hw
  have key : b + wlen w ≤ L → ∀ (m j : Nat), j ≤ wlen w → wlen w - j < m → wal T b w j = true → f_reader_isWord_L28 N w m (iI (j : Int)) σ = some (wal T b w (wlen w), σ) := by
    intro hbl m
    induction m with
    | zero => intro j _ h; omega
    | succ m ih =>
      intro j hj hm ha
      unfold f_reader_isWord_L28
      rw [js_len hw, Option.bind_some]
      dsimp only
      by_cases c : j = wlen w
      · rw [if_pos (show iI (wlen w : Int) ≤ iI (j : Int) by rw [iI_le (by omega) (by omega) (by omega) (by omega)]; omega), ← c, ha]
      · have hb := (ht.2 (b + j) (by omega)).1
        have hr := sgn_r hb
        have hc := wch_e ⟨w, hw⟩ ⟨j, by omega⟩ (show j < wlen w by omega)
        have hc2 : 97 ≤ wch w j ∧ wch w j ≤ 122 := hc.2
        rw [if_neg (show ¬ iI (wlen w : Int) ≤ iI (j : Int) by rw [iI_le (by omega) (by omega) (by omega) (by omega)]; omega), h4, show iI (b : Int) + iI (j : Int) = iI ((b + j : Nat) : Int) from iI_add _ _, px_byteAt hL ht (by omega), Option.bind_some]
        dsimp only
        rw [js_char hw (by omega), Option.bind_some, show iI (j : Int) + 1 = iI ((j + 1 : Nat) : Int) from iI_add _ 1]
        dsimp only
        by_cases c2 : T (b + j) = wch w j
        · have es : sgn (T (b + j)) = (wch w j : Int) := by unfold sgn; rw [if_pos (by omega)]; omega
          rw [if_pos (show iI (sgn (T (b + j))) = iI (wch w j : Int) by rw [es])]
          refine ih (j + 1) (by omega) (by omega) ?_
          show (wal T b w j && decide (T (b + j) = wch w j)) = true
          rw [ha, decide_eq_true c2]
          rfl
        · rw [if_neg (show ¬ iI (sgn (T (b + j))) = iI (wch w j : Int) by rw [iI_eq (by omega) (by omega) (by omega) (by omega)]; intro h; apply c2; unfold sgn at h; split at h <;> omega), wal_no (wlen w) j (by omega) c2]
  unfold f_reader_isWord isW
  rw [h3]
  by_cases c1 : k = 1
  · rw [if_pos (show iI (k : Int) = 1 by rw [c1]; rfl), js_len hw, Option.bind_some, h4, h5, iI_sub, decide_eq_true c1, Bool.true_and]
    dsimp only
    by_cases c2 : e - b = wlen w
    · rw [if_pos (show iI (wlen w : Int) = iI ((e : Int) - (b : Int)) by congr 1; omega), decide_eq_true c2, Bool.true_and]
      exact key (by omega) N 0 (by omega) (by omega) rfl
    · rw [if_neg (show ¬ iI (wlen w : Int) = iI ((e : Int) - (b : Int)) by rw [iI_eq (by omega) (by omega) (by omega) (by omega)]; omega), decide_eq_false c2, Bool.false_and]
  · rw [if_neg (show ¬ iI (k : Int) = 1 by rw [show (1 : Int32) = iI 1 from rfl, iI_eq (by omega) (by omega) (by omega) (by omega)]; omega), decide_eq_false c1, Bool.false_and]
end WORD3
