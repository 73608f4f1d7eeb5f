/-! ===== the text's next token, in the class and in the reference ===== -/
section TOK
variable {N : Nat} {σ : Sg} {T : Nat → Nat} {L : Nat}
def rnU (c : Nat → Bool) (T : Nat → Nat) : Nat → Nat → Nat
  | 0, p => p
  | f + 1, p => if c (T p) = true then rnU c T f (p + 1) else p
/-- how far a run of such bytes goes from p -/
def rn (c : Nat → Bool) (T : Nat → Nat) (L p : Nat) : Nat := rnU c T (L - p) p
theorem rn_end {c : Nat → Bool} {p : Nat} (h : L ≤ p) : rn c T L p = p := by
  unfold rn
  rw [show L - p = 0 by omega]
  rfl
theorem rn_yes {c : Nat → Bool} {p : Nat} (h : p < L) (hc : c (T p) = true) : rn c T L p = rn c T L (p + 1) := by
  unfold rn
  rw [show L - p = (L - (p + 1)) + 1 by omega]
  show (if c (T p) = true then _ else _) = _
  rw [if_pos hc]
theorem rn_no {c : Nat → Bool} {p : Nat} (hc : ¬ c (T p) = true) : rn c T L p = p := by
  by_cases h : p < L
  · unfold rn
    rw [show L - p = (L - (p + 1)) + 1 by omega]
    show (if c (T p) = true then _ else _) = _
    rw [if_neg hc]
  · exact rn_end (by omega)
def tkB (b : Nat) : Bool := decide (b = 32)
def tkL (b : Nat) : Bool := decide (97 ≤ b ∧ b ≤ 122)
def tkD (b : Nat) : Bool := decide (48 ≤ b ∧ b ≤ 57)
/-- the class's text and the reference's -/
def TxX (T : Nat → Nat) (L : Nat) (σ : Sg) : Prop := gI σ 1 2 = iI (L : Int) ∧ ∀ k, k < L → T k < 256 ∧ gI σ 2 k = iI (sgn (T k))
def TxM (T : Nat → Nat) (L : Nat) (σ : Sg) : Prop := gI σ 66 3 = iI (L : Int) ∧ ∀ k, k < L → T k < 256 ∧ gI σ 67 k = iI (T k : Int)
theorem px_byteAt (hL : L ≤ 900) (h : TxX T L σ) {p : Nat} (hp : p < L) : f_reader_byteAt N (iI (p : Int)) σ = some (iI (sgn (T p)), σ) := by
  unfold f_reader_byteAt
  rw [h.1, if_neg (show ¬ iI (p : Int) < 0 by rw [show (0 : Int32) = iI 0 from rfl, iI_lt (by omega) (by omega) (by omega) (by omega)]; omega), if_neg (show ¬ iI (L : Int) ≤ iI (p : Int) by rw [iI_le (by omega) (by omega) (by omega) (by omega)]; omega), if_neg (show ¬ nI 900 ≤ iI (p : Int) by rw [show nI 900 = iI 900 from rfl, iI_le (by omega) (by omega) (by omega) (by omega)]; omega), if_pos (show vin (iI (p : Int)) 900 by rw [vin_iI (by omega) (by omega)]; omega), gA_iI (by omega) (by omega), Int.toNat_natCast, (h.2 p hp).2]
theorem pm_see (hL : L ≤ 900) (h : TxM T L σ) {p : Nat} (hp : p ≤ L) : f_m_see N (iI (p : Int)) σ = some (if p < L then iI (T p : Int) else iI (-1), σ) := by
  unfold f_m_see
  rw [h.1]
  by_cases c : p < L
  · rw [if_neg (show ¬ iI (L : Int) ≤ iI (p : Int) by rw [iI_le (by omega) (by omega) (by omega) (by omega)]; omega), if_pos (show vin (iI (p : Int)) 900 by rw [vin_iI (by omega) (by omega)]; omega), gA_iI (by omega) (by omega), Int.toNat_natCast, (h.2 p c).2, if_pos c]
  · rw [if_pos (show iI (L : Int) ≤ iI (p : Int) by rw [iI_le (by omega) (by omega) (by omega) (by omega)]; omega), if_neg c]
    rfl
theorem sgn_r {b : Nat} (h : b < 256) : -128 ≤ sgn b ∧ sgn b < 128 := by
  unfold sgn
  split <;> omega
theorem px_isLetter {b : Nat} (h : b < 256) : f_reader_isLetter N (iI (sgn b)) σ = some (tkL b, σ) := by
  have hr := sgn_r h
  unfold f_reader_isLetter tkL
  by_cases c1 : sgn b < 97
  · rw [if_pos (show iI (sgn b) < 97 by rw [show (97 : Int32) = iI 97 from rfl, iI_lt (by omega) (by omega) (by omega) (by omega)]; omega), decide_eq_false (by unfold sgn at c1; split at c1 <;> omega)]
  · rw [if_neg (show ¬ iI (sgn b) < 97 by rw [show (97 : Int32) = iI 97 from rfl, iI_lt (by omega) (by omega) (by omega) (by omega)]; omega)]
    by_cases c2 : 122 < sgn b
    · rw [if_pos (show (122 : Int32) < iI (sgn b) by rw [show (122 : Int32) = iI 122 from rfl, iI_lt (by omega) (by omega) (by omega) (by omega)]; omega), decide_eq_false (by unfold sgn at c2; split at c2 <;> omega)]
    · rw [if_neg (show ¬ (122 : Int32) < iI (sgn b) by rw [show (122 : Int32) = iI 122 from rfl, iI_lt (by omega) (by omega) (by omega) (by omega)]; omega), decide_eq_true (by unfold sgn at c1 c2; split at c1 <;> omega)]
theorem px_isDigit {b : Nat} (h : b < 256) : f_reader_isDigit N (iI (sgn b)) σ = some (tkD b, σ) := by
  have hr := sgn_r h
  unfold f_reader_isDigit tkD
  by_cases c1 : sgn b < 48
  · rw [if_pos (show iI (sgn b) < 48 by rw [show (48 : Int32) = iI 48 from rfl, iI_lt (by omega) (by omega) (by omega) (by omega)]; omega), decide_eq_false (by unfold sgn at c1; split at c1 <;> omega)]
  · rw [if_neg (show ¬ iI (sgn b) < 48 by rw [show (48 : Int32) = iI 48 from rfl, iI_lt (by omega) (by omega) (by omega) (by omega)]; omega)]
    by_cases c2 : 57 < sgn b
    · rw [if_pos (show (57 : Int32) < iI (sgn b) by rw [show (57 : Int32) = iI 57 from rfl, iI_lt (by omega) (by omega) (by omega) (by omega)]; omega), decide_eq_false (by unfold sgn at c2; split at c2 <;> omega)]
    · rw [if_neg (show ¬ (57 : Int32) < iI (sgn b) by rw [show (57 : Int32) = iI 57 from rfl, iI_lt (by omega) (by omega) (by omega) (by omega)]; omega), decide_eq_true (by unfold sgn at c1 c2; split at c1 <;> omega)]
/-- blanks passed over, in the class -/
theorem px_skip (hL : L ≤ 900) {K : Sg → Option (Unit × Sg)} {P : Unit × Sg → Prop} : ∀ (m p : Nat) (τ : Sg), p ≤ L → L - p < m → TxX T L τ → gI τ 1 4 = iI (p : Int) → (∀ τ', Fr [(1, some 4)] τ τ' → gI τ' 1 4 = iI (rn tkB T L p : Int) → ok (K τ') P) → ok (f_reader_nextToken_L8 N m τ K) P := by
  intro m
  induction m with
  | zero => intro p τ _ h; omega
  | succ m ih =>
    intro p τ hp hm ht h4 hK
    unfold f_reader_nextToken_L8
    rw [ht.1, h4]
    by_cases c : p < L
    · rw [if_neg (show ¬ iI (L : Int) ≤ iI (p : Int) by rw [iI_le (by omega) (by omega) (by omega) (by omega)]; omega), px_byteAt hL ht c, Option.bind_some]
      dsimp only
      have hb := (ht.2 p c).1
      have hr := sgn_r hb
      by_cases c2 : T p = 32
      · have fr : Fr [(1, some 4)] τ (sI τ 1 4 (iI ((p + 1 : Nat) : Int))) := Fr.wI Fr.rf (by simp)
        rw [if_pos (show iI (sgn (T p)) = 32 by rw [c2]; rfl), h4, show iI (p : Int) + 1 = iI ((p + 1 : Nat) : Int) from iI_add _ 1]
        refine ih (p + 1) _ (by omega) (by omega) ⟨ht.1, ht.2⟩ gI_eq (fun τ' f h => hK τ' (fr.tr f) ?_)
        rw [rn_yes c (decide_eq_true c2)]
        exact h
      · rw [if_neg (show ¬ iI (sgn (T p)) = 32 by rw [show (32 : Int32) = iI 32 from rfl, iI_eq (by omega) (by omega) (by omega) (by omega)]; intro h; apply c2; unfold sgn at h; split at h <;> omega)]
        refine hK τ Fr.rf ?_
        rw [rn_no (by unfold tkB; rw [decide_eq_true_eq]; exact c2)]
        exact h4
    · rw [if_pos (show iI (L : Int) ≤ iI (p : Int) by rw [iI_le (by omega) (by omega) (by omega) (by omega)]; omega)]
      refine hK τ Fr.rf ?_
      rw [rn_end (by omega)]
      exact h4
/-- blanks passed over, in the reference -/
theorem pm_skip (hL : L ≤ 900) {K : Int32 → Sg → Option (Unit × Sg)} (ht : TxM T L σ) : ∀ (m p : Nat), p ≤ L → L - p < m → f_m_next_L5 N m (iI (p : Int)) σ K = K (iI (rn tkB T L p : Int)) σ := by
  intro m
  induction m with
  | zero => intro p _ h; omega
  | succ m ih =>
    intro p hp hm
    unfold f_m_next_L5
    rw [pm_see hL ht hp, Option.bind_some]
    dsimp only
    by_cases c : p < L
    · rw [if_pos c]
      have hb := (ht.2 p c).1
      by_cases c2 : T p = 32
      · rw [if_pos (show iI (T p : Int) = 32 by rw [c2]; rfl), show iI (p : Int) + 1 = iI ((p + 1 : Nat) : Int) from iI_add _ 1, rn_yes c (decide_eq_true c2)]
        exact ih (p + 1) (by omega) (by omega)
      · rw [if_neg (show ¬ iI (T p : Int) = 32 by rw [show (32 : Int32) = iI 32 from rfl, iI_eq (by omega) (by omega) (by omega) (by omega)]; omega), rn_no (by unfold tkB; rw [decide_eq_true_eq]; exact c2)]
    · rw [if_neg c, if_neg (show ¬ iI (-1) = 32 by decide), rn_end (by omega)]
end TOK
