section WORD
variable {N : Nat} {σ : Sg} {T : Nat → Nat} {L : Nat}
/-- the letters of the text's own words -/
def wlen (w : Nat) : Nat := strLen.getD w 0
def wch (w i : Nat) : Nat := (sbyt w (iI (i : Int))).toInt.toNat
theorem js_len {w : Nat} (hw : w < 20) : f_js_length N w σ = some (iI (wlen w : Int), σ) := by
  have e : (nI (strLen.getD w 0)) >>> ((0 : Int32) &&& 31) = iI (wlen w : Int) := (by decide : ∀ w : Fin 20, (nI (strLen.getD w.val 0)) >>> ((0 : Int32) &&& 31) = iI (wlen w.val : Int)) ⟨w, hw⟩
  show some ((nI (strLen.getD w 0)) >>> ((0 : Int32) &&& 31), σ) = _
  rw [e]
theorem wlen_8 {w : Nat} (hw : w < 20) : 1 ≤ wlen w ∧ wlen w ≤ 8 := (by decide : ∀ w : Fin 20, 1 ≤ wlen w.val ∧ wlen w.val ≤ 8) ⟨w, hw⟩
theorem wch_e : ∀ w : Fin 20, ∀ i : Fin 8, i.val < wlen w.val → UInt32.toInt32 (Int32.toUInt32 ((sbyt w.val (iI (i.val : Int))) &&& 255) % 65536) = iI (wch w.val i.val : Int) ∧ 97 ≤ wch w.val i.val ∧ wch w.val i.val ≤ 122 := by decide
end WORD
