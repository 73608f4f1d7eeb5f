section WORD2
variable {N : Nat} {σ : Sg} {T : Nat → Nat} {L : Nat}
theorem wch_n : ∀ w : Fin 20, ∀ i : Fin 8, i.val < wlen w.val → narrow .char (.int (iI (wch w.val i.val : Int))) = .int (iI (wch w.val i.val : Int)) := by decide
theorem js_char {w i : Nat} (hw : w < 20) (hi : i < wlen w) : f_js_charAt N w (iI (i : Int)) σ = some (iI (wch w i : Int), σ) := by
  have h8 := wlen_8 hw
  have e := wch_e ⟨w, hw⟩ ⟨i, by omega⟩ hi
  have en := wch_n ⟨w, hw⟩ ⟨i, by omega⟩ hi
  have ec : f_js_checkIndex N (iI (i : Int)) (nI (strLen.getD w 0)) σ = some ((), σ) := by
    unfold f_js_checkIndex f_jp_checkIndex
    rw [show nI (strLen.getD w 0) = iI (wlen w : Int) from nI_iI _, if_neg (show ¬ iI (i : Int) < 0 by rw [show (0 : Int32) = iI 0 from rfl, iI_lt (by omega) (by omega) (by omega) (by omega)]; omega), if_pos (show iI (i : Int) < iI (wlen w : Int) by rw [iI_lt (by omega) (by omega) (by omega) (by omega)]; omega), Option.bind_some]
  have ej : f_jsl_charAt N w (iI (i : Int)) σ = some (iI (wch w i : Int), σ) := by
    unfold f_jsl_charAt
    rw [ec, Option.bind_some, if_pos (show vin (iI (i : Int)) (strLen.getD w 0) by rw [vin_iI (by omega) (by omega)]; show 0 ≤ (i : Int) ∧ (i : Int) < (wlen w : Int); omega)]
    rw [show UInt32.toInt32 (Int32.toUInt32 ((sbyt w (iI (i : Int))) &&& 255) % 65536) = iI (wch w i : Int) from e.1]
  unfold f_js_charAt f_js_isLatin1
  rw [Option.bind_some, if_pos rfl, ej, Option.bind_some]
  dsimp only
  rw [if_pos (show narrow .char (.int (iI (wch w i : Int))) = .int (iI (wch w i : Int)) from en)]
end WORD2
