section TOK3
variable {N : Nat} {σ : Sg} {T : Nat → Nat} {L : Nat}
/-- the token that begins at b: its kind (as the class counts them) and its end -/
def tkK (T : Nat → Nat) (L b : Nat) : Nat := if b < L then (if tkL (T b) = true then (if 8 < rn tkL T L b - b then 4 else 1) else if tkD (T b) = true then (if 3 < rn tkD T L b - b then 4 else 2) else if T b = 59 then 3 else 4) else 0
def tkE (T : Nat → Nat) (L b : Nat) : Nat := if b < L then (if tkL (T b) = true then rn tkL T L b else if tkD (T b) = true then rn tkD T L b else b + 1) else b
def tkV (T : Nat → Nat) (L b : Nat) : Nat := tvl T b (min 3 (rn tkD T L b - b))
theorem px_tok (hN : 200000 ≤ N) (hL : L ≤ 900) {p : Nat} (hp : p ≤ L) (ht : TxX T L σ) (h5 : gI σ 1 5 = iI (p : Int)) : ok (f_reader_nextToken N σ) (fun z => gI z.2 1 4 = iI (rn tkB T L p : Int) ∧ gI z.2 1 3 = iI (tkK T L (rn tkB T L p) : Int) ∧ gI z.2 1 5 = iI (tkE T L (rn tkB T L p) : Int) ∧ (tkK T L (rn tkB T L p) = 2 → gI z.2 1 6 = iI (tkV T L (rn tkB T L p) : Int))) := by
  have hr := rn_le (c := tkB) (T := T) hp
  unfold f_reader_nextToken
  rw [h5]
  refine px_skip hL N p _ hp (by omega) ⟨ht.1, ht.2⟩ gI_eq (fun τ f h4 => ?_)
  have ht2 : TxX T L τ := ⟨(f.I 1 2 rfl).trans ht.1, fun k hk => ⟨(ht.2 k hk).1, (f.I 2 k rfl).trans (ht.2 k hk).2⟩⟩
  generalize rn tkB T L p = b at h4 hr ⊢
  have g4 : gI (sI τ 1 5 (gI τ 1 4)) 1 4 = iI (b : Int) := by rw [gI_ne (by omega)]; exact h4
  have g5 : gI (sI τ 1 5 (gI τ 1 4)) 1 5 = iI (b : Int) := by rw [gI_eq]; exact h4
  have ht3 : TxX T L (sI τ 1 5 (gI τ 1 4)) := ⟨ht2.1, ht2.2⟩
  generalize sI τ 1 5 (gI τ 1 4) = υ at g4 g5 ht3 ⊢
  rw [g4, ht3.1]
  by_cases c : b < L
  · rw [if_pos (show iI (b : Int) < iI (L : Int) by rw [iI_lt (by omega) (by omega) (by omega) (by omega)]; omega), px_byteAt hL ht3 c, Option.bind_some]
    dsimp only
    have hb := (ht3.2 b c).1
    have hsr := sgn_r hb
    rw [px_isLetter hb, Option.bind_some]
    dsimp only
    unfold tkK tkE
    rw [if_pos c, if_pos c]
    by_cases c1 : tkL (T b) = true
    · rw [if_pos c1, if_pos c1, if_pos c1]
      refine ((px_word hL hr.2 N b υ (Nat.le_refl _) hr.2 (by omega) ht3 g4 g5).and (fun z => w_f_reader_nextToken_L86 _ _ _)).imp (fun z hz => ⟨?_, ?_, hz.1.2, fun h => ?_⟩)
      · rw [hz.2.I 1 4 rfl]; exact g4
      · rw [hz.1.1]
        by_cases c8 : 8 < rn tkL T L b - b
        · rw [if_pos c8, if_pos c8]; rfl
        · rw [if_neg c8, if_neg c8]; rfl
      · split at h <;> omega
    · rw [if_neg c1, if_neg c1, if_neg c1, g4, px_byteAt hL ht3 c, Option.bind_some]
      dsimp only
      rw [px_isDigit hb, Option.bind_some]
      dsimp only
      by_cases c2 : tkD (T b) = true
      · rw [if_pos c2, if_pos c2, if_pos c2]
        have h46 : gI (sI υ 1 6 0) 1 4 = iI (b : Int) := by rw [gI_ne (by omega)]; exact g4
        have h56 : gI (sI υ 1 6 0) 1 5 = iI ((b + 0 : Nat) : Int) := by rw [gI_ne (by omega)]; exact g5
        refine ((px_num hL hr.2 N 0 (sI υ 1 6 0) hr.2 (by omega) (fun i hi => by omega) ⟨ht3.1, ht3.2⟩ h46 h56 gI_eq).and (fun z => w_f_reader_nextToken_L169 _ _ _)).imp (fun z hz => ⟨?_, ?_, hz.1.2.1, fun _ => hz.1.2.2⟩)
        · rw [hz.2.I 1 4 rfl]; exact h46
        · rw [hz.1.1]
          show iI (if 3 < rn tkD T L b - b then 4 else 2) = _
          by_cases c8 : 3 < rn tkD T L b - b
          · rw [if_pos c8, if_pos c8]; rfl
          · rw [if_neg c8, if_neg c8]; rfl
      · rw [if_neg c2, if_neg c2, if_neg c2, g4, px_byteAt hL ht3 c, Option.bind_some]
        dsimp only
        by_cases c3 : T b = 59
        · rw [if_pos (show iI (sgn (T b)) = 59 by rw [c3]; rfl), if_pos c3]
          refine okS.mpr ⟨?_, ?_, ?_, fun h => absurd h (by decide)⟩
          · rw [gI_ne (by omega), gI_ne (by omega)]; exact g4
          · rw [gI_ne (by omega), gI_eq]; rfl
          · rw [gI_eq, gI_ne (by omega), g5]; exact iI_add _ 1
        · rw [if_neg (show ¬ iI (sgn (T b)) = 59 by rw [show (59 : Int32) = iI 59 from rfl, iI_eq (by omega) (by omega) (by omega) (by omega)]; intro h; apply c3; unfold sgn at h; split at h <;> omega), if_neg c3]
          refine okS.mpr ⟨?_, ?_, ?_, fun h => absurd h (by decide)⟩
          · rw [gI_ne (by omega), gI_ne (by omega)]; exact g4
          · rw [gI_ne (by omega), gI_eq]; rfl
          · rw [gI_eq, gI_ne (by omega), g5]; exact iI_add _ 1
  · rw [if_neg (show ¬ iI (b : Int) < iI (L : Int) by rw [iI_lt (by omega) (by omega) (by omega) (by omega)]; omega)]
    unfold tkK tkE
    rw [if_neg c, if_neg c]
    refine okS.mpr ⟨?_, ?_, ?_, fun h => absurd h (by decide)⟩
    · rw [gI_ne (by omega)]; exact g4
    · rw [gI_eq]; rfl
    · rw [gI_ne (by omega)]; exact g5
end TOK3
