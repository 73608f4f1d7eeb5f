section ZLI
variable {N : Nat} {σ : Sg} {T R R' S B nf nt sl : Nat → Nat} {L : Nat}
/-! the head of a line -/
def zrm (j : Nat) : Nat := if j = 0 then 1 else if j = 1 then 6 else if j = 2 then 3 else if j = 3 then 6 else if j = 4 then 8 else if j = 5 then 4 else 6
def zto (R : Nat → Nat) (j : Nat) : Nat := if j = 0 then R 8 else if j = 1 then R 7 else R j
def zhN (R : Nat → Nat) (j : Nat) : Nat := if zrm j ≤ zto R j then (if j = 0 then 3 else 5) else if j ≠ 0 ∧ R 8 = 0 then 6 else if j = 1 ∧ 0 < R 4 then 8 else 0
def zTX (R : Nat → Nat) (σ : Sg) : Prop := ∀ k, k < 7 → gI σ 3 k = iI (zto R k : Int)
theorem zrm_e : ∀ j : Fin 7, roomV (iI (j.val : Int)) = iI (zrm j.val : Int) := by decide
theorem zrm_b {j : Nat} : zrm j ≤ 8 := by
  unfold zrm
  repeat' split
  all_goals omega
theorem zx_head {j : Nat} (hj : j < 7) (hT : zTX R σ) (hb : ∀ k, k < 7 → zto R k < 1000) : f_reader_headFits N (iI (j : Int)) σ = if zhN R j = 0 then some (true, sI σ 3 j (iI ((zto R j + 1 : Nat) : Int))) else (f_reader_fail N (iI (zhN R j : Int)) σ).bind fun q => some (q.1, q.2) := by
  have b1 := hb j hj
  have b4 := hb 4 (by omega)
  have b0 := hb 0 (by omega)
  have hr := zrm_b (j := j)
  have g : gA σ 3 (iI (j : Int)) = iI (zto R j : Int) := by rw [gA_iI (by omega) (by omega), Int.toNat_natCast]; exact hT j hj
  have g4 : gA σ 3 4 = iI (R 4 : Int) := by rw [show (4 : Int32) = iI ((4 : Nat) : Int) from rfl, gA_iI (by omega) (by omega), Int.toNat_natCast]; exact hT 4 (by omega)
  have g0 : gA σ 3 0 = iI (R 8 : Int) := by rw [show (0 : Int32) = iI ((0 : Nat) : Int) from rfl, gA_iI (by omega) (by omega), Int.toNat_natCast]; exact hT 0 (by omega)
  have t4 : R 4 < 1000 := b4
  have t8 : R 8 < 1000 := b0
  have vn : vin (iI (j : Int)) 7 := by rw [vin_iI (by omega) (by omega)]; omega
  have fin : sA σ 3 (iI (j : Int)) (iI (zto R j : Int) + 1) = sI σ 3 j (iI ((zto R j + 1 : Nat) : Int)) := by
    rw [sA_iI (by omega) (by omega), Int.toNat_natCast, show iI (zto R j : Int) + 1 = iI ((zto R j + 1 : Nat) : Int) from iI_add _ 1]
  unfold f_reader_headFits
  rw [if_neg (show ¬ iI (j : Int) < 0 by rw [show (0 : Int32) = iI 0 from rfl, iI_lt (by omega) (by omega) (by omega) (by omega)]; omega), if_neg (show ¬ nI 7 ≤ iI (j : Int) by rw [show nI 7 = iI 7 from rfl, iI_le (by omega) (by omega) (by omega) (by omega)]; omega), if_pos (show iI (j : Int) < nI 7 by rw [show nI 7 = iI 7 from rfl, iI_lt (by omega) (by omega) (by omega) (by omega)]; omega), if_pos vn, if_pos vn, g, show roomV (iI (j : Int)) = iI (zrm j : Int) from zrm_e ⟨j, hj⟩]
  unfold zhN
  have j0 : (iI (j : Int) = 0) ↔ j = 0 := by rw [show (0 : Int32) = iI 0 from rfl, iI_eq (by omega) (by omega) (by omega) (by omega)]; omega
  have j1 : (iI (j : Int) = 1) ↔ j = 1 := by rw [show (1 : Int32) = iI 1 from rfl, iI_eq (by omega) (by omega) (by omega) (by omega)]; omega
  by_cases c1 : zrm j ≤ zto R j
  · rw [if_neg (show ¬ iI (zto R j : Int) < iI (zrm j : Int) by rw [iI_lt (by omega) (by omega) (by omega) (by omega)]; omega), if_pos c1]
    by_cases c2 : j = 0
    · rw [if_pos (j0.mpr c2), if_pos c2, if_neg (by decide)]; rfl
    · rw [if_neg (fun w => c2 (j0.mp w)), if_neg c2, if_neg (by decide)]; rfl
  · rw [if_pos (show iI (zto R j : Int) < iI (zrm j : Int) by rw [iI_lt (by omega) (by omega) (by omega) (by omega)]; omega), if_neg c1]
    by_cases c2 : j = 0
    · rw [if_pos (j0.mpr c2), if_neg (show ¬ iI (j : Int) = 1 from fun w => by have := j1.mp w; omega), if_pos vn, if_pos vn, if_neg (show ¬ (j ≠ 0 ∧ R 8 = 0) from fun w => w.1 c2), if_neg (show ¬ (j = 1 ∧ 0 < R 4) by omega), if_pos rfl, fin]
    · rw [if_neg (fun w => c2 (j0.mp w)), g0]
      by_cases c3 : R 8 = 0
      · rw [if_pos (show iI (R 8 : Int) = 0 by rw [c3]; rfl), if_pos (show j ≠ 0 ∧ R 8 = 0 from ⟨c2, c3⟩), if_neg (by decide)]; rfl
      · rw [if_neg (show ¬ iI (R 8 : Int) = 0 by rw [show (0 : Int32) = iI 0 from rfl, iI_eq (by omega) (by omega) (by omega) (by omega)]; omega), if_neg (show ¬ (j ≠ 0 ∧ R 8 = 0) from fun w => c3 w.2)]
        by_cases c4 : j = 1
        · rw [if_pos (j1.mpr c4), g4]
          by_cases c5 : 0 < R 4
          · rw [if_neg (show ¬ iI (R 4 : Int) ≤ 0 by rw [show (0 : Int32) = iI 0 from rfl, iI_le (by omega) (by omega) (by omega) (by omega)]; omega), if_pos (show j = 1 ∧ 0 < R 4 from ⟨c4, c5⟩), if_neg (by decide)]; rfl
          · rw [if_pos (show iI (R 4 : Int) ≤ 0 by rw [show (0 : Int32) = iI 0 from rfl, iI_le (by omega) (by omega) (by omega) (by omega)]; omega), if_pos vn, if_pos vn, if_neg (show ¬ (j = 1 ∧ 0 < R 4) from fun w => c5 w.2), if_pos rfl, fin]
        · rw [if_neg (fun w => c4 (j1.mp w)), if_pos vn, if_pos vn, if_neg (show ¬ (j = 1 ∧ 0 < R 4) from fun w => c4 w.1), if_pos rfl, fin]
theorem zTX.step {W : WL} {j : Nat} {v : Int32} {τ : Sg} (h : zTX R σ) (hv : v = iI ((zto R j + 1 : Nat) : Int)) (f : Fr W (sI σ 3 j v) τ) (hw : dis W [(3, none)] = true) (hR : ∀ k, k < 7 → zto R' k = if k = j then zto R j + 1 else zto R k) : zTX R' τ := by
  intro k hk
  rw [f.dI hw (by simp), hR k hk, gI_sI]
  by_cases c : k = j
  · rw [if_pos ⟨rfl, c⟩, if_pos c]; exact hv
  · rw [if_neg (fun q => c q.2), if_neg c]; exact h k hk
theorem zis_w {p w : Nat} (h : zis T L p w = true) : zkk T L p = 1 := by
  unfold zis isW at h
  rw [Bool.and_eq_true, decide_eq_true_eq] at h
  exact h.1
theorem zso_no {p : Nat} (h : zso T L p < 0) : ∀ w, w < 7 → zis T L p w = false := by
  intro w hw
  rw [Bool.eq_false_iff]
  intro q
  unfold zso at h
  rw [if_pos (zis_w q)] at h
  have hw : w = 0 ∨ w = 1 ∨ w = 2 ∨ w = 3 ∨ w = 4 ∨ w = 5 ∨ w = 6 := by omega
  rcases hw with rfl | rfl | rfl | rfl | rfl | rfl | rfl
  all_goals (rw [q] at h; revert h; repeat' split)
  all_goals (intro h; first | omega | (simp at *))
theorem zso_yes {p j : Nat} (h : zso T L p = (j : Int)) : zis T L p j = true ∧ ∀ w, w < j → zis T L p w = false := by
  have key : ∀ (b0 b1 b2 b3 b4 b5 b6 : Bool) (j : Nat), (if b0 = true then (0 : Int) else if b1 = true then 1 else if b2 = true then 2 else if b3 = true then 3 else if b4 = true then 4 else if b5 = true then 5 else if b6 = true then 6 else -1) = (j : Int) → (j = 0 ∧ b0 = true) ∨ (j = 1 ∧ b0 = false ∧ b1 = true) ∨ (j = 2 ∧ b0 = false ∧ b1 = false ∧ b2 = true) ∨ (j = 3 ∧ b0 = false ∧ b1 = false ∧ b2 = false ∧ b3 = true) ∨ (j = 4 ∧ b0 = false ∧ b1 = false ∧ b2 = false ∧ b3 = false ∧ b4 = true) ∨ (j = 5 ∧ b0 = false ∧ b1 = false ∧ b2 = false ∧ b3 = false ∧ b4 = false ∧ b5 = true) ∨ (j = 6 ∧ b0 = false ∧ b1 = false ∧ b2 = false ∧ b3 = false ∧ b4 = false ∧ b5 = false ∧ b6 = true) := by
    intro b0 b1 b2 b3 b4 b5 b6 j h
    cases b0 with
    | true => simp at h ⊢; omega
    | false =>
      cases b1 with
      | true => simp at h ⊢; omega
      | false =>
        cases b2 with
        | true => simp at h ⊢; omega
        | false =>
          cases b3 with
          | true => simp at h ⊢; omega
          | false =>
            cases b4 with
            | true => simp at h ⊢; omega
            | false =>
              cases b5 with
              | true => simp at h ⊢; omega
              | false =>
                cases b6 with
                | true => simp at h ⊢; omega
                | false => simp at h
  unfold zso at h
  by_cases c : zkk T L p = 1
  · rw [if_pos c] at h
    rcases key _ _ _ _ _ _ _ j h with ⟨rfl, h0⟩ | ⟨rfl, h0, h1⟩ | ⟨rfl, h0, h1, h2⟩ | ⟨rfl, h0, h1, h2, h3⟩ | ⟨rfl, h0, h1, h2, h3, h4⟩ | ⟨rfl, h0, h1, h2, h3, h4, h5⟩ | ⟨rfl, h0, h1, h2, h3, h4, h5, h6⟩
    · exact ⟨h0, fun w hw => by omega⟩
    · exact ⟨h1, fun w hw => by rw [show w = 0 by omega]; exact h0⟩
    · refine ⟨h2, fun w hw => ?_⟩
      have hw : w = 0 ∨ w = 1 := by omega
      rcases hw with rfl | rfl <;> assumption
    · refine ⟨h3, fun w hw => ?_⟩
      have hw : w = 0 ∨ w = 1 ∨ w = 2 := by omega
      rcases hw with rfl | rfl | rfl <;> assumption
    · refine ⟨h4, fun w hw => ?_⟩
      have hw : w = 0 ∨ w = 1 ∨ w = 2 ∨ w = 3 := by omega
      rcases hw with rfl | rfl | rfl | rfl <;> assumption
    · refine ⟨h5, fun w hw => ?_⟩
      have hw : w = 0 ∨ w = 1 ∨ w = 2 ∨ w = 3 ∨ w = 4 := by omega
      rcases hw with rfl | rfl | rfl | rfl | rfl <;> assumption
    · refine ⟨h6, fun w hw => ?_⟩
      have hw : w = 0 ∨ w = 1 ∨ w = 2 ∨ w = 3 ∨ w = 4 ∨ w = 5 := by omega
      rcases hw with rfl | rfl | rfl | rfl | rfl | rfl <;> assumption
  · rw [if_neg c] at h; omega
/-! the reference's head -/
theorem zm_beg0 (hN : 200000 ≤ N) (hL : L ≤ 900) (hT : ∀ i, T i < 256) {p w : Nat} {v : Int32} (hp : p ≤ L) (hw : w < 20) (h : zMG T L p σ) (hz : zis T L p w = false) : f_m_begins N w v σ = some (false, σ) := by
  unfold f_m_begins
  rw [zm_is hN hL hT hp hw h, Option.bind_some, hz]
  dsimp only
  rw [if_neg Bool.false_ne_true]
def bgE (T : Nat → Nat) (L p n : Nat) : zE := if n = 0 then none else some (n, zbb T L p)
theorem zm_beg (hN : 200000 ≤ N) (hL : L ≤ 900) (hT : ∀ i, T i < 256) {p w n : Nat} {c : Bool} (hp : p ≤ L) (hw : w < 20) (h : zMS T L none p σ) (hR : AR σ 70 189 R) (h4 : R 4 < 1000) (h8 : R 8 < 1000) (hz : zis T L p w = true) (hn : n = if c = false then 5 else if R 8 = 0 then 6 else if zis T L p 1 = true ∧ 0 < R 4 then 8 else 0) : ok (f_m_begins N w (b2i c) σ) (fun z => z.1 = true ∧ zMS T L (bgE T L p n) (zee T L p) z.2 ∧ Fr tkf σ z.2) := by
  have g := h.2.1 rfl
  have a8 : gA σ 70 8 = iI (R 8 : Int) := hR.A (z := 8) 8 rfl (by omega) (by omega)
  have a4 : gA σ 70 4 = iI (R 4 : Int) := hR.A (z := 4) 4 rfl (by omega) (by omega)
  unfold f_m_begins
  rw [zm_is hN hL hT hp hw g, Option.bind_some, hz]
  dsimp only
  rw [if_pos rfl]
  have done : ∀ k : Nat, k ≠ 0 → n = k → (true = true ∧ zMS T L (bgE T L p n) (zee T L p) (wrg σ k (zbb T L p)) ∧ Fr tkf σ (wrg σ k (zbb T L p))) := fun k hk e => by
    have f := wrg_fr (σ := σ) (n := k) (a := zbb T L p)
    refine ⟨rfl, ?_, f.mono rfl⟩
    rw [e]
    unfold bgE
    rw [if_neg hk]
    exact zMS.bad (h.1.co f rfl) wrg_f
  cases c with
  | false =>
    have hf := wrg_f (σ := σ) (n := 5) (a := zbb T L p)
    rw [if_pos (show b2i false = 0 from rfl), zm_wrong (v := 5) (n := 5) g.1 rfl g.2.2.1, Option.bind_some]
    dsimp only
    have e5 : n = 5 := by rw [hn]; rfl
    by_cases c8 : (gA (wrg σ 5 (zbb T L p)) 70 8) = 0
    · rw [if_pos c8, zF_wrong hf.1, Option.bind_some]
      dsimp only
      rw [zF_is hf.1, Option.bind_some]
      dsimp only
      rw [if_neg Bool.false_ne_true, zF_pass hf.1, Option.bind_some]
      exact okS.mpr (done 5 (by omega) e5)
    · rw [if_neg c8, zF_is hf.1, Option.bind_some]
      dsimp only
      rw [if_neg Bool.false_ne_true, zF_pass hf.1, Option.bind_some]
      exact okS.mpr (done 5 (by omega) e5)
  | true =>
    rw [if_neg (show ¬ b2i true = 0 by decide), a8]
    by_cases c8 : R 8 = 0
    · have hf := wrg_f (σ := σ) (n := 6) (a := zbb T L p)
      have e6 : n = 6 := by rw [hn, if_neg (by decide), if_pos c8]
      rw [if_pos (show iI (R 8 : Int) = 0 by rw [c8]; rfl), zm_wrong (v := 6) (n := 6) g.1 rfl g.2.2.1, Option.bind_some]
      dsimp only
      rw [zF_is hf.1, Option.bind_some]
      dsimp only
      rw [if_neg Bool.false_ne_true, zF_pass hf.1, Option.bind_some]
      exact okS.mpr (done 6 (by omega) e6)
    · rw [if_neg (show ¬ iI (R 8 : Int) = 0 by rw [show (0 : Int32) = iI 0 from rfl, iI_eq (by omega) (by omega) (by omega) (by omega)]; omega), zm_is hN hL hT hp (by omega) g, Option.bind_some]
      dsimp only
      have good : n = 0 → ok ((f_m_pass N σ).bind fun q => some (true, q.2)) (fun z => z.1 = true ∧ zMS T L (bgE T L p n) (zee T L p) z.2 ∧ Fr tkf σ z.2) := fun e => by
        rw [okB]
        refine (zm_pass hN hL hp h).imp (fun q hq => okS.mpr ⟨rfl, ?_, hq.2.mono rfl⟩)
        rw [e]
        exact hq.1
      by_cases c1 : zis T L p 1 = true
      · rw [if_pos c1, a4]
        by_cases c4 : 0 < R 4
        · have hf := wrg_f (σ := σ) (n := 8) (a := zbb T L p)
          have e8 : n = 8 := by rw [hn, if_neg (by decide), if_neg c8, if_pos ⟨c1, c4⟩]
          rw [if_neg (show ¬ iI (R 4 : Int) ≤ 0 by rw [show (0 : Int32) = iI 0 from rfl, iI_le (by omega) (by omega) (by omega) (by omega)]; omega), zm_wrong (v := 8) (n := 8) g.1 rfl g.2.2.1, Option.bind_some]
          dsimp only
          rw [zF_pass hf.1, Option.bind_some]
          exact okS.mpr (done 8 (by omega) e8)
        · rw [if_pos (show iI (R 4 : Int) ≤ 0 by rw [show (0 : Int32) = iI 0 from rfl, iI_le (by omega) (by omega) (by omega) (by omega)]; omega)]
          exact good (by rw [hn, if_neg (by decide), if_neg c8, if_neg (fun w => c4 w.2)])
      · rw [if_neg c1]
        exact good (by rw [hn, if_neg (by decide), if_neg c8, if_neg (fun w => c1 w.1)])
end ZLI
