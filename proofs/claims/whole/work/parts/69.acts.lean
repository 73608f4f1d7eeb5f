/-! ===== acts: steps, years, cells filled, undoing, images ===== -/
section ACT2
variable {N : Nat} {R S B : Nat → Nat} {σ : Sg}
theorem WfS.sto {t : Nat} (h : WfS R S) (hc : R 0 ≤ 60) (ht : t < R 0) : WfS R (sto S t) := by
  refine ⟨fun k hk => ?_, fun k h1 h2 => ?_, ?_, ?_, ?_⟩
  · have := h.1 k hk
    have := h.1 t (by omega)
    show (if k = 61 then t else if k = t then S t - 1 else S k) ≤ 3
    rw [if_neg (by omega)]
    split <;> omega
  · show (if k = 61 then t else if k = t then S t - 1 else S k) = 0
    rw [if_neg (by omega), if_neg (by omega)]
    exact h.2.1 k h1 h2
  · show (if 60 = 61 then t else if 60 = t then S t - 1 else S 60) < R 0
    rw [if_neg (by omega), if_neg (by omega)]
    exact h.2.2.1
  · exact ht
  · show (if 62 = 61 then t else if 62 = t then S t - 1 else S 62) ≤ 999
    rw [if_neg (by omega), if_neg (by omega)]
    exact h.2.2.2.2
theorem SX.of_b {o : Nat} (hb : SB o S σ) (h1 : gI σ o 2 = iI (S 60 : Int)) (h2 : gI σ o 3 = iI (S 61 : Int)) (h3 : gI σ o 4 = iI (S 62 : Int)) : SX o S σ := ⟨hb.1, hb.2, h1, h2, h3⟩
theorem tx_wayT {y : Int} (y1 : -2147483648 ≤ y) (y2 : y < 2147483648) : f_x_wayTrouble N (iI y) σ = some (iI (if 0 ≤ y ∧ y ≤ 1 then 0 else 2), σ) := by
  unfold f_x_wayTrouble
  simp (disch := omega) only [nI_iI, iI_lit, iI_neg, iI_add, iI_sub, iI_mul, iI_lt, iI_le, iI_eq, vin_iI]
  by_cases h3 : y < 0
  · rw [if_pos h3, if_neg (by omega)]
  · rw [if_neg h3]
    by_cases h4 : y ≤ 1
    · rw [if_pos h4, if_pos (by omega)]
    · rw [if_neg h4, if_neg (by omega)]
theorem iI_dec (x : Int) : iI x + -1 = iI (x + -1) := by rw [show (-1 : Int32) = iI (-1) from rfl, iI_add]
theorem px_gr5 (N : Nat) (σ : Sg) : f_x_granted N 5 σ = some (false, sI σ 0 10 (iI 5)) := rfl
theorem px_gr3 (N : Nat) (σ : Sg) : f_x_granted N 3 σ = some (false, sI σ 0 10 (iI 3)) := rfl
theorem px_gr6 (N : Nat) (σ : Sg) : f_x_granted N 6 σ = some (false, sI σ 0 10 (iI 6)) := rfl
theorem px_gr1i (N : Nat) (σ : Sg) : f_x_granted N (iI 1) σ = some (false, sI σ 0 10 (iI 1)) := rfl
theorem px_gr2i (N : Nat) (σ : Sg) : f_x_granted N (iI 2) σ = some (false, sI σ 0 10 (iI 2)) := rfl
theorem iI10 : (iI 1 = 0) = False := eq_false (by decide)
theorem iI20 : (iI 2 = 0) = False := eq_false (by decide)
theorem pm_wayW (h : LandM R S σ) {y : Int} (y1 : -2147483648 ≤ y) (y2 : y < 2147483648) : ((f_m_in N (iI y) 0 1 σ).bind fun q2 => f_m_why N (gI σ 66 14) (b2i q2.1) q2.2) = some (iI (tN R y 1), σ) := pm_numWhy h y1 y2 (m := 1) (by omega) (by omega)
theorem sim_step (hN : 200000 ≤ N) (v : Int32) (h : Sim σ) : Both (f_x_step N v σ) (f_m_step N v) := by
  obtain ⟨R, S, B, h, hr⟩ := h
  obtain ⟨y, rfl, y1, y2⟩ := iI_of v
  have hmw : ∀ τ, LandM R S τ → f_m_in N (iI y) 0 1 τ = some (decide (0 ≤ y ∧ y ≤ 1), τ) := fun τ _ => pm_in (b := 0) (c := 1) y1 y2 (by omega) (by omega) (by omega) (by omega)
  by_cases hl : R 0 = 0
  · refine both_ref (v := -1) (t := 1) h hr (by omega) ?_ (fun τ g => ?_)
    · simp only [f_x_step, tx_land h.lx.c h.gd.c, show tL R = 1 by unfold tL; rw [if_pos hl], px_gr1, iI10, Option.bind_some, bind_ite, Bool.false_eq_true, ↓reduceIte]
      exact rx1 (t := 1)
    · simp only [f_m_step, pm_anew, hmw _ g.lm.an, g.lm.an.hasB, pm_why, f_m_no, Option.bind_some, bind_ite, Bool.false_eq_true, ↓reduceIte]
      rw [show decide (R 0 ≠ 0) = false by simp [hl], if_pos rfl, if_neg (by decide), if_neg (by decide)]
      exact rm1 (t := 1)
  · have hW := h.gd.wl hl
    have hS := h.gd.ws hl
    have hc := hW.c
    have h61 := hS.2.2.2.1
    by_cases hy : 0 ≤ y ∧ y ≤ 1
    · obtain ⟨w, rfl⟩ : ∃ b : Nat, y = (b : Int) := ⟨y.toNat, by omega⟩
      have hsx0 : SX 40 S (sI σ 0 10 0) := h.sx.tr (by decide)
      have hlx0 : LX 10 R (sI σ 0 10 0) := h.lx.tr
      by_cases hin : 0 ≤ (S 61 : Int) + (if w = 0 then 1 else -1) ∧ (S 61 : Int) + (if w = 0 then 1 else -1) < R 0
      · obtain ⟨t, ht⟩ : ∃ t : Nat, (t : Int) = (S 61 : Int) + (if w = 0 then 1 else -1) := ⟨((S 61 : Int) + (if w = 0 then 1 else -1)).toNat, by omega⟩
        rw [← ht] at hin
        obtain ⟨U, n, x, hux, hum⟩ := Und_of h.un
        have main : ok ((f_history_keep N (sI (sI σ 0 10 0) 0 10 0)).bind fun q17 => (f_state_stepTo N 40 (iI (t : Int)) q17.2).bind fun q18 => some ((gI q18.2 40 3), q18.2)) (fun z => z.1 = iI (t : Int) ∧ gI z.2 0 10 = iI 0 ∧ SX 40 (sto S t) z.2 ∧ UX R (ush U n S) (min (n + 1) 16) ((x + 1) % 16) z.2) := by
          rw [okB]
          have hsx1 : SX 40 S (sI (sI σ 0 10 0) 0 10 0) := hsx0.tr (by decide)
          refine ((px_keep (hux.tr (v := 0)).tr hsx1 hS).and (fun z => w_f_history_keep)).imp (fun q hq => ?_)
          rw [okB]
          have hsx2 := hsx1.fr hq.2 rfl
          refine ((px_stepTo hsx2.b hS.1 (show t < 60 by omega)).and (fun z => w_f_state_stepTo)).imp (fun q2 h2 => ?_)
          refine okS.mpr ⟨h2.1.2, ?_, SX.of_b h2.1.1 ?_ ?_ ?_, hq.1.fr h2.2 rfl⟩
          · rw [h2.2.I 0 10 rfl, hq.2.I 0 10 rfl]; exact gI_eq
          · rw [h2.2.I 40 2 rfl, hsx2.2.2.1]
            unfold sto
            rw [if_neg (by omega), if_neg (by omega)]
          · exact h2.1.2
          · rw [h2.2.I 40 4 rfl, hsx2.2.2.2.2]
            unfold sto
            rw [if_neg (by omega), if_neg (by omega)]
        refine both_act (Q := fun u => u = iI (t : Int)) (S' := sto S t) (U' := ush U n S) (n' := min (n + 1) 16) (x' := (x + 1) % 16) h hr (fun u v h1 h2 => h1.trans h2.symm) hl (hS.sto hc.2 (by omega)) hum ?_ (fun z => w_f_x_step) rfl (fun τ g gu _ => ?_) (fun τ y => w_f_m_step) rfl
        · simp only [f_x_step, tx_land h.lx.c h.gd.c, show tL R = 0 from tL_0.mpr hl, tx_wayT y1 y2, if_pos hy, px_gr0i, px_gr0, px_gr5, hsx0.2.2.2.1, hlx0.c, iI00, Option.bind_some, bind_ite, Bool.false_eq_true, ↓reduceIte]
          by_cases hw0 : w = 0
          · subst hw0
            rw [if_pos (show iI ((0 : Nat) : Int) = 0 from rfl), show iI (S 61 : Int) + 1 = iI (t : Int) by rw [ht]; exact iI_add _ 1]
            simp (disch := omega) only [iI_lit, iI_lt]
            rw [if_neg (by omega), if_pos (by omega)]
            exact main
          · rw [if_neg (show ¬ iI (w : Int) = 0 by rw [show (0 : Int32) = iI 0 from rfl, iI_eq (by omega) (by omega) (by omega) (by omega)]; omega), show iI (S 61 : Int) + -1 = iI (t : Int) by rw [ht, if_neg hw0]; exact iI_dec _]
            simp (disch := omega) only [iI_lit, iI_lt]
            rw [if_neg (by omega), if_pos (by omega)]
            exact main
        · have e1 := g.an.2.1.A (z := 61) 61 rfl (by omega) (by omega)
          have e2 := g.an.1.A (z := 0) 0 rfl (by omega) (by omega)
          have mm : ok ((f_m_note N (an τ)).bind fun q13 => (f_m_stepOn N 74 69 63 (iI (w : Int)) q13.2).bind fun q14 => some ((gA q14.2 74 61), q14.2)) (fun y => y.1 = iI (t : Int) ∧ gI y.2 66 11 = iI 0 ∧ AR y.2 74 63 (sto S t) ∧ UM (ush U n S) (min (n + 1) 16) y.2) := by
            rw [okB]
            refine ((pm_note hN (gu.fr an_fr rfl) hux.1 g.an.2.1).and (fun z => w_f_m_note)).imp (fun q hq => ?_)
            rw [okB]
            refine ((pm_stepOn (g.an.1.fr hq.2 rfl) (g.an.2.1.fr hq.2 rfl) (by decide) hc.2 hS.r h61 (show w ≤ 1 by omega)).and (fun z => w_f_m_stepOn)).imp (fun q2 h2 => ?_)
            rcases h2.1 with ⟨_, t', ht', _, hA⟩ | ⟨_, _, hno⟩
            · have : t' = t := by omega
              subst this
              refine okS.mpr ⟨?_, ?_, hA, hq.1.fr h2.2 rfl⟩
              · exact hA.A (z := 61) 61 rfl (by omega) (by omega)
              · rw [h2.2.I 66 11 rfl, hq.2.I 66 11 rfl]; exact an_t
            · rw [← ht] at hno
              exact absurd ⟨by omega, by omega⟩ hno
          simp only [f_m_step, pm_anew, hmw _ g.an, g.an.hasB, pm_why, f_m_no, Option.bind_some, bind_ite, Bool.false_eq_true, ↓reduceIte]
          rw [show decide (R 0 ≠ 0) = true by simp [hl], show decide (0 ≤ (w : Int) ∧ (w : Int) ≤ 1) = true by simp; omega]
          rw [if_neg (show ¬ (true = false) by decide), if_neg (show ¬ (true = false) by decide), if_pos (show iI 0 = 0 from rfl), show gA (an τ) 74 61 = iI (S 61 : Int) from e1, show gA (an τ) 69 0 = iI (R 0 : Int) from e2, show iI (R 0 : Int) - 1 = iI ((R 0 : Int) - 1) from iI_sub _ 1]
          by_cases hw0 : w = 0
          · subst hw0
            rw [if_pos (show iI ((0 : Nat) : Int) = 0 from rfl), show iI (S 61 : Int) + 1 = iI (t : Int) by rw [ht]; exact iI_add _ 1, show f_m_in N (iI (t : Int)) 0 (iI ((R 0 : Int) - 1)) (an τ) = some (true, an τ) by
              rw [show (0 : Int32) = iI 0 from rfl, pm_in (by omega) (by omega) (by omega) (by omega) (by omega) (by omega)]
              simp; omega, Option.bind_some]
            exact mm
          · rw [if_neg (show ¬ iI (w : Int) = 0 by rw [show (0 : Int32) = iI 0 from rfl, iI_eq (by omega) (by omega) (by omega) (by omega)]; omega), show iI (S 61 : Int) + -1 = iI (t : Int) by rw [ht, if_neg hw0]; exact iI_dec _, show f_m_in N (iI (t : Int)) 0 (iI ((R 0 : Int) - 1)) (an τ) = some (true, an τ) by
              rw [show (0 : Int32) = iI 0 from rfl, pm_in (by omega) (by omega) (by omega) (by omega) (by omega) (by omega)]
              simp; omega, Option.bind_some]
            exact mm
      · refine both_ref (v := -1) (t := 5) h hr (by omega) ?_ (fun τ g => ?_)
        · simp only [f_x_step, tx_land h.lx.c h.gd.c, show tL R = 0 from tL_0.mpr hl, tx_wayT y1 y2, if_pos hy, px_gr0i, px_gr0, px_gr5, hsx0.2.2.2.1, hlx0.c, iI00, Option.bind_some, bind_ite, Bool.false_eq_true, ↓reduceIte]
          by_cases hw0 : w = 0
          · subst hw0
            rw [if_pos rfl] at hin
            rw [if_pos (show iI ((0 : Nat) : Int) = 0 from rfl), show iI (S 61 : Int) + 1 = iI ((S 61 : Int) + 1) from iI_add _ 1]
            simp (disch := omega) only [iI_lit, iI_lt]
            rw [if_neg (by omega), if_neg (by omega)]
            exact rx2 (t := 5)
          · rw [if_neg hw0] at hin
            rw [if_neg (show ¬ iI (w : Int) = 0 by rw [show (0 : Int32) = iI 0 from rfl, iI_eq (by omega) (by omega) (by omega) (by omega)]; omega), show iI (S 61 : Int) + -1 = iI ((S 61 : Int) + -1) from iI_dec _]
            simp (disch := omega) only [iI_lit, iI_lt]
            rw [if_pos (by omega)]
            exact rx2 (t := 5)
        · have e1 := g.lm.an.2.1.A (z := 61) 61 rfl (by omega) (by omega)
          have e2 := g.lm.an.1.A (z := 0) 0 rfl (by omega) (by omega)
          simp only [f_m_step, pm_anew, hmw _ g.lm.an, g.lm.an.hasB, pm_why, f_m_no, Option.bind_some, bind_ite, Bool.false_eq_true, ↓reduceIte]
          rw [show decide (R 0 ≠ 0) = true by simp [hl], show decide (0 ≤ (w : Int) ∧ (w : Int) ≤ 1) = true by simp; omega]
          rw [if_neg (show ¬ (true = false) by decide), if_neg (show ¬ (true = false) by decide), if_pos (show iI 0 = 0 from rfl), show gA (an τ) 74 61 = iI (S 61 : Int) from e1, show gA (an τ) 69 0 = iI (R 0 : Int) from e2, show iI (R 0 : Int) - 1 = iI ((R 0 : Int) - 1) from iI_sub _ 1]
          by_cases hw0 : w = 0
          · subst hw0
            rw [if_pos rfl] at hin
            rw [if_pos (show iI ((0 : Nat) : Int) = 0 from rfl), show iI (S 61 : Int) + 1 = iI ((S 61 : Int) + 1) from iI_add _ 1, show f_m_in N (iI ((S 61 : Int) + 1)) 0 (iI ((R 0 : Int) - 1)) (an τ) = some (false, an τ) by
              rw [show (0 : Int32) = iI 0 from rfl, pm_in (by omega) (by omega) (by omega) (by omega) (by omega) (by omega)]
              simp; omega, Option.bind_some]
            exact rm1 (t := 5)
          · rw [if_neg hw0] at hin
            rw [if_neg (show ¬ iI (w : Int) = 0 by rw [show (0 : Int32) = iI 0 from rfl, iI_eq (by omega) (by omega) (by omega) (by omega)]; omega), show iI (S 61 : Int) + -1 = iI ((S 61 : Int) + -1) from iI_dec _, show f_m_in N (iI ((S 61 : Int) + -1)) 0 (iI ((R 0 : Int) - 1)) (an τ) = some (false, an τ) by
              rw [show (0 : Int32) = iI 0 from rfl, pm_in (by omega) (by omega) (by omega) (by omega) (by omega) (by omega)]
              simp; omega, Option.bind_some]
            exact rm1 (t := 5)
    · refine both_ref (v := -1) (t := 2) h hr (by omega) ?_ (fun τ g => ?_)
      · simp only [f_x_step, tx_land h.lx.c h.gd.c, show tL R = 0 from tL_0.mpr hl, tx_wayT y1 y2, if_neg hy, px_gr2i, iI00, Option.bind_some, bind_ite, Bool.false_eq_true, ↓reduceIte]
        exact rx1 (t := 2)
      · simp only [f_m_step, pm_anew, hmw _ g.lm.an, g.lm.an.hasB, pm_why, f_m_no, Option.bind_some, bind_ite, Bool.false_eq_true, ↓reduceIte]
        rw [show decide (R 0 ≠ 0) = true by simp [hl], show decide (0 ≤ y ∧ y ≤ 1) = false by simp; omega, if_neg (show ¬ (true = false) by decide), if_pos rfl, if_neg (show ¬ iI 2 = 0 by decide), if_neg (show ¬ iI 2 = 0 by decide)]
        exact rm1 (t := 2)
theorem cnt_yr (hc : R 0 ≤ 60) (hw : WfC R S) : cnt (gon S) 64 = cnt (gon (yr R S)) 64 + cnt (fun k => heal R S k && decide (S k = 1)) (R 0) := by
  have e1 : cnt (fun k => heal R S k && decide (S k = 1)) (R 0) = cnt (fun k => (heal R S k && decide (S k = 1)) && !gon (yr R S) k) 64 := by
    rw [← cnt_le_of (p := fun k => heal R S k && decide (S k = 1)) (m := R 0) (n := 64) (by omega) (fun k h1 h2 => by
      cases hx : heal R S k with
      | false => rfl
      | true => have := heal_pos hx; omega)]
    refine cnt_cong (fun k hk => ?_)
    cases hx : heal R S k with
    | false => rfl
    | true =>
      have h1 := heal_pos hx
      by_cases c : S k = 1
      · have : gon (yr R S) k = false := by
          unfold gon
          rw [decide_eq_false_iff_not]
          intro q
          rw [yr_lt q.1, if_pos hx] at q
          omega
        rw [this]; simp
      · simp [c]
  rw [e1, ← cnt_or]
  refine cnt_cong (fun k hk => ?_)
  rw [Bool.eq_iff_iff]
  unfold gon
  simp only [Bool.or_eq_true, Bool.and_eq_true, decide_eq_true_eq]
  by_cases c : k < 60
  · rw [yr_lt c]
    cases hx : heal R S k with
    | false => simp
    | true =>
      have h1 := heal_pos hx
      rw [if_pos rfl]
      simp only [true_and]
      omega
  · constructor
    · intro q; exact absurd q.1 c
    · rintro (q | q)
      · exact absurd q.1 c
      · have := heal_pos q.1; omega
theorem WfS.yrd (h : WfS R S) (hc : R 0 ≤ 60) (h62 : S 62 < 999) : WfS R (yr R S) := by
  have h1 := h.c.yrd
  refine ⟨h1.1, h1.2, ?_, ?_, ?_⟩
  · exact h.2.2.1
  · exact h.2.2.2.1
  · show S 62 + 1 ≤ 999
    omega
theorem sim_year (hN : 200000 ≤ N) (h : Sim σ) : Both (f_x_year N σ) (f_m_year N) := by
  obtain ⟨R, S, B, h, hr⟩ := h
  by_cases hl : R 0 = 0
  · refine both_ref (v := -1) (t := 1) h hr (by omega) ?_ (fun τ g => ?_)
    · simp only [f_x_year, tx_land h.lx.c h.gd.c, show tL R = 1 by unfold tL; rw [if_pos hl], px_gr1i, Option.bind_some, bind_ite, Bool.false_eq_true, ↓reduceIte]
      exact rx1 (t := 1)
    · simp only [f_m_year, pm_anew, g.lm.an.has, hl, f_m_no, Option.bind_some, bind_ite, Bool.false_eq_true, ↓reduceIte]
      exact rm1 (t := 1)
  · have hW := h.gd.wl hl
    have hS := h.gd.ws hl
    have hc := hW.c
    have h62 := hS.2.2.2.2
    have hsx0 : SX 40 S (sI σ 0 10 0) := h.sx.tr (by decide)
    by_cases hy : S 62 < 999
    · obtain ⟨U, n, x, hux, hum⟩ := Und_of h.un
      refine both_act (Q := fun u => u = iI (cnt (fun k => heal R S k && decide (S k = 1)) (R 0) : Int)) (S' := yr R S) (U' := ush U n S) (n' := min (n + 1) 16) (x' := (x + 1) % 16) h hr (fun u v h1 h2 => h1.trans h2.symm) hl (hS.yrd hc.2 hy) hum ?_ (fun z => w_f_x_year) rfl (fun τ g gu _ => ?_) (fun τ y => w_f_m_year) rfl
      · simp only [f_x_year, tx_land h.lx.c h.gd.c, show tL R = 0 from tL_0.mpr hl, px_gr0i, px_gr0, px_gr3, hsx0.2.2.2.2, Option.bind_some, bind_ite, Bool.false_eq_true, ↓reduceIte, px_goneCells, px_bitCount]
        rw [if_pos (show iI (S 62 : Int) < 999 by rw [show (999 : Int32) = iI 999 from rfl, iI_lt (by omega) (by omega) (by omega) (by omega)]; omega), okB]
        have hsx1 : SX 40 S (sI (sI σ 0 10 0) 0 10 0) := hsx0.tr (by decide)
        refine ((px_keep (hux.tr (v := 0)).tr hsx1 hS).and (fun z => w_f_history_keep)).imp (fun q hq => ?_)
        have hsx2 := hsx1.fr hq.2 rfl
        have hlx2 := (h.lx.tr.tr (v := 0)).fr hq.2 rfl
        rw [okB]
        refine ((px_passYear hlx2 hc.2 hsx2.b hS.c).and (fun z => w_f_state_passYear)).imp (fun q2 h2 => ?_)
        have g62 : gI q2.2 40 4 = iI (S 62 : Int) := by rw [h2.2.I 40 4 rfl]; exact hsx2.2.2.2.2
        have hb3 : SB 40 (yr R S) (sI q2.2 40 4 (gI q2.2 40 4 + 1)) := ⟨h2.1.1, h2.1.2⟩
        rw [hb3.gone hS.c.yrd.1, hsx2.b.gone hS.1]
        refine okS.mpr ⟨?_, ?_, SX.of_b hb3 ?_ ?_ ?_, (hq.1.fr h2.2 rfl).fr (W := [(40, some 4)]) (Fr.wI Fr.rf (by simp)) rfl⟩
        · show iI _ - iI _ = iI _
          rw [iI_sub, cnt_yr hc.2 hS.c]
          congr 1; omega
        · rw [gI_ne (by omega), h2.2.I 0 10 rfl, hq.2.I 0 10 rfl]; exact gI_eq
        · rw [gI_ne (by omega), h2.2.I 40 2 rfl]; exact hsx2.2.2.1
        · rw [gI_ne (by omega), h2.2.I 40 3 rfl]; exact hsx2.2.2.2.1
        · rw [gI_eq, g62]; exact iI_add _ 1
      · have e1 := g.an.2.1.A (z := 62) 62 rfl (by omega) (by omega)
        simp only [f_m_year, pm_anew, g.an.has, hl, f_m_no, Option.bind_some, bind_ite, Bool.false_eq_true, ↓reduceIte]
        rw [show gA (an τ) 74 62 = iI (S 62 : Int) from e1, if_neg (show ¬ iI (S 62 : Int) = 999 by rw [show (999 : Int32) = iI 999 from rfl, iI_eq (by omega) (by omega) (by omega) (by omega)]; omega), okB]
        refine ((pm_note hN (gu.fr an_fr rfl) hux.1 g.an.2.1).and (fun z => w_f_m_note)).imp (fun q hq => ?_)
        rw [okB]
        refine ((pm_yearOn hN (g.an.1.fr hq.2 rfl) (g.an.2.1.fr hq.2 rfl) (Or.inl rfl) hc.2 hS.c (fun k hk => hW.gd hk)).and (fun z => w_f_m_yearOn)).imp (fun q2 h2 => ?_)
        refine okS.mpr ⟨h2.1.1, ?_, h2.1.2.1, hq.1.fr h2.2 rfl⟩
        rw [h2.2.I 66 11 rfl, hq.2.I 66 11 rfl]; exact an_t
    · refine both_ref (v := -1) (t := 3) h hr (by omega) ?_ (fun τ g => ?_)
      · simp only [f_x_year, tx_land h.lx.c h.gd.c, show tL R = 0 from tL_0.mpr hl, px_gr0i, px_gr0, px_gr3, hsx0.2.2.2.2, Option.bind_some, bind_ite, Bool.false_eq_true, ↓reduceIte]
        rw [if_neg (show ¬ iI (S 62 : Int) < 999 by rw [show (999 : Int32) = iI 999 from rfl, iI_lt (by omega) (by omega) (by omega) (by omega)]; omega)]
        exact rx2 (t := 3)
      · have e1 := g.lm.an.2.1.A (z := 62) 62 rfl (by omega) (by omega)
        simp only [f_m_year, pm_anew, g.lm.an.has, hl, f_m_no, Option.bind_some, bind_ite, Bool.false_eq_true, ↓reduceIte]
        rw [show gA (an τ) 74 62 = iI (S 62 : Int) from e1, if_pos (show iI (S 62 : Int) = 999 by rw [show S 62 = 999 by omega]; rfl)]
        exact rm1 (t := 3)
def fil (S : Nat → Nat) (k : Nat) : Nat → Nat := fun j => if j = k then 0 else S j
theorem sim_fill (hN : 200000 ≤ N) (v : Int32) (h : Sim σ) : Both (f_x_fill N v σ) (f_m_fill N v) := by
  obtain ⟨R, S, B, h, hr⟩ := h
  obtain ⟨z, rfl, z1, z2⟩ := iI_of v
  by_cases ht : tC R z = 0
  · have h0 := tC_0.mp ht
    obtain ⟨k, rfl⟩ : ∃ b : Nat, z = (b : Int) := ⟨z.toNat, by omega⟩
    have hl : R 0 ≠ 0 := by omega
    have hW := h.gd.wl hl
    have hS := h.gd.ws hl
    have hc := hW.c
    have hk3 := hS.1 k (by omega)
    have hsx0 : SX 40 S (sI σ 0 10 0) := h.sx.tr (by decide)
    by_cases hz : S k = 0
    · refine both_ref (v := -1) (t := 5) h hr (by omega) ?_ (fun τ g => ?_)
      · simp only [f_x_fill, tx_cell h.lx.c h.gd.c z1 z2, ht, px_gr0i, px_gr5, px_gr0, px_depthAt hsx0.b (show k < 60 by omega) hk3, Option.bind_some, bind_ite, Bool.false_eq_true, ↓reduceIte]
        rw [hz, if_pos (show iI ((0 : Nat) : Int) = 0 from rfl)]
        exact rx2 (t := 5)
      · have e1 := g.lm.an.2.1.A (z := (k : Int)) k rfl (by omega) (by omega)
        simp only [f_m_fill, pm_anew, pm_isCell g.lm.an g.gd.c z1 z2, f_m_no, Option.bind_some, bind_ite, Bool.false_eq_true, ↓reduceIte, decide_eq_true_eq, e1]
        rw [if_pos h0, if_pos (show vin (iI (k : Int)) 63 by rw [vin_iI (by omega) (by omega)]; omega), hz, if_pos (show iI ((0 : Nat) : Int) = 0 from rfl)]
        exact rm1 (t := 5)
    · obtain ⟨U, n, x, hux, hum⟩ := Und_of h.un
      have hwf : WfS R (fil S k) := by
        refine ⟨fun j hj => ?_, fun j h1 h2 => ?_, ?_, ?_, ?_⟩
        · have := hS.1 j hj
          unfold fil; split <;> omega
        · have := hS.2.1 j h1 h2
          unfold fil; split <;> omega
        · unfold fil; rw [if_neg (by omega)]; exact hS.2.2.1
        · unfold fil; rw [if_neg (by omega)]; exact hS.2.2.2.1
        · unfold fil; rw [if_neg (by omega)]; exact hS.2.2.2.2
      refine both_act (Q := fun u => u = iI (S k : Int)) (S' := fil S k) (U' := ush U n S) (n' := min (n + 1) 16) (x' := (x + 1) % 16) h hr (fun u v h1 h2 => h1.trans h2.symm) hl hwf hum ?_ (fun z => w_f_x_fill) rfl (fun τ g gu _ => ?_) (fun τ y => w_f_m_fill) rfl
      · simp only [f_x_fill, tx_cell h.lx.c h.gd.c z1 z2, ht, px_gr0i, px_gr5, px_gr0, px_depthAt hsx0.b (show k < 60 by omega) hk3, Option.bind_some, bind_ite, Bool.false_eq_true, ↓reduceIte]
        rw [if_neg (show ¬ iI (S k : Int) = 0 by rw [show (0 : Int32) = iI 0 from rfl, iI_eq (by omega) (by omega) (by omega) (by omega)]; omega), okB]
        have hsx1 : SX 40 S (sI (sI σ 0 10 0) 0 10 0) := hsx0.tr (by decide)
        refine ((px_keep (hux.tr (v := 0)).tr hsx1 hS).and (fun z => w_f_history_keep)).imp (fun q hq => ?_)
        have hsx2 := hsx1.fr hq.2 rfl
        unfold f_state_fillUp
        simp only [px_span N (show k < 63 by omega) (show k < 63 by omega), Option.bind_some]
        refine okS.mpr ⟨rfl, ?_, ⟨fun j => ?_, fun j => ?_, ?_, ?_, ?_⟩, hq.1.fr (W := [(40, some 0), (40, some 1)]) (Fr.wL (Fr.wL Fr.rf (by simp)) (by simp)) rfl⟩
        · rw [gI_sLx, gI_sLx, hq.2.I 0 10 rfl]; exact gI_eq
        · rw [gL_ne (by omega), gL_eq, tb_and, tb_nt, tb_spn (by omega) (by omega), hsx2.1]
          rw [Bool.eq_iff_iff]
          simp only [Bool.and_eq_true, Bool.not_eq_true', decide_eq_true_eq, decide_eq_false_iff_not]
          by_cases c : j = k
          · rw [show fil S k j = 0 from if_pos c]; omega
          · rw [show fil S k j = S j from if_neg c]; omega
        · rw [gL_eq, gL_ne (by omega), tb_and, tb_nt, tb_spn (by omega) (by omega), hsx2.2.1]
          rw [Bool.eq_iff_iff]
          simp only [Bool.and_eq_true, Bool.not_eq_true', decide_eq_true_eq, decide_eq_false_iff_not]
          by_cases c : j = k
          · rw [show fil S k j = 0 from if_pos c]; omega
          · rw [show fil S k j = S j from if_neg c]; omega
        · rw [gI_sLx, gI_sLx, show fil S k 60 = S 60 from if_neg (by omega)]; exact hsx2.2.2.1
        · rw [gI_sLx, gI_sLx, show fil S k 61 = S 61 from if_neg (by omega)]; exact hsx2.2.2.2.1
        · rw [gI_sLx, gI_sLx, show fil S k 62 = S 62 from if_neg (by omega)]; exact hsx2.2.2.2.2
      · have e1 := g.an.2.1.A (z := (k : Int)) k rfl (by omega) (by omega)
        simp only [f_m_fill, pm_anew, pm_isCell g.an h.gd.c z1 z2, f_m_no, Option.bind_some, bind_ite, Bool.false_eq_true, ↓reduceIte, decide_eq_true_eq, e1]
        have hv : vin (iI (k : Int)) 63 := by rw [vin_iI (by omega) (by omega)]; omega
        rw [if_pos h0, if_pos hv, if_neg (show ¬ iI (S k : Int) = 0 by rw [show (0 : Int32) = iI 0 from rfl, iI_eq (by omega) (by omega) (by omega) (by omega)]; omega), okB]
        refine ((pm_note hN (gu.fr an_fr rfl) hux.1 g.an.2.1).and (fun z => w_f_m_note)).imp (fun q hq => ?_)
        have hA := g.an.2.1.fr hq.2 rfl
        rw [if_pos hv, if_pos hv, show (0 : Int32) = iI 0 from rfl]
        refine okS.mpr ⟨hA.A (z := (k : Int)) k rfl (by omega) (by omega), ?_, hA.set (z := (k : Int)) (v := 0) k rfl (by omega) (fun j hj => ?_), hq.1.fr (W := [(74, none)]) (Fr.wA Fr.rf (by simp)) rfl⟩
        · show gI (sI q.2 74 _ _) 66 11 = _
          rw [gI_ne (by omega), hq.2.I 66 11 rfl]; exact an_t
        · by_cases c : j = k
          · rw [show fil S k j = 0 from if_pos c, if_pos c]; rfl
          · rw [show fil S k j = S j from if_neg c, if_neg c]
  · have hr3 := tC_3 (R := R) (z := z)
    refine both_ref (v := -1) (t := tC R z) h hr (by omega) ?_ (fun τ g => ?_)
    · simp only [f_x_fill, tx_cell h.lx.c h.gd.c z1 z2, px_gr N tC_r, Option.bind_some, bind_ite, Bool.false_eq_true, ↓reduceIte, if_neg ht]
      exact rx1 (t := tC R z)
    · have h0 : ¬ (0 ≤ z ∧ z < R 0) := fun q => ht (tC_0.mpr q)
      simp only [f_m_fill, pm_anew, pm_isCell g.lm.an g.gd.c z1 z2, f_m_no, Option.bind_some, bind_ite, Bool.false_eq_true, ↓reduceIte, decide_eq_true_eq, if_neg h0]
      rw [show tC R z = 1 by unfold tC; rw [if_neg h0]]
      exact rm1 (t := 1)
theorem px_takeBack {U : Nat → Nat → Nat} {n x : Nat} (h : UX R U n x σ) (hn : n ≠ 0) : ok (f_history_takeBack N σ) (fun z => z.1 = true ∧ SX 40 (U (n - 1)) z.2 ∧ UX R U (n - 1) ((x + 15) % 16) z.2) := by
  obtain ⟨u1, u2, u3, u4, u5⟩ := h
  unfold f_history_takeBack
  have gx : (gI σ 42 1 + 16 - 1) - (gI σ 42 1 + 16 - 1) / 16 * 16 = iI (((x + 15) % 16 : Nat) : Int) := by
    rw [u4, show iI (x : Int) + 16 - 1 = iI ((x : Int) + 15) by rw [show (16 : Int32) = iI 16 from rfl, show (1 : Int32) = iI 1 from rfl, iI_add, iI_sub]; congr 1; omega]
    exact (iI_rem (b := 16) (by omega) (by omega) (by omega) (by omega)).trans (by congr 1)
  rw [u3, if_neg (show ¬ iI (n : Int) = 0 by rw [show (0 : Int32) = iI 0 from rfl, iI_eq (by omega) (by omega) (by omega) (by omega)]; omega), gx]
  have g2 : gI (sI σ 42 1 (iI (((x + 15) % 16 : Nat) : Int))) 42 2 - 1 = iI ((n - 1 : Nat) : Int) := by
    rw [gI_ne (by omega), u3, show iI (n : Int) - 1 = iI ((n : Int) - 1) from iI_sub _ 1]; congr 1; omega
  rw [g2]
  have hf : Fr [(42, some 1), (42, some 2)] σ (sI (sI σ 42 1 (iI (((x + 15) % 16 : Nat) : Int))) 42 2 (iI ((n - 1 : Nat) : Int))) := Fr.wI (Fr.wI Fr.rf (by simp)) (by simp)
  have g1 : gI (sI (sI σ 42 1 (iI (((x + 15) % 16 : Nat) : Int))) 42 2 (iI ((n - 1 : Nat) : Int))) 42 1 = iI (((x + 15) % 16 : Nat) : Int) := by rw [gI_ne (by omega), gI_eq]
  have g3 : gI (sI (sI σ 42 1 (iI (((x + 15) % 16 : Nat) : Int))) 42 2 (iI ((n - 1 : Nat) : Int))) 42 2 = iI ((n - 1 : Nat) : Int) := gI_eq
  rw [g1]
  generalize sI (sI σ 42 1 (iI (((x + 15) % 16 : Nat) : Int))) 42 2 (iI ((n - 1 : Nat) : Int)) = τ at hf g1 g3 ⊢
  have h5 := (u5 (n - 1) (by omega)).2.fr hf rfl
  rw [show (x + 16 - n + (n - 1)) % 16 = (x + 15) % 16 by omega] at h5
  rw [okB]
  refine ((px_shelfFetch (c := 44) (cap := 16) (Or.inl rfl) (by omega) (by omega) h5).and (fun z => w_f_shelf_fetch)).imp (fun q hq => okS.mpr ⟨rfl, hq.1, by omega, by omega, ?_, ?_, fun i hi => ⟨(u5 i (by omega)).1, ?_⟩⟩)
  · rw [hq.2.I 42 2 rfl]; exact g3
  · rw [hq.2.I 42 1 rfl]; exact g1
  · have := ((u5 i (by omega)).2.fr hf rfl).fr hq.2 rfl
    rw [show ((x + 15) % 16 + 16 - (n - 1) + i) % 16 = (x + 16 - n + i) % 16 by omega]
    exact this
theorem UX.fewer {U : Nat → Nat → Nat} {n x : Nat} (h : UX R U n x σ) : n ≠ 0 → R 0 ≠ 0 := fun hn => by
  have := (h.2.2.2.2 0 (by omega)).1.2.2.1
  omega
theorem sim_undo (hN : 200000 ≤ N) (h : Sim σ) : Both (f_x_undo N σ) (f_m_undo N) := by
  obtain ⟨R, S, B, h, hr⟩ := h
  obtain ⟨U, n, x, hux, hum⟩ := Und_of h.un
  by_cases hn : n = 0
  · subst hn
    refine both_refF (v := false) (t := 6) h hr (by omega) ?_ (fun τ g => ?_)
    · simp only [f_x_undo, f_history_takeBack, hux.2.2.1]
      rw [if_pos (show iI ((0 : Nat) : Int) = 0 from rfl), Option.bind_some]
      exact okS.mpr ⟨rfl, gI_eq, Fr.wI Fr.rf (by simp)⟩
    · have hu := (hum.fr g rfl).fr an_fr rfl
      simp only [f_m_undo, pm_anew, f_m_isNot, Option.bind_some, hu.1]
      rw [if_pos (show iI ((0 : Nat) : Int) = 0 from rfl)]
      exact okS.mpr ⟨rfl, gI_eq, Fr.wI an_fr (by simp)⟩
  · have hl := hux.fewer hn
    have n16 := hux.1
    refine both_act (Q := fun u => u = true) (S' := U (n - 1)) (U' := U) (n' := n - 1) (x' := (x + 15) % 16) h hr (fun u v h1 h2 => h1.trans h2.symm) hl (hux.2.2.2.2 (n - 1) (by omega)).1 hum ?_ (fun z => w_f_x_undo) rfl (fun τ g gu _ => ?_) (fun τ y => w_f_m_undo) rfl
    · unfold f_x_undo
      rw [okB]
      refine (px_takeBack hux hn).imp (fun q hq => ?_)
      rw [hq.1, if_pos rfl, px_gr0, Option.bind_some]
      exact okS.mpr ⟨rfl, gI_eq, hq.2.1.tr (by decide), hq.2.2.tr⟩
    · have hu := gu.fr an_fr rfl
      simp only [f_m_undo, pm_anew, hu.1]
      rw [if_neg (show ¬ iI (n : Int) = 0 by rw [show (0 : Int32) = iI 0 from rfl, iI_eq (by omega) (by omega) (by omega) (by omega)]; omega), gI_eq, show iI (n : Int) - 1 = iI ((n - 1 : Nat) : Int) by rw [show (1 : Int32) = iI 1 from rfl, iI_sub]; congr 1; omega, show (63 : Int32) * iI ((n - 1 : Nat) : Int) = iI ((63 * (n - 1) : Nat) : Int) from iI_mul 63 _, show (63 : Int32) = iI ((63 : Nat) : Int) from rfl, show (0 : Int32) = iI ((0 : Nat) : Int) from rfl, okB]
      refine ((pm_copy (N := N) (a0 := 1008) (a1 := 63) (a2 := 74) (a3 := 76) (p := 63 * (n - 1)) (q := 0) (m := 63) (σ := sI (an τ) 66 24 (iI ((n - 1 : Nat) : Int))) hN (by decide) (by omega) (by omega) (by decide) (by decide)).and (fun z => w_f_m_copy)).imp (fun q hq => okS.mpr ⟨rfl, ?_, fun k hk => ?_, ?_, fun i hi k hk => ?_⟩)
      · rw [hq.2.I 66 11 rfl, gI_ne (by omega)]; exact an_t
      · rw [hq.1 k, if_pos (by omega), gI_ne (by omega), show 63 * (n - 1) + (k - 0) = 63 * (n - 1) + k by omega]
        exact hu.2 (n - 1) (by omega) k hk
      · rw [hq.2.I 66 24 rfl]; exact gI_eq
      · rw [hq.2.I 76 _ rfl, gI_ne (by omega)]
        exact hu.2 i (by omega) k hk
def IX (R : Nat → Nat) (K : Nat → Nat → Nat) (n : Nat) (σ : Sg) : Prop := n ≤ 3 ∧ gI σ 0 6 = iI (n : Int) ∧ ∀ i, i < n → WfS R (K i) ∧ ShX 50 i (K i) σ
def IM (K : Nat → Nat → Nat) (n : Nat) (σ : Sg) : Prop := gI σ 66 25 = iI (n : Int) ∧ ∀ i, i < n → ∀ k, k < 63 → gI σ 77 (63 * i + k) = iI (K i k : Int)
theorem Img_of (h : Img R σ) : ∃ K n, IX R K n σ ∧ IM K n σ := by
  obtain ⟨K, n, h1, h2, h3, h4⟩ := h
  exact ⟨K, n, ⟨h1, h2, fun i hi => ⟨(h4 i hi).1, (h4 i hi).2.1⟩⟩, h3, fun i hi => (h4 i hi).2.2⟩
theorem Img_mk {K : Nat → Nat → Nat} {n : Nat} (h : IX R K n σ) (h2 : IM K n σ) : Img R σ := ⟨K, n, h.1, h.2.1, h2.1, fun i hi => ⟨(h.2.2 i hi).1, (h.2.2 i hi).2, h2.2 i hi⟩⟩
theorem IX.fr {K : Nat → Nat → Nat} {n : Nat} {τ : Sg} {W : WL} (h : IX R K n σ) (f : Fr W σ τ) (hw : dis W [(0, some 6), (50, none), (51, none), (52, none), (53, none), (54, none)] = true) : IX R K n τ := by
  refine ⟨h.1, ?_, fun i hi => ⟨(h.2.2 i hi).1, (h.2.2 i hi).2.fr f (dis_sub hw rfl)⟩⟩
  rw [f.dI hw (by simp)]; exact h.2.1
theorem IM.fr {K : Nat → Nat → Nat} {n : Nat} {τ : Sg} {W : WL} (h : IM K n σ) (f : Fr W σ τ) (hw : dis W [(66, some 25), (77, none)] = true) : IM K n τ := by
  refine ⟨?_, fun i hi k hk => ?_⟩
  · rw [f.dI hw (by simp)]; exact h.1
  · rw [f.dI hw (by simp)]; exact h.2 i hi k hk
def keepXi : WL := lxW ++ [(1, some 1), (1, some 12), (1, some 13), (2, none), (10, some 2), (10, some 14), (40, none), (42, some 1), (42, some 2), (44, none), (45, none), (46, none), (47, none), (48, none), (55, some 7), (55, some 8), (55, some 9), (56, none), (57, none), (58, none), (59, none), (60, none), (61, none), (66, some 2), (66, some 9), (66, some 10), (66, some 14), (66, some 24), (66, some 25), (67, none), (69, none), (71, none), (74, none), (76, none), (77, none)]
def keepMi : WL := lxW ++ [(0, some 6), (0, some 10), (1, some 1), (1, some 12), (1, some 13), (2, none), (10, some 2), (10, some 14), (40, none), (42, some 1), (42, some 2), (44, none), (45, none), (46, none), (47, none), (48, none), (50, none), (51, none), (52, none), (53, none), (54, none), (55, some 7), (55, some 8), (55, some 9), (56, none), (57, none), (58, none), (59, none), (60, none), (61, none), (66, some 2), (66, some 9), (66, some 10), (66, some 14), (66, some 24), (67, none), (69, none), (71, none), (74, none), (76, none)]
theorem sim_image (hN : 200000 ≤ N) (h : Sim σ) : Both (f_x_image N σ) (f_m_image N) := by
  obtain ⟨R, S, B, h, hr⟩ := h
  obtain ⟨K, n, hix, him⟩ := Img_of h.im
  have hn3 := hix.1
  by_cases hl : R 0 = 0
  · refine both_ref (v := -1) (t := 1) h hr (by omega) ?_ (fun τ g => ?_)
    · simp only [f_x_image, tx_land h.lx.c h.gd.c, show tL R = 1 by unfold tL; rw [if_pos hl], px_gr1, iI10, Option.bind_some, bind_ite, Bool.false_eq_true, ↓reduceIte]
      exact rx1 (t := 1)
    · simp only [f_m_image, pm_anew, g.lm.an.has, hl, f_m_no, Option.bind_some, bind_ite, Bool.false_eq_true, ↓reduceIte]
      exact rm1 (t := 1)
  · have hS := h.gd.ws hl
    by_cases hn : n = 3
    · refine both_refF (v := -1) (t := 3) h hr (by omega) ?_ (fun τ g => ?_)
      · simp only [f_x_image, tx_land h.lx.c h.gd.c, show tL R = 0 from tL_0.mpr hl, px_gr0, px_gr3, iI00, hix.2.1, Option.bind_some, bind_ite, Bool.false_eq_true, ↓reduceIte]
        rw [hn, if_neg (show ¬ iI ((3 : Nat) : Int) < 3 by decide)]
        exact rx1 (t := 3)
      · have hi := (him.fr g rfl).fr an_fr rfl
        have hlm := (h.lm.fr g rfl).an
        simp only [f_m_image, pm_anew, hlm.has, hl, f_m_no, Option.bind_some, bind_ite, Bool.false_eq_true, ↓reduceIte, hi.1]
        rw [hn, if_pos (show iI ((3 : Nat) : Int) = 3 from rfl)]
        exact rm1 (t := 3)
    · have K' : ∃ K', K' = fun i => if i = n then S else K i := ⟨_, rfl⟩
      obtain ⟨K', hK⟩ := K'
      have hx : ok (f_x_image N σ) (fun z => z.1 = iI (n : Int) ∧ gI z.2 0 10 = iI 0 ∧ IX R K' (n + 1) z.2) := by
        simp only [f_x_image, tx_land h.lx.c h.gd.c, show tL R = 0 from tL_0.mpr hl, px_gr0, px_gr3, iI00, hix.2.1, Option.bind_some, bind_ite, Bool.false_eq_true, ↓reduceIte]
        rw [if_pos (show iI (n : Int) < 3 by rw [show (3 : Int32) = iI 3 from rfl, iI_lt (by omega) (by omega) (by omega) (by omega)]; omega), okB]
        have hi0 : IX R K n (sI σ 0 10 0) := hix.fr (W := [(0, some 10)]) (Fr.wI Fr.rf (by simp)) rfl
        rw [hi0.2.1]
        refine ((px_shelfKeep (c := 50) (cap := 3) (j := n) (Or.inr rfl) (by omega) (by omega) (h.sx.tr (v := 0) (by decide))).and (fun z => w_f_shelf_keep)).imp (fun q hq => ?_)
        have g6 : gI q.2 0 6 = iI (n : Int) := by rw [hq.2.I 0 6 rfl]; exact hi0.2.1
        have hT : ∀ (j : Nat) (T : Nat → Nat), ShX 50 j T q.2 → ShX 50 j T (sI q.2 0 6 (gI q.2 0 6 + 1)) := fun j T hT => hT.fr (W := [(0, some 6)]) (Fr.wI Fr.rf (by simp)) rfl
        refine okS.mpr ⟨?_, ?_, by omega, ?_, fun i hi => ?_⟩
        · rw [gI_eq, g6, show iI (n : Int) + 1 - 1 = iI ((n : Int) + 1 - 1) by rw [show (1 : Int32) = iI 1 from rfl, iI_add, iI_sub]]; exact congrArg iI (by omega)
        · rw [gI_ne (by omega), hq.2.I 0 10 rfl]; exact gI_eq
        · rw [gI_eq, g6]; exact iI_add _ 1
        · rw [hK]
          dsimp only
          by_cases c : i = n
          · rw [if_pos c, c]
            exact ⟨hS, hT _ _ hq.1.1⟩
          · rw [if_neg c]
            exact ⟨(hi0.2.2 i (by omega)).1, hT _ _ (hq.1.2 _ _ c (hi0.2.2 i (by omega)).2)⟩
      have hm : ∀ τ, LandM R S τ → IM K n τ → ok (f_m_image N τ) (fun y => y.1 = iI (n : Int) ∧ gI y.2 66 11 = iI 0 ∧ IM K' (n + 1) y.2) := fun τ g gi => by
        have hi := gi.fr an_fr rfl
        simp only [f_m_image, pm_anew, g.an.has, hl, f_m_no, Option.bind_some, bind_ite, Bool.false_eq_true, ↓reduceIte, hi.1]
        rw [if_neg (show ¬ iI (n : Int) = 3 by rw [show (3 : Int32) = iI 3 from rfl, iI_eq (by omega) (by omega) (by omega) (by omega)]; omega), show (63 : Int32) * iI (n : Int) = iI ((63 * n : Nat) : Int) from iI_mul 63 _, show (63 : Int32) = iI ((63 : Nat) : Int) from rfl, show (0 : Int32) = iI ((0 : Nat) : Int) from rfl, okB]
        refine ((pm_copy (N := N) (a0 := 63) (a1 := 189) (a2 := 77) (a3 := 74) (p := 0) (q := 63 * n) (m := 63) (σ := an τ) hN (by decide) (by omega) (by omega) (by decide) (by decide)).and (fun z => w_f_m_copy)).imp (fun q hq => ?_)
        have g6 : gI q.2 66 25 = iI (n : Int) := by rw [hq.2.I 66 25 rfl]; exact hi.1
        refine okS.mpr ⟨?_, ?_, ?_, fun i hi2 k hk => ?_⟩
        · rw [gI_eq, g6, show iI (n : Int) + 1 - 1 = iI ((n : Int) + 1 - 1) by rw [show (1 : Int32) = iI 1 from rfl, iI_add, iI_sub]]; exact congrArg iI (by omega)
        · rw [gI_ne (by omega), hq.2.I 66 11 rfl]; exact an_t
        · rw [gI_eq, g6]; exact iI_add _ 1
        · rw [gI_ne (by omega), hq.1, hK]
          dsimp only
          by_cases c : i = n
          · rw [if_pos (show 63 * n ≤ 63 * i + k ∧ 63 * i + k < 63 * n + 63 by omega), if_pos c, show 0 + (63 * i + k - 63 * n) = k by omega]
            exact g.an.2.1 k hk
          · rw [if_neg (show ¬ (63 * n ≤ 63 * i + k ∧ 63 * i + k < 63 * n + 63) by omega), if_neg c]
            exact hi.2 i (by omega) k hk
      refine (hx.and (fun z => w_f_x_image)).imp (fun z hz => ?_)
      have dx : dis [(0, some 6), (0, some 10), (50, none), (51, none), (52, none), (53, none), (54, none)] keepXi = true := rfl
      have dm : dis [(66, some 0), (66, some 11), (66, some 25), (77, none)] keepMi = true := rfl
      have hlm := h.lm.fr hz.2 (dis_sub dx rfl)
      have him' := him.fr hz.2 (dis_sub dx rfl)
      refine ((hm _ hlm him').and (fun y => w_f_m_image)).imp (fun y hy => ⟨hz.1.1.trans hy.1.1.symm, R, S, B, ⟨h.gd, (h.lx.fr hz.2 (dis_sub dx rfl)).fr hy.2 (dis_sub dm rfl), (h.sx.fr hz.2 (dis_sub dx rfl)).fr hy.2 (dis_sub dm rfl), hlm.fr hy.2 (dis_sub dm rfl), (h.bg.fr hz.2 (dis_sub dx rfl)).fr hy.2 (dis_sub dm rfl), (h.un.fr hz.2 (dis_sub dx rfl)).fr hy.2 (dis_sub dm rfl), Img_mk (hz.1.2.2.fr hy.2 (dis_sub dm rfl)) hy.1.2.2, (h.tp.fr hz.2 (dis_sub dx rfl)).fr hy.2 (dis_sub dm rfl), (h.ca.fr hz.2 (dis_sub dx rfl)).fr hy.2 (dis_sub dm rfl)⟩, ?_⟩)
      refine Trb.of (t := 0) ?_ hy.1.2.1 (by omega) ?_
      · rw [hy.2.dI dm (i := 0) (k := 10) (Or.inl (List.elem_iff.mp rfl))]; exact hz.1.2.1
      · rw [hy.2.dI dm (i := 1) (k := 12) (Or.inl (List.elem_iff.mp rfl)), hy.2.dI dm (i := 66) (k := 9) (Or.inl (List.elem_iff.mp rfl)), hz.2.dI dx (i := 1) (k := 12) (Or.inl (List.elem_iff.mp rfl)), hz.2.dI dx (i := 66) (k := 9) (Or.inl (List.elem_iff.mp rfl))]
        exact hr.2.1
theorem sim_back (hN : 200000 ≤ N) (v : Int32) (h : Sim σ) : Both (f_x_back N v σ) (f_m_back N v) := by
  obtain ⟨R, S, B, h, hr⟩ := h
  obtain ⟨z, rfl, z1, z2⟩ := iI_of v
  obtain ⟨K, n, hix, him⟩ := Img_of h.im
  have hn3 := hix.1
  by_cases hz : 0 ≤ z ∧ z < n
  · obtain ⟨j, rfl⟩ : ∃ b : Nat, z = (b : Int) := ⟨z.toNat, by omega⟩
    have hj : j < n := by omega
    obtain ⟨U, u, x, hux, hum⟩ := Und_of h.un
    have hw := hix.2.2 j hj
    have hl : R 0 ≠ 0 := by have := hw.1.2.2.1; omega
    refine both_act (Q := fun u => u = true) (S' := K j) (U' := U) (n' := 0) (x' := x) h hr (fun u v h1 h2 => h1.trans h2.symm) hl hw.1 hum ?_ (fun z => w_f_x_back) rfl (fun τ g gu hf => ?_) (fun τ y => w_f_m_back) rfl
    · unfold f_x_back
      rw [if_neg (show ¬ iI (j : Int) < 0 by rw [show (0 : Int32) = iI 0 from rfl, iI_lt (by omega) (by omega) (by omega) (by omega)]; omega), hix.2.1, show b2i (decide (¬ iI (j : Int) < iI (n : Int))) = 0 by rw [decide_eq_false (by rw [iI_lt (by omega) (by omega) (by omega) (by omega)]; omega)]; rfl, px_gr0, Option.bind_some]
      dsimp only
      rw [if_pos rfl, okB]
      have hi0 : ShX 50 j (K j) (sI σ 0 10 0) := hw.2.fr (W := [(0, some 10)]) (Fr.wI Fr.rf (by simp)) rfl
      refine ((px_shelfFetch (c := 50) (cap := 3) (Or.inr rfl) (by omega) (by omega) hi0).and (fun z => w_f_shelf_fetch)).imp (fun q hq => ?_)
      unfold f_history_forget
      rw [Option.bind_some]
      refine okS.mpr ⟨rfl, ?_, hq.1.fr (W := [(42, some 2)]) (Fr.wI Fr.rf (by simp)) rfl, by omega, hux.2.1, gI_eq, ?_, fun i hi => by omega⟩
      · rw [gI_ne (by omega), hq.2.I 0 10 rfl]; exact gI_eq
      · rw [gI_ne (by omega), hq.2.I 42 1 rfl, gI_ne (by omega)]; exact hux.2.2.2.1
    · have hi := (him.fr hf rfl).fr an_fr rfl
      simp only [f_m_back, pm_anew, hi.1]
      rw [show iI (n : Int) - 1 = iI ((n : Int) - 1) from iI_sub _ 1, show f_m_in N (iI (j : Int)) 0 (iI ((n : Int) - 1)) (an τ) = some (true, an τ) by
        rw [show (0 : Int32) = iI 0 from rfl, pm_in (by omega) (by omega) (by omega) (by omega) (by omega) (by omega)]
        simp; omega, Option.bind_some]
      dsimp only
      rw [if_pos rfl, show (63 : Int32) * iI (j : Int) = iI ((63 * j : Nat) : Int) from iI_mul 63 _, show (63 : Int32) = iI ((63 : Nat) : Int) from rfl, show (0 : Int32) = iI ((0 : Nat) : Int) from rfl, okB]
      refine ((pm_copy (N := N) (a0 := 189) (a1 := 63) (a2 := 74) (a3 := 77) (p := 63 * j) (q := 0) (m := 63) (σ := an τ) hN (by decide) (by omega) (by omega) (by decide) (by decide)).and (fun z => w_f_m_copy)).imp (fun q hq => okS.mpr ⟨rfl, ?_, fun k hk => ?_, gI_eq, fun i hi => by omega⟩)
      · rw [gI_ne (by omega), hq.2.I 66 11 rfl]; exact an_t
      · rw [gI_ne (by omega), hq.1 k, if_pos (by omega), show 63 * j + (k - 0) = 63 * j + k by omega]
        exact hi.2 j hj k hk
  · refine both_refF (v := false) (t := 1) h hr (by omega) ?_ (fun τ g => ?_)
    · unfold f_x_back
      by_cases c : z < 0
      · rw [if_pos (show iI z < 0 by rw [show (0 : Int32) = iI 0 from rfl, iI_lt (by omega) (by omega) (by omega) (by omega)]; omega), px_gr1, Option.bind_some]
        exact okS.mpr ⟨rfl, gI_eq, Fr.wI Fr.rf (by simp)⟩
      · rw [if_neg (show ¬ iI z < 0 by rw [show (0 : Int32) = iI 0 from rfl, iI_lt (by omega) (by omega) (by omega) (by omega)]; omega), hix.2.1, show b2i (decide (¬ iI z < iI (n : Int))) = 1 by rw [decide_eq_true (by rw [iI_lt (by omega) (by omega) (by omega) (by omega)]; omega)]; rfl, px_gr1, Option.bind_some]
        exact okS.mpr ⟨rfl, gI_eq, Fr.wI Fr.rf (by simp)⟩
    · have hi := (him.fr g rfl).fr an_fr rfl
      simp only [f_m_back, pm_anew, f_m_isNot, hi.1]
      rw [show iI (n : Int) - 1 = iI ((n : Int) - 1) from iI_sub _ 1, show f_m_in N (iI z) 0 (iI ((n : Int) - 1)) (an τ) = some (false, an τ) by
        rw [show (0 : Int32) = iI 0 from rfl, pm_in (by omega) (by omega) (by omega) (by omega) (by omega) (by omega)]
        simp; omega, Option.bind_some]
      exact okS.mpr ⟨rfl, gI_eq, Fr.wI an_fr (by simp)⟩
end ACT2
