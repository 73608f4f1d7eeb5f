/-! ===== acts ===== -/
def keepX : WL := lxW ++ [(0, some 6), (1, some 1), (1, some 12), (1, some 13), (2, none), (10, some 2), (10, some 14), (50, none), (51, none), (52, none), (53, none), (54, none), (55, some 7), (55, some 8), (55, some 9), (56, none), (57, none), (58, none), (59, none), (60, none), (61, none), (66, some 2), (66, some 9), (66, some 10), (66, some 14), (66, some 24), (66, some 25), (67, none), (69, none), (71, none), (74, none), (76, none), (77, none)]
def keepM : WL := lxW ++ [(0, some 6), (0, some 10), (1, some 1), (1, some 12), (1, some 13), (2, none), (10, some 2), (10, some 14), (40, none), (42, some 1), (42, some 2), (44, none), (45, none), (46, none), (47, none), (48, none), (50, none), (51, none), (52, none), (53, none), (54, none), (55, some 7), (55, some 8), (55, some 9), (56, none), (57, none), (58, none), (59, none), (60, none), (61, none), (66, some 2), (66, some 9), (66, some 10), (66, some 14), (66, some 25), (67, none), (69, none), (71, none), (77, none)]
theorem both_act {α : Type} {fx : Option (α × Sg)} {fm : Sg → Option (α × Sg)} {Wx Wm : WL} {R S S' B : Nat → Nat} {U U' : Nat → Nat → Nat} {n n' x' : Nat} {σ : Sg} {Q : α → Prop} (h : Sim0 R S B σ) (hr : Trb σ) (hq : ∀ u v, Q u → Q v → u = v) (hl : R 0 ≠ 0) (hs : WfS R S') (hum : UM U n σ)
    (hx : ok fx (fun z => Q z.1 ∧ gI z.2 0 10 = iI 0 ∧ SX 40 S' z.2 ∧ UX R U' n' x' z.2)) (wx : ∀ z, fx = some z → Fr Wx σ z.2) (dx : dis Wx keepX = true)
    (hm : ∀ τ, LandM R S τ → UM U n τ → Fr Wx σ τ → ok (fm τ) (fun y => Q y.1 ∧ gI y.2 66 11 = iI 0 ∧ AR y.2 74 63 S' ∧ UM U' n' y.2)) (wm : ∀ τ y, fm τ = some y → Fr Wm τ y.2) (dm : dis Wm keepM = true) : Both fx fm := by
  refine (hx.and wx).imp (fun z hz => ?_)
  have hlm := h.lm.fr hz.2 (dis_sub dx rfl)
  have hum' := hum.fr hz.2 (dis_sub dx rfl)
  have him := h.im.fr hz.2 (dis_sub dx rfl)
  refine ((hm _ hlm hum' hz.2).and (wm _)).imp (fun y hy => ⟨hq _ _ hz.1.1 hy.1.1, R, S', B, ⟨Or.inl ⟨h.gd.wl hl, hs⟩, (h.lx.fr hz.2 (dis_sub dx rfl)).fr hy.2 (dis_sub dm rfl), hz.1.2.2.1.fr hy.2 (dis_sub dm rfl), ⟨hlm.1.fr hy.2 (dis_sub dm rfl), hy.1.2.2.1, ?_⟩, (h.bg.fr hz.2 (dis_sub dx rfl)).fr hy.2 (dis_sub dm rfl), Und_mk (hz.1.2.2.2.fr hy.2 (dis_sub dm rfl)) hy.1.2.2.2, him.fr hy.2 (dis_sub dm rfl), (h.tp.fr hz.2 (dis_sub dx rfl)).fr hy.2 (dis_sub dm rfl), (h.ca.fr hz.2 (dis_sub dx rfl)).fr hy.2 (dis_sub dm rfl)⟩, ?_⟩)
  · rw [hy.2.dI dm (i := 66) (k := 14) (Or.inl (List.elem_iff.mp rfl))]; exact hlm.2.2
  · refine Trb.of (t := 0) ?_ hy.1.2.1 (by omega) ?_
    · rw [hy.2.dI dm (i := 0) (k := 10) (Or.inl (List.elem_iff.mp rfl))]; exact hz.1.2.1
    · rw [hy.2.dI dm (i := 1) (k := 12) (Or.inl (List.elem_iff.mp rfl)), hy.2.dI dm (i := 66) (k := 9) (Or.inl (List.elem_iff.mp rfl)), hz.2.dI dx (i := 1) (k := 12) (Or.inl (List.elem_iff.mp rfl)), hz.2.dI dx (i := 66) (k := 9) (Or.inl (List.elem_iff.mp rfl))]
      exact hr.2.1
theorem both_ref {α : Type} {fx : Option (α × Sg)} {fm : Sg → Option (α × Sg)} {R S B : Nat → Nat} {σ : Sg} {v : α} {t : Int} (h : Sim0 R S B σ) (hr : Trb σ) (ht : 0 ≤ t ∧ t ≤ 6 ∧ t ≠ 4)
    (hx : ok fx (fun z => z.1 = v ∧ gI z.2 0 10 = iI t ∧ Fr [(0, some 10)] σ z.2)) (hm : ∀ τ, Sim0 R S B τ → ok (fm τ) (fun y => y.1 = v ∧ gI y.2 66 11 = iI t ∧ Fr [(66, some 0), (66, some 11)] τ y.2)) : Both fx fm := by
  refine hx.imp (fun z hz => ?_)
  have hs := h.fr hz.2.2 rfl
  refine (hm _ hs).imp (fun y hy => ⟨hz.1.trans hy.1.symm, R, S, B, hs.fr hy.2.2 rfl, ?_⟩)
  refine Trb.of (t := t) ((hy.2.2.I 0 10 rfl).trans hz.2.1) hy.2.1 ht ?_
  rw [hy.2.2.I 1 12 rfl, hy.2.2.I 66 9 rfl, hz.2.2.I 1 12 rfl, hz.2.2.I 66 9 rfl]
  exact hr.2.1
theorem px_gr0i (N : Nat) (σ : Sg) : f_x_granted N (iI 0) σ = some (true, sI σ 0 10 0) := rfl
theorem iI00 : (iI 0 = 0) = True := eq_true rfl
theorem both_refF {α : Type} {fx : Option (α × Sg)} {fm : Sg → Option (α × Sg)} {R S B : Nat → Nat} {σ : Sg} {v : α} {t : Int} (h : Sim0 R S B σ) (hr : Trb σ) (ht : 0 ≤ t ∧ t ≤ 6 ∧ t ≠ 4)
    (hx : ok fx (fun z => z.1 = v ∧ gI z.2 0 10 = iI t ∧ Fr [(0, some 10)] σ z.2)) (hm : ∀ τ, Fr [(0, some 10)] σ τ → ok (fm τ) (fun y => y.1 = v ∧ gI y.2 66 11 = iI t ∧ Fr [(66, some 0), (66, some 11)] τ y.2)) : Both fx fm := by
  refine hx.imp (fun z hz => ?_)
  have hs := h.fr hz.2.2 rfl
  refine (hm _ hz.2.2).imp (fun y hy => ⟨hz.1.trans hy.1.symm, R, S, B, hs.fr hy.2.2 rfl, ?_⟩)
  refine Trb.of (t := t) ((hy.2.2.I 0 10 rfl).trans hz.2.1) hy.2.1 ht ?_
  rw [hy.2.2.I 1 12 rfl, hy.2.2.I 66 9 rfl, hz.2.2.I 1 12 rfl, hz.2.2.I 66 9 rfl]
  exact hr.2.1
section ACTS
variable {N : Nat} {R S B : Nat → Nat} {σ : Sg}
theorem rx1 {t : Int} {v : Int32} : ok (some (v, sI σ 0 10 (iI t))) (fun z => z.1 = v ∧ gI z.2 0 10 = iI t ∧ Fr [(0, some 10)] σ z.2) := okS.mpr ⟨rfl, gI_eq, Fr.wI Fr.rf (by simp)⟩
theorem rx2 {t : Int} {v u : Int32} : ok (some (v, sI (sI σ 0 10 u) 0 10 (iI t))) (fun z => z.1 = v ∧ gI z.2 0 10 = iI t ∧ Fr [(0, some 10)] σ z.2) := okS.mpr ⟨rfl, gI_eq, Fr.wI (Fr.wI Fr.rf (by simp)) (by simp)⟩
theorem rm1 {t : Int} {v : Int32} : ok (some (v, sI (an σ) 66 11 (iI t))) (fun y => y.1 = v ∧ gI y.2 66 11 = iI t ∧ Fr [(66, some 0), (66, some 11)] σ y.2) := okS.mpr ⟨rfl, gI_eq, Fr.wI an_fr (by simp)⟩
theorem UX.tr {U : Nat → Nat → Nat} {n x : Nat} {v : Int32} (h : UX R U n x σ) : UX R U n x (sI σ 0 10 v) := h.fr (W := [(0, some 10)]) (Fr.wI Fr.rf (by simp)) rfl
theorem WfS.god {d : Nat} (h : WfS R S) (hW : WfL R) : WfS R (go R S d) := by
  have hc := hW.c
  have h1 := h.c.god (d := d) hW h.2.2.1
  refine ⟨h1.1.1, h1.1.2, h1.2, ?_, ?_⟩
  · cases hd : lead R (gon S) (S 60) d with
    | none => rw [go_none hd]; exact h.2.2.2.1
    | some t => rw [go_some hd, mv61 (by have := h.2.2.1; omega) (by have := lead_lt h.2.2.1 hd; omega)]; exact h.2.2.2.1
  · cases hd : lead R (gon S) (S 60) d with
    | none => rw [go_none hd]; exact h.2.2.2.2
    | some t => rw [go_some hd, mv62 (by have := h.2.2.1; omega) (by have := lead_lt h.2.2.1 hd; omega)]; exact h.2.2.2.2
theorem sim_stride (hN : 200000 ≤ N) (v w : Int32) (h : Sim σ) : Both (f_x_stride N v w σ) (f_m_stride N v w) := by
  obtain ⟨R, S, B, h, hr⟩ := h
  obtain ⟨z, rfl, z1, z2⟩ := iI_of v
  obtain ⟨y, rfl, y1, y2⟩ := iI_of w
  by_cases ht : tW R z y = 0
  · have h0 := tW_0.mp ht
    obtain ⟨b, rfl⟩ : ∃ b : Nat, z = (b : Int) := ⟨z.toNat, by omega⟩
    obtain ⟨w, rfl⟩ : ∃ b : Nat, y = (b : Int) := ⟨y.toNat, by omega⟩
    have hn := h.gd.nb0 (by omega)
    have hW := h.gd.wl hn
    have hS := h.gd.ws hn
    have hc := hW.c
    have h3 := hW.nb
    have hs := hS.2.2.1
    cases hd : lead R (gon S) (S 60) (2 * b + 1 + w) with
    | none =>
      refine both_ref (v := -1) (t := 5) h hr (by omega) ?_ (fun τ g => ?_)
      · simp only [f_x_stride, tx_way h.lx.nb h.gd.nb z1 z2 y1 y2, px_gr0i, Option.bind_some, bind_ite, Bool.false_eq_true, ↓reduceIte, ht]
        rw [px_targetNow h.lx.tr (h.sx.tr (by decide)) hW hS (by omega) (by omega), Option.bind_some, hd, tg_none]
        rw [if_pos (show iI (-2) = -2 from rfl)]
        exact rx2 (t := 5)
      · simp only [f_m_stride, pm_anew, pm_wayWhy g.lm.an g.gd.nb g.gd.nb0 z1 z2 y1 y2, f_m_no, Option.bind_some, bind_ite, Bool.false_eq_true, ↓reduceIte, ht, iI00]
        rw [pm_leadOf g.lm.an.1 g.lm.an.2.1 hW.c.2 (by omega) (hW.bt (by omega)).2 hS.2.2.1 hS.r (by omega), hd]
        exact rm1 (t := 5)
    | some t =>
      have htl := lead_lt hs hd
      obtain ⟨U, n, x, hux, hum⟩ := Und_of h.un
      refine both_act (Q := fun u => u = iI (t : Int)) (S' := go R S (2 * b + 1 + w)) (U' := ush U n S) (n' := min (n + 1) 16) (x' := (x + 1) % 16) h hr (fun u v h1 h2 => h1.trans h2.symm) hn (hS.god hW) hum ?_ (fun z => w_f_x_stride) rfl (fun τ g gu _ => ?_) (fun τ y => w_f_m_stride) rfl
      · simp only [f_x_stride, tx_way h.lx.nb h.gd.nb z1 z2 y1 y2, px_gr0i, Option.bind_some, bind_ite, Bool.false_eq_true, ↓reduceIte, ht]
        rw [px_targetNow h.lx.tr (h.sx.tr (by decide)) hW hS (by omega) (by omega), Option.bind_some, hd, tg_some]
        dsimp only
        rw [if_neg (iI_m2 (by omega)), px_gr0, Option.bind_some]
        dsimp only
        rw [if_pos rfl, okB]
        have hsx : SX 40 S (sI (sI σ 0 10 0) 0 10 0) := (h.sx.tr (by decide)).tr (by decide)
        have hlx : LX 10 R (sI (sI σ 0 10 0) 0 10 0) := h.lx.tr.tr
        refine ((px_keep (hux.tr (v := 0)).tr hsx hS).and (fun z => w_f_history_keep)).imp (fun q hq => ?_)
        unfold f_x_digitFor
        rw [Option.bind_some]
        dsimp only
        rw [show ((2 * iI (b : Int)) + 1) + iI (w : Int) = iI ((2 * b + 1 + w : Nat) : Int) by
          simp only [nI_iI, iI_lit, iI_neg, iI_add, iI_sub, iI_mul]; congr 1, okB]
        refine ((px_makeStride (hlx.fr hq.2 rfl) (hsx.fr hq.2 rfl) hW hS.c hs (Or.inl rfl) (by omega) (by omega)).and (fun z => w_f_state_makeStride)).imp (fun q2 h2 => ?_)
        refine okS.mpr ⟨?_, ?_, h2.1.2, hq.1.fr h2.2 rfl⟩
        · show gI q2.2 40 2 = _
          rw [h2.1.2.2.2.1, go_some hd]; rfl
        · rw [h2.2.I 0 10 rfl, hq.2.I 0 10 rfl]; exact gI_eq
      · simp only [f_m_stride, pm_anew, pm_wayWhy g.an h.gd.nb h.gd.nb0 z1 z2 y1 y2, f_m_no, Option.bind_some, bind_ite, Bool.false_eq_true, ↓reduceIte, ht, iI00]
        rw [pm_leadOf g.an.1 g.an.2.1 hW.c.2 (by omega) (hW.bt (by omega)).2 hS.2.2.1 hS.r (by omega), hd, tg_some]
        rw [Option.bind_some]
        dsimp only
        rw [if_pos (show (0 : Int32) ≤ iI (t : Int) by rw [show (0 : Int32) = iI 0 from rfl, iI_le (by omega) (by omega) (by omega) (by omega)]; omega), okB]
        refine ((pm_note hN (gu.fr an_fr rfl) hux.1 g.an.2.1).and (fun z => w_f_m_note)).imp (fun q hq => ?_)
        rw [okB]
        refine ((pm_strideOn hN (g.an.1.fr hq.2 rfl) (g.an.2.1.fr hq.2 rfl) (by decide) hW.c.2 (show b < 3 by omega) (hW.bt (by omega)).2 hs hS.r (show w ≤ 1 by omega)).and (fun z => w_f_m_strideOn)).imp (fun q2 h2 => ?_)
        refine okS.mpr ⟨?_, ?_, h2.1.2, hq.1.fr h2.2 rfl⟩
        · show gA q2.2 74 60 = _
          have e := h2.1.2.A (z := 60) 60 rfl (by omega) (by omega)
          rw [go_some hd] at e
          exact e
        · rw [h2.2.I 66 11 rfl, hq.2.I 66 11 rfl]; exact an_t
  · have hr3 := tW_3 (R := R) (z := z) (y := y)
    refine both_ref (v := -1) (t := tW R z y) h hr (by omega) ?_ (fun τ g => ?_)
    · simp only [f_x_stride, tx_way h.lx.nb h.gd.nb z1 z2 y1 y2, px_gr N tW_r, Option.bind_some, bind_ite, Bool.false_eq_true, ↓reduceIte, if_neg ht]
      exact rx1
    · simp only [f_m_stride, pm_anew, pm_wayWhy g.lm.an g.gd.nb g.gd.nb0 z1 z2 y1 y2, f_m_no, Option.bind_some, bind_ite, Bool.false_eq_true, ↓reduceIte, iI_0 tW_r, if_neg ht]
      exact rm1
/-- a step to a cell -/
def sto (S : Nat → Nat) (t : Nat) : Nat → Nat := fun k => if k = 61 then t else if k = t then S t - 1 else S k
theorem px_stepTo {o t : Nat} (hB : SB o S σ) (hs : ∀ k, k < 60 → S k ≤ 3) (ht : t < 60) : ok (f_state_stepTo N o (iI (t : Int)) σ) (fun z => SB o (sto S t) z.2 ∧ gI z.2 o 3 = iI (t : Int)) := by
  unfold f_state_stepTo
  have hB1 : SB o S (sI σ o 3 (iI (t : Int))) := ⟨hB.1, hB.2⟩
  rw [px_goneCells, Option.bind_some]
  dsimp only
  rw [px_span N (show t < 63 by omega) (show t < 63 by omega), Option.bind_some]
  dsimp only
  rw [okB]
  have hw : ∀ k, tb ((gL (sI σ o 3 (iI (t : Int))) o 0 ||| gL (sI σ o 3 (iI (t : Int))) o 1) &&& spnN t t) k = (decide (k = t) && gon S k) := fun k => by
    rw [tb_and, hB1.gone hs, tb_spn (by omega) (by omega), Bool.and_comm]
    congr 1
    exact decide_eq_decide.mpr (by omega)
  refine ((px_lessen hB1 hs (fun k hk => by
    rw [hw] at hk
    simp only [gon, Bool.and_eq_true, decide_eq_true_eq] at hk
    exact ⟨hk.2.1, hk.2.2⟩)).and (fun z => w_f_state_lessen)).imp (fun z hz => okS.mpr ⟨hz.1.ext (fun k hk => ?_), ?_⟩)
  · unfold lesN
    rw [hw]
    unfold sto
    rw [if_neg (show ¬ k = 61 by omega)]
    by_cases c : k = t
    · rw [if_pos c]
      subst c
      by_cases c2 : S k = 0
      · rw [if_neg (by simp [gon, c2])]; omega
      · rw [if_pos (by simp [gon]; omega)]
    · rw [if_neg c, if_neg (by simp [c])]
  · rw [hz.2.I o 3 (by simp [nin, nin1]; decide)]; exact gI_eq
theorem pm_stepOn {a0 : Nat} (hR : AR σ 69 189 R) (hS : AR σ a0 63 S) (hne : a0 ≠ 69) (hC : R 0 ≤ 60) (hr : ∀ k, k < 60 → S k < 2147483648) (h61 : S 61 < R 0) {w : Nat} (hw : w ≤ 1) :
    ok (f_m_stepOn N a0 69 63 (iI (w : Int)) σ) (fun z => (z.1 = true ∧ ∃ t : Nat, (t : Int) = (S 61 : Int) + (if w = 0 then 1 else -1) ∧ t < R 0 ∧ AR z.2 a0 63 (sto S t)) ∨ (z.1 = false ∧ z.2 = σ ∧ ¬ (0 ≤ (S 61 : Int) + (if w = 0 then 1 else -1) ∧ (S 61 : Int) + (if w = 0 then 1 else -1) < R 0))) := by
  have e1 := hS.A (z := 61) 61 rfl (by omega) (by omega)
  have e2 := hR.A (z := 0) 0 rfl (by omega) (by omega)
  have fin : ∀ (u : Int) (t : Nat), (t : Int) = (S 61 : Int) + u → t < R 0 → ok (if 0 ≤ (S 61 : Int) + u ∧ (S 61 : Int) + u < (63 : Nat) then if gA (sA σ a0 (iI 61) (iI ((S 61 : Int) + u))) a0 (iI ((S 61 : Int) + u)) ≤ iI 0 then some (true, sA σ a0 (iI 61) (iI ((S 61 : Int) + u))) else if 0 ≤ (S 61 : Int) + u ∧ (S 61 : Int) + u < (63 : Nat) then if 0 ≤ (S 61 : Int) + u ∧ (S 61 : Int) + u < (63 : Nat) then some (true, sA (sA σ a0 (iI 61) (iI ((S 61 : Int) + u))) a0 (iI ((S 61 : Int) + u)) (gA (sA σ a0 (iI 61) (iI ((S 61 : Int) + u))) a0 (iI ((S 61 : Int) + u)) - iI 1)) else none else none else none) (fun z => z.1 = true ∧ AR z.2 a0 63 (sto S t)) := by
    intro u t hu ht
    have e3 : gA (sA σ a0 (iI 61) (iI ((S 61 : Int) + u))) a0 (iI ((S 61 : Int) + u)) = iI (S t : Int) := by
      rw [sA_iI (by omega) (by omega), gA_iI (by omega) (by omega), gI_ne (by omega), ← hu, Int.toNat_natCast]
      exact hS t (by omega)
    have hrt := hr t (by omega)
    have h1 : AR (sA σ a0 (iI 61) (iI ((S 61 : Int) + u))) a0 63 (fun k => if k = 61 then t else S k) := hS.set (z := 61) 61 rfl (by omega) (fun j hj => by
      by_cases c : j = 61
      · rw [if_pos c, if_pos c, hu]
      · rw [if_neg c, if_neg c])
    rw [e3, if_pos (by omega)]
    by_cases c : S t = 0
    · rw [if_pos (by rw [iI_le (by omega) (by omega) (by omega) (by omega)]; omega)]
      refine okS.mpr ⟨rfl, fun j hj => ?_⟩
      rw [h1 j hj]
      unfold sto
      dsimp only
      by_cases c1 : j = 61
      · rw [if_pos c1, if_pos c1]
      · rw [if_neg c1, if_neg c1]
        by_cases c2 : j = t
        · rw [if_pos c2, c2, c]
        · rw [if_neg c2]
    · rw [if_neg (by rw [iI_le (by omega) (by omega) (by omega) (by omega)]; omega), if_pos (by omega), if_pos (by omega), iI_sub]
      refine okS.mpr ⟨rfl, h1.set t hu.symm (by omega) (fun j hj => ?_)⟩
      unfold sto
      by_cases c2 : j = t
      · rw [if_pos c2, if_neg (by omega), if_pos c2]
        congr 1; omega
      · rw [if_neg c2, if_neg c2]
  unfold f_m_stepOn
  by_cases hw0 : w = 0
  · subst hw0
    simp (disch := omega) only [e1, e2, nI_iI, iI_lit, iI_neg, iI_add, iI_sub, iI_mul, iI_eq, pm_in, Option.bind_some, decide_eq_true_eq, vin_iI]
    rw [if_pos (by omega)]
    by_cases c : 0 ≤ (S 61 : Int) + 1 ∧ (S 61 : Int) + 1 ≤ (R 0 : Int) - 1
    · rw [if_pos c]
      exact (fin 1 (S 61 + 1) (by omega) (by omega)).imp (fun z hz => Or.inl ⟨hz.1, S 61 + 1, by simp, by omega, hz.2⟩)
    · rw [if_neg c]
      exact okS.mpr (Or.inr ⟨rfl, rfl, by simp; omega⟩)
  · have hw1 : w = 1 := by omega
    subst hw1
    simp (disch := omega) only [e1, e2, nI_iI, iI_lit, iI_neg, iI_add, iI_sub, iI_mul, iI_eq, pm_in, Option.bind_some, decide_eq_true_eq, vin_iI]
    rw [if_neg (by omega)]
    by_cases c : 0 ≤ (S 61 : Int) + -1 ∧ (S 61 : Int) + -1 ≤ (R 0 : Int) - 1
    · rw [if_pos c]
      exact (fin (-1) (S 61 - 1) (by omega) (by omega)).imp (fun z hz => Or.inl ⟨hz.1, S 61 - 1, by simp; omega, by omega, hz.2⟩)
    · rw [if_neg c]
      exact okS.mpr (Or.inr ⟨rfl, rfl, by simp; omega⟩)
end ACTS
