/-! ===== come, spare, spareRow ===== -/
section COME
variable {N : Nat} {R S B : Nat → Nat} {σ : Sg}
def simV : WL := lxW ++ [(0, some 6), (1, some 1), (1, some 12), (1, some 13), (2, none), (10, some 2), (10, some 14), (40, none), (42, some 1), (42, some 2), (44, none), (45, none), (46, none), (47, none), (48, none), (50, none), (51, none), (52, none), (53, none), (54, none), (66, some 2), (66, some 9), (66, some 10), (66, some 14), (66, some 24), (66, some 25), (67, none), (69, none), (71, none), (74, none), (76, none), (77, none)]
theorem Sim0.frC {τ : Sg} {W : WL} (h : Sim0 R S B σ) (f : Fr W σ τ) (hw : dis W simV = true) (hca : Cache R τ) : Sim0 R S B τ := by
  obtain ⟨h0, h1, h2, h3, h4, h5, h6, h7, h8⟩ := h
  exact ⟨h0, h1.fr f (dis_sub hw rfl), h2.fr f (dis_sub hw rfl), h3.fr f (dis_sub hw rfl), h4.fr f (dis_sub hw rfl), h5.fr f (dis_sub hw rfl), h6.fr f (dis_sub hw rfl), h7.fr f (dis_sub hw rfl), hca⟩
theorem sim_ca {fx : Option (Int32 × Sg)} {fm : Sg → Option (Int32 × Sg)} {Wx Wm : WL} {a : Int × Int} (h : Sim0 R S B σ) (hr : Trb σ) (ht : 0 ≤ a.2 ∧ a.2 ≤ 6 ∧ a.2 ≠ 4)
    (hx : ok fx (fun z => An a z ∧ Cache R z.2)) (wx : ∀ z, fx = some z → Fr Wx σ z.2) (dx : dis Wx simV = true)
    (hm : ∀ τ, Sim0 R S B τ → ok (fm τ) (Am a)) (wm : ∀ τ y, fm τ = some y → Fr Wm τ y.2) (dm : dis Wm simW = true) (d0 : nin Wm 0 10 = true) : Both fx fm := by
  refine (hx.and wx).imp (fun z hz => ?_)
  have hs := h.frC hz.2 dx hz.1.2
  refine ((hm _ hs).and (wm _)).imp (fun y hy => ⟨hz.1.1.1.trans hy.1.1.symm, R, S, B, hs.fr hy.2 dm, ?_⟩)
  refine Trb.of (t := a.2) ((hy.2.I 0 10 d0).trans hz.1.1.2) hy.1.2 ht ?_
  rw [hy.2.dI dm (i := 1) (k := 12) (Or.inl (List.elem_iff.mp rfl)), hy.2.dI dm (i := 66) (k := 9) (Or.inl (List.elem_iff.mp rfl)), hz.2.dI dx (i := 1) (k := 12) (Or.inl (List.elem_iff.mp rfl)), hz.2.dI dx (i := 66) (k := 9) (Or.inl (List.elem_iff.mp rfl))]
  exact hr.2.1
theorem x_finK {f : Option (Int32 × Sg)} {t ans : Int} (hca : Cache R σ) (h : t = 0 → ok f (fun z => An (ans, 0) z ∧ Cache R z.2)) : ok (if t = 0 then f else some (-1, sI σ 0 10 (iI t))) (fun z => An (ra t ans) z ∧ Cache R z.2) := by
  unfold ra
  by_cases h0 : t = 0
  · rw [if_pos h0, if_pos h0]; exact h h0
  · rw [if_neg h0, if_neg h0]
    exact okS.mpr ⟨⟨rfl, gI_eq⟩, hca.fr (W := [(0, some 10)]) (Fr.wI Fr.rf (by simp)) rfl⟩
theorem px_knownPaths (hN : 200000 ≤ N) (h : Sim0 R S B σ) (h0 : R 0 ≠ 0) : ok (f_x_knownPaths N (sI σ 0 10 0)) (fun z => KN R (gon S) (S 60) z.2 ∧ gI z.2 0 10 = iI 0) := by
  have hca : Cache R (sI σ 0 10 0) := h.ca.fr (W := [(0, some 10)]) (Fr.wI Fr.rf (by simp)) rfl
  unfold f_x_knownPaths
  rw [okB]
  refine ((px_know hN h.lx.tr (h.sx.tr (by decide)) (h.gd.wl h0) (h.gd.ws h0) hca).and (fun z => w_f_paths_know)).imp (fun q hq => okS.mpr ⟨hq.1, ?_⟩)
  rw [hq.2.I 0 10 rfl]
  exact gI_eq
theorem pm_seek17 : ∀ (m i : Nat) (τ : Sg) (K : Sg → Option (Unit × Sg)) (P : Unit × Sg → Prop), i ≤ 60 → 60 - i < m → (∀ k, k < i → gI τ 82 k = iI 100000000) → (∀ τ', Fr [(82, none)] τ τ' → (∀ k, k < 60 → gI τ' 82 k = iI 100000000) → ok (K τ') P) → ok (f_m_seekRows_L17 N m (iI (i : Int)) τ K) P := by
  intro m
  induction m with
  | zero => intro i τ K P _ h; omega
  | succ m ih =>
    intro i τ K P hi hm h hK
    unfold f_m_seekRows_L17
    by_cases c : i = 60
    · subst c
      rw [if_pos (show (60 : Int32) ≤ iI ((60 : Nat) : Int) by decide)]
      exact hK τ Fr.rf h
    · rw [if_neg (show ¬ (60 : Int32) ≤ iI (i : Int) by rw [show (60 : Int32) = iI 60 from rfl, iI_le (by omega) (by omega) (by omega) (by omega)]; omega), if_pos (show vin (iI (i : Int)) 60 by rw [vin_iI (by omega) (by omega)]; omega), sA_iI (by omega) (by omega), Int.toNat_natCast, show iI (i : Int) + 1 = iI ((i + 1 : Nat) : Int) from iI_add _ 1]
      have fr : Fr [(82, none)] τ (sI τ 82 i 100000000) := Fr.wIc Fr.rf (by simp)
      refine ih (i + 1) _ K P (by omega) (by omega) (fun k hk => ?_) (fun τ' hf h => hK τ' (fr.tr hf) h)
      by_cases d : k = i
      · subst d
        rw [gI_eq]; rfl
      · rw [gI_ne (by omega)]
        exact h k (by omega)
theorem pm_seekRows {lim tgt : Nat} {tv : Int32} (hN : 200000 ≤ N) (hW : WfL R) (hS : WfS R S) (hR : AR σ 69 189 R) (hA : AR σ 74 63 S) (hlim : lim ≤ 5) (hv : ∀ x : Nat, x < 60 → (iI (x : Int) = tv) = (x = tgt)) : ok (f_m_seekRows N tv (iI (lim : Int)) σ) (fun z => MF (fun _ => none) none tgt (vis R lim 0 (gon S) (S 60) 0) z.2) := by
  unfold f_m_seekRows
  have f0 : Fr [(66, some 35), (66, some 36), (66, some 39)] σ (sI (sI (sI σ 66 35 tv) 66 36 (iI (lim : Int))) 66 39 (-1)) := Fr.wI (Fr.wI (Fr.wI Fr.rf (by simp)) (by simp)) (by simp)
  refine pm_seek17 N 0 _ _ _ (by omega) (by omega) (fun k hk => by omega) (fun τ f1 h82 => ?_)
  rw [okB]
  refine ((pm_copy (N := N) (a0 := 63) (a1 := 378) (a2 := 80) (a3 := 74) (p := 0) (q := 0) (m := 63) (σ := τ) hN (by decide) (by decide) (by decide) (by decide) (by decide)).and (fun z => w_f_m_copy)).imp (fun q hq => ?_)
  have f2 : Fr [(66, some 35), (66, some 36), (66, some 39), (80, none), (82, none)] σ q.2 := (f0.mono rfl).tr ((f1.mono rfl).tr (hq.2.mono rfl))
  rw [okB]
  refine (pm_tryRows (tgt := tgt) hN hW hlim hv lim 12 0 S 0 q.2 (fun _ => none) none (by omega) (by omega) hS.c hS.2.2.1 (by decide) (hR.fr f2 rfl) (fun k hk => ?_) ?_ ?_ ⟨fun k hk => ?_, ?_, (by intro k a h; cases h), (by intro a h; cases h)⟩).imp (fun z hz => okS.mpr hz.1)
  · rw [hq.1, if_pos (by omega), show 0 + (63 * 0 + k - 0) = k by omega, f1.I 74 k rfl, f0.I 74 k rfl]
    exact hA k hk
  · rw [hq.2.I 66 35 rfl, f1.I 66 35 rfl, gI_ne (by omega), gI_ne (by omega), gI_eq]
  · rw [hq.2.I 66 36 rfl, f1.I 66 36 rfl, gI_ne (by omega), gI_eq]
  · rw [hq.2.I 82 k rfl]
    exact h82 k hk
  · show gI q.2 66 39 = iI (-1)
    rw [hq.2.I 66 39 rfl, f1.I 66 39 rfl, gI_eq]
    rfl
theorem cm_mn (k : Nat) : ∀ (l : List Vs) (o : Option (Nat × Nat)), (l.foldl (cmS k) o).map Prod.fst = l.foldl (mnS k) (o.map Prod.fst) := by
  intro l
  induction l with
  | nil => intro o; rfl
  | cons v l ih =>
    intro o
    rw [List.foldl_cons, List.foldl_cons, ih]
    congr 1
    unfold cmS mnS
    by_cases c : v.2.1 = k
    · rw [if_pos c, if_pos c]
      cases o with
      | none => rfl
      | some a =>
        show Option.map Prod.fst (if v.1 < a.1 then some (v.1, v.2.2.1) else some a) = if v.1 < a.1 then some v.1 else some a.1
        split <;> rfl
    · rw [if_neg c, if_neg c]
def comI (R : Nat → Nat) (g : Nat → Bool) (s k : Nat) : Int := match (vis R 5 0 g s 0).foldl (mnS k) none with
  | none => -2
  | some a => (a : Int)
theorem hv_iI {k : Nat} (hk : k < 60) : ∀ x : Nat, x < 60 → (iI (x : Int) = iI (k : Int)) = (x = k) := fun x hx => propext (by rw [iI_eq (by omega) (by omega) (by omega) (by omega)]; omega)
theorem KN.come {g : Nat → Bool} {s k : Nat} (h : KN R g s σ) (hk : k < 60) : gI σ 56 k = iI (comI R g s k) := by
  have h1 := TbA.cm h.1 hk
  have h2 := cm_mn k (vis R 5 0 g s 0) none
  unfold comI
  rw [show (none : Option Nat) = Option.map Prod.fst (none : Option (Nat × Nat)) from rfl, ← h2]
  cases e : (vis R 5 0 g s 0).foldl (cmS k) none with
  | none => rw [e] at h1; exact h1
  | some a => rw [e] at h1; exact h1.1
theorem sim_come (hN : 200000 ≤ N) (v : Int32) (h : Sim σ) : Both (f_x_come N v σ) (f_m_come N v) := by
  obtain ⟨R, S, B, h, hr⟩ := h
  obtain ⟨z, rfl, z1, z2⟩ := iI_of v
  have hc := h.gd.c
  refine sim_ca (a := ra (tC R z) (comI R (gon S) (S 60) z.toNat)) h hr (ra_t tC_3) ?_ (fun z => w_f_x_come) rfl (fun τ g => ?_) (fun τ y => w_f_m_come) rfl rfl
  · simp only [f_x_come, tx_cell h.lx.c h.gd.c z1 z2, px_gr N tC_r, Option.bind_some, bind_ite, Bool.false_eq_true, ↓reduceIte]
    refine x_finK h.ca (fun h0 => ?_)
    rw [tC_0] at h0
    have hn : R 0 ≠ 0 := by omega
    obtain ⟨k, rfl⟩ : ∃ b : Nat, z = (b : Int) := ⟨z.toNat, by omega⟩
    rw [okB]
    refine (px_knownPaths hN h hn).imp (fun q hq => ?_)
    unfold f_paths_comeStrides
    rw [px_getN (by omega), Option.bind_some, Option.bind_some]
    refine okS.mpr ⟨⟨?_, hq.2⟩, hq.1.ca (h.gd.ws hn).2.2.1⟩
    exact hq.1.come (by omega)
  · simp only [f_m_come, pm_anew, pm_isCell g.lm.an g.gd.c z1 z2, f_m_no, Option.bind_some, bind_ite, Bool.false_eq_true, ↓reduceIte, decide_eq_true_eq]
    refine m_finC (fun h0 => ?_)
    have hn : R 0 ≠ 0 := by omega
    have hW := g.gd.wl hn
    have hS := g.gd.ws hn
    obtain ⟨k, rfl⟩ : ∃ b : Nat, z = (b : Int) := ⟨z.toNat, by omega⟩
    rw [okB]
    refine ((pm_seekRows (lim := 5) (tgt := k) (tv := iI (k : Int)) hN hW hS g.lm.an.1 g.lm.an.2.1 (by omega) (hv_iI (by omega))).and (fun z => w_f_m_seekRows)).imp (fun q hq => ?_)
    have e := hq.1.1 k (by omega)
    have hb := hq.1.2.2.1 k
    have e11 : gI q.2 66 11 = iI 0 := (hq.2.I 66 11 rfl).trans an_t
    dsimp only at e hb
    rw [if_pos (show vin (iI (k : Int)) 60 by rw [vin_iI (by omega) (by omega)]; omega), if_pos (show vin (iI (k : Int)) 60 by rw [vin_iI (by omega) (by omega)]; omega), gA_iI (by omega) (by omega), Int.toNat_natCast, e]
    unfold comI
    cases e2 : (vis R 5 0 (gon S) (S 60) 0).foldl (mnS k) none with
    | none =>
      rw [if_neg (show ¬ iI (mnV none) ≤ 5 by decide)]
      exact okS.mpr ⟨rfl, e11⟩
    | some a =>
      have ha := hb a e2
      rw [if_pos (show iI (mnV (some a)) ≤ 5 by show iI (a : Int) ≤ iI 5; rw [iI_le (by omega) (by omega) (by omega) (by omega)]; omega)]
      exact okS.mpr ⟨rfl, e11⟩
end COME
