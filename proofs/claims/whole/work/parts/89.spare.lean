/-! ===== rows of one length come in rising order ===== -/
section SPARE
variable {N : Nat} {R S B : Nat → Nat} {σ : Sg}
theorem nxv_mem {f made : Nat} {g : Nat → Bool} {s row i : Nat} {v : Vs} (h : v ∈ nxv R f made g s row i) : ∃ t, lead R g s (i + 1) = some t ∧ v ∈ vis R f (made + 1) (nxg g s t) t (10 * row + (i + 1)) := by
  unfold nxv at h
  cases e : lead R g s (i + 1) with
  | none => rw [e] at h; exact absurd h List.not_mem_nil
  | some t => rw [e] at h; exact ⟨t, rfl, h⟩
theorem vis_row (hnb : R 2 ≤ 3) : ∀ (f made : Nat) (g : Nat → Bool) (s row : Nat) (v : Vs), v ∈ vis R f made g s row → ∃ e, v.1 = made + e ∧ e ≤ f ∧ row * 10 ^ e ≤ v.2.2.1 ∧ v.2.2.1 < (row + 1) * 10 ^ e := by
  intro f
  induction f with
  | zero =>
    intro made g s row v h
    rw [show v = (made, s, row, lost R g) from List.mem_singleton.mp h]
    exact ⟨0, rfl, Nat.le_refl _, by show row * 1 ≤ row; omega, by show row < (row + 1) * 1; omega⟩
  | succ f ih =>
    intro made g s row v h
    rw [vis_s] at h
    rcases List.mem_cons.mp h with h | h
    · rw [h]
      exact ⟨0, rfl, Nat.zero_le _, by show row * 1 ≤ row; omega, by show row < (row + 1) * 1; omega⟩
    · obtain ⟨i, hi, h⟩ := List.mem_flatMap.mp h
      rw [List.mem_range] at hi
      obtain ⟨t, _, h⟩ := nxv_mem h
      obtain ⟨e, h1, h2, h3, h4⟩ := ih _ _ _ _ _ h
      refine ⟨e + 1, by omega, by omega, ?_, ?_⟩
      · refine Nat.le_trans ?_ h3
        rw [Nat.pow_succ, Nat.mul_comm (10 ^ e) 10, ← Nat.mul_assoc]
        exact Nat.mul_le_mul_right _ (by omega)
      · refine Nat.lt_of_lt_of_le h4 ?_
        rw [Nat.pow_succ, Nat.mul_comm (10 ^ e) 10, ← Nat.mul_assoc]
        exact Nat.mul_le_mul_right _ (by omega)
def rso (a b : Vs) : Prop := a.1 = b.1 → a.2.2.1 < b.2.2.1
theorem nxv_lt (hnb : R 2 ≤ 3) {f made : Nat} {g : Nat → Bool} {s row i j : Nat} (hij : i < j) {x y : Vs} (hx : x ∈ nxv R f made g s row i) (hy : y ∈ nxv R f made g s row j) : rso x y := by
  intro he
  obtain ⟨t, _, hx⟩ := nxv_mem hx
  obtain ⟨t', _, hy⟩ := nxv_mem hy
  obtain ⟨e, h1, h2, h3, h4⟩ := vis_row hnb _ _ _ _ _ _ hx
  obtain ⟨e', k1, k2, k3, k4⟩ := vis_row hnb _ _ _ _ _ _ hy
  have : e' = e := by omega
  subst this
  refine Nat.lt_of_lt_of_le h4 (Nat.le_trans ?_ k3)
  exact Nat.mul_le_mul_right _ (by omega)
theorem vis_pw (hnb : R 2 ≤ 3) : ∀ (f made : Nat) (g : Nat → Bool) (s row : Nat), (vis R f made g s row).Pairwise rso := by
  intro f
  induction f with
  | zero =>
    intro made g s row
    exact List.pairwise_singleton _ _
  | succ f ih =>
    intro made g s row
    rw [vis_s, List.pairwise_cons]
    refine ⟨fun v h => ?_, ?_⟩
    · obtain ⟨i, hi, h⟩ := List.mem_flatMap.mp h
      obtain ⟨t, _, h⟩ := nxv_mem h
      obtain ⟨e, h1, _⟩ := vis_row hnb _ _ _ _ _ _ h
      intro he
      have he2 : made = v.1 := he
      omega
    · rw [List.pairwise_flatMap]
      refine ⟨fun i _ => ?_, ?_⟩
      · unfold nxv
        split
        · exact List.Pairwise.nil
        · exact ih _ _ _ _
      · exact List.pairwise_lt_range.imp (fun hij x hx y hy => nxv_lt hnb hij hx hy)
theorem ms_sp (k : Nat) : ∀ (l : List Vs) (o : Option (Nat × Nat × Nat)), l.Pairwise rso → (∀ a, o = some a → ∀ v, v ∈ l → v.1 = a.2.1 → a.2.2 < v.2.2.1) → l.foldl (msS k) o = l.foldl (spS k) o := by
  intro l
  induction l with
  | nil => intro o _ _; rfl
  | cons v l ih =>
    intro o hp ho
    rw [List.pairwise_cons] at hp
    have e : msS k o v = spS k o v := by
      unfold msS spS
      by_cases c : v.2.1 = k
      · rw [if_pos c, if_pos c]
        cases o with
        | none => rfl
        | some a =>
          have hv := ho a rfl v List.mem_cons_self
          dsimp only
          by_cases c2 : v.2.2.2 < a.1 ∨ (v.2.2.2 = a.1 ∧ v.1 < a.2.1)
          · rw [if_pos c2, if_pos (show btr v.1 v.2.2.1 v.2.2.2 a by unfold btr; omega)]
          · rw [if_neg c2, if_neg (show ¬ btr v.1 v.2.2.1 v.2.2.2 a by unfold btr; omega)]
      · rw [if_neg c, if_neg c]
    rw [List.foldl_cons, List.foldl_cons, e]
    refine ih _ hp.2 (fun a ha u hu hua => ?_)
    have hold : o = some a → a.2.2 < u.2.2.1 := fun h => ho a h u (List.mem_cons_of_mem _ hu) hua
    have hnew : some (v.2.2.2, v.1, v.2.2.1) = some a → a.2.2 < u.2.2.1 := fun h => by
      cases h
      exact hp.1 u hu hua.symm
    unfold spS at ha
    split at ha
    · split at ha
      · exact hnew ha
      · split at ha
        · exact hnew ha
        · exact hold ha
    · exact hold ha
def sprI (R : Nat → Nat) (g : Nat → Bool) (s k : Nat) : Int := match (vis R 5 0 g s 0).foldl (spS k) none with
  | none => -2
  | some a => (a.1 : Int) - (lost R g : Int)
def sprR (R : Nat → Nat) (g : Nat → Bool) (s k : Nat) : Int := match (vis R 5 0 g s 0).foldl (spS k) none with
  | none => -2
  | some a => (a.2.2 : Int)
theorem KN.spare {g : Nat → Bool} {s k : Nat} (h : KN R g s σ) (hk : k < 60) : gI σ 58 k = iI (sprI R g s k) ∧ gI σ 60 k = iI (sprR R g s k) := by
  have h1 := TbA.sp h.1 hk
  unfold sprI sprR
  cases e : (vis R 5 0 g s 0).foldl (spS k) none with
  | none => rw [e] at h1; exact h1
  | some a => rw [e] at h1; exact ⟨h1.1, h1.2.2⟩
theorem sim_spare (hN : 200000 ≤ N) (v : Int32) (h : Sim σ) : Both (f_x_spare N v σ) (f_m_spare N v) := by
  obtain ⟨R, S, B, h, hr⟩ := h
  obtain ⟨z, rfl, z1, z2⟩ := iI_of v
  have hc := h.gd.c
  refine sim_ca (a := ra (tC R z) (sprI R (gon S) (S 60) z.toNat)) h hr (ra_t tC_3) ?_ (fun z => w_f_x_spare) rfl (fun τ g => ?_) (fun τ y => w_f_m_spare) rfl rfl
  · simp only [f_x_spare, tx_cell h.lx.c h.gd.c z1 z2, px_gr N tC_r, Option.bind_some, bind_ite, Bool.false_eq_true, ↓reduceIte]
    refine x_finK h.ca (fun h0 => ?_)
    rw [tC_0] at h0
    have hn : R 0 ≠ 0 := by omega
    obtain ⟨k, rfl⟩ : ∃ b : Nat, z = (b : Int) := ⟨z.toNat, by omega⟩
    rw [okB]
    refine (px_knownPaths hN h hn).imp (fun q hq => ?_)
    unfold f_paths_spareLost
    rw [px_getN (by omega), Option.bind_some, Option.bind_some]
    refine okS.mpr ⟨⟨?_, hq.2⟩, hq.1.ca (h.gd.ws hn).2.2.1⟩
    exact (hq.1.spare (by omega)).1
  · simp only [f_m_spare, pm_anew, pm_isCell g.lm.an g.gd.c z1 z2, f_m_no, Option.bind_some, bind_ite, Bool.false_eq_true, ↓reduceIte, decide_eq_true_eq]
    refine m_finC (fun h0 => ?_)
    have hn : R 0 ≠ 0 := by omega
    have hW := g.gd.wl hn
    have hS := g.gd.ws hn
    obtain ⟨k, rfl⟩ : ∃ b : Nat, z = (b : Int) := ⟨z.toNat, by omega⟩
    rw [okB]
    refine ((pm_seekRows (lim := 5) (tgt := k) (tv := iI (k : Int)) hN hW hS g.lm.an.1 g.lm.an.2.1 (by omega) (hv_iI (by omega))).and (fun z => w_f_m_seekRows)).imp (fun q hq => ?_)
    have e11 : gI q.2 66 11 = iI 0 := (hq.2.I 66 11 rfl).trans an_t
    have e := hq.1.2.1
    have hb := hq.1.2.2.2
    rw [ms_sp k _ none (vis_pw (by have := hW.nb; omega) _ _ _ _ _) (by intro a h; cases h)] at e hb
    rw [pm_lostOn hN (g.lm.an.1.fr hq.2 rfl) (g.lm.an.2.1.fr hq.2 rfl) hW hS.r, Option.bind_some, Int.toNat_natCast]
    unfold sprI
    cases e2 : (vis R 5 0 (gon S) (S 60) 0).foldl (spS k) none with
    | none =>
      rw [e2] at e
      rw [show gI q.2 66 39 = iI (-1) from e, if_neg (show ¬ 0 ≤ iI (-1) by decide)]
      exact okS.mpr ⟨rfl, e11⟩
    | some a =>
      rw [e2] at e
      have ha := hb a e2
      rw [e.1, e.2.2, if_pos (show 0 ≤ iI (a.2.2 : Int) by rw [show (0 : Int32) = iI 0 from rfl, iI_le (by omega) (by omega) (by omega) (by omega)]; omega), iI_sub]
      exact okS.mpr ⟨rfl, e11⟩
theorem sim_spareRow (hN : 200000 ≤ N) (v : Int32) (h : Sim σ) : Both (f_x_spareRow N v σ) (f_m_spareRow N v) := by
  obtain ⟨R, S, B, h, hr⟩ := h
  obtain ⟨z, rfl, z1, z2⟩ := iI_of v
  have hc := h.gd.c
  refine sim_ca (a := ra (tC R z) (sprR R (gon S) (S 60) z.toNat)) h hr (ra_t tC_3) ?_ (fun z => w_f_x_spareRow) rfl (fun τ g => ?_) (fun τ y => w_f_m_spareRow) rfl rfl
  · simp only [f_x_spareRow, tx_cell h.lx.c h.gd.c z1 z2, px_gr N tC_r, Option.bind_some, bind_ite, Bool.false_eq_true, ↓reduceIte]
    refine x_finK h.ca (fun h0 => ?_)
    rw [tC_0] at h0
    have hn : R 0 ≠ 0 := by omega
    obtain ⟨k, rfl⟩ : ∃ b : Nat, z = (b : Int) := ⟨z.toNat, by omega⟩
    rw [okB]
    refine (px_knownPaths hN h hn).imp (fun q hq => ?_)
    unfold f_paths_sparingRow
    rw [px_getN (by omega), Option.bind_some, Option.bind_some]
    refine okS.mpr ⟨⟨?_, hq.2⟩, hq.1.ca (h.gd.ws hn).2.2.1⟩
    exact (hq.1.spare (by omega)).2
  · simp only [f_m_spareRow, pm_anew, pm_isCell g.lm.an g.gd.c z1 z2, f_m_no, Option.bind_some, bind_ite, Bool.false_eq_true, ↓reduceIte, decide_eq_true_eq]
    refine m_finC (fun h0 => ?_)
    have hn : R 0 ≠ 0 := by omega
    have hW := g.gd.wl hn
    have hS := g.gd.ws hn
    obtain ⟨k, rfl⟩ : ∃ b : Nat, z = (b : Int) := ⟨z.toNat, by omega⟩
    rw [okB]
    refine ((pm_seekRows (lim := 5) (tgt := k) (tv := iI (k : Int)) hN hW hS g.lm.an.1 g.lm.an.2.1 (by omega) (hv_iI (by omega))).and (fun z => w_f_m_seekRows)).imp (fun q hq => ?_)
    have e11 : gI q.2 66 11 = iI 0 := (hq.2.I 66 11 rfl).trans an_t
    have e := hq.1.2.1
    have hb := hq.1.2.2.2
    rw [ms_sp k _ none (vis_pw (by have := hW.nb; omega) _ _ _ _ _) (by intro a h; cases h)] at e hb
    rw [Int.toNat_natCast]
    unfold sprR
    cases e2 : (vis R 5 0 (gon S) (S 60) 0).foldl (spS k) none with
    | none =>
      rw [e2] at e
      rw [show gI q.2 66 39 = iI (-1) from e, if_neg (show ¬ 0 ≤ iI (-1) by decide)]
      exact okS.mpr ⟨rfl, e11⟩
    | some a =>
      rw [e2] at e
      have ha := hb a e2
      rw [e.1, if_pos (show 0 ≤ iI (a.2.2 : Int) by rw [show (0 : Int32) = iI 0 from rfl, iI_le (by omega) (by omega) (by omega) (by omega)]; omega)]
      exact okS.mpr ⟨rfl, e11⟩
end SPARE
