/-! ===== calls: how it is now ===== -/
theorem bind_ite {α β : Type} {c : Prop} {D : Decidable c} (a b : Option α) (f : α → Option β) : (@ite _ c D a b).bind f = @ite _ c D (a.bind f) (b.bind f) := by
  by_cases h : c
  · rw [if_pos h, if_pos h]
  · rw [if_neg h, if_neg h]
theorem px_gr (N : Nat) {t : Int} (h1 : 0 ≤ t ∧ t ≤ 9) (σ : Sg) : f_x_granted N (iI t) σ = if t = 0 then some (true, sI σ 0 10 0) else some (false, sI σ 0 10 (iI t)) := by
  rw [px_granted N h1.1 h1.2]
  by_cases h : t = 0
  · rw [if_pos h, h]; rfl
  · rw [if_neg h]; simp [h]
theorem px_gr0 (N : Nat) (σ : Sg) : f_x_granted N 0 σ = some (true, sI σ 0 10 0) := rfl
theorem px_gr1 (N : Nat) (σ : Sg) : f_x_granted N 1 σ = some (false, sI σ 0 10 (iI 1)) := rfl
section FIN
variable {N : Nat} {R S B : Nat → Nat} {σ : Sg} {t ans : Int} {f : Option (Int32 × Sg)}
theorem tL_r : 0 ≤ tL R ∧ tL R ≤ 9 := by unfold tL; split <;> omega
theorem tC_r {z : Int} : 0 ≤ tC R z ∧ tC R z ≤ 9 := by unfold tC; split <;> omega
theorem tB_r {z : Int} : 0 ≤ tB R z ∧ tB R z ≤ 9 := by unfold tB; split <;> omega
theorem tP_r {z y : Int} : 0 ≤ tP R z y ∧ tP R z y ≤ 9 := by unfold tP tC; split <;> (try split) <;> omega
theorem tW_r {z y : Int} : 0 ≤ tW R z y ∧ tW R z y ≤ 9 := by unfold tW; split <;> (try split) <;> omega
theorem tN_r {z y : Int} : 0 ≤ tN R z y ∧ tN R z y ≤ 9 := by unfold tN; split <;> (try split) <;> omega
theorem tL_0 : tL R = 0 ↔ R 0 ≠ 0 := by unfold tL; split <;> simp_all
theorem tC_0 {z : Int} : tC R z = 0 ↔ 0 ≤ z ∧ z < R 0 := by unfold tC; split <;> simp_all
theorem tB_0 {z : Int} : tB R z = 0 ↔ 0 ≤ z ∧ z < R 2 := by unfold tB; split <;> simp_all
theorem tP_0 {z y : Int} : tP R z y = 0 ↔ (0 ≤ z ∧ z < R 0) ∧ 0 ≤ y ∧ y < R 0 := by
  unfold tP
  split
  · rw [tC_0]; simp_all
  · rename_i h
    exact ⟨fun q => absurd q (by decide), fun q => absurd q.1 h⟩
theorem tW_0 {z y : Int} : tW R z y = 0 ↔ (0 ≤ z ∧ z < R 2) ∧ 0 ≤ y ∧ y ≤ 1 := by
  unfold tW
  split
  · split <;> simp_all
  · rename_i h
    exact ⟨fun q => absurd q (by decide), fun q => absurd q.1 h⟩
theorem tN_0 {z y : Int} : tN R z y = 0 ↔ R 0 ≠ 0 ∧ 0 ≤ z ∧ z ≤ y := by
  unfold tN
  split
  · simp_all
  · split <;> simp_all
def ra (t ans : Int) : Int × Int := if t = 0 then (ans, 0) else (-1, t)
theorem ra_t (h : 0 ≤ t ∧ t ≤ 3) : 0 ≤ (ra t ans).2 ∧ (ra t ans).2 ≤ 6 ∧ (ra t ans).2 ≠ 4 := by
  unfold ra
  split
  · exact ⟨Int.le_refl 0, by show (0 : Int) ≤ 6; omega, by show (0 : Int) ≠ 4; omega⟩
  · exact ⟨h.1, by have := h.2; show t ≤ 6; omega, by have := h.2; show t ≠ 4; omega⟩
theorem tL_3 : 0 ≤ tL R ∧ tL R ≤ 3 := by unfold tL; split <;> omega
theorem tC_3 {z : Int} : 0 ≤ tC R z ∧ tC R z ≤ 3 := by unfold tC; split <;> omega
theorem tB_3 {z : Int} : 0 ≤ tB R z ∧ tB R z ≤ 3 := by unfold tB; split <;> omega
theorem tP_3 {z y : Int} : 0 ≤ tP R z y ∧ tP R z y ≤ 3 := by unfold tP tC; split <;> (try split) <;> omega
theorem tW_3 {z y : Int} : 0 ≤ tW R z y ∧ tW R z y ≤ 3 := by unfold tW; split <;> (try split) <;> omega
theorem tN_3 {z y : Int} : 0 ≤ tN R z y ∧ tN R z y ≤ 3 := by unfold tN; split <;> (try split) <;> omega
theorem x_fin (h : t = 0 → ok f (An (ans, 0))) : ok (if t = 0 then f else some (-1, sI σ 0 10 (iI t))) (An (ra t ans)) := by
  unfold ra
  by_cases h0 : t = 0
  · rw [if_pos h0, if_pos h0]; exact h h0
  · rw [if_neg h0, if_neg h0]
    exact okS.mpr ⟨rfl, gI_eq⟩
theorem m_fin (h : t = 0 → ok f (Am (ans, 0))) : ok (if t = 0 then f else some (-1, sI σ 66 11 (iI t))) (Am (ra t ans)) := by
  unfold ra
  by_cases h0 : t = 0
  · rw [if_pos h0, if_pos h0]; exact h h0
  · rw [if_neg h0, if_neg h0]
    exact okS.mpr ⟨rfl, gI_eq⟩
theorem iI_0 (h1 : 0 ≤ t ∧ t ≤ 9) : (iI t = 0) = (t = 0) := by
  rw [show (0 : Int32) = iI 0 from rfl, iI_eq (by omega) (by omega) (by omega) (by omega)]
theorem m_finL (h : R 0 ≠ 0 → ok f (Am (ans, 0))) : ok (if R 0 = 0 then some (-1, sI σ 66 11 1) else f) (Am (ra (tL R) ans)) := by
  unfold ra
  by_cases h0 : R 0 = 0
  · rw [if_pos h0, if_neg (by rw [tL_0]; omega)]
    refine okS.mpr ⟨rfl, ?_⟩
    rw [show tL R = 1 by unfold tL; rw [if_pos h0]]
    exact gI_eq
  · rw [if_neg h0, if_pos (tL_0.mpr h0)]
    exact h h0
theorem m_finC {z : Int} (h : 0 ≤ z ∧ z < R 0 → ok f (Am (ans, 0))) : ok (if 0 ≤ z ∧ z < R 0 then f else some (-1, sI σ 66 11 1)) (Am (ra (tC R z) ans)) := by
  unfold ra
  by_cases h0 : 0 ≤ z ∧ z < R 0
  · rw [if_pos h0, if_pos (tC_0.mpr h0)]
    exact h h0
  · rw [if_neg h0, if_neg (by rw [tC_0]; exact h0)]
    refine okS.mpr ⟨rfl, ?_⟩
    rw [show tC R z = 1 by unfold tC; rw [if_neg h0]]
    exact gI_eq
theorem m_finB {z : Int} (h : 0 ≤ z ∧ z < R 2 → ok f (Am (ans, 0))) : ok (if 0 ≤ z ∧ z < R 2 then f else some (-1, sI σ 66 11 1)) (Am (ra (tB R z) ans)) := by
  unfold ra
  by_cases h0 : 0 ≤ z ∧ z < R 2
  · rw [if_pos h0, if_pos (tB_0.mpr h0)]
    exact h h0
  · rw [if_neg h0, if_neg (by rw [tB_0]; exact h0)]
    refine okS.mpr ⟨rfl, ?_⟩
    rw [show tB R z = 1 by unfold tB; rw [if_neg h0]]
    exact gI_eq
theorem m_finP {z y : Int} {τ : Sg} (h : 0 ≤ z ∧ z < R 0 → 0 ≤ y ∧ y < R 0 → ok f (Am (ans, 0))) : ok (if 0 ≤ z ∧ z < R 0 then (if 0 ≤ y ∧ y < R 0 then f else some (-1, sI σ 66 11 1)) else some (-1, sI τ 66 11 1)) (Am (ra (tP R z y) ans)) := by
  unfold ra
  by_cases h0 : 0 ≤ z ∧ z < R 0
  · by_cases h1 : 0 ≤ y ∧ y < R 0
    · rw [if_pos h0, if_pos h1, if_pos (tP_0.mpr ⟨h0, h1⟩)]
      exact h h0 h1
    · rw [if_pos h0, if_neg h1, if_neg (by rw [tP_0]; exact fun q => h1 q.2)]
      refine okS.mpr ⟨rfl, ?_⟩
      rw [show tP R z y = 1 by unfold tP tC; rw [if_pos h0, if_neg h1]]
      exact gI_eq
  · rw [if_neg h0, if_neg (by rw [tP_0]; exact fun q => h0 q.1)]
    refine okS.mpr ⟨rfl, ?_⟩
    rw [show tP R z y = 1 by unfold tP; rw [if_neg h0]]
    exact gI_eq
theorem pm_goneOn {a2 : Nat} (hN : 200000 ≤ N) (hR : AR σ 69 189 R) (hS : AR σ a2 63 S) (hC : R 0 ≤ 60) (hz : ∀ k, R 0 ≤ k → k < 60 → S k = 0) (hr : ∀ k, k < 60 → S k < 2147483648) : f_m_goneOn N 69 63 a2 σ = some (iI (cnt (gon S) 64 : Int), σ) := by
  have e0 := hR.A (z := 0) 0 rfl (by omega) (by omega)
  have key : ∀ n i, i ≤ R 0 → R 0 - i < n → f_m_goneOn_L4 N 69 63 a2 n (iI (cnt (gon S) i : Int)) (iI (i : Int)) σ = some (iI (cnt (gon S) (R 0) : Int), σ) := by
    intro n
    induction n with
    | zero => intro i _ h; omega
    | succ n ih =>
      intro i hi hn
      unfold f_m_goneOn_L4
      by_cases h : i < R 0
      · have e1 := hS.A (z := (i : Int)) i rfl (by omega) (by omega)
        have h3 := ih (i + 1) (by omega) (by omega)
        have h4 := hr i (by omega)
        simp (disch := omega) only [e0, e1, nI_iI, iI_lit, iI_neg, iI_add, iI_sub, iI_mul, iI_lt, iI_le, iI_eq, vin_iI]
        rw [if_neg (by omega), if_pos (by omega)]
        rw [cnt_succ] at h3
        by_cases hg : S i = 0
        · rw [if_pos (by omega)]
          rw [if_neg (by simp [gon, hg])] at h3
          exact h3
        · rw [if_neg (by omega)]
          rw [if_pos (by simp [gon]; omega)] at h3
          exact h3
      · simp (disch := omega) only [e0, nI_iI, iI_lit, iI_neg, iI_add, iI_sub, iI_mul, iI_lt, iI_le, iI_eq, vin_iI]
        rw [if_pos (by omega), show i = R 0 by omega]
  unfold f_m_goneOn
  have h := key N 0 (by omega) (by omega)
  rw [show cnt (gon S) 64 = cnt (gon S) (R 0) from cnt_le_of (by omega) (fun k h1 h2 => by
    unfold gon
    rw [decide_eq_false_iff_not]
    intro q
    have := hz k h1 q.1
    omega)]
  exact h
theorem pm_lostOn {a3 : Nat} (hN : 200000 ≤ N) (hR : AR σ 69 189 R) (hS : AR σ a3 63 S) (hW : WfL R) (hr : ∀ k, k < 60 → S k < 2147483648) : f_m_lostOn N 69 189 63 a3 σ = some (iI (lost R (gon S) : Int), σ) := by
  have h6 := hW.np
  have hC := hW.c
  have e0 := hR.A (z := 3) 3 rfl (by omega) (by omega)
  have key : ∀ n p, p ≤ R 3 → R 3 - p < n → f_m_lostOn_L4 N 69 189 63 a3 n (iI (lostB R (gon S) p : Int)) (iI (p : Int)) σ = some (iI (lost R (gon S) : Int), σ) := by
    intro n
    induction n with
    | zero => intro i _ h; omega
    | succ n ih =>
      intro p hi hn
      unfold f_m_lostOn_L4
      by_cases h : p < R 3
      · have hp := hW.pl h
        have e1 := hR.A (z := 12 + 2 * (p : Int)) (12 + 2 * p) (by omega) (by omega) (by omega)
        have e2 := hR.A (z := 12 + 2 * (p : Int) + 1) (13 + 2 * p) (by omega) (by omega) (by omega)
        have e3 := hS.A (z := (R (12 + 2 * p) : Int)) (R (12 + 2 * p)) rfl (by omega) (by omega)
        have h3 := ih (p + 1) (by omega) (by omega)
        have h4 := hr (R (12 + 2 * p)) (by omega)
        simp (disch := omega) only [e0, e1, e2, e3, nI_iI, iI_lit, iI_neg, iI_add, iI_sub, iI_mul, iI_lt, iI_le, iI_eq, vin_iI]
        rw [if_neg (by omega), if_pos (by omega), if_pos (by omega)]
        unfold lostB at h3
        by_cases hg : S (R (12 + 2 * p)) = 0
        · rw [if_pos (by omega)]
          rw [if_neg (by simp [gon, hg])] at h3
          exact h3
        · rw [if_neg (by omega), if_pos (by omega)]
          rw [if_pos (by simp [gon]; omega)] at h3
          exact h3
      · simp (disch := omega) only [e0, nI_iI, iI_lit, iI_neg, iI_add, iI_sub, iI_mul, iI_lt, iI_le, iI_eq, vin_iI]
        rw [if_pos (by omega), show p = R 3 by omega]
        rfl
  exact key N 0 (by omega) (by omega)
theorem WfS.r (h : WfS R S) : ∀ k, k < 60 → S k < 2147483648 := fun k hk => by have := h.1 k hk; omega
theorem cnt64 {S : Nat → Nat} {n : Nat} (h : 60 ≤ n) : cnt (gon S) n = cnt (gon S) 60 := cnt_le_of h (fun k h1 h2 => by simp [gon]; omega)
end FIN
section NOW
variable {N : Nat} {σ : Sg}
theorem sim_son (h : Sim σ) : Both (f_x_son N σ) (f_m_son N) := by
  obtain ⟨R, S, B, h, hr⟩ := h
  refine sim_ro (a := ra (tL R) (S 60 : Int)) h hr (ra_t tL_3) ?_ (fun z => w_f_x_son) rfl (fun τ g => ?_) (fun τ y => w_f_m_son) rfl rfl
  · simp only [f_x_son, tx_land h.lx.c h.gd.c, px_gr N tL_r, Option.bind_some, bind_ite, Bool.false_eq_true, ↓reduceIte]
    exact x_fin (fun _ => okS.mpr ⟨(h.sx.tr (v := 0) (by decide)).2.2.1, gI_eq⟩)
  · simp only [f_m_son, pm_anew, g.lm.an.has, f_m_no, Option.bind_some, bind_ite, Bool.false_eq_true, ↓reduceIte]
    exact m_finL (fun _ => okS.mpr ⟨g.lm.an.2.1.A (z := 60) 60 rfl (by omega) (by omega), an_t⟩)
theorem sim_curate (h : Sim σ) : Both (f_x_curate N σ) (f_m_curate N) := by
  obtain ⟨R, S, B, h, hr⟩ := h
  refine sim_ro (a := ra (tL R) (S 61 : Int)) h hr (ra_t tL_3) ?_ (fun z => w_f_x_curate) rfl (fun τ g => ?_) (fun τ y => w_f_m_curate) rfl rfl
  · simp only [f_x_curate, tx_land h.lx.c h.gd.c, px_gr N tL_r, Option.bind_some, bind_ite, Bool.false_eq_true, ↓reduceIte]
    exact x_fin (fun _ => okS.mpr ⟨(h.sx.tr (v := 0) (by decide)).2.2.2.1, gI_eq⟩)
  · simp only [f_m_curate, pm_anew, g.lm.an.has, f_m_no, Option.bind_some, bind_ite, Bool.false_eq_true, ↓reduceIte]
    exact m_finL (fun _ => okS.mpr ⟨g.lm.an.2.1.A (z := 61) 61 rfl (by omega) (by omega), an_t⟩)
theorem sim_gone (hN : 200000 ≤ N) (h : Sim σ) : Both (f_x_gone N σ) (f_m_gone N) := by
  obtain ⟨R, S, B, h, hr⟩ := h
  refine sim_ro (a := ra (tL R) (cnt (gon S) 64 : Int)) h hr (ra_t tL_3) ?_ (fun z => w_f_x_gone) rfl (fun τ g => ?_) (fun τ y => w_f_m_gone) rfl rfl
  · simp only [f_x_gone, tx_land h.lx.c h.gd.c, px_gr N tL_r, Option.bind_some, bind_ite, Bool.false_eq_true, ↓reduceIte, px_goneCells, px_bitCount]
    refine x_fin (fun h0 => okS.mpr ⟨?_, gI_eq⟩)
    rw [(h.sx.tr (by decide)).gone (h.gd.ws (tL_0.mp h0)).1]
  · simp only [f_m_gone, pm_anew, g.lm.an.has, f_m_no, Option.bind_some, bind_ite, Bool.false_eq_true, ↓reduceIte]
    refine m_finL (fun h0 => ?_)
    have hs := g.gd.ws h0
    rw [pm_goneOn hN g.lm.an.1 g.lm.an.2.1 g.gd.c hs.2.1 hs.r]
    exact okS.mpr ⟨rfl, an_t⟩
theorem sim_lost (hN : 200000 ≤ N) (h : Sim σ) : Both (f_x_lost N σ) (f_m_lost N) := by
  obtain ⟨R, S, B, h, hr⟩ := h
  refine sim_ro (a := ra (tL R) (lost R (gon S) : Int)) h hr (ra_t tL_3) ?_ (fun z => w_f_x_lost) rfl (fun τ g => ?_) (fun τ y => w_f_m_lost) rfl rfl
  · simp only [f_x_lost, tx_land h.lx.c h.gd.c, px_gr N tL_r, Option.bind_some, bind_ite, Bool.false_eq_true, ↓reduceIte, px_goneCells]
    refine x_fin (fun h0 => ?_)
    rw [px_lost hN h.lx.tr (h.gd.wl (tL_0.mp h0)), (h.sx.tr (by decide)).gone (h.gd.ws (tL_0.mp h0)).1]
    exact okS.mpr ⟨rfl, gI_eq⟩
  · simp only [f_m_lost, pm_anew, g.lm.an.has, f_m_no, Option.bind_some, bind_ite, Bool.false_eq_true, ↓reduceIte]
    refine m_finL (fun h0 => ?_)
    rw [pm_lostOn hN g.lm.an.1 g.lm.an.2.1 (g.gd.wl h0) (g.gd.ws h0).r]
    exact okS.mpr ⟨rfl, an_t⟩
theorem sim_boots (v : Int32) (h : Sim σ) : Both (f_x_boots N v σ) (f_m_boots N v) := by
  obtain ⟨R, S, B, h, hr⟩ := h
  obtain ⟨z, rfl, z1, z2⟩ := iI_of v
  have hb := h.gd.nb
  refine sim_ro (a := ra (tB R z) (R (9 + z.toNat) : Int)) h hr (ra_t tB_3) ?_ (fun z => w_f_x_boots) rfl (fun τ g => ?_) (fun τ y => w_f_m_boots) rfl rfl
  · simp only [f_x_boots, tx_boots h.lx.nb h.gd.nb z1 z2, px_gr N tB_r, Option.bind_some, bind_ite, Bool.false_eq_true, ↓reduceIte]
    refine x_fin (fun h0 => ?_)
    rw [tB_0] at h0
    obtain ⟨b, rfl⟩ : ∃ b : Nat, z = (b : Int) := ⟨z.toNat, by omega⟩
    rw [px_at h.lx.tr.nb (by omega) (by omega) (by omega), h.lx.tr.bt b (by omega)]
    exact okS.mpr ⟨rfl, gI_eq⟩
  · simp only [f_m_boots, pm_anew, pm_isBoots g.lm.an g.gd.nb g.gd.nb0 z1 z2, f_m_no, Option.bind_some, bind_ite, Bool.false_eq_true, ↓reduceIte, decide_eq_true_eq]
    refine m_finB (fun h0 => ?_)
    obtain ⟨b, rfl⟩ : ∃ b : Nat, z = (b : Int) := ⟨z.toNat, by omega⟩
    have e := g.lm.an.1.A (z := 9 + (b : Int)) (9 + b) (by omega) (by omega) (by omega)
    simp (disch := omega) only [e, nI_iI, iI_lit, iI_neg, iI_add, iI_sub, iI_mul, iI_lt, iI_le, iI_eq, vin_iI]
    rw [if_pos (by omega)]
    exact okS.mpr ⟨rfl, an_t⟩
end NOW
