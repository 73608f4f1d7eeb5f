/-! ===== calls: cells, places, strides from now ===== -/
def ixF (g : Nat → Int) (v : Int) : Nat → Nat → Int
  | 0, _ => -2
  | n + 1, p => if g p = v then (p : Int) else ixF g v n (p + 1)
theorem ixF_cases (g : Nat → Int) (v : Int) : ∀ n p, (ixF g v n p = -2 ∧ ∀ i, p ≤ i → i < p + n → g i ≠ v) ∨ ∃ i, p ≤ i ∧ i < p + n ∧ ixF g v n p = (i : Int) ∧ g i = v ∧ ∀ j, p ≤ j → j < i → g j ≠ v := by
  intro n
  induction n with
  | zero => intro p; left; exact ⟨rfl, fun i h1 h2 => by omega⟩
  | succ n ih =>
    intro p
    unfold ixF
    by_cases h : g p = v
    · right
      refine ⟨p, by omega, by omega, by rw [if_pos h], h, fun j h1 h2 => by omega⟩
    · rw [if_neg h]
      rcases ih (p + 1) with ⟨h1, h2⟩ | ⟨i, h1, h2, h3, h4, h5⟩
      · left
        refine ⟨h1, fun i h3 h4 => ?_⟩
        by_cases e : i = p
        · rw [e]; exact h
        · exact h2 i (by omega) (by omega)
      · right
        refine ⟨i, by omega, by omega, h3, h4, fun j h6 h7 => ?_⟩
        by_cases e : j = p
        · rw [e]; exact h
        · exact h5 j (by omega) h7
section NOWB
variable {N : Nat} {R S B : Nat → Nat} {σ : Sg}
theorem px_indexOf {a0 a1 a2 c : Nat} {g : Nat → Int} (hN : 200000 ≤ N) (hc : gI σ a0 1 = iI (c : Int)) (hl : c ≤ a1) (ha : a1 < 1000) (hg : ∀ i, i < c → gI σ a2 i = iI (g i) ∧ -2147483648 ≤ g i ∧ g i < 2147483648) {v : Int} (h1 : -2147483648 ≤ v) (h2 : v < 2147483648) : f_numbers_indexOf N a0 a1 a2 (iI v) σ = some (iI (ixF g v c 0), σ) := by
  have key : ∀ n p, p ≤ c → c - p < n → f_numbers_indexOf_L2 N a0 a1 a2 n (iI v) (iI (p : Int)) σ = some (iI (ixF g v (c - p) p), σ) := by
    intro n
    induction n with
    | zero => intro i _ h; omega
    | succ n ih =>
      intro p hi hn
      unfold f_numbers_indexOf_L2
      by_cases h : p < c
      · have h3 := ih (p + 1) (by omega) (by omega)
        obtain ⟨e1, e2, e3⟩ := hg p h
        rw [px_at hc h hl ha, Option.bind_some, e1]
        simp (disch := omega) only [hc, nI_iI, iI_lit, iI_neg, iI_add, iI_sub, iI_mul, iI_lt, iI_le, iI_eq, vin_iI]
        rw [if_neg (by omega), show c - p = (c - (p + 1)) + 1 by omega]
        unfold ixF
        by_cases e : g p = v
        · rw [if_pos e, if_pos e]
        · rw [if_neg e, if_neg e]
          exact h3
      · simp (disch := omega) only [hc, nI_iI, iI_lit, iI_neg, iI_add, iI_sub, iI_mul, iI_lt, iI_le, iI_eq, vin_iI]
        rw [if_pos (by omega), show c - p = 0 by omega]
        rfl
  exact key N 0 (by omega) (by omega)
theorem pm_placeAt (hN : 200000 ≤ N) (hR : AR σ 69 189 R) (hW : WfL R) {v : Int} (h1 : -2147483648 ≤ v) (h2 : v < 2147483648) : f_m_placeAt N (iI v) σ = some (iI (ixF (fun p => (R (12 + 2 * p) : Int)) v (R 3) 0), σ) := by
  have h6 := hW.np
  have hC := hW.c
  have e0 := hR.A (z := 3) 3 rfl (by omega) (by omega)
  have key : ∀ n p, p ≤ R 3 → R 3 - p < n → f_m_placeAt_L2 N n (iI v) (iI (p : Int)) σ = some (iI (ixF (fun p => (R (12 + 2 * p) : Int)) v (R 3 - p) p), σ) := by
    intro n
    induction n with
    | zero => intro i _ h; omega
    | succ n ih =>
      intro p hi hn
      unfold f_m_placeAt_L2
      by_cases h : p < R 3
      · have hp := hW.pl h
        have e1 := hR.A (z := 12 + 2 * (p : Int)) (12 + 2 * p) (by omega) (by omega) (by omega)
        have h3 := ih (p + 1) (by omega) (by omega)
        simp (disch := omega) only [e0, e1, nI_iI, iI_lit, iI_neg, iI_add, iI_sub, iI_mul, iI_lt, iI_le, iI_eq, vin_iI]
        rw [if_neg (by omega), if_pos (by omega), show R 3 - p = (R 3 - (p + 1)) + 1 by omega]
        unfold ixF
        by_cases e : (R (12 + 2 * p) : Int) = v
        · rw [if_pos e, if_pos e]
        · rw [if_neg e, if_neg e]
          exact h3
      · simp (disch := omega) only [e0, nI_iI, iI_lit, iI_neg, iI_add, iI_sub, iI_mul, iI_lt, iI_le, iI_eq, vin_iI]
        rw [if_pos (by omega), show R 3 - p = 0 by omega]
        rfl
  exact key N 0 (by omega) (by omega)
def SB (o : Nat) (S : Nat → Nat) (σ : Sg) : Prop := (∀ k, tb (gL σ o 0) k = decide (k < 60 ∧ S k % 2 = 1)) ∧ (∀ k, tb (gL σ o 1) k = decide (k < 60 ∧ 2 ≤ S k))
theorem SX.b {o : Nat} (h : SX o S σ) : SB o S σ := ⟨h.1, h.2.1⟩
theorem SB.fr {o : Nat} {τ : Sg} {W : WL} (h : SB o S σ) (f : Fr W σ τ) (hw : dis W [(o, none)] = true) : SB o S τ := by
  refine ⟨fun k => ?_, fun k => ?_⟩
  · rw [f.dL hw (by simp)]; exact h.1 k
  · rw [f.dL hw (by simp)]; exact h.2 k
theorem SB.gone {o : Nat} (h : SB o S σ) (hs : ∀ k, k < 60 → S k ≤ 3) : tb (gL σ o 0 ||| gL σ o 1) = gon S := by
  funext k
  rw [tb_or, h.1, h.2, gon, ← Bool.decide_or]
  have := hs k
  exact decide_eq_decide.mpr (by omega)
theorem px_depthAt {o k : Nat} (h : SB o S σ) (hk : k < 60) (hs : S k ≤ 3) : f_state_depthAt N o (iI (k : Int)) σ = some (iI (S k : Int), σ) := by
  unfold f_state_depthAt
  rw [px_bitN N _ (by omega), Option.bind_some]
  simp only
  rw [px_bitN N _ (by omega), Option.bind_some, h.1 k, h.2 k]
  simp only [decide_eq_true_eq]
  have hc : S k = 0 ∨ S k = 1 ∨ S k = 2 ∨ S k = 3 := by omega
  rcases hc with e | e | e | e <;> rw [e] <;> simp [hk, b2i] <;> rfl
theorem px_groundAt {k : Nat} (h : LX 10 R σ) (hk : k < 60) (hs : R (129 + k) ≤ 2) : f_country_groundAt N (iI (k : Int)) σ = some (iI (R (129 + k) : Int), σ) := by
  unfold f_country_groundAt
  rw [px_bitN N _ (by omega), Option.bind_some]
  simp only
  rw [px_bitN N _ (by omega), Option.bind_some, h.bog k, h.wood k]
  simp only [decide_eq_true_eq]
  have hc : R (129 + k) = 0 ∨ R (129 + k) = 1 ∨ R (129 + k) = 2 := by omega
  rcases hc with e | e | e <;> rw [e] <;> simp [hk] <;> rfl
theorem ra_0 {a : Int} : ra 0 a = (a, 0) := rfl
def caI (R S : Nat → Nat) (z y : Int) : Int := if y = 0 then (R (129 + z.toNat) : Int) else if y = 1 then (S z.toNat : Int) else if y = 2 then ixF (fun p => (R (12 + 2 * p) : Int)) z (R 3) 0 else (if (S 60 : Int) = z then 1 else 0) + (if (S 61 : Int) = z then 2 else 0)
theorem two_b2i {a b : Int} (c d : Prop) [Decidable c] [Decidable d] : (if d then (some (b2i (decide c) + iI 2, σ) : Option (Int32 × Sg)) else some (b2i (decide c) + iI 0, σ)) = some (iI ((if c then 1 else 0) + (if d then 2 else 0)), σ) := by
  by_cases h1 : c <;> by_cases h2 : d <;> simp [h1, h2, b2i] <;> rfl
theorem sim_cell (hN : 200000 ≤ N) (v w : Int32) (h : Sim σ) : Both (f_x_cell N v w σ) (f_m_cell N v w) := by
  obtain ⟨R, S, B, h, hr⟩ := h
  obtain ⟨z, rfl, z1, z2⟩ := iI_of v
  obtain ⟨y, rfl, y1, y2⟩ := iI_of w
  have hc := h.gd.c
  refine sim_ro (a := ra (if 0 ≤ y ∧ y ≤ 3 then tC R z else 1) (caI R S z y)) h hr (ra_t (by have := tC_3 (R := R) (z := z); split <;> omega)) ?_ (fun z => w_f_x_cell) rfl (fun τ g => ?_) (fun τ y => w_f_m_cell) rfl rfl
  · simp only [f_x_cell, tx_cell h.lx.c h.gd.c z1 z2, px_gr N tC_r, px_gr1, Option.bind_some, bind_ite, Bool.false_eq_true, ↓reduceIte]
    simp (disch := omega) only [nI_iI, iI_lit, iI_neg, iI_add, iI_sub, iI_mul, iI_lt, iI_le, iI_eq, vin_iI]
    by_cases hy : 0 ≤ y ∧ y ≤ 3
    · rw [if_neg (by omega), if_pos (by omega), if_pos hy]
      refine x_fin (fun h0 => ?_)
      rw [tC_0] at h0
      have hW := h.gd.wl (by omega)
      have hS := h.gd.ws (by omega)
      obtain ⟨k, rfl⟩ : ∃ b : Nat, z = (b : Int) := ⟨z.toNat, by omega⟩
      have hsx : SX 40 S (sI σ 0 10 (iI 0)) := h.sx.tr (by decide)
      have hlx : LX 10 R (sI σ 0 10 (iI 0)) := h.lx.tr
      unfold caI
      rw [px_groundAt hlx (by omega) (hW.gd (by omega)), px_depthAt hsx.b (by omega) (hS.1 _ (by omega)), hsx.2.2.1, hsx.2.2.2.1]
      unfold f_country_placeAt
      rw [px_indexOf hN hlx.np hW.np (by omega) (g := fun p => (R (12 + 2 * p) : Int)) (fun i hi => ⟨hlx.pl hi, by omega, by have := hW.pl hi; show (R (12 + 2 * i) : Int) < _; omega⟩) (by omega) (by omega)]
      simp only [Option.bind_some, Int.toNat_natCast]
      have hs0 := hS.2.2.1
      have hs1 := hS.2.2.2.1
      simp (disch := omega) only [iI_eq]
      rw [two_b2i (a := 0) (b := 0)]
      by_cases e0 : y = 0
      · rw [if_pos e0, if_pos e0]; exact okS.mpr ⟨rfl, gI_eq⟩
      · rw [if_neg e0, if_neg e0]
        by_cases e1 : y = 1
        · rw [if_pos e1, if_pos e1]; exact okS.mpr ⟨rfl, gI_eq⟩
        · rw [if_neg e1, if_neg e1]
          by_cases e2 : y = 2
          · rw [if_pos e2, if_pos e2]; exact okS.mpr ⟨rfl, gI_eq⟩
          · rw [if_neg e2, if_neg e2]; exact okS.mpr ⟨rfl, gI_eq⟩
    · rw [if_neg hy]
      by_cases e : y < 0
      · rw [if_pos e]; exact okS.mpr ⟨rfl, gI_eq⟩
      · rw [if_neg e, if_neg (by omega)]; exact okS.mpr ⟨rfl, gI_eq⟩
  · simp only [f_m_cell, pm_anew, pm_isCell g.lm.an g.gd.c z1 z2, f_m_no, Option.bind_some, bind_ite, Bool.false_eq_true, ↓reduceIte, decide_eq_true_eq]
    simp (disch := omega) only [pm_in, Option.bind_some, decide_eq_true_eq, nI_iI, iI_lit, iI_neg, iI_add, iI_sub, iI_mul, iI_lt, iI_le, iI_eq, vin_iI]
    by_cases hz : 0 ≤ z ∧ z < R 0
    · rw [if_pos hz]
      by_cases hy : 0 ≤ y ∧ y ≤ 3
      · rw [if_pos hy, if_pos hy, show tC R z = 0 from tC_0.mpr hz]
        obtain ⟨k, rfl⟩ : ∃ b : Nat, z = (b : Int) := ⟨z.toNat, by omega⟩
        have hW := g.gd.wl (by omega)
        have hS := g.gd.ws (by omega)
        have hs0 := hS.2.2.1
        have hs1 := hS.2.2.2.1
        have e1 := g.lm.an.1.A (z := 129 + (k : Int)) (129 + k) (by omega) (by omega) (by omega)
        have e2 := g.lm.an.2.1.A (z := (k : Int)) k rfl (by omega) (by omega)
        have e3 := g.lm.an.2.1.A (z := 60) 60 rfl (by omega) (by omega)
        have e4 := g.lm.an.2.1.A (z := 61) 61 rfl (by omega) (by omega)
        rw [ra_0]
        unfold caI
        rw [e1, e2, e3, e4, pm_placeAt hN g.lm.an.1 hW z1 z2]
        simp only [Option.bind_some, Int.toNat_natCast]
        simp (disch := omega) only [iI_eq]
        rw [two_b2i (a := 0) (b := 0)]
        by_cases e0 : y = 0
        · rw [if_pos e0, if_pos e0, if_pos (by omega)]; exact okS.mpr ⟨rfl, an_t⟩
        · rw [if_neg e0, if_neg e0]
          by_cases e1 : y = 1
          · rw [if_pos e1, if_pos e1, if_pos (by omega)]; exact okS.mpr ⟨rfl, an_t⟩
          · rw [if_neg e1, if_neg e1]
            by_cases e2 : y = 2
            · rw [if_pos e2, if_pos e2]; exact okS.mpr ⟨rfl, an_t⟩
            · rw [if_neg e2, if_neg e2]; exact okS.mpr ⟨rfl, an_t⟩
      · rw [if_neg hy, if_neg hy]; exact okS.mpr ⟨rfl, gI_eq⟩
    · rw [if_neg hz, show tC R z = 1 by unfold tC; rw [if_neg hz], ite_self]
      exact okS.mpr ⟨rfl, gI_eq⟩
def plI (R S : Nat → Nat) (z y : Int) : Int := if y = 0 then (R (12 + 2 * z.toNat) : Int) else if y = 1 then (R (13 + 2 * z.toNat) : Int) else if gon S (R (12 + 2 * z.toNat)) = true then 1 else 0
theorem sim_place (v w : Int32) (h : Sim σ) : Both (f_x_place N v w σ) (f_m_place N v w) := by
  obtain ⟨R, S, B, h, hr⟩ := h
  obtain ⟨z, rfl, z1, z2⟩ := iI_of v
  obtain ⟨y, rfl, y1, y2⟩ := iI_of w
  have hc := h.gd.c
  have h6 := h.gd.np
  refine sim_ro (a := ra (if (0 ≤ z ∧ z < R 3) ∧ 0 ≤ y ∧ y ≤ 2 then 0 else 1) (plI R S z y)) h hr (ra_t (by split <;> omega)) ?_ (fun z => w_f_x_place) rfl (fun τ g => ?_) (fun τ y => w_f_m_place) rfl rfl
  · simp only [f_x_place, px_gr0, px_gr1, h.lx.np, Option.bind_some, bind_ite, Bool.false_eq_true, ↓reduceIte]
    simp (disch := omega) only [nI_iI, iI_lit, iI_neg, iI_add, iI_sub, iI_mul, iI_lt, iI_le, iI_eq, vin_iI]
    by_cases hy : (0 ≤ z ∧ z < R 3) ∧ 0 ≤ y ∧ y ≤ 2
    · rw [if_neg (by omega), if_neg (by omega), if_neg (by omega), if_neg (by omega), if_pos hy]
      have h0 := h.gd.np0 (by omega)
      have hW := h.gd.wl h0
      have hS := h.gd.ws h0
      obtain ⟨p, rfl⟩ : ∃ b : Nat, z = (b : Int) := ⟨z.toNat, by omega⟩
      have hsx : SX 40 S (sI σ 0 10 (iI 0)) := h.sx.tr (by decide)
      have hlx : LX 10 R (sI σ 0 10 (iI 0)) := h.lx.tr
      have hp : p < R 3 := by omega
      unfold plI
      rw [px_goneCells, px_at hlx.np hp (by omega) (by omega), px_at hlx.nf hp (by omega) (by omega), hlx.pl hp, hlx.fk hp]
      simp only [Option.bind_some, Int.toNat_natCast]
      rw [px_isLost hlx hW _ hp, hsx.b.gone hS.1]
      simp only [Option.bind_some]
      by_cases e0 : y = 0
      · rw [if_pos e0, if_pos e0]; exact okS.mpr ⟨rfl, gI_eq⟩
      · rw [if_neg e0, if_neg e0]
        by_cases e1 : y = 1
        · rw [if_pos e1, if_pos e1]; exact okS.mpr ⟨rfl, gI_eq⟩
        · rw [if_neg e1, if_neg e1]
          by_cases e2 : gon S (R (12 + 2 * p)) = true
          · rw [if_pos e2, if_pos e2]; exact okS.mpr ⟨rfl, gI_eq⟩
          · rw [if_neg e2, if_neg e2]; exact okS.mpr ⟨rfl, gI_eq⟩
    · rw [if_neg hy]
      by_cases e : z < 0
      · rw [if_pos e]; exact okS.mpr ⟨rfl, gI_eq⟩
      · rw [if_neg e]
        by_cases e : (R 3 : Int) ≤ z
        · rw [if_pos e]; exact okS.mpr ⟨rfl, gI_eq⟩
        · rw [if_neg e]
          by_cases e : y < 0
          · rw [if_pos e]; exact okS.mpr ⟨rfl, gI_eq⟩
          · rw [if_neg e, if_pos (by omega)]; exact okS.mpr ⟨rfl, gI_eq⟩
  · simp only [f_m_place, pm_anew, pm_isPlace g.lm.an g.gd.np g.gd.np0 z1 z2, f_m_no, Option.bind_some, bind_ite, Bool.false_eq_true, ↓reduceIte, decide_eq_true_eq]
    simp (disch := omega) only [pm_in, Option.bind_some, decide_eq_true_eq, nI_iI, iI_lit, iI_neg, iI_add, iI_sub, iI_mul, iI_le]
    by_cases hz : 0 ≤ z ∧ z < R 3
    · rw [if_pos hz]
      by_cases hy : 0 ≤ y ∧ y ≤ 2
      · rw [if_pos hy, show (if (0 ≤ z ∧ z < ↑(R 3)) ∧ 0 ≤ y ∧ y ≤ 2 then (0 : Int) else 1) = 0 from if_pos ⟨hz, hy⟩, ra_0]
        have h0 := g.gd.np0 (by omega)
        have hW := g.gd.wl h0
        have hS := g.gd.ws h0
        obtain ⟨p, rfl⟩ : ∃ b : Nat, z = (b : Int) := ⟨z.toNat, by omega⟩
        have hp := hW.pl (p := p) (by omega)
        have hs := hS.1 (R (12 + 2 * p)) (by omega)
        have e1 := g.lm.an.1.A (z := 12 + 2 * (p : Int)) (12 + 2 * p) (by omega) (by omega) (by omega)
        have e2 := g.lm.an.2.1.A (z := (R (12 + 2 * p) : Int)) (R (12 + 2 * p)) rfl (by omega) (by omega)
        unfold plI
        simp (disch := omega) only [e1, e2, nI_iI, iI_lit, iI_neg, iI_add, iI_sub, iI_mul, iI_lt, iI_le, iI_eq, vin_iI]
        simp only [Int.toNat_natCast]
        by_cases e0 : y = 0
        · subst e0
          have e3 := g.lm.an.1.A (z := 12 + 2 * (p : Int) + 0) (12 + 2 * p) (by omega) (by omega) (by omega)
          rw [e3]
          repeat (first | rw [if_neg (by omega)] | rw [if_pos (by omega)])
          exact okS.mpr ⟨rfl, an_t⟩
        · by_cases e1 : y = 1
          · subst e1
            have e3 := g.lm.an.1.A (z := 12 + 2 * (p : Int) + 1) (13 + 2 * p) (by omega) (by omega) (by omega)
            rw [e3]
            repeat (first | rw [if_neg (by omega)] | rw [if_pos (by omega)])
            exact okS.mpr ⟨rfl, an_t⟩
          · rw [if_pos (by omega), if_pos (by omega), if_pos (by omega), if_neg e0, if_neg e1]
            by_cases e2 : S (R (12 + 2 * p)) = 0
            · rw [if_pos (by omega), if_neg (by simp [gon]; omega)]; exact okS.mpr ⟨rfl, an_t⟩
            · rw [if_neg (by omega), if_pos (by simp [gon]; omega)]; exact okS.mpr ⟨rfl, an_t⟩
      · rw [if_neg hy, if_neg (fun q => hy q.2)]; exact okS.mpr ⟨rfl, gI_eq⟩
    · rw [if_neg hz, if_neg (fun q => hz q.1)]; exact okS.mpr ⟨rfl, gI_eq⟩
def stI (S : Nat → Nat) (k : Nat) : Int := if S k = 0 then 0 else if k = S 61 then 2 * (S k : Int) else (if k < S 61 then (S 61 : Int) - k else (k : Int) - S 61) + 2 * ((S k : Int) - 1)
theorem sim_steps (v : Int32) (h : Sim σ) : Both (f_x_steps N v σ) (f_m_steps N v) := by
  obtain ⟨R, S, B, h, hr⟩ := h
  obtain ⟨z, rfl, z1, z2⟩ := iI_of v
  have hc := h.gd.c
  refine sim_ro (a := ra (tC R z) (stI S z.toNat)) h hr (ra_t tC_3) ?_ (fun z => w_f_x_steps) rfl (fun τ g => ?_) (fun τ y => w_f_m_steps) rfl rfl
  · simp only [f_x_steps, tx_cell h.lx.c h.gd.c z1 z2, px_gr N tC_r, Option.bind_some, bind_ite, Bool.false_eq_true, ↓reduceIte]
    refine x_fin (fun h0 => ?_)
    rw [tC_0] at h0
    have hS := h.gd.ws (by omega)
    obtain ⟨k, rfl⟩ : ∃ b : Nat, z = (b : Int) := ⟨z.toNat, by omega⟩
    have hsx : SX 40 S (sI σ 0 10 0) := h.sx.tr (by decide)
    have hk := hS.1 k (by omega)
    have h61 := hS.2.2.2.1
    rw [px_depthAt hsx.b (by omega) hk, Option.bind_some, hsx.2.2.2.1, iI_sub, jabs_iI (by omega) (by omega), Int.toNat_natCast]
    unfold stI
    by_cases e : 0 ≤ (k : Int) - (S 61 : Int)
    · rw [if_pos e]
      simp (disch := omega) only [nI_iI, iI_lit, iI_neg, iI_add, iI_sub, iI_mul, iI_lt, iI_le, iI_eq, vin_iI]
      by_cases e0 : S k = 0
      · rw [if_pos (by omega), if_pos e0]; exact okS.mpr ⟨rfl, gI_eq⟩
      · rw [if_neg (by omega), if_neg e0]
        by_cases e1 : k = S 61
        · rw [if_pos (by omega), if_pos e1]; exact okS.mpr ⟨rfl, gI_eq⟩
        · rw [if_neg (by omega), if_neg e1, if_neg (by omega)]; exact okS.mpr ⟨rfl, gI_eq⟩
    · rw [if_neg e]
      simp (disch := omega) only [nI_iI, iI_lit, iI_neg, iI_add, iI_sub, iI_mul, iI_lt, iI_le, iI_eq, vin_iI]
      by_cases e0 : S k = 0
      · rw [if_pos (by omega), if_pos e0]; exact okS.mpr ⟨rfl, gI_eq⟩
      · rw [if_neg (by omega), if_neg e0, if_neg (by omega), if_neg (by omega), if_pos (by omega)]
        refine okS.mpr ⟨?_, gI_eq⟩
        show iI _ = iI _
        congr 1; omega
  · simp only [f_m_steps, pm_anew, pm_isCell g.lm.an g.gd.c z1 z2, f_m_no, Option.bind_some, bind_ite, Bool.false_eq_true, ↓reduceIte, decide_eq_true_eq]
    refine m_finC (fun h0 => ?_)
    have hS := g.gd.ws (by omega)
    obtain ⟨k, rfl⟩ : ∃ b : Nat, z = (b : Int) := ⟨z.toNat, by omega⟩
    have hk := hS.1 k (by omega)
    have h61 := hS.2.2.2.1
    have e1 := g.lm.an.2.1.A (z := (k : Int)) k rfl (by omega) (by omega)
    have e2 := g.lm.an.2.1.A (z := 61) 61 rfl (by omega) (by omega)
    unfold stI
    rw [e1, show gA (an τ) 74 61 = iI (S 61 : Int) from e2, Int.toNat_natCast]
    simp (disch := omega) only [nI_iI, iI_lit, iI_neg, iI_add, iI_sub, iI_mul, iI_lt, iI_le, iI_eq, vin_iI]
    rw [if_pos (by omega)]
    by_cases e0 : S k = 0
    · rw [if_pos (by omega), if_pos e0]; exact okS.mpr ⟨rfl, an_t⟩
    · rw [if_neg (by omega), if_neg e0]
      by_cases e1 : k = S 61
      · rw [if_pos (by omega), if_pos (by omega), if_pos (by omega), if_pos e1]; exact okS.mpr ⟨rfl, an_t⟩
      · rw [if_neg e1]
        by_cases e2 : k < S 61
        · rw [if_neg (by omega), if_neg (by omega), if_pos (by omega), if_pos e2]; exact okS.mpr ⟨rfl, an_t⟩
        · rw [if_pos (by omega), if_neg (by omega), if_pos (by omega), if_neg e2]; exact okS.mpr ⟨rfl, an_t⟩
def tgi (o : Option Nat) : Int := match o with
  | none => -2
  | some t => (t : Int)
theorem tg_i (o : Option Nat) : tg o = iI (tgi o) := by cases o <;> rfl
theorem px_targetNow (hL : LX 10 R σ) (hS : SX 40 S σ) (hW : WfL R) (hs : WfS R S) {b w : Nat} (hb : b < R 2) (hw : w ≤ 1) : f_x_targetNow N (iI (b : Int)) (iI (w : Int)) σ = some (tg (lead R (gon S) (S 60) (2 * b + 1 + w)), σ) := by
  have h3 := hW.nb
  unfold f_x_targetNow f_x_digitFor
  rw [px_goneCells, Option.bind_some, Option.bind_some]
  simp only [hS.2.2.1]
  rw [show (2 * iI (b : Int) + 1) + iI (w : Int) = iI ((2 * b + 1 + w : Nat) : Int) by
    simp only [nI_iI, iI_lit, iI_neg, iI_add, iI_sub, iI_mul]; congr 1]
  rw [px_tgt hL hW _ hs.2.2.1 (by omega) (by omega), hS.b.gone hs.1]
  rfl
theorem sim_leads (v w : Int32) (h : Sim σ) : Both (f_x_leads N v w σ) (f_m_leads N v w) := by
  obtain ⟨R, S, B, h, hr⟩ := h
  obtain ⟨z, rfl, z1, z2⟩ := iI_of v
  obtain ⟨y, rfl, y1, y2⟩ := iI_of w
  refine sim_ro (a := ra (tW R z y) (tgi (lead R (gon S) (S 60) (2 * z.toNat + 1 + y.toNat)))) h hr (ra_t tW_3) ?_ (fun z => w_f_x_leads) rfl (fun τ g => ?_) (fun τ y => w_f_m_leads) rfl rfl
  · simp only [f_x_leads, tx_way h.lx.nb h.gd.nb z1 z2 y1 y2, px_gr N tW_r, Option.bind_some, bind_ite, Bool.false_eq_true, ↓reduceIte]
    refine x_fin (fun h0 => ?_)
    rw [tW_0] at h0
    obtain ⟨b, rfl⟩ : ∃ b : Nat, z = (b : Int) := ⟨z.toNat, by omega⟩
    obtain ⟨w, rfl⟩ : ∃ b : Nat, y = (b : Int) := ⟨y.toNat, by omega⟩
    have hn := h.gd.nb0 (by omega)
    rw [px_targetNow h.lx.tr (h.sx.tr (by decide)) (h.gd.wl hn) (h.gd.ws hn) (by omega) (by omega)]
    exact okS.mpr ⟨tg_i _, gI_eq⟩
  · simp only [f_m_leads, pm_anew, pm_wayWhy g.lm.an g.gd.nb g.gd.nb0 z1 z2 y1 y2, f_m_no, Option.bind_some, bind_ite, Bool.false_eq_true, ↓reduceIte, iI_0 tW_r]
    refine m_fin (fun h0 => ?_)
    rw [tW_0] at h0
    obtain ⟨b, rfl⟩ : ∃ b : Nat, z = (b : Int) := ⟨z.toNat, by omega⟩
    obtain ⟨w, rfl⟩ : ∃ b : Nat, y = (b : Int) := ⟨y.toNat, by omega⟩
    have hn := g.gd.nb0 (by omega)
    have hW := g.gd.wl hn
    have hS := g.gd.ws hn
    have h3 := hW.nb
    rw [pm_leadOf g.lm.an.1 g.lm.an.2.1 hW.c.2 (by omega) (hW.bt (by omega)).2 hS.2.2.1 hS.r (by omega)]
    exact okS.mpr ⟨tg_i _, an_t⟩
end NOWB
