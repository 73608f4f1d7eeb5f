/-! ===== son and county; what is told; the tape ===== -/
section FEW
variable {N : Nat} {σ : Sg}
def shI (v a b : Int32) : Int32 := if a = 0 then (if b = 0 then 1 else -1) else if b = 0 then 3 else -v
theorem px_shareOf (v a b : Int32) : f_x_shareOf N v a b σ = some (shI v a b, σ) := by
  unfold f_x_shareOf shI
  by_cases h1 : a = 0 <;> by_cases h2 : b = 0 <;> simp [h1, h2]
theorem pm_goesOf (v a b : Int32) : f_m_goesOf N v a b σ = some (shI v a b, σ) := by
  unfold f_m_goesOf shI
  by_cases h1 : a = 0 <;> by_cases h2 : b = 0 <;> simp [h1, h2]
theorem pm_why9 {R S : Nat → Nat} {β : Type} {z m : Int} (h : LandM R S σ) (h1 : -2147483648 ≤ z) (h2 : z < 2147483648) (h3 : -2147483648 ≤ m) (h4 : m < 2147483648) (k : Int32 × Sg → Option β) : ((f_m_in N (iI z) (iI 0) (iI m) σ).bind fun q2 => (f_m_why N (gI σ 66 14) (b2i q2.1) q2.2).bind k) = k (iI (tN R z m), σ) := by
  have e := pm_numWhy (N := N) h h1 h2 h3 h4
  rw [pm_in h1 h2 (by omega) (by omega) h3 h4] at e ⊢
  simp only [Option.bind_some] at e ⊢
  rw [e]
  rfl
theorem sim_goes (v a b c : Int32) (h : Sim σ) : Both (f_x_goes N v a b c σ) (f_m_goes N v a b c) := by
  obtain ⟨R, S, B, h, hr⟩ := h
  obtain ⟨z, rfl, z1, z2⟩ := iI_of v
  have h3 := tN_3 (R := R) (z := z) (y := 9)
  refine both_ro (Q := fun u => u = if tN R z 9 = 0 then (if c = 0 then shI (iI z) a b else shI (iI z) b a) else -100) (t := tN R z 9) h hr (fun u v h1 h2 => h1.trans h2.symm) (by omega) ?_ (fun z => w_f_x_goes) rfl (fun τ g => ?_) (fun τ y => w_f_m_goes) rfl rfl
  · have e := tx_num (N := N) h.lx.c h.gd.c z1 z2 (m := 9) (by omega) (by omega)
    simp only [f_x_goes, show (9 : Int32) = iI 9 from rfl, e, px_gr N tN_r, Option.bind_some, bind_ite, Bool.false_eq_true, ↓reduceIte, px_shareOf]
    by_cases ht : tN R z 9 = 0
    · rw [if_pos ht, if_pos ht, ht]
      by_cases hc : c = 0
      · rw [if_pos hc, if_pos hc]; exact okS.mpr ⟨rfl, gI_eq⟩
      · rw [if_neg hc, if_neg hc]; exact okS.mpr ⟨rfl, gI_eq⟩
    · rw [if_neg ht, if_neg ht]; exact okS.mpr ⟨rfl, gI_eq⟩
  · simp only [f_m_goes, pm_anew, show (9 : Int32) = iI 9 from rfl]
    rw [show (f_m_in N (iI z) 0 (iI 9) (an τ)) = f_m_in N (iI z) (iI 0) (iI 9) (an τ) from rfl, pm_why9 g.lm.an z1 z2 (by omega) (by omega)]
    simp only [pm_goesOf, Option.bind_some, iI_0 (tN_r (R := R) (z := z) (y := 9))]
    by_cases ht : tN R z 9 = 0
    · rw [if_pos ht, if_pos ht, ht]
      by_cases hc : c = 0
      · rw [if_pos hc, if_pos hc]; exact okS.mpr ⟨rfl, an_t⟩
      · rw [if_neg hc, if_neg hc]; exact okS.mpr ⟨rfl, an_t⟩
    · rw [if_neg ht, if_neg ht]; exact okS.mpr ⟨rfl, gI_eq⟩
def rsI (z : Nat) : Int := if z = 0 then 1 else if z = 1 then 3 else 2
def rfI (z : Nat) : Int := if z = 0 then 11 else 1
theorem px_restsL (M : Nat) : ∀ z, z ≤ 9 → f_x_rests_L20 N (M + 5) (iI ((z : Nat) : Int)) 0 0 σ = some (iI (rsI z), σ) := by
  intro z hz
  have h : z = 0 ∨ z = 1 ∨ z = 2 ∨ z = 3 ∨ z = 4 ∨ z = 5 ∨ z = 6 ∨ z = 7 ∨ z = 8 ∨ z = 9 := by omega
  rcases h with rfl | rfl | rfl | rfl | rfl | rfl | rfl | rfl | rfl | rfl <;> rfl
theorem px_restL (M : Nat) : ∀ z, z ≤ 9 → f_x_rest_L18 N (M + 5) (iI ((z : Nat) : Int)) 0 σ = some (iI (rfI z), σ) := by
  intro z hz
  have h : z = 0 ∨ z = 1 ∨ z = 2 ∨ z = 3 ∨ z = 4 ∨ z = 5 ∨ z = 6 ∨ z = 7 ∨ z = 8 ∨ z = 9 := by omega
  rcases h with rfl | rfl | rfl | rfl | rfl | rfl | rfl | rfl | rfl | rfl <;> rfl
theorem pm_restsL (M : Nat) : ∀ z, z ≤ 9 → f_m_seekRests_L10 N (M + 5) (iI ((z : Nat) : Int)) 0 0 σ = some (iI (rsI z), sI σ 66 48 (iI (rfI z))) := by
  intro z hz
  have h : z = 0 ∨ z = 1 ∨ z = 2 ∨ z = 3 ∨ z = 4 ∨ z = 5 ∨ z = 6 ∨ z = 7 ∨ z = 8 ∨ z = 9 := by omega
  rcases h with rfl | rfl | rfl | rfl | rfl | rfl | rfl | rfl | rfl | rfl <;> rfl
theorem sim_rests (hN : 200000 ≤ N) (v : Int32) (h : Sim σ) : Both (f_x_rests N v σ) (f_m_rests N v) := by
  obtain ⟨R, S, B, h, hr⟩ := h
  obtain ⟨z, rfl, z1, z2⟩ := iI_of v
  refine sim_ro (a := ra (tN R z 9) (rsI z.toNat)) h hr (ra_t tN_3) ?_ (fun z => w_f_x_rests) rfl (fun τ g => ?_) (fun τ y => w_f_m_rests) rfl rfl
  · have e := tx_num (N := N) h.lx.c h.gd.c z1 z2 (m := 9) (by omega) (by omega)
    simp only [f_x_rests, show (9 : Int32) = iI 9 from rfl, e, px_gr N tN_r, Option.bind_some, bind_ite, Bool.false_eq_true, ↓reduceIte]
    refine x_fin (fun h0 => ?_)
    rw [tN_0] at h0
    obtain ⟨n, rfl⟩ : ∃ b : Nat, z = (b : Int) := ⟨z.toNat, by omega⟩
    have e2 := px_restsL (N := N) (σ := sI σ 0 10 0) (N - 5) n (by omega)
    rw [show N - 5 + 5 = N by omega] at e2
    rw [e2, Int.toNat_natCast]
    exact okS.mpr ⟨rfl, gI_eq⟩
  · simp only [f_m_rests, pm_anew, show (9 : Int32) = iI 9 from rfl, f_m_no]
    rw [show (f_m_in N (iI z) 0 (iI 9) (an τ)) = f_m_in N (iI z) (iI 0) (iI 9) (an τ) from rfl, pm_why9 g.lm.an z1 z2 (by omega) (by omega)]
    simp only [Option.bind_some, iI_0 (tN_r (R := R) (z := z) (y := 9))]
    refine m_fin (fun h0 => ?_)
    rw [tN_0] at h0
    obtain ⟨n, rfl⟩ : ∃ b : Nat, z = (b : Int) := ⟨z.toNat, by omega⟩
    have e2 := pm_restsL (N := N) (σ := sI (an τ) 66 48 (-2)) (N - 5) n (by omega)
    rw [show N - 5 + 5 = N by omega] at e2
    unfold f_m_seekRests
    rw [e2, Int.toNat_natCast]
    refine okS.mpr ⟨rfl, ?_⟩
    rw [gI_ne (by omega), gI_ne (by omega)]; exact an_t
theorem sim_rest (hN : 200000 ≤ N) (v : Int32) (h : Sim σ) : Both (f_x_rest N v σ) (f_m_rest N v) := by
  obtain ⟨R, S, B, h, hr⟩ := h
  obtain ⟨z, rfl, z1, z2⟩ := iI_of v
  refine sim_ro (a := ra (tN R z 9) (rfI z.toNat)) h hr (ra_t tN_3) ?_ (fun z => w_f_x_rest) rfl (fun τ g => ?_) (fun τ y => w_f_m_rest) rfl rfl
  · have e := tx_num (N := N) h.lx.c h.gd.c z1 z2 (m := 9) (by omega) (by omega)
    simp only [f_x_rest, show (9 : Int32) = iI 9 from rfl, e, px_gr N tN_r, Option.bind_some, bind_ite, Bool.false_eq_true, ↓reduceIte]
    refine x_fin (fun h0 => ?_)
    rw [tN_0] at h0
    obtain ⟨n, rfl⟩ : ∃ b : Nat, z = (b : Int) := ⟨z.toNat, by omega⟩
    have e2 := px_restL (N := N) (σ := sI σ 0 10 0) (N - 5) n (by omega)
    rw [show N - 5 + 5 = N by omega] at e2
    rw [e2, Int.toNat_natCast]
    exact okS.mpr ⟨rfl, gI_eq⟩
  · simp only [f_m_rest, pm_anew, show (9 : Int32) = iI 9 from rfl, f_m_no]
    rw [show (f_m_in N (iI z) 0 (iI 9) (an τ)) = f_m_in N (iI z) (iI 0) (iI 9) (an τ) from rfl, pm_why9 g.lm.an z1 z2 (by omega) (by omega)]
    simp only [Option.bind_some, iI_0 (tN_r (R := R) (z := z) (y := 9))]
    refine m_fin (fun h0 => ?_)
    rw [tN_0] at h0
    obtain ⟨n, rfl⟩ : ∃ b : Nat, z = (b : Int) := ⟨z.toNat, by omega⟩
    have e2 := pm_restsL (N := N) (σ := sI (an τ) 66 48 (-2)) (N - 5) n (by omega)
    rw [show N - 5 + 5 = N by omega] at e2
    unfold f_m_seekRests
    rw [e2, Int.toNat_natCast, Option.bind_some]
    refine okS.mpr ⟨gI_eq (σ := sI (an τ) 66 48 (-2)) (i := 66) (k := 48) (v := iI (rfI n)), ?_⟩
    rw [gI_ne (by omega), gI_ne (by omega)]; exact an_t
/-! calls that refuse nothing -/
theorem Sim.thr {v : Int32} (h : Sim σ) : Sim (sI σ 66 0 v) := by
  obtain ⟨R, S, B, h, hr⟩ := h
  refine ⟨R, S, B, h.fr (W := [(66, some 0)]) (Fr.wI Fr.rf (by simp)) rfl, ?_, ?_, fun q => ?_⟩
  · rw [gI_ne (by omega), gI_ne (by omega)]; exact hr.1
  · rw [gI_ne (by omega), gI_ne (by omega)]; exact hr.2.1
  · rw [gI_ne (by omega)] at q
    rw [gI_ne (by omega), gI_ne (by omega)]; exact hr.2.2 q
theorem sim_trouble (h : Sim σ) : Both (f_x_trouble N σ) (f_m_trouble N) := by
  have h2 := h.thr (v := 0)
  obtain ⟨R, S, B, h, hr⟩ := h
  refine okS.mpr (okS.mpr ⟨?_, h2⟩)
  show gI σ 0 10 = gI (sI σ 66 0 0) 66 11
  rw [gI_ne (by omega)]; exact hr.1
theorem sim_fault (h : Sim σ) : Both (f_x_fault N σ) (f_m_fault N) := by
  have h2 := h.thr (v := 0)
  obtain ⟨R, S, B, h, hr⟩ := h
  refine okS.mpr (okS.mpr ⟨?_, h2⟩)
  show gI σ 1 12 = gI (sI σ 66 0 0) 66 9
  rw [gI_ne (by omega)]; exact hr.2.1
theorem sim_where (h : Sim σ) : Both (f_x_where N σ) (f_m_where N) := by
  have h2 := h.thr (v := 0)
  obtain ⟨R, S, B, h, hr⟩ := h
  unfold Both f_x_where f_m_where
  by_cases c : gI σ 0 10 = 4
  · rw [if_pos c]
    refine okS.mpr ?_
    dsimp only
    rw [if_pos (show gI (sI σ 66 0 0) 66 11 = 4 by rw [gI_ne (by omega), ← hr.1]; exact c)]
    refine okS.mpr ⟨?_, h2⟩
    show gI σ 1 13 = gI (sI σ 66 0 0) 66 10
    rw [gI_ne (by omega)]; exact hr.2.2 c
  · rw [if_neg c]
    refine okS.mpr ?_
    dsimp only
    rw [if_neg (show ¬ gI (sI σ 66 0 0) 66 11 = 4 by rw [gI_ne (by omega), ← hr.1]; exact c)]
    exact okS.mpr ⟨rfl, h2⟩
theorem sim_size (v : Int32) (h : Sim σ) : Both (f_x_size N v σ) (f_m_size N v) := by
  have h2 := h.thr (v := 0)
  obtain ⟨R, S, B, h, hr⟩ := h
  obtain ⟨z, rfl, z1, z2⟩ := iI_of v
  have hf : Fr [(66, some 0)] σ (sI σ 66 0 0) := Fr.wI Fr.rf (by simp)
  have g := h.fr hf rfl
  obtain ⟨U, n, x, hux, hum⟩ := Und_of h.un
  obtain ⟨K, m, hix, him⟩ := Img_of h.im
  obtain ⟨tn, T, ht1, ht2, ht3, ht4⟩ := h.tp
  have hum' := hum.fr hf rfl
  have him' := him.fr hf rfl
  have e2 : gI (sI σ 66 0 0) 66 2 = iI (tn : Int) := by rw [gI_ne (by omega)]; exact ht3
  have a1 : ∀ k, k < 7 → gA (sI σ 66 0 0) 69 (iI ((k : Nat) : Int)) = iI (R k : Int) := fun k hk => g.lm.1.A (z := (k : Int)) k rfl (by omega) (by omega)
  have a2 := g.lm.2.1.A (z := 62) 62 rfl (by omega) (by omega)
  unfold Both f_x_size
  by_cases c10 : z = 10
  · subst c10
    rw [if_neg (show ¬ iI 10 = 0 by decide), if_neg (show ¬ iI 10 = 1 by decide), if_neg (show ¬ iI 10 = 2 by decide), if_neg (show ¬ iI 10 = 3 by decide), if_neg (show ¬ iI 10 = 4 by decide), if_neg (show ¬ iI 10 = 5 by decide), if_neg (show ¬ iI 10 = 6 by decide), if_neg (show ¬ iI 10 = 7 by decide), if_neg (show ¬ iI 10 = 8 by decide), if_neg (show ¬ iI 10 = 9 by decide), if_pos (show iI 10 = 10 from rfl)]
    refine okS.mpr ?_
    unfold f_m_size
    rw [if_pos (show iI 10 = 10 from rfl)]
    refine okS.mpr ⟨?_, h2⟩
    show gI σ 1 1 = gI (sI σ 66 0 0) 66 2
    rw [ht2, e2]
  · have hm : ∀ w, ((R 0 ≠ 0 ∧ ((∃ k, k < 7 ∧ z = ((k : Nat) : Int) ∧ w = iI (R k : Int)) ∨ (z = 7 ∧ w = iI (S 62 : Int)) ∨ (z = 8 ∧ w = iI (n : Int)) ∨ (z = 9 ∧ w = iI (m : Int)) ∨ (¬ (0 ≤ z ∧ z ≤ 9) ∧ w = -1))) ∨ (R 0 = 0 ∧ ((0 ≤ z ∧ z ≤ 9 ∧ w = 0) ∨ (¬ (0 ≤ z ∧ z ≤ 9) ∧ w = -1)))) → ok (f_m_size N (iI z) σ) (fun y => w = y.1 ∧ Sim y.2) := by
      intro w hw
      unfold f_m_size
      simp only [g.lm.has]
      simp (disch := omega) only [pm_in, Option.bind_some, decide_eq_true_eq, nI_iI, iI_lit, iI_neg, iI_add, iI_sub, iI_mul, iI_lt, iI_le, iI_eq, vin_iI]
      rw [if_neg c10]
      rcases hw with ⟨hl, hw⟩ | ⟨hl, hw⟩
      · rw [if_neg hl]
        rcases hw with ⟨k, hk, rfl, rfl⟩ | ⟨rfl, rfl⟩ | ⟨rfl, rfl⟩ | ⟨rfl, rfl⟩ | ⟨hz, rfl⟩
        · rw [if_pos (by omega), if_pos (by omega), show gA (sI σ 66 0 (iI 0)) 69 (iI (k : Int)) = iI (R k : Int) from a1 k hk]
          exact okS.mpr ⟨rfl, h2⟩
        · rw [if_neg (by omega), if_pos rfl, show gA (sI σ 66 0 (iI 0)) 74 (iI 62) = iI (S 62 : Int) from a2]
          exact okS.mpr ⟨rfl, h2⟩
        · rw [if_neg (by omega), if_neg (by omega), if_pos rfl, show gI (sI σ 66 0 (iI 0)) 66 24 = iI (n : Int) from hum'.1]
          exact okS.mpr ⟨rfl, h2⟩
        · rw [if_neg (by omega), if_neg (by omega), if_neg (by omega), if_pos rfl, show gI (sI σ 66 0 (iI 0)) 66 25 = iI (m : Int) from him'.1]
          exact okS.mpr ⟨rfl, h2⟩
        · rw [if_neg (by omega), if_neg (by omega), if_neg (by omega), if_neg (by omega)]
          exact okS.mpr ⟨rfl, h2⟩
      · rw [if_pos hl]
        rcases hw with ⟨q1, q2, rfl⟩ | ⟨q1, rfl⟩
        · rw [if_pos ⟨q1, q2⟩]
          exact okS.mpr ⟨rfl, h2⟩
        · rw [if_neg q1]
          exact okS.mpr ⟨rfl, h2⟩
    have hz : ∀ k, R 0 = 0 → R k = 0 := fun k hl => by
      rcases h.gd with q | q
      · have := q.1.c; omega
      · exact q.1 k
    have hn0 : R 0 = 0 → n = 0 := fun hl => by
      by_cases c : n = 0
      · exact c
      · exact absurd hl (hux.fewer c)
    have hm0 : R 0 = 0 → m = 0 := fun hl => by
      by_cases c : m = 0
      · exact c
      · have := (hix.2.2 0 (by omega)).1.2.2.1; omega
    have hs0 : R 0 = 0 → S 62 = 0 := fun hl => by
      rcases h.gd with q | q
      · have := q.1.c; omega
      · exact q.2 62
    have fin : ∀ k, k < 7 → z = ((k : Nat) : Int) → ok (f_m_size N (iI z) σ) (fun y => iI (R k : Int) = y.1 ∧ Sim y.2) := fun k hk hzk => by
      by_cases hl : R 0 = 0
      · exact hm _ (Or.inr ⟨hl, Or.inl ⟨by omega, by omega, by rw [hz k hl]; rfl⟩⟩)
      · exact hm _ (Or.inl ⟨hl, Or.inl ⟨k, hk, hzk, rfl⟩⟩)
    have nez : ∀ k : Int, 0 ≤ k → k ≤ 10 → z ≠ k → ¬ iI z = iI k := fun k h1 h2 h3 q => h3 ((iI_eq z1 z2 (by omega) (by omega)).mp q)
    by_cases c : z = 0
    · rw [if_pos (show iI z = 0 by rw [c]; rfl), h.lx.c]; exact okS.mpr (fin 0 (by omega) c)
    rw [if_neg (show ¬ iI z = 0 from nez 0 (by omega) (by omega) c)]
    by_cases c : z = 1
    · rw [if_pos (show iI z = 1 by rw [c]; rfl), h.lx.gout]; exact okS.mpr (fin 1 (by omega) c)
    rw [if_neg (show ¬ iI z = 1 from nez 1 (by omega) (by omega) c)]
    by_cases c : z = 2
    · rw [if_pos (show iI z = 2 by rw [c]; rfl), h.lx.nb]; exact okS.mpr (fin 2 (by omega) c)
    rw [if_neg (show ¬ iI z = 2 from nez 2 (by omega) (by omega) c)]
    by_cases c : z = 3
    · rw [if_pos (show iI z = 3 by rw [c]; rfl), h.lx.np]; exact okS.mpr (fin 3 (by omega) c)
    rw [if_neg (show ¬ iI z = 3 from nez 3 (by omega) (by omega) c)]
    by_cases c : z = 4
    · rw [if_pos (show iI z = 4 by rw [c]; rfl), h.lx.ns]; exact okS.mpr (fin 4 (by omega) c)
    rw [if_neg (show ¬ iI z = 4 from nez 4 (by omega) (by omega) c)]
    by_cases c : z = 5
    · rw [if_pos (show iI z = 5 by rw [c]; rfl), h.lx.nu]; exact okS.mpr (fin 5 (by omega) c)
    rw [if_neg (show ¬ iI z = 5 from nez 5 (by omega) (by omega) c)]
    by_cases c : z = 6
    · rw [if_pos (show iI z = 6 by rw [c]; rfl), h.lx.ne]; exact okS.mpr (fin 6 (by omega) c)
    rw [if_neg (show ¬ iI z = 6 from nez 6 (by omega) (by omega) c)]
    by_cases c : z = 7
    · rw [if_pos (show iI z = 7 by rw [c]; rfl), h.sx.2.2.2.2]
      refine okS.mpr ?_
      by_cases hl : R 0 = 0
      · exact hm _ (Or.inr ⟨hl, Or.inl ⟨by omega, by omega, by rw [hs0 hl]; rfl⟩⟩)
      · exact hm _ (Or.inl ⟨hl, Or.inr (Or.inl ⟨c, rfl⟩)⟩)
    rw [if_neg (show ¬ iI z = 7 from nez 7 (by omega) (by omega) c)]
    by_cases c : z = 8
    · rw [if_pos (show iI z = 8 by rw [c]; rfl), hux.2.2.1]
      refine okS.mpr ?_
      by_cases hl : R 0 = 0
      · exact hm _ (Or.inr ⟨hl, Or.inl ⟨by omega, by omega, by rw [hn0 hl]; rfl⟩⟩)
      · exact hm _ (Or.inl ⟨hl, Or.inr (Or.inr (Or.inl ⟨c, rfl⟩))⟩)
    rw [if_neg (show ¬ iI z = 8 from nez 8 (by omega) (by omega) c)]
    by_cases c : z = 9
    · rw [if_pos (show iI z = 9 by rw [c]; rfl), hix.2.1]
      refine okS.mpr ?_
      by_cases hl : R 0 = 0
      · exact hm _ (Or.inr ⟨hl, Or.inl ⟨by omega, by omega, by rw [hm0 hl]; rfl⟩⟩)
      · exact hm _ (Or.inl ⟨hl, Or.inr (Or.inr (Or.inr (Or.inl ⟨c, rfl⟩)))⟩)
    rw [if_neg (show ¬ iI z = 9 from nez 9 (by omega) (by omega) c), if_neg (show ¬ iI z = 10 from nez 10 (by omega) (by omega) c10)]
    refine okS.mpr ?_
    by_cases hl : R 0 = 0
    · exact hm _ (Or.inr ⟨hl, Or.inr ⟨by omega, rfl⟩⟩)
    · exact hm _ (Or.inl ⟨hl, Or.inr (Or.inr (Or.inr (Or.inr ⟨by omega, rfl⟩)))⟩)
end FEW
