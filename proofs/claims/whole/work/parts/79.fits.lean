/-! ===== unsure strides: the calls ===== -/
section FITC
variable {N : Nat} {R S B : Nat → Nat} {σ : Sg}
theorem Beg.tr {v : Int32} (h : Beg R B σ) : Beg R B (sI σ 0 10 v) := h.fr (W := [(0, some 10)]) (Fr.wI Fr.rf (by simp)) rfl
theorem Beg.an (h : Beg R B σ) : Beg R B (an σ) := h.fr an_fr rfl
theorem px_mbit (hW : WfL R) {s : Nat} (hs : s < 64) : f_x_bit N (Int32.toInt64 (iI (msk (fit R B) (nS R) : Int))) (iI (s : Int)) σ = some (decide (s < nS R) && fit R B s, σ) := by
  have hn := nS_le hW
  have hm : msk (fit R B) (nS R) < 2 ^ 16 := Nat.lt_of_lt_of_le (msk_lt _ _) (Nat.pow_le_pow_right (by omega) hn)
  rw [px_bitN N _ (by omega), tb_i32 (by omega), decide_eq_true hs, Bool.true_and, msk_bit]
theorem px_mcnt (hW : WfL R) : f_ji_bitCount N (iI (msk (fit R B) (nS R) : Int)) σ = some (iI (cnt (fit R B) (nS R) : Int), σ) := by
  have hn := nS_le hW
  have hm : msk (fit R B) (nS R) < 2 ^ 16 := Nat.lt_of_lt_of_le (msk_lt _ _) (Nat.pow_le_pow_right (by omega) hn)
  rw [px_ibit N (by omega), msk_cnt hn]
theorem m1 : (-1 : Int32) = iI (-1) := rfl
theorem pm_sets (hN : 200000 ≤ N) {τ : Sg} (g : Sim0 R S B τ) (h0 : R 0 ≠ 0) {z : Int} (z1 : -2147483648 ≤ z) (z2 : z < 2147483648) : ok (f_m_seekSets N (iI z) (an τ)) (fun q => (q.1 = iI (fnd (fit R B) z (nS R)) ∧ gI q.2 66 45 = iI (cnt (fit R B) (nS R) : Int) ∧ gI q.2 66 46 = iI (orS (fit R B) (nS R) : Int) ∧ gI q.2 66 47 = iI ((if cnt (fit R B) (nS R) = 0 then 0 else andS (fit R B) (nS R - 1) (nS R) : Nat) : Int) ∧ ∀ k, k < R 5 → gI q.2 84 k = iI (cnt (fun x => fit R B x && bt x k) (nS R) : Int)) ∧ gI q.2 66 11 = iI 0 ∧ AR q.2 69 189 R) :=
  ((pm_seekSets hN g.lm.an.1 g.bg.an.2.1 (BegW g.bg h0) (g.gd.wl h0) z1 z2).and (fun z => w_f_m_seekSets)).imp (fun q hq => ⟨hq.1, by rw [hq.2.I 66 11 rfl]; exact an_t, g.lm.an.1.fr hq.2 rfl⟩)
theorem sim_fits (hN : 200000 ≤ N) (h : Sim σ) : Both (f_x_fits N σ) (f_m_fits N) := by
  obtain ⟨R, S, B, h, hr⟩ := h
  refine sim_ro (a := ra (tL R) (cnt (fit R B) (nS R) : Int)) h hr (ra_t tL_3) ?_ (fun z => w_f_x_fits) rfl (fun τ g => ?_) (fun τ y => w_f_m_fits) rfl rfl
  · simp only [f_x_fits, tx_land h.lx.c h.gd.c, px_gr N tL_r, Option.bind_some, bind_ite, Bool.false_eq_true, ↓reduceIte]
    refine x_fin (fun h0 => ?_)
    have hW := h.gd.wl (tL_0.mp h0)
    rw [px_fittingSets hN h.lx.tr h.bg.tr hW, Option.bind_some]
    dsimp only
    rw [px_mcnt hW]
    exact okS.mpr ⟨rfl, gI_eq⟩
  · simp only [f_m_fits, pm_anew, g.lm.an.has, f_m_no, Option.bind_some, bind_ite, Bool.false_eq_true, ↓reduceIte]
    refine m_finL (fun h0 => ?_)
    rw [m1, okB]
    exact (pm_sets hN g h0 (z := -1) (by omega) (by omega)).imp (fun q hq => okS.mpr ⟨hq.1.2.1, hq.2.1⟩)
theorem orS_ext {p : Nat → Bool} {n : Nat} : ∀ d, orS (fun s => decide (s < n) && p s) (n + d) = orS p n := by
  intro d
  induction d with
  | zero =>
    have : ∀ m, m ≤ n → orS (fun s => decide (s < n) && p s) m = orS p m := by
      intro m
      induction m with
      | zero => intro _; rfl
      | succ m ih => intro hm; rw [orS_s, orS_s, ih (by omega), decide_eq_true (show m < n by omega), Bool.true_and]
    exact this n (Nat.le_refl _)
  | succ d ih => rw [← Nat.add_assoc, orS_s, if_neg (by simp; intro q; omega), ih]
theorem andS_ext {p : Nat → Bool} {n a : Nat} : ∀ d, andS (fun s => decide (s < n) && p s) a (n + d) = andS p a n := by
  intro d
  induction d with
  | zero =>
    have : ∀ m, m ≤ n → andS (fun s => decide (s < n) && p s) a m = andS p a m := by
      intro m
      induction m with
      | zero => intro _; rfl
      | succ m ih => intro hm; rw [andS_s, andS_s, ih (by omega), decide_eq_true (show m < n by omega), Bool.true_and]
    exact this n (Nat.le_refl _)
  | succ d ih => rw [← Nat.add_assoc, andS_s, if_neg (by simp; intro q; omega), ih]
theorem sim_could (hN : 200000 ≤ N) (h : Sim σ) : Both (f_x_could N σ) (f_m_could N) := by
  obtain ⟨R, S, B, h, hr⟩ := h
  refine sim_ro (a := ra (tL R) (orS (fit R B) (nS R) : Int)) h hr (ra_t tL_3) ?_ (fun z => w_f_x_could) rfl (fun τ g => ?_) (fun τ y => w_f_m_could) rfl rfl
  · simp only [f_x_could, tx_land h.lx.c h.gd.c, px_gr N tL_r, Option.bind_some, bind_ite, Bool.false_eq_true, ↓reduceIte]
    refine x_fin (fun h0 => ?_)
    have hW := h.gd.wl (tL_0.mp h0)
    have hn := nS_le hW
    unfold f_country_inSomeFit
    rw [px_fittingSets hN h.lx.tr h.bg.tr hW, Option.bind_some]
    dsimp only
    have key : ∀ m s τ, s ≤ 16 → 16 - s < m → f_country_inSomeFit_L9 N m (iI (msk (fit R B) (nS R) : Int)) (iI (orS (fun s => decide (s < nS R) && fit R B s) s : Int)) (iI (s : Int)) τ = some (iI (orS (fun s => decide (s < nS R) && fit R B s) 16 : Int), τ) := by
      intro m
      induction m with
      | zero => intro s τ _ h; omega
      | succ m ih =>
        intro s τ hs hm
        unfold f_country_inSomeFit_L9
        by_cases c : s = 16
        · subst c; rw [if_pos (by decide)]
        · rw [if_neg (show ¬ 16 ≤ iI (s : Int) by rw [show (16 : Int32) = iI 16 from rfl, iI_le (by omega) (by omega) (by omega) (by omega)]; omega), px_mbit hW (by omega), Option.bind_some]
          dsimp only
          have ho := orS_lt (p := fun s => decide (s < nS R) && fit R B s) s hs
          rw [iI_or (by omega) (by omega), show iI (s : Int) + 1 = iI ((s + 1 : Nat) : Int) from iI_add _ 1]
          have hi := ih (s + 1) τ (by omega) (by omega)
          rw [orS_s] at hi
          by_cases c2 : (decide (s < nS R) && fit R B s) = true
          · rw [if_pos c2]
            rw [if_pos c2] at hi
            exact hi
          · rw [if_neg c2]
            rw [if_neg c2] at hi
            exact hi
    have e := key N 0 (sI σ 0 10 0) (by omega) (by omega)
    have e2 := orS_ext (p := fit R B) (n := nS R) (16 - nS R)
    rw [show nS R + (16 - nS R) = 16 by omega] at e2
    rw [e2] at e
    rw [show f_country_inSomeFit_L9 N N (iI (msk (fit R B) (nS R) : Int)) 0 0 (sI σ 0 10 0) = some (iI (orS (fit R B) (nS R) : Int), sI σ 0 10 0) from e]
    exact okS.mpr ⟨rfl, gI_eq⟩
  · simp only [f_m_could, pm_anew, g.lm.an.has, f_m_no, Option.bind_some, bind_ite, Bool.false_eq_true, ↓reduceIte]
    refine m_finL (fun h0 => ?_)
    rw [m1, okB]
    exact (pm_sets hN g h0 (z := -1) (by omega) (by omega)).imp (fun q hq => okS.mpr ⟨hq.1.2.2.1, hq.2.1⟩)
theorem andS_eq {p : Nat → Bool} {n j a b : Nat} (hn : n = 2 ^ j) (ha : n ≤ 2 ^ 4) (hb : b = n - 1) (ha2 : a = 15) : ∀ m, m ≤ n → (cnt p m = 0 ∧ andS p a m = a ∧ andS p b m = b) ∨ (0 < cnt p m ∧ andS p a m = andS p b m) := by
  intro m
  induction m with
  | zero => intro _; left; exact ⟨rfl, rfl, rfl⟩
  | succ m ih =>
    intro hm
    rw [cnt_succ, andS_s, andS_s]
    by_cases c : p m = true
    · rw [if_pos c, if_pos c, if_pos c]
      right
      refine ⟨by omega, ?_⟩
      rcases ih (by omega) with ⟨h1, h2, h3⟩ | ⟨h1, h2⟩
      · rw [h2, h3, ha2, hb, hn, Nat.and_comm, Nat.and_comm (2 ^ j - 1), Nat.and_two_pow_sub_one_of_lt_two_pow (by omega)]
        exact Nat.and_two_pow_sub_one_of_lt_two_pow (n := 4) (by omega)
      · rw [h2]
    · rw [if_neg c, if_neg c, if_neg c, Nat.add_zero]
      exact ih (by omega)
theorem msk_0 {p : Nat → Bool} : ∀ n, msk p n = 0 ↔ cnt p n = 0 := by
  intro n
  induction n with
  | zero => exact ⟨fun _ => rfl, fun _ => rfl⟩
  | succ n ih =>
    rw [msk_s, cnt_succ]
    have p0 : 0 < 2 ^ n := Nat.pow_pos (by omega)
    split
    · constructor <;> intro h <;> omega
    · rw [Nat.add_zero, Nat.add_zero]; exact ih
theorem msk_b (hW : WfL R) : msk (fit R B) (nS R) < 65536 := Nat.lt_of_lt_of_le (msk_lt _ _) (Nat.pow_le_pow_right (n := 2) (by omega) (nS_le hW))
theorem sim_surely (hN : 200000 ≤ N) (h : Sim σ) : Both (f_x_surely N σ) (f_m_surely N) := by
  obtain ⟨R, S, B, h, hr⟩ := h
  refine sim_ro (a := ra (tL R) ((if cnt (fit R B) (nS R) = 0 then 0 else andS (fit R B) (nS R - 1) (nS R) : Nat) : Int)) h hr (ra_t tL_3) ?_ (fun z => w_f_x_surely) rfl (fun τ g => ?_) (fun τ y => w_f_m_surely) rfl rfl
  · simp only [f_x_surely, tx_land h.lx.c h.gd.c, px_gr N tL_r, Option.bind_some, bind_ite, Bool.false_eq_true, ↓reduceIte]
    refine x_fin (fun h0 => ?_)
    have hW := h.gd.wl (tL_0.mp h0)
    have hn := nS_le hW
    have hmb := msk_b (B := B) hW
    unfold f_country_inAllFits
    rw [px_fittingSets hN h.lx.tr h.bg.tr hW, Option.bind_some]
    dsimp only
    have key : ∀ a, a < 16 → ∀ m s τ, s ≤ 16 → 16 - s < m → f_country_inAllFits_L18 N m (iI (msk (fit R B) (nS R) : Int)) (iI (andS (fun s => decide (s < nS R) && fit R B s) a s : Int)) (iI (s : Int)) τ = some (iI (andS (fun s => decide (s < nS R) && fit R B s) a 16 : Int), τ) := by
      intro a ha m
      induction m with
      | zero => intro s τ _ h; omega
      | succ m ih =>
        intro s τ hs hm
        unfold f_country_inAllFits_L18
        by_cases c : s = 16
        · subst c; rw [if_pos (by decide)]
        · rw [if_neg (show ¬ 16 ≤ iI (s : Int) by rw [show (16 : Int32) = iI 16 from rfl, iI_le (by omega) (by omega) (by omega) (by omega)]; omega), px_mbit hW (by omega), Option.bind_some]
          dsimp only
          have ho := andS_lt (p := fun s => decide (s < nS R) && fit R B s) ha s hs
          rw [iI_and (by omega) (by omega), show iI (s : Int) + 1 = iI ((s + 1 : Nat) : Int) from iI_add _ 1]
          have hi := ih (s + 1) τ (by omega) (by omega)
          rw [andS_s] at hi
          by_cases c2 : (decide (s < nS R) && fit R B s) = true
          · rw [if_pos c2]
            rw [if_pos c2] at hi
            exact hi
          · rw [if_neg c2]
            rw [if_neg c2] at hi
            exact hi
    have fin : ∀ a : Nat, a < 16 → f_country_inAllFits_L18 N N (iI (msk (fit R B) (nS R) : Int)) (iI (a : Int)) (iI ((0 : Nat) : Int)) (sI σ 0 10 0) = some (iI (andS (fit R B) a (nS R) : Int), sI σ 0 10 0) := fun a ha => by
      have e := key a ha N 0 (sI σ 0 10 0) (by omega) (by omega)
      have e2 := andS_ext (p := fit R B) (n := nS R) (a := a) (16 - nS R)
      rw [show nS R + (16 - nS R) = 16 by omega] at e2
      rw [e2] at e
      exact e
    have hae := andS_eq (p := fit R B) (n := nS R) (j := R 5) (a := 15) (b := nS R - 1) rfl (by omega) rfl rfl (nS R) (Nat.le_refl _)
    by_cases c : cnt (fit R B) (nS R) = 0
    · have hm0 := (msk_0 (p := fit R B) (nS R)).mpr c
      rw [if_pos (show iI (msk (fit R B) (nS R) : Int) = 0 by rw [hm0]; rfl), if_pos c]
      have hz : andS (fit R B) 0 (nS R) = 0 := by
        have : ∀ m, andS (fit R B) 0 m = 0 := by
          intro m
          induction m with
          | zero => rfl
          | succ m ih => rw [andS_s, ih, Nat.zero_and, ite_self]
        exact this _
      have f0 := fin 0 (by omega)
      rw [hz] at f0
      rw [show f_country_inAllFits_L18 N N (iI (msk (fit R B) (nS R) : Int)) 0 0 (sI σ 0 10 0) = some (iI ((0 : Nat) : Int), sI σ 0 10 0) from f0]
      exact okS.mpr ⟨rfl, gI_eq⟩
    · have hm0 : msk (fit R B) (nS R) ≠ 0 := fun q => c ((msk_0 (nS R)).mp q)
      rw [if_neg (show ¬ iI (msk (fit R B) (nS R) : Int) = 0 by rw [show (0 : Int32) = iI 0 from rfl, iI_eq (by omega) (by omega) (by omega) (by omega)]; omega), if_neg c]
      have f15 := fin 15 (by omega)
      rcases hae with ⟨q, _⟩ | ⟨_, q⟩
      · exact absurd q c
      · rw [q] at f15
        rw [show f_country_inAllFits_L18 N N (iI (msk (fit R B) (nS R) : Int)) 15 0 (sI σ 0 10 0) = some (iI (andS (fit R B) (nS R - 1) (nS R) : Int), sI σ 0 10 0) from f15]
        exact okS.mpr ⟨rfl, gI_eq⟩
  · simp only [f_m_surely, pm_anew, g.lm.an.has, f_m_no, Option.bind_some, bind_ite, Bool.false_eq_true, ↓reduceIte]
    refine m_finL (fun h0 => ?_)
    rw [m1, okB]
    exact (pm_sets hN g h0 (z := -1) (by omega) (by omega)).imp (fun q hq => okS.mpr ⟨hq.1.2.2.2.1, hq.2.1⟩)
theorem sim_judge (hN : 200000 ≤ N) (h : Sim σ) : Both (f_x_judge N σ) (f_m_judge N) := by
  obtain ⟨R, S, B, h, hr⟩ := h
  refine sim_ro (a := ra (tL R) (unI R (gon (runS R B (R 4))))) h hr (ra_t tL_3) ?_ (fun z => w_f_x_judge) rfl (fun τ g => ?_) (fun τ y => w_f_m_judge) rfl rfl
  · simp only [f_x_judge, tx_land h.lx.c h.gd.c, px_gr N tL_r, Option.bind_some, bind_ite, Bool.false_eq_true, ↓reduceIte]
    refine x_fin (fun h0 => ?_)
    have hW := h.gd.wl (tL_0.mp h0)
    unfold f_country_firstUnlike
    rw [px_unlikeSeen hN h.lx.tr hW, h.bg.tr.2.2.2.2.2]
    exact okS.mpr ⟨rfl, gI_eq⟩
  · simp only [f_m_judge, pm_anew, g.lm.an.has, f_m_no, Option.bind_some, bind_ite, Bool.false_eq_true, ↓reduceIte]
    refine m_finL (fun h0 => ?_)
    have hW := g.gd.wl h0
    have d0 : ∀ i, dgF R 0 i = R (24 + i) + 1 := fun i => by
      unfold dgF
      have : ∀ n, flN R 0 i n = false := by
        intro n
        induction n with
        | zero => rfl
        | succ n ih =>
          unfold flN
          rw [ih, show bt 0 n = false by unfold bt; rw [Nat.zero_div]; rfl]; rfl
      rw [this, if_neg (by decide)]
    have r0 : ∀ i, rgo R B (dgF R 0) i = runS R B i := by
      intro i
      induction i with
      | zero => rfl
      | succ i ih =>
        show go R (rgo R B (dgF R 0) i) (dgF R 0 i) = go R (runS R B i) (R (24 + i) + 1)
        rw [ih, d0]
    have c0 : ∀ n, n ≤ R 4 → rcan R B (dgF R 0) n = true := by
      intro n
      induction n with
      | zero => intro _; rfl
      | succ n ih =>
        intro hn
        unfold rcan
        rw [ih (by omega), r0, d0, g.bg.2.2.2.2.1 n (by omega)]; rfl
    have hwr : wrI R B 0 = unI R (gon (runS R B (R 4))) := by
      unfold wrI fok fend
      rw [if_pos (c0 (R 4) (Nat.le_refl _)), r0]
    rw [show (0 : Int32) = iI ((0 : Nat) : Int) from rfl, okB]
    refine ((pm_wrongBy hN g.lm.an.1 g.bg.an.2.1 (BegW g.bg h0) hW (s := 0) (by omega)).and (fun z => w_f_m_wrongBy)).imp (fun q hq => okS.mpr ⟨?_, ?_⟩)
    · rw [← hwr]; exact hq.1
    · rw [hq.2.I 66 11 rfl]; exact an_t
/-! the i-th set; the question -/
theorem cnt_mono {p : Nat → Bool} {m n : Nat} (h : m ≤ n) : cnt p m ≤ cnt p n := by
  obtain ⟨d, rfl⟩ : ∃ d, n = m + d := ⟨n - m, by omega⟩
  rw [cnt_add]; omega
theorem fnd_at {p : Nat → Bool} {k : Nat} : ∀ n, k < n → p k = true → fnd p (cnt p k : Int) n = (k : Int) := by
  intro n
  induction n with
  | zero => intro h; omega
  | succ n ih =>
    intro hk hp
    rw [fnd_s]
    by_cases c : k = n
    · subst c; rw [if_pos ⟨hp, rfl⟩]
    · rw [if_neg, ih (by omega) hp]
      rintro ⟨_, q⟩
      have h1 := cnt_mono (p := p) (show k + 1 ≤ n by omega)
      rw [cnt_succ, if_pos hp] at h1
      omega
theorem fnd_no {p : Nat → Bool} {z : Int} : ∀ n, ¬ (0 ≤ z ∧ z < cnt p n) → fnd p z n = -1 := by
  intro n
  induction n with
  | zero => intro _; rfl
  | succ n ih =>
    intro h
    rw [fnd_s]
    have h1 := cnt_succ p n
    rw [if_neg, ih (by intro q; apply h; rw [h1]; split <;> omega)]
    rintro ⟨q1, q2⟩
    rw [if_pos q1] at h1
    omega
theorem px_nthBit (hN : 200000 ≤ N) (hW : WfL R) {i : Nat} (hi : i < cnt (fit R B) (nS R)) : f_x_nthBit N (iI (msk (fit R B) (nS R) : Int)) (iI (i : Int)) σ = some (iI (fnd (fit R B) (i : Int) (nS R)), σ) := by
  have hn := nS_le hW
  have hcn := cnt_le (fit R B) (nS R)
  have key : ∀ m k, cnt (fit R B) k ≤ i → 32 - k < m → k ≤ 32 → f_x_nthBit_L4 N m (iI (msk (fit R B) (nS R) : Int)) (iI ((i : Int) - (cnt (fit R B) k : Int))) (iI (k : Int)) σ = some (iI (fnd (fit R B) (i : Int) (nS R)), σ) := by
    intro m
    induction m with
    | zero => intro k _ h; omega
    | succ m ih =>
      intro k hk hm hk2
      have hkn : k < nS R := by
        by_cases c : k < nS R
        · exact c
        · have := cnt_mono (p := fit R B) (show nS R ≤ k by omega); omega
      unfold f_x_nthBit_L4
      rw [if_neg (show ¬ 32 ≤ iI (k : Int) by rw [show (32 : Int32) = iI 32 from rfl, iI_le (by omega) (by omega) (by omega) (by omega)]; omega), px_mbit hW (by omega), Option.bind_some, decide_eq_true hkn, Bool.true_and]
      dsimp only
      rw [show iI (k : Int) + 1 = iI ((k + 1 : Nat) : Int) from iI_add _ 1, iI_dec]
      have hcs := cnt_succ (fit R B) k
      by_cases c : fit R B k = true
      · rw [if_pos c] at hcs ⊢
        by_cases c2 : i = cnt (fit R B) k
        · rw [if_pos (show iI ((i : Int) - (cnt (fit R B) k : Int)) = 0 by rw [show (i : Int) - (cnt (fit R B) k : Int) = 0 by omega]; rfl), c2, fnd_at (nS R) hkn c]
        · rw [if_neg (show ¬ iI ((i : Int) - (cnt (fit R B) k : Int)) = 0 by rw [show (0 : Int32) = iI 0 from rfl, iI_eq (by omega) (by omega) (by omega) (by omega)]; omega)]
          have hi2 := ih (k + 1) (by omega) (by omega) (by omega)
          rw [hcs, show (i : Int) - ((cnt (fit R B) k + 1 : Nat) : Int) = (i : Int) - (cnt (fit R B) k : Int) + -1 by omega] at hi2
          exact hi2
      · rw [if_neg c] at hcs ⊢
        have hi2 := ih (k + 1) (by omega) (by omega) (by omega)
        rw [hcs, Nat.add_zero] at hi2
        exact hi2
  have h := key N 0 (Nat.zero_le _) (by omega) (by omega)
  rw [show (i : Int) - ((cnt (fit R B) 0 : Nat) : Int) = (i : Int) by show (i : Int) - 0 = _; omega] at h
  exact h
theorem px_fs0 (hN : 200000 ≤ N) (hL : LX 10 R σ) (hz : ∀ k, R k = 0) : f_country_fittingSets N σ = some (0, σ) := by
  unfold f_country_fittingSets
  obtain ⟨M, rfl⟩ : ∃ M, N = M + 2 := ⟨N - 2, by omega⟩
  rw [hL.nu, hz 5]
  have e0 : gI σ 10 0 = iI 0 := by rw [hL.c, hz 0]; rfl
  unfold f_country_fittingSets_L14
  rw [if_neg (by decide), e0, if_pos (by decide)]
  unfold f_country_fittingSets_L14
  rw [if_pos (by decide)]
theorem sim_fitAt (hN : 200000 ≤ N) (v : Int32) (h : Sim σ) : Both (f_x_fitAt N v σ) (f_m_fitAt N v) := by
  obtain ⟨R, S, B, h, hr⟩ := h
  obtain ⟨z, rfl, z1, z2⟩ := iI_of v
  by_cases hl : R 0 = 0
  · have hz : ∀ k, R k = 0 := by
      rcases h.gd with q | q
      · have := q.1.c; omega
      · exact q.1
    refine sim_ro (a := (-1, 1)) h hr (by decide) ?_ (fun z => w_f_x_fitAt) rfl (fun τ g => ?_) (fun τ y => w_f_m_fitAt) rfl rfl
    · simp only [f_x_fitAt, px_fs0 hN h.lx hz, tx_land h.lx.c h.gd.c, show tL R = 1 by unfold tL; rw [if_pos hl], px_gr1, iI10, Option.bind_some, if_false, Bool.false_eq_true, show f_ji_bitCount N 0 σ = some (iI 0, σ) from px_ibit N (m := 0) (by omega) σ]
      by_cases c : iI z < 0
      · rw [if_pos c]; exact okS.mpr ⟨rfl, gI_eq⟩
      · rw [if_neg c]
        have c' : ¬ z < 0 := fun q => c (by rw [show (0 : Int32) = iI 0 from rfl, iI_lt (by omega) (by omega) (by omega) (by omega)]; exact q)
        rw [if_pos (show iI 0 ≤ iI z by rw [iI_le (by omega) (by omega) (by omega) (by omega)]; omega)]
        exact okS.mpr ⟨rfl, gI_eq⟩
    · simp only [f_m_fitAt, pm_anew, g.lm.an.has, f_m_no, Option.bind_some]
      rw [if_pos hl]
      exact okS.mpr ⟨rfl, gI_eq⟩
  · have hW := h.gd.wl hl
    have hn := nS_le hW
    have hcn := cnt_le (fit R B) (nS R)
    have hmb := msk_b (B := B) hW
    refine sim_ro (a := if 0 ≤ z ∧ z < cnt (fit R B) (nS R) then (fnd (fit R B) z (nS R), 0) else (-1, 1)) h hr (by split; exact ⟨Int.le_refl 0, by show (0 : Int) ≤ 6; omega, by show (0 : Int) ≠ 4; omega⟩; exact ⟨by show (0 : Int) ≤ 1; omega, by show (1 : Int) ≤ 6; omega, by show (1 : Int) ≠ 4; omega⟩) ?_ (fun z => w_f_x_fitAt) rfl (fun τ g => ?_) (fun τ y => w_f_m_fitAt) rfl rfl
    · simp only [f_x_fitAt, px_fittingSets hN h.lx h.bg hW, tx_land h.lx.c h.gd.c, show tL R = 0 from tL_0.mpr hl, px_gr0, px_gr1, iI00, Option.bind_some, if_true, if_false, Bool.false_eq_true, px_mcnt hW]
      by_cases c : z < 0
      · rw [if_pos (show iI z < 0 by rw [show (0 : Int32) = iI 0 from rfl, iI_lt (by omega) (by omega) (by omega) (by omega)]; omega), if_neg (by omega)]
        exact okS.mpr ⟨rfl, gI_eq⟩
      · rw [if_neg (show ¬ iI z < 0 by rw [show (0 : Int32) = iI 0 from rfl, iI_lt (by omega) (by omega) (by omega) (by omega)]; omega)]
        by_cases c2 : z < cnt (fit R B) (nS R)
        · rw [if_neg (show ¬ iI (cnt (fit R B) (nS R) : Int) ≤ iI z by rw [iI_le (by omega) (by omega) (by omega) (by omega)]; omega), if_pos (by omega)]
          obtain ⟨i, rfl⟩ : ∃ b : Nat, z = (b : Int) := ⟨z.toNat, by omega⟩
          rw [px_nthBit hN hW (by omega)]
          exact okS.mpr ⟨rfl, gI_eq⟩
        · rw [if_pos (show iI (cnt (fit R B) (nS R) : Int) ≤ iI z by rw [iI_le (by omega) (by omega) (by omega) (by omega)]; omega), if_neg (by omega)]
          exact okS.mpr ⟨rfl, gI_eq⟩
    · simp only [f_m_fitAt, pm_anew, g.lm.an.has, if_neg hl, f_m_no, Option.bind_some, bind_ite, Bool.false_eq_true, ↓reduceIte]
      by_cases c : 0 ≤ z
      · rw [if_pos (show 0 ≤ iI z by rw [show (0 : Int32) = iI 0 from rfl, iI_le (by omega) (by omega) (by omega) (by omega)]; omega), okB]
        refine (pm_sets hN g hl z1 z2).imp (fun q hq => ?_)
        rw [hq.1.1]
        by_cases c2 : 0 ≤ z ∧ z < cnt (fit R B) (nS R)
        · rw [if_pos c2]
          have hf : 0 ≤ fnd (fit R B) z (nS R) ∧ fnd (fit R B) z (nS R) < 16 := by
            have : ∀ m, m ≤ 16 → z < cnt (fit R B) m → 0 ≤ fnd (fit R B) z m ∧ fnd (fit R B) z m < 16 := by
              intro m
              induction m with
              | zero => intro _ h; have : cnt (fit R B) 0 = 0 := rfl; omega
              | succ m ih =>
                intro hm h
                rw [fnd_s]
                split
                · omega
                · rename_i hno
                  rw [cnt_succ] at h
                  refine ih (by omega) ?_
                  by_cases cf : fit R B m = true
                  · rw [if_pos cf] at h
                    by_cases e : (cnt (fit R B) m : Int) = z
                    · exact absurd ⟨cf, e⟩ hno
                    · omega
                  · rw [if_neg cf] at h; omega
            exact this (nS R) hn c2.2
          rw [if_pos (show 0 ≤ iI (fnd (fit R B) z (nS R)) by rw [show (0 : Int32) = iI 0 from rfl, iI_le (by omega) (by omega) (by omega) (by omega)]; omega)]
          exact okS.mpr ⟨rfl, hq.2.1⟩
        · rw [if_neg c2, fnd_no _ c2, if_neg (by decide)]
          exact okS.mpr ⟨rfl, gI_eq⟩
      · rw [if_neg (show ¬ 0 ≤ iI z by rw [show (0 : Int32) = iI 0 from rfl, iI_le (by omega) (by omega) (by omega) (by omega)]; omega), if_neg (by omega)]
        exact okS.mpr ⟨rfl, gI_eq⟩
def lvN (R B : Nat → Nat) (q : Nat) : Nat := max (cnt (fun x => fit R B x && bt x q) (nS R)) (cnt (fit R B) (nS R) - cnt (fun x => fit R B x && bt x q) (nS R))
theorem lvn_sub (q : Nat) : cnt (fun x => fit R B x && bt x q) (nS R) ≤ cnt (fit R B) (nS R) := cnt_sub (fun k _ h => by simp only [Bool.and_eq_true] at h; exact h.1)
def bqF (lv : Nat → Nat) : Nat → Nat → Int → Int
  | 0, _, b => b
  | n + 1, q, b => bqF lv n (q + 1) (if b < 0 ∨ lv q < lv b.toNat then (q : Int) else b)
theorem bqF_s {lv : Nat → Nat} {n q : Nat} {b : Int} : bqF lv (n + 1) q b = bqF lv n (q + 1) (if b < 0 ∨ lv q < lv b.toNat then (q : Int) else b) := rfl
def bqI (R B : Nat → Nat) : Int := if cnt (fit R B) (nS R) = 0 then -2 else bqF (lvN R B) (R 5) 0 (-2)
theorem bqF_r {lv : Nat → Nat} {m : Nat} : ∀ (n q : Nat) (b : Int), q + n ≤ m → (b = -2 ∨ (0 ≤ b ∧ b < m)) → (bqF lv n q b = -2 ∨ (0 ≤ bqF lv n q b ∧ bqF lv n q b < m)) := by
  intro n
  induction n with
  | zero => intro q b _ h; exact h
  | succ n ih =>
    intro q b hq h
    rw [bqF_s]
    refine ih (q + 1) _ (by omega) ?_
    split
    · right; omega
    · exact h
theorem px_leftBy (hN : 200000 ≤ N) (hW : WfL R) {q : Nat} (hq : q < 11) : f_country_leftBy N (iI (q : Int)) (iI (msk (fit R B) (nS R) : Int)) σ = some (iI (lvN R B q : Int), σ) := by
  have hn := nS_le hW
  have hcn := cnt_le (fit R B) (nS R)
  have hls := lvn_sub (R := R) (B := B) q
  have key : ∀ m s, s ≤ 16 → 16 - s < m → f_country_leftBy_L5 N m (iI (q : Int)) (iI (msk (fit R B) (nS R) : Int)) (iI (cnt (fun x => (decide (x < nS R) && fit R B x) && bt x q) s : Int)) (iI (s : Int)) σ = some (iI (lvN R B q : Int), σ) := by
    intro m
    induction m with
    | zero => intro s _ h; omega
    | succ m ih =>
      intro s hs hm
      unfold f_country_leftBy_L5
      by_cases c : s = 16
      · subst c
        have e : cnt (fun x => (decide (x < nS R) && fit R B x) && bt x q) 16 = cnt (fun x => fit R B x && bt x q) (nS R) := by
          rw [cnt_le_of (m := nS R) hn (fun k h1 h2 => by rw [decide_eq_false (by omega)]; rfl)]
          exact cnt_cong (fun k hk => by rw [decide_eq_true hk]; rfl)
        rw [if_pos (by decide), px_mcnt hW, Option.bind_some, e]
        dsimp only
        rw [iI_sub, jmax_iI (by omega) (by omega) (by omega) (by omega)]
        unfold lvN
        congr 3; omega
      · rw [if_neg (show ¬ 16 ≤ iI (s : Int) by rw [show (16 : Int32) = iI 16 from rfl, iI_le (by omega) (by omega) (by omega) (by omega)]; omega), px_mbit hW (by omega), Option.bind_some]
        dsimp only
        rw [px_bitN N _ (by omega), tb_i32 (by omega), decide_eq_true (show q < 64 by omega), Bool.true_and, set_bit s (by omega) q hq, show iI (s : Int) + 1 = iI ((s + 1 : Nat) : Int) from iI_add _ 1]
        have hi := ih (s + 1) (by omega) (by omega)
        rw [cnt_succ] at hi
        by_cases c2 : (decide (s < nS R) && fit R B s) = true
        · rw [if_pos c2, Option.bind_some]
          dsimp only
          by_cases c3 : bt s q = true
          · rw [if_pos (show decide (s / 2 ^ q % 2 = 1) = true from c3), show iI (cnt (fun x => (decide (x < nS R) && fit R B x) && bt x q) s : Int) + 1 = iI ((cnt (fun x => (decide (x < nS R) && fit R B x) && bt x q) s + 1 : Nat) : Int) from iI_add _ 1]
            rw [if_pos (by rw [c2, c3]; rfl)] at hi
            exact hi
          · rw [if_neg (show ¬ decide (s / 2 ^ q % 2 = 1) = true from c3)]
            rw [if_neg (by simp [c3]), Nat.add_zero] at hi
            exact hi
        · rw [if_neg c2]
          rw [if_neg (by rw [Bool.and_eq_true]; exact fun q => c2 q.1), Nat.add_zero] at hi
          exact hi
  exact key N 0 (by omega) (by omega)
theorem px_bestQ (hN : 200000 ≤ N) (hL : LX 10 R σ) (hb : Beg R B σ) (hW : WfL R) : f_country_bestQuestion N σ = some (iI (bqI R B), σ) := by
  have hn := nS_le hW
  have h4 := hW.nu
  have hmb := msk_b (B := B) hW
  have hcn := cnt_le (fit R B) (nS R)
  have hlv : ∀ q, lvN R B q ≤ 16 := fun q => by have := lvn_sub (R := R) (B := B) q; unfold lvN; omega
  unfold f_country_bestQuestion
  rw [px_fittingSets hN hL hb hW, Option.bind_some]
  dsimp only
  have key : ∀ (m q : Nat) (b : Int), q ≤ R 5 → R 5 - q < m → (b = -2 ∨ (0 ≤ b ∧ b < q)) → f_country_bestQuestion_L14 N m (iI (msk (fit R B) (nS R) : Int)) (iI b) (iI ((if b < 0 then 17 else lvN R B b.toNat : Nat) : Int)) (iI (q : Int)) σ = some (iI (if cnt (fit R B) (nS R) = 0 then b else bqF (lvN R B) (R 5 - q) q b), σ) := by
    intro m
    induction m with
    | zero => intro q b _ h; omega
    | succ m ih =>
      intro q b hq hm hbr
      unfold f_country_bestQuestion_L14
      rw [hL.nu]
      by_cases c : q = R 5
      · rw [if_pos (show iI (R 5 : Int) ≤ iI (q : Int) by rw [iI_le (by omega) (by omega) (by omega) (by omega)]; omega), show R 5 - q = 0 by omega, show bqF (lvN R B) 0 q b = b from rfl, ite_self]
      · rw [if_neg (show ¬ iI (R 5 : Int) ≤ iI (q : Int) by rw [iI_le (by omega) (by omega) (by omega) (by omega)]; omega)]
        by_cases c0 : cnt (fit R B) (nS R) = 0
        · rw [if_pos (show iI (msk (fit R B) (nS R) : Int) = 0 by rw [(msk_0 (nS R)).mpr c0]; rfl), if_pos c0]
        · have hm0 : msk (fit R B) (nS R) ≠ 0 := fun q => c0 ((msk_0 (nS R)).mp q)
          rw [if_neg (show ¬ iI (msk (fit R B) (nS R) : Int) = 0 by rw [show (0 : Int32) = iI 0 from rfl, iI_eq (by omega) (by omega) (by omega) (by omega)]; omega), if_neg c0, px_leftBy hN hW (by omega), Option.bind_some]
          dsimp only
          have hq1 := hlv q
          have hb1 := hlv b.toNat
          rw [show iI (q : Int) + 1 = iI ((q + 1 : Nat) : Int) from iI_add _ 1, show R 5 - q = (R 5 - (q + 1)) + 1 by omega, bqF_s]
          by_cases cb : b < 0 ∨ lvN R B q < lvN R B b.toNat
          · rw [if_pos cb]
            have hi := ih (q + 1) (q : Int) (by omega) (by omega) (by omega)
            rw [if_neg (show ¬ (q : Int) < 0 by omega), Int.toNat_natCast, if_neg c0] at hi
            rw [if_neg (show ¬ iI ((if b < 0 then 17 else lvN R B b.toNat : Nat) : Int) ≤ iI (lvN R B q : Int) by
              rw [iI_le (by omega) (by split <;> omega) (by omega) (by omega)]
              split <;> omega)]
            exact hi
          · rw [if_neg cb]
            have hi := ih (q + 1) b (by omega) (by omega) (by omega)
            rw [if_neg c0] at hi
            rw [if_pos (show iI ((if b < 0 then 17 else lvN R B b.toNat : Nat) : Int) ≤ iI (lvN R B q : Int) by
              rw [iI_le (by omega) (by split <;> omega) (by omega) (by omega), if_neg (show ¬ b < 0 by omega)]
              omega)]
            exact hi
  have h := key N 0 (-2) (by omega) (by omega) (Or.inl rfl)
  exact h
theorem pm_askOf (hN : 200000 ≤ N) {τ : Sg} (g : Sim0 R S B τ) (h0 : R 0 ≠ 0) : ok (f_m_askOf N (an τ)) (fun q => q.1 = iI (bqI R B) ∧ gI q.2 66 11 = iI 0 ∧ gI q.2 66 45 = iI (cnt (fit R B) (nS R) : Int) ∧ ∀ k, k < R 5 → gI q.2 84 k = iI (cnt (fun x => fit R B x && bt x k) (nS R) : Int)) := by
  have hW := g.gd.wl h0
  have hn := nS_le hW
  have h4 := hW.nu
  have hcn := cnt_le (fit R B) (nS R)
  unfold f_m_askOf
  rw [m1, okB]
  refine (pm_sets hN g h0 (z := -1) (by omega) (by omega)).imp (fun q hq => ?_)
  obtain ⟨⟨_, g45, _, _, g84⟩, ht, hR⟩ := hq
  have e5 : gA q.2 69 5 = iI (R 5 : Int) := hR.A (z := 5) 5 rfl (by omega) (by omega)
  have lv : ∀ k, k < R 5 → f_m_leavesOf N (iI (k : Int)) q.2 = some (iI (lvN R B k : Int), q.2) := fun k hk => by
    have hs := lvn_sub (R := R) (B := B) k
    unfold f_m_leavesOf
    have hv : vin (iI (k : Int)) 4 := by rw [vin_iI (by omega) (by omega)]; omega
    rw [if_pos hv, if_pos hv, gA_iI (by omega) (by omega), Int.toNat_natCast, g84 k hk, g45, iI_sub]
    unfold lvN
    by_cases c : cnt (fun x => fit R B x && bt x k) (nS R) ≤ cnt (fit R B) (nS R) - cnt (fun x => fit R B x && bt x k) (nS R)
    · rw [if_pos (by rw [iI_le (by omega) (by omega) (by omega) (by omega)]; omega), if_pos hv]
      congr 3; omega
    · rw [if_neg (by rw [iI_le (by omega) (by omega) (by omega) (by omega)]; omega), if_pos hv]
      congr 3; omega
  have hlv : ∀ q, lvN R B q ≤ 16 := fun q => by have := lvn_sub (R := R) (B := B) q; unfold lvN; omega
  have key : ∀ (m k : Nat) (b : Int), k ≤ R 5 → R 5 - k < m → (b = -2 ∨ (0 ≤ b ∧ b < k)) → f_m_askOf_L11 N m (iI b) (iI (k : Int)) q.2 = some (iI (if cnt (fit R B) (nS R) = 0 then b else bqF (lvN R B) (R 5 - k) k b), q.2) := by
    intro m
    induction m with
    | zero => intro k b _ h; omega
    | succ m ih =>
      intro k b hk hm hbr
      unfold f_m_askOf_L11
      rw [e5, g45]
      by_cases c : k = R 5
      · rw [if_pos (show iI (R 5 : Int) ≤ iI (k : Int) by rw [iI_le (by omega) (by omega) (by omega) (by omega)]; omega), show R 5 - k = 0 by omega, show bqF (lvN R B) 0 k b = b from rfl, ite_self]
      · rw [if_neg (show ¬ iI (R 5 : Int) ≤ iI (k : Int) by rw [iI_le (by omega) (by omega) (by omega) (by omega)]; omega)]
        by_cases c0 : cnt (fit R B) (nS R) = 0
        · rw [if_pos (show iI (cnt (fit R B) (nS R) : Int) ≤ 0 by rw [c0]; decide), if_pos c0]
        · rw [if_neg (show ¬ iI (cnt (fit R B) (nS R) : Int) ≤ 0 by rw [show (0 : Int32) = iI 0 from rfl, iI_le (by omega) (by omega) (by omega) (by omega)]; omega), if_neg c0, show iI (k : Int) + 1 = iI ((k + 1 : Nat) : Int) from iI_add _ 1, show R 5 - k = (R 5 - (k + 1)) + 1 by omega, bqF_s]
          by_cases cb : b < 0
          · rw [if_pos (show iI b < 0 by rw [show (0 : Int32) = iI 0 from rfl, iI_lt (by omega) (by omega) (by omega) (by omega)]; omega), if_pos (Or.inl cb)]
            have hi := ih (k + 1) (k : Int) (by omega) (by omega) (by omega)
            rw [if_neg c0] at hi
            exact hi
          · obtain ⟨b', rfl⟩ : ∃ b' : Nat, b = (b' : Int) := ⟨b.toNat, by omega⟩
            have l1 := hlv k
            have l2 := hlv b'
            rw [if_neg (show ¬ iI (b' : Int) < 0 by rw [show (0 : Int32) = iI 0 from rfl, iI_lt (by omega) (by omega) (by omega) (by omega)]; omega), lv k (by omega), Option.bind_some]
            dsimp only
            rw [lv b' (by omega), Option.bind_some]
            dsimp only
            rw [Int.toNat_natCast]
            by_cases c2 : lvN R B k < lvN R B b'
            · rw [if_neg (show ¬ iI (lvN R B b' : Int) ≤ iI (lvN R B k : Int) by rw [iI_le (by omega) (by omega) (by omega) (by omega)]; omega), if_pos (Or.inr c2)]
              have hi := ih (k + 1) (k : Int) (by omega) (by omega) (by omega)
              rw [if_neg c0] at hi
              exact hi
            · rw [if_pos (show iI (lvN R B b' : Int) ≤ iI (lvN R B k : Int) by rw [iI_le (by omega) (by omega) (by omega) (by omega)]; omega), if_neg (by omega)]
              have hi := ih (k + 1) (b' : Int) (by omega) (by omega) (by omega)
              rw [if_neg c0] at hi
              exact hi
  have h := key N 0 (-2) (by omega) (by omega) (Or.inl rfl)
  rw [show f_m_askOf_L11 N N (-2) 0 q.2 = _ from h]
  exact okS.mpr ⟨rfl, ht, g45, g84⟩
theorem bqI_r (hW : WfL R) : bqI R B = -2 ∨ (0 ≤ bqI R B ∧ bqI R B < R 5) := by
  unfold bqI
  split
  · exact Or.inl rfl
  · exact bqF_r (R 5) 0 (-2) (by omega) (Or.inl rfl)
theorem sim_ask (hN : 200000 ≤ N) (h : Sim σ) : Both (f_x_ask N σ) (f_m_ask N) := by
  obtain ⟨R, S, B, h, hr⟩ := h
  refine sim_ro (a := ra (tL R) (bqI R B)) h hr (ra_t tL_3) ?_ (fun z => w_f_x_ask) rfl (fun τ g => ?_) (fun τ y => w_f_m_ask) rfl rfl
  · simp only [f_x_ask, tx_land h.lx.c h.gd.c, px_gr N tL_r, Option.bind_some, bind_ite, Bool.false_eq_true, ↓reduceIte]
    refine x_fin (fun h0 => ?_)
    rw [px_bestQ hN h.lx.tr h.bg.tr (h.gd.wl (tL_0.mp h0))]
    exact okS.mpr ⟨rfl, gI_eq⟩
  · simp only [f_m_ask, pm_anew, g.lm.an.has, f_m_no, Option.bind_some, bind_ite, Bool.false_eq_true, ↓reduceIte]
    refine m_finL (fun h0 => ?_)
    rw [okB]
    exact (pm_askOf hN g h0).imp (fun q hq => okS.mpr ⟨hq.1, hq.2.1⟩)
theorem sim_askLeaves (hN : 200000 ≤ N) (h : Sim σ) : Both (f_x_askLeaves N σ) (f_m_askLeaves N) := by
  obtain ⟨R, S, B, h, hr⟩ := h
  refine sim_ro (a := ra (tL R) (if bqI R B = -2 then -2 else (lvN R B (bqI R B).toNat : Int))) h hr (ra_t tL_3) ?_ (fun z => w_f_x_askLeaves) rfl (fun τ g => ?_) (fun τ y => w_f_m_askLeaves) rfl rfl
  · simp only [f_x_askLeaves, tx_land h.lx.c h.gd.c, px_gr N tL_r, Option.bind_some, bind_ite, Bool.false_eq_true, ↓reduceIte]
    refine x_fin (fun h0 => ?_)
    have hW := h.gd.wl (tL_0.mp h0)
    have h4 := hW.nu
    have hb := bqI_r (B := B) hW
    rw [px_bestQ hN h.lx.tr h.bg.tr hW, Option.bind_some]
    dsimp only
    by_cases c : bqI R B = -2
    · rw [c, if_pos (show iI (-2) = -2 from rfl), if_pos rfl]
      exact okS.mpr ⟨rfl, gI_eq⟩
    · rw [if_neg c, if_neg (show ¬ iI (bqI R B) = -2 by rw [show (-2 : Int32) = iI (-2) from rfl, iI_eq (by omega) (by omega) (by omega) (by omega)]; omega), px_fittingSets hN h.lx.tr h.bg.tr hW, Option.bind_some]
      dsimp only
      rw [show iI (bqI R B) = iI (((bqI R B).toNat : Nat) : Int) by congr 1; omega, px_leftBy hN hW (by omega)]
      exact okS.mpr ⟨rfl, gI_eq⟩
  · simp only [f_m_askLeaves, pm_anew, g.lm.an.has, f_m_no, Option.bind_some, bind_ite, Bool.false_eq_true, ↓reduceIte]
    refine m_finL (fun h0 => ?_)
    have hW := g.gd.wl h0
    have h4 := hW.nu
    have hn := nS_le hW
    have hcn := cnt_le (fit R B) (nS R)
    have hb := bqI_r (B := B) hW
    rw [okB]
    refine (pm_askOf hN g h0).imp (fun q hq => ?_)
    obtain ⟨q1, ht, g45, g84⟩ := hq
    rw [q1]
    by_cases c : bqI R B = -2
    · rw [c, if_neg (by decide), if_pos rfl]
      exact okS.mpr ⟨rfl, ht⟩
    · rw [if_neg c, if_pos (show 0 ≤ iI (bqI R B) by rw [show (0 : Int32) = iI 0 from rfl, iI_le (by omega) (by omega) (by omega) (by omega)]; omega)]
      obtain ⟨k, hk⟩ : ∃ k : Nat, bqI R B = (k : Int) := ⟨(bqI R B).toNat, by omega⟩
      rw [hk, Int.toNat_natCast]
      have hs := lvn_sub (R := R) (B := B) k
      unfold f_m_leavesOf
      have hv : vin (iI (k : Int)) 4 := by rw [vin_iI (by omega) (by omega)]; omega
      rw [if_pos hv, if_pos hv, gA_iI (by omega) (by omega), Int.toNat_natCast, g84 k (by omega), g45, iI_sub]
      unfold lvN
      by_cases c : cnt (fun x => fit R B x && bt x k) (nS R) ≤ cnt (fit R B) (nS R) - cnt (fun x => fit R B x && bt x k) (nS R)
      · rw [if_pos (show iI _ ≤ iI _ by rw [iI_le (by omega) (by omega) (by omega) (by omega)]; omega), if_pos hv]
        refine okS.mpr ⟨?_, ht⟩
        show iI _ = iI _
        congr 1; omega
      · rw [if_neg (show ¬ iI _ ≤ iI _ by rw [iI_le (by omega) (by omega) (by omega) (by omega)]; omega), if_pos hv]
        refine okS.mpr ⟨?_, ht⟩
        show iI _ = iI _
        congr 1; omega
end FITC
