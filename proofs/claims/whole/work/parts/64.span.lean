/-! ===== counts between cells, stretches, gaps, nearest places ===== -/
def sm (f : Nat → Nat) : Nat → Nat
  | 0 => 0
  | n + 1 => sm f n + f n
theorem sm_succ (f : Nat → Nat) (n : Nat) : sm f (n + 1) = sm f n + f n := rfl
theorem sm_zero {f : Nat → Nat} {n : Nat} (h : ∀ k, k < n → f k = 0) : sm f n = 0 := by
  induction n with
  | zero => rfl
  | succ n ih => unfold sm; rw [ih (fun k hk => h k (by omega)), h n (by omega)]
theorem sm_ext {f : Nat → Nat} {m : Nat} : ∀ d, (∀ k, m ≤ k → k < m + d → f k = 0) → sm f (m + d) = sm f m := by
  intro d
  induction d with
  | zero => intro _; rfl
  | succ d ih => intro h; rw [← Nat.add_assoc, sm_succ, ih (fun k h1 h2 => h k h1 (by omega)), h (m + d) (by omega) (by omega), Nat.add_zero]
theorem sm_cnt {f : Nat → Nat} {p q : Nat → Bool} {n : Nat} (h : ∀ k, k < n → f k = (if p k = true then 1 else 0) + 2 * (if q k = true then 1 else 0)) : cnt p n + 2 * cnt q n = sm f n := by
  induction n with
  | zero => rfl
  | succ n ih =>
    unfold cnt sm
    have h1 := ih (fun k hk => h k (by omega))
    have h2 := h n (by omega)
    omega
section SPN
variable {N : Nat} {R S : Nat → Nat} {σ : Sg}
def btw (S : Nat → Nat) (a b : Nat) : Nat := cnt (fun k => gon S k && decide (min a b ≤ k ∧ k ≤ max a b)) 64
def dpw (S : Nat → Nat) (a b : Nat) : Nat := sm (fun k => if min a b ≤ k ∧ k ≤ max a b then S k else 0) 64
theorem pm_goneFrom (hN : 200000 ≤ N) (hS : AR σ 74 63 S) (hr : ∀ k, k < 60 → S k < 2147483648) {a b : Nat} (ha : a < 60) (hb : b < 60) : f_m_goneFrom N (iI (a : Int)) (iI (b : Int)) σ = some (iI (btw S a b : Int), σ) := by
  have key : ∀ n i, min a b ≤ i → i ≤ max a b + 1 → max a b + 1 - i < n → f_m_goneFrom_L14 N n (iI (a : Int)) (iI (b : Int)) (iI (cnt (fun k => gon S k && decide (min a b ≤ k ∧ k ≤ max a b)) i : Int)) (iI (i : Int)) σ = some (iI (btw S a b : Int), σ) := by
    intro n
    induction n with
    | zero => intro i _ _ h; omega
    | succ n ih =>
      intro i h0 hi hn
      unfold f_m_goneFrom_L14
      by_cases h : i ≤ max a b
      · have e1 := hS.A (z := (i : Int)) i rfl (by omega) (by omega)
        have h3 := ih (i + 1) (by omega) (by omega) (by omega)
        have h4 := hr i (by omega)
        simp (disch := omega) only [e1, nI_iI, iI_lit, iI_neg, iI_add, iI_sub, iI_mul, iI_lt, iI_le, iI_eq, vin_iI]
        rw [cnt_succ] at h3
        by_cases hab : b ≤ a
        · rw [if_pos (by omega), if_neg (by omega), if_pos (by omega)]
          by_cases hg : S i = 0
          · rw [if_pos (by omega)]
            rw [if_neg (by simp [gon, hg])] at h3
            exact h3
          · rw [if_neg (by omega)]
            rw [if_pos (by simp only [gon, Bool.and_eq_true, decide_eq_true_eq]; omega)] at h3
            exact h3
        · rw [if_neg (by omega), if_neg (by omega), if_pos (by omega)]
          by_cases hg : S i = 0
          · rw [if_pos (by omega)]
            rw [if_neg (by simp [gon, hg])] at h3
            exact h3
          · rw [if_neg (by omega)]
            rw [if_pos (by simp only [gon, Bool.and_eq_true, decide_eq_true_eq]; omega)] at h3
            exact h3
      · simp (disch := omega) only [nI_iI, iI_lit, iI_neg, iI_add, iI_sub, iI_mul, iI_lt, iI_le, iI_eq, vin_iI]
        have hc : cnt (fun k => gon S k && decide (min a b ≤ k ∧ k ≤ max a b)) i = btw S a b := by
          unfold btw
          symm
          refine cnt_le_of (by omega) (fun k h1 h2 => ?_)
          simp only [Bool.and_eq_false_iff, decide_eq_false_iff_not]
          right; omega
        rw [hc]
        by_cases hab : b ≤ a
        · rw [if_pos (by omega), if_pos (by omega)]
        · rw [if_neg (by omega), if_pos (by omega)]
  have hz : cnt (fun k => gon S k && decide (min a b ≤ k ∧ k ≤ max a b)) (min a b) = 0 := cnt_zero (fun k hk => by
    simp only [Bool.and_eq_false_iff, decide_eq_false_iff_not]
    right; omega)
  unfold f_m_goneFrom
  have h := key N (min a b) (by omega) (by omega) (by omega)
  rw [hz] at h
  simp (disch := omega) only [iI_le]
  by_cases hab : b ≤ a
  · rw [if_pos (by omega)]
    rw [Nat.min_eq_right hab] at h
    exact h
  · rw [if_neg (by omega)]
    rw [Nat.min_eq_left (by omega)] at h
    exact h
theorem sim_between (hN : 200000 ≤ N) (v w : Int32) (h : Sim σ) : Both (f_x_between N v w σ) (f_m_between N v w) := by
  obtain ⟨R, S, B, h, hr⟩ := h
  obtain ⟨z, rfl, z1, z2⟩ := iI_of v
  obtain ⟨y, rfl, y1, y2⟩ := iI_of w
  have hc := h.gd.c
  refine sim_ro (a := ra (tP R z y) (btw S z.toNat y.toNat : Int)) h hr (ra_t tP_3) ?_ (fun z => w_f_x_between) rfl (fun τ g => ?_) (fun τ y => w_f_m_between) rfl rfl
  · simp only [f_x_between, tx_pair h.lx.c h.gd.c z1 z2 y1 y2, px_gr N tP_r, Option.bind_some, bind_ite, Bool.false_eq_true, ↓reduceIte]
    refine x_fin (fun h0 => ?_)
    rw [tP_0] at h0
    obtain ⟨a, rfl⟩ : ∃ b : Nat, z = (b : Int) := ⟨z.toNat, by omega⟩
    obtain ⟨b, rfl⟩ : ∃ b : Nat, y = (b : Int) := ⟨y.toNat, by omega⟩
    have hS := h.gd.ws (by omega)
    simp only [px_goneCells, px_span N (show a < 63 by omega) (show b < 63 by omega), px_bitCount, Option.bind_some, Int.toNat_natCast]
    refine okS.mpr ⟨?_, gI_eq⟩
    show iI _ = iI _
    congr 2
    unfold btw
    refine cnt_cong (fun k hk => ?_)
    rw [tb_and, (h.sx.tr (by decide)).b.gone hS.1, tb_spn (by omega) (by omega)]
  · simp only [f_m_between, pm_anew, pm_isCell g.lm.an g.gd.c z1 z2, pm_isCell g.lm.an g.gd.c y1 y2, f_m_no, Option.bind_some, bind_ite, Bool.false_eq_true, ↓reduceIte, decide_eq_true_eq]
    refine m_finP (fun h0 h1 => ?_)
    obtain ⟨a, rfl⟩ : ∃ b : Nat, z = (b : Int) := ⟨z.toNat, by omega⟩
    obtain ⟨b, rfl⟩ : ∃ b : Nat, y = (b : Int) := ⟨y.toNat, by omega⟩
    have hS := g.gd.ws (by omega)
    rw [pm_goneFrom hN g.lm.an.2.1 hS.r (by omega) (by omega)]
    exact okS.mpr ⟨rfl, an_t⟩
theorem sim_deep (hN : 200000 ≤ N) (v w : Int32) (h : Sim σ) : Both (f_x_deep N v w σ) (f_m_deep N v w) := by
  obtain ⟨R, S, B, h, hr⟩ := h
  obtain ⟨z, rfl, z1, z2⟩ := iI_of v
  obtain ⟨y, rfl, y1, y2⟩ := iI_of w
  have hc := h.gd.c
  refine sim_ro (a := ra (tP R z y) (dpw S z.toNat y.toNat : Int)) h hr (ra_t tP_3) ?_ (fun z => w_f_x_deep) rfl (fun τ g => ?_) (fun τ y => w_f_m_deep) rfl rfl
  · simp only [f_x_deep, tx_pair h.lx.c h.gd.c z1 z2 y1 y2, px_gr N tP_r, Option.bind_some, bind_ite, Bool.false_eq_true, ↓reduceIte]
    refine x_fin (fun h0 => ?_)
    rw [tP_0] at h0
    obtain ⟨a, rfl⟩ : ∃ b : Nat, z = (b : Int) := ⟨z.toNat, by omega⟩
    obtain ⟨b, rfl⟩ : ∃ b : Nat, y = (b : Int) := ⟨y.toNat, by omega⟩
    have hS := h.gd.ws (by omega)
    have hb : SB 40 S (sI σ 0 10 0) := (h.sx.tr (by decide)).b
    simp only [f_state_depthOf, px_span N (show a < 63 by omega) (show b < 63 by omega), px_bitCount, Option.bind_some, Int.toNat_natCast]
    refine okS.mpr ⟨?_, gI_eq⟩
    show iI _ + 2 * iI _ = iI _
    rw [show (2 : Int32) = iI 2 from rfl, iI_mul, iI_add]
    unfold dpw
    rw [← sm_cnt (p := tb (gL (sI σ 0 10 0) 40 0 &&& spnN a b)) (q := tb (gL (sI σ 0 10 0) 40 1 &&& spnN a b))]
    · congr 1
    · intro k hk
      rw [tb_and, tb_and, hb.1, hb.2, tb_spn (by omega) (by omega)]
      simp only [Bool.and_eq_true, decide_eq_true_eq]
      have h3 := hS.1 k
      by_cases e : min a b ≤ k ∧ k ≤ max a b
      · rw [if_pos e]
        have hc : S k = 0 ∨ S k = 1 ∨ S k = 2 ∨ S k = 3 := by omega
        rcases hc with e2 | e2 | e2 | e2 <;> rw [e2] <;> simp [e, show k < 60 by omega]
      · rw [if_neg e, if_neg (fun q => e q.2), if_neg (fun q => e q.2)]
  · simp only [f_m_deep, pm_anew, pm_isCell g.lm.an g.gd.c z1 z2, pm_isCell g.lm.an g.gd.c y1 y2, f_m_no, Option.bind_some, bind_ite, Bool.false_eq_true, ↓reduceIte, decide_eq_true_eq]
    refine m_finP (fun h0 h1 => ?_)
    obtain ⟨a, rfl⟩ : ∃ b : Nat, z = (b : Int) := ⟨z.toNat, by omega⟩
    obtain ⟨b, rfl⟩ : ∃ b : Nat, y = (b : Int) := ⟨y.toNat, by omega⟩
    have hS := g.gd.ws (by omega)
    simp only [Int.toNat_natCast]
    have key : ∀ n i, min a b ≤ i → i ≤ max a b + 1 → max a b + 1 - i < n → f_m_deep_L40 N n (iI (a : Int)) (iI (b : Int)) (iI (sm (fun k => if min a b ≤ k ∧ k ≤ max a b then S k else 0) i : Int)) (iI (i : Int)) (an τ) = some (iI (dpw S a b : Int), an τ) := by
      intro n
      induction n with
      | zero => intro i _ _ h; omega
      | succ n ih =>
        intro i h0 hi hn
        unfold f_m_deep_L40
        by_cases h : i ≤ max a b
        · have e1 := g.lm.an.2.1.A (z := (i : Int)) i rfl (by omega) (by omega)
          have h3 := ih (i + 1) (by omega) (by omega) (by omega)
          simp (disch := omega) only [e1, nI_iI, iI_lit, iI_neg, iI_add, iI_sub, iI_mul, iI_lt, iI_le, iI_eq, vin_iI]
          unfold sm at h3
          rw [if_pos (by omega)] at h3
          by_cases hab : b ≤ a
          · rw [if_pos (by omega), if_neg (by omega), if_pos (by omega)]
            exact h3
          · rw [if_neg (by omega), if_neg (by omega), if_pos (by omega)]
            exact h3
        · simp (disch := omega) only [nI_iI, iI_lit, iI_neg, iI_add, iI_sub, iI_mul, iI_lt, iI_le, iI_eq, vin_iI]
          have hc : sm (fun k => if min a b ≤ k ∧ k ≤ max a b then S k else 0) i = dpw S a b := by
            unfold dpw
            have := sm_ext (f := fun k => if min a b ≤ k ∧ k ≤ max a b then S k else 0) (m := i) (64 - i) (fun k h1 h2 => by
              show (if min a b ≤ k ∧ k ≤ max a b then S k else 0) = 0
              rw [if_neg (by omega)])
            rw [show i + (64 - i) = 64 by omega] at this
            exact this.symm
          rw [hc]
          by_cases hab : b ≤ a
          · rw [if_pos (by omega), if_pos (by omega)]
          · rw [if_neg (by omega), if_pos (by omega)]
    have hz : sm (fun k => if min a b ≤ k ∧ k ≤ max a b then S k else 0) (min a b) = 0 := sm_zero (fun k hk => by
      show (if min a b ≤ k ∧ k ≤ max a b then S k else 0) = 0
      rw [if_neg (by omega)])
    have h := key N (min a b) (by omega) (by omega) (by omega)
    rw [hz] at h
    simp (disch := omega) only [iI_le]
    by_cases hab : b ≤ a
    · rw [if_pos (by omega)]
      rw [Nat.min_eq_right hab] at h
      rw [show (0 : Int32) = iI ((0 : Nat) : Int) from rfl, h]
      exact okS.mpr ⟨rfl, an_t⟩
    · rw [if_neg (by omega)]
      rw [Nat.min_eq_left (by omega)] at h
      rw [show (0 : Int32) = iI ((0 : Nat) : Int) from rfl, h]
      exact okS.mpr ⟨rfl, an_t⟩
/-! the nearest two places in unlike stretches -/
def apa (S : Nat → Nat) (a b : Nat) : Nat := cnt (fun k => gon S k && decide (min a b < k ∧ k < max a b)) 64
def nst (R S : Nat → Nat) (p q : Nat) (z : Int × Nat) : Int × Nat := if (gon S (R (12 + 2 * p)) = false ∧ gon S (R (12 + 2 * q)) = false) ∧ 0 < apa S (R (12 + 2 * p)) (R (12 + 2 * q)) ∧ apa S (R (12 + 2 * p)) (R (12 + 2 * q)) < z.2 then (10 * (p : Int) + q, apa S (R (12 + 2 * p)) (R (12 + 2 * q))) else z
def nsq (R S : Nat → Nat) (p : Nat) : Nat → Nat → Int × Nat → Int × Nat
  | 0, _, z => z
  | n + 1, q, z => nsq R S p n (q + 1) (nst R S p q z)
def nsp (R S : Nat → Nat) : Nat → Nat → Int × Nat → Int × Nat
  | 0, _, z => z
  | n + 1, p, z => nsp R S n (p + 1) (nsq R S p (R 3 - (p + 1)) (p + 1) z)
theorem apa_le (S : Nat → Nat) (a b : Nat) : apa S a b ≤ 60 := by
  unfold apa
  rw [cnt_le_of (m := 60) (by omega) (fun k h1 h2 => by simp [gon]; omega)]
  exact cnt_le _ _
def rz (z y : Int × Nat) : Prop := z = y ∨ (z = (-2, 61) ∧ y = (-2, 100000000))
theorem nst_rz {p q : Nat} {z y : Int × Nat} (h : rz z y) : rz (nst R S p q z) (nst R S p q y) := by
  rcases h with rfl | ⟨rfl, rfl⟩
  · exact Or.inl rfl
  · unfold nst
    have := apa_le S (R (12 + 2 * p)) (R (12 + 2 * q))
    by_cases e : (gon S (R (12 + 2 * p)) = false ∧ gon S (R (12 + 2 * q)) = false) ∧ 0 < apa S (R (12 + 2 * p)) (R (12 + 2 * q))
    · left
      rw [if_pos ⟨e.1, e.2, by show _ < 61; omega⟩, if_pos ⟨e.1, e.2, by show _ < 100000000; omega⟩]
    · right
      rw [if_neg (fun q => e ⟨q.1, q.2.1⟩), if_neg (fun q => e ⟨q.1, q.2.1⟩)]
      exact ⟨rfl, rfl⟩
theorem nsq_rz {p : Nat} : ∀ n q z y, rz z y → rz (nsq R S p n q z) (nsq R S p n q y) := by
  intro n
  induction n with
  | zero => intro q z y h; exact h
  | succ n ih => intro q z y h; exact ih _ _ _ (nst_rz h)
theorem nsp_rz : ∀ n p z y, rz z y → rz (nsp R S n p z) (nsp R S n p y) := by
  intro n
  induction n with
  | zero => intro q z y h; exact h
  | succ n ih => intro q z y h; exact ih _ _ _ (nsq_rz _ _ _ _ h)
theorem rz_1 {z y : Int × Nat} (h : rz z y) : z.1 = y.1 := by
  rcases h with rfl | ⟨rfl, rfl⟩
  · rfl
  · rfl
theorem nst_b {p q : Nat} {z : Int × Nat} (hz : z.2 ≤ 100000000) : (nst R S p q z).2 ≤ 100000000 := by
  unfold nst
  split
  · have := apa_le S (R (12 + 2 * p)) (R (12 + 2 * q)); show apa S _ _ ≤ _; omega
  · exact hz
theorem nsq_b {p : Nat} : ∀ n q z, z.2 ≤ 100000000 → (nsq R S p n q z).2 ≤ 100000000 := by
  intro n
  induction n with
  | zero => intro q z h; exact h
  | succ n ih => intro q z h; exact ih _ _ (nst_b h)
theorem px_nearest (hN : 200000 ≤ N) (hL : LX 10 R σ) (hW : WfL R) {w : Int64} (hg : tb w = gon S) : f_country_nearestParted N w σ = some (iI (nsp R S (R 3) 0 (-2, 61)).1, σ) := by
  have h6 := hW.np
  have hC := hW.c
  have inner : ∀ (p : Nat), p < R 3 → ∀ n q (z : Int × Nat) (k : Int64 → Int32 → Int32 → Int32 → Sg → Option (Int32 × Sg)), q ≤ R 3 → R 3 - q < n → z.2 ≤ 100000000 → f_country_nearestParted_L28 N n w (iI z.1) (iI (z.2 : Int)) (iI (p : Int)) (iI (q : Int)) σ k = k w (iI (nsq R S p (R 3 - q) q z).1) (iI ((nsq R S p (R 3 - q) q z).2 : Int)) (iI (p : Int)) σ := by
    intro p hp n
    induction n with
    | zero => intro q z k _ h; omega
    | succ n ih =>
      intro q z k hq hn hz
      unfold f_country_nearestParted_L28
      by_cases h : q < R 3
      · have ea := hW.pl hp
        have eb := hW.pl h
        have hle := apa_le S (R (12 + 2 * p)) (R (12 + 2 * q))
        have hin : cnt (tb (w &&& insN (R (12 + 2 * p)) (R (12 + 2 * q)))) 64 = apa S (R (12 + 2 * p)) (R (12 + 2 * q)) := by
          unfold apa
          refine cnt_cong (fun k _ => ?_)
          rw [tb_and, hg, tb_ins (by omega) (by omega)]
        simp only [px_at (N := N) (a1 := 6) (a2 := 14) hL.np hp (by omega) (by omega), px_at (N := N) (a1 := 6) (a2 := 14) hL.np h (by omega) (by omega), hL.pl hp, hL.pl h, Option.bind_some, px_inside N (show R (12 + 2 * p) < 63 by omega) (show R (12 + 2 * q) < 63 by omega), px_bitCount, hin, px_isLost hL hW w hp, px_isLost hL hW w h, hg]
        simp (disch := omega) only [hL.np, nI_iI, iI_lit, iI_neg, iI_add, iI_sub, iI_mul, iI_lt, iI_le, iI_eq, vin_iI]
        rw [if_neg (by omega), show R 3 - q = (R 3 - (q + 1)) + 1 by omega]
        unfold nsq
        have h3 := ih (q + 1) (nst R S p q z) k (by omega) (by omega) (nst_b hz)
        rw [← h3]
        unfold nst
        by_cases c1 : gon S (R (12 + 2 * p)) = true
        · rw [if_pos c1, if_neg (fun q => by rw [c1] at q; exact absurd q.1.1 (by decide))]
          rfl
        · rw [if_neg c1]
          by_cases c2 : gon S (R (12 + 2 * q)) = true
          · rw [if_pos c2, if_neg (fun q => by rw [c2] at q; exact absurd q.1.2 (by decide))]
            rfl
          · rw [if_neg c2]
            by_cases c3 : 0 < apa S (R (12 + 2 * p)) (R (12 + 2 * q))
            · rw [if_neg (by omega)]
              by_cases c4 : apa S (R (12 + 2 * p)) (R (12 + 2 * q)) < z.2
              · rw [if_neg (by omega), if_pos ⟨⟨by simpa using c1, by simpa using c2⟩, c3, c4⟩]
                rfl
              · rw [if_pos (by omega), if_neg (fun q => c4 q.2.2)]
                rfl
            · rw [if_pos (by omega), if_neg (fun q => c3 q.2.1)]
              rfl
      · simp (disch := omega) only [hL.np, iI_le]
        rw [if_pos (by omega), show R 3 - q = 0 by omega]
        rfl
  have outer : ∀ n p (z : Int × Nat), p ≤ R 3 → R 3 - p < n → z.2 ≤ 100000000 → f_country_nearestParted_L10 N n w (iI z.1) (iI (z.2 : Int)) (iI (p : Int)) σ = some (iI (nsp R S (R 3 - p) p z).1, σ) := by
    intro n
    induction n with
    | zero => intro q z _ h; omega
    | succ n ih =>
      intro p z hp hn hz
      unfold f_country_nearestParted_L10
      simp (disch := omega) only [hL.np, iI_le]
      by_cases h : p < R 3
      · rw [if_neg (by omega), show iI (p : Int) + 1 = iI ((p + 1 : Nat) : Int) from iI_add _ 1, inner p h N (p + 1) z _ (by omega) (by omega) hz, show R 3 - p = (R 3 - (p + 1)) + 1 by omega]
        unfold nsp
        rw [show iI (p : Int) + 1 = iI ((p + 1 : Nat) : Int) from iI_add _ 1]
        exact ih (p + 1) (nsq R S p (R 3 - (p + 1)) (p + 1) z) (by omega) (by omega) (nsq_b _ _ _ hz)
      · rw [if_pos (by omega), show R 3 - p = 0 by omega]
        rfl
  exact outer N 0 (-2, 61) (by omega) (by omega) (by decide)
theorem btw_apa {a b : Nat} (ha : gon S a = false) (hb : gon S b = false) : btw S a b = apa S a b := by
  unfold btw apa
  refine cnt_cong (fun k _ => ?_)
  by_cases e1 : k = a
  · subst e1; rw [ha]; rfl
  · by_cases e2 : k = b
    · subst e2; rw [hb]; rfl
    · congr 1
      exact decide_eq_decide.mpr (by omega)
theorem pm_nearest (hN : 200000 ≤ N) (hR : AR σ 69 189 R) (hS : AR σ 74 63 S) (hW : WfL R) (hr : ∀ k, k < 60 → S k < 2147483648) : f_m_nearest_L26 N N (-2) 100000000 0 σ = some (iI (nsp R S (R 3) 0 (-2, 100000000)).1, σ) := by
  have h6 := hW.np
  have hC := hW.c
  have e9 := hR.A (z := 3) 3 rfl (by omega) (by omega)
  have e0 : gA σ 69 3 = iI (R 3 : Int) := e9
  have inner : ∀ (p : Nat), p < R 3 → ∀ n q (z : Int × Nat) (k : Int32 → Int32 → Int32 → Sg → Option (Int32 × Sg)), q ≤ R 3 → R 3 - q < n → z.2 ≤ 100000000 → f_m_nearest_L41 N n (iI z.1) (iI (z.2 : Int)) (iI (p : Int)) (iI (q : Int)) σ k = k (iI (nsq R S p (R 3 - q) q z).1) (iI ((nsq R S p (R 3 - q) q z).2 : Int)) (iI (p : Int)) σ := by
    intro p hp n
    induction n with
    | zero => intro q z k _ h; omega
    | succ n ih =>
      intro q z k hq hn hz
      unfold f_m_nearest_L41
      by_cases h : q < R 3
      · have ea := hW.pl hp
        have eb := hW.pl h
        have hle := apa_le S (R (12 + 2 * p)) (R (12 + 2 * q))
        have hle2 : btw S (R (12 + 2 * p)) (R (12 + 2 * q)) ≤ 64 := cnt_le _ _
        have e1 := hR.A (z := 12 + 2 * (p : Int)) (12 + 2 * p) (by omega) (by omega) (by omega)
        have e2 := hR.A (z := 12 + 2 * (q : Int)) (12 + 2 * q) (by omega) (by omega) (by omega)
        have e3 := hS.A (z := (R (12 + 2 * p) : Int)) (R (12 + 2 * p)) rfl (by omega) (by omega)
        have e4 := hS.A (z := (R (12 + 2 * q) : Int)) (R (12 + 2 * q)) rfl (by omega) (by omega)
        have r1 := hr (R (12 + 2 * p)) (by omega)
        have r2 := hr (R (12 + 2 * q)) (by omega)
        have g1 : gon S (R (12 + 2 * p)) = decide (0 < S (R (12 + 2 * p))) := by unfold gon; exact decide_eq_decide.mpr (by omega)
        have g2 : gon S (R (12 + 2 * q)) = decide (0 < S (R (12 + 2 * q))) := by unfold gon; exact decide_eq_decide.mpr (by omega)
        simp (maxSteps := 1000000) (disch := omega) only [e9, e1, e2, e3, e4, pm_goneFrom hN hS hr (show R (12 + 2 * p) < 60 by omega) (show R (12 + 2 * q) < 60 by omega), Option.bind_some, nI_iI, iI_lit, iI_neg, iI_add, iI_sub, iI_mul, iI_lt, iI_le, iI_eq, vin_iI]
        rw [if_neg (by omega), if_pos (by omega), if_pos (by omega), if_pos (by omega), show R 3 - q = (R 3 - (q + 1)) + 1 by omega]
        unfold nsq
        have h3 := ih (q + 1) (nst R S p q z) k (by omega) (by omega) (nst_b hz)
        rw [← h3]
        unfold nst
        by_cases c1 : 0 < S (R (12 + 2 * p))
        · rw [if_pos (by omega), if_neg (fun q => by rw [g1] at q; have := q.1.1; simp at this; omega)]
          rfl
        · rw [if_neg (by omega), if_pos (by omega)]
          by_cases c2 : 0 < S (R (12 + 2 * q))
          · rw [if_pos (by omega), if_neg (fun q => by rw [g2] at q; have := q.1.2; simp at this; omega)]
            rfl
          · rw [if_neg (by omega)]
            have gf1 : gon S (R (12 + 2 * p)) = false := by rw [g1]; simp; omega
            have gf2 : gon S (R (12 + 2 * q)) = false := by rw [g2]; simp; omega
            rw [btw_apa gf1 gf2]
            by_cases c3 : 0 < apa S (R (12 + 2 * p)) (R (12 + 2 * q))
            · rw [if_neg (by omega)]
              by_cases c4 : apa S (R (12 + 2 * p)) (R (12 + 2 * q)) < z.2
              · rw [if_pos (by omega), if_pos ⟨⟨gf1, gf2⟩, c3, c4⟩]
                rfl
              · rw [if_neg (by omega), if_neg (fun q => c4 q.2.2)]
                rfl
            · rw [if_pos (by omega), if_neg (fun q => c3 q.2.1)]
              rfl
      · simp (disch := omega) only [e0, iI_le]
        rw [if_pos (by omega), show R 3 - q = 0 by omega]
        rfl
  have outer : ∀ n p (z : Int × Nat), p ≤ R 3 → R 3 - p < n → z.2 ≤ 100000000 → f_m_nearest_L26 N n (iI z.1) (iI (z.2 : Int)) (iI (p : Int)) σ = some (iI (nsp R S (R 3 - p) p z).1, σ) := by
    intro n
    induction n with
    | zero => intro q z _ h; omega
    | succ n ih =>
      intro p z hp hn hz
      unfold f_m_nearest_L26
      simp (disch := omega) only [e0, iI_le]
      by_cases h : p < R 3
      · rw [if_neg (by omega), show iI (p : Int) + 1 = iI ((p + 1 : Nat) : Int) from iI_add _ 1, inner p h N (p + 1) z _ (by omega) (by omega) hz, show R 3 - p = (R 3 - (p + 1)) + 1 by omega]
        unfold nsp
        rw [show iI (p : Int) + 1 = iI ((p + 1 : Nat) : Int) from iI_add _ 1]
        exact ih (p + 1) (nsq R S p (R 3 - (p + 1)) (p + 1) z) (by omega) (by omega) (nsq_b _ _ _ hz)
      · rw [if_pos (by omega), show R 3 - p = 0 by omega]
        rfl
  exact outer N 0 (-2, 100000000) (by omega) (by omega) (by decide)
theorem sim_nearest (hN : 200000 ≤ N) (h : Sim σ) : Both (f_x_nearest N σ) (f_m_nearest N) := by
  obtain ⟨R, S, B, h, hr⟩ := h
  refine sim_ro (a := ra (tL R) (nsp R S (R 3) 0 (-2, 61)).1) h hr (ra_t tL_3) ?_ (fun z => w_f_x_nearest) rfl (fun τ g => ?_) (fun τ y => w_f_m_nearest) rfl rfl
  · simp only [f_x_nearest, tx_land h.lx.c h.gd.c, px_gr N tL_r, Option.bind_some, bind_ite, Bool.false_eq_true, ↓reduceIte, px_goneCells]
    refine x_fin (fun h0 => ?_)
    rw [px_nearest hN h.lx.tr (h.gd.wl (tL_0.mp h0)) ((h.sx.tr (by decide)).b.gone (h.gd.ws (tL_0.mp h0)).1)]
    exact okS.mpr ⟨rfl, gI_eq⟩
  · simp only [f_m_nearest, pm_anew, g.lm.an.has, f_m_no, Option.bind_some, bind_ite, Bool.false_eq_true, ↓reduceIte]
    refine m_finL (fun h0 => ?_)
    rw [pm_nearest hN g.lm.an.1 g.lm.an.2.1 (g.gd.wl h0) (g.gd.ws h0).r, rz_1 (nsp_rz (R 3) 0 (-2, 61) (-2, 100000000) (Or.inr ⟨rfl, rfl⟩))]
    exact okS.mpr ⟨rfl, an_t⟩
end SPN
