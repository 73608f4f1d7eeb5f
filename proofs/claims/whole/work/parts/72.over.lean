/-! ===== what is left over; draws; the tape ===== -/
section OVER
variable {N : Nat} {R S : Nat → Nat} {σ : Sg}
def paB (R : Nat → Nat) (u : Nat) : Nat → Nat → Bool
  | 0, _ => true
  | n + 1, b => if R (9 + b) % u = 0 then paB R u n (b + 1) else false
def pa (R : Nat → Nat) (u : Nat) : Bool := paB R u (R 2) 0
def dn (R : Nat → Nat) : Nat → Nat
  | 0 => 0
  | u + 1 => if pa R (u + 1) = true then u + 1 else dn R u
theorem paB_1 : ∀ n b, paB R 1 n b = true := by
  intro n
  induction n with
  | zero => intro b; rfl
  | succ n ih => intro b; unfold paB; rw [if_pos (Nat.mod_one _)]; exact ih _
theorem dn_1 : dn R 1 = 1 := by
  unfold dn
  rw [if_pos (show pa R (0 + 1) = true from paB_1 _ _)]
theorem dn_r : ∀ u, 1 ≤ u → 1 ≤ dn R u ∧ dn R u ≤ u := by
  intro u
  induction u with
  | zero => intro h; omega
  | succ u ih =>
    intro _
    by_cases c : u = 0
    · subst c; rw [show dn R (0 + 1) = 1 from dn_1]; omega
    · unfold dn
      split
      · omega
      · have := ih (by omega); omega
theorem px_partsAll (hN : 200000 ≤ N) (hL : LX 10 R σ) (hW : WfL R) {u : Nat} (h1 : 1 ≤ u) (h9 : u ≤ 9) : f_country_partsAll N (iI (u : Int)) σ = some (pa R u, σ) := by
  have h3 := hW.nb
  have key : ∀ m b, b ≤ R 2 → R 2 - b < m → f_country_partsAll_L2 N m (iI (u : Int)) (iI (b : Int)) σ = some (paB R u (R 2 - b) b, σ) := by
    intro m
    induction m with
    | zero => intro b _ h; omega
    | succ m ih =>
      intro b hb hm
      unfold f_country_partsAll_L2
      rw [hL.nb]
      by_cases h : b < R 2
      · have hbt := hW.bt h
        rw [if_neg (show ¬ iI (R 2 : Int) ≤ iI (b : Int) by rw [iI_le (by omega) (by omega) (by omega) (by omega)]; omega), if_neg (show ¬ iI (u : Int) ≤ 0 by rw [show (0 : Int32) = iI 0 from rfl, iI_le (by omega) (by omega) (by omega) (by omega)]; omega), px_at hL.nb h (by omega) (by omega), Option.bind_some]
        dsimp only
        rw [hL.bt b h, if_neg (show ¬ iI (u : Int) = 0 by rw [show (0 : Int32) = iI 0 from rfl, iI_eq (by omega) (by omega) (by omega) (by omega)]; omega), iI_rem (by omega) (by omega) (by omega) (by omega), show R 2 - b = (R 2 - (b + 1)) + 1 by omega, show iI (b : Int) + 1 = iI ((b + 1 : Nat) : Int) from iI_add _ 1]
        unfold paB
        have hm2 : R (9 + b) % u < 10 := Nat.lt_of_lt_of_le (Nat.mod_lt _ h1) (by omega)
        have e : ((R (9 + b) : Int) % (u : Int)) = ((R (9 + b) % u : Nat) : Int) := rfl
        by_cases c : R (9 + b) % u = 0
        · rw [if_pos (show iI ((R (9 + b) : Int) % (u : Int)) = 0 by rw [e, c]; rfl), if_pos c]
          exact ih (b + 1) (by omega) (by omega)
        · rw [if_neg (show ¬ iI ((R (9 + b) : Int) % (u : Int)) = 0 by rw [e, show (0 : Int32) = iI 0 from rfl, iI_eq (by omega) (by omega) (by omega) (by omega)]; omega), if_neg c]
      · rw [if_pos (show iI (R 2 : Int) ≤ iI (b : Int) by rw [iI_le (by omega) (by omega) (by omega) (by omega)]; omega), show R 2 - b = 0 by omega]
        rfl
  exact key N 0 (by omega) (by omega)
theorem px_strideUnit (hN : 200000 ≤ N) (hL : LX 10 R σ) (hW : WfL R) : f_country_strideUnit N σ = some (iI (dn R 9 : Int), σ) := by
  have key : ∀ (m u : Nat), u ≤ 9 → u < m → f_country_strideUnit_L3 N m (iI (u : Int)) σ = some (iI (dn R u : Int), σ) := by
    intro m
    induction m with
    | zero => intro u _ h; omega
    | succ m ih =>
      intro u hu hm
      unfold f_country_strideUnit_L3
      cases u with
      | zero => rw [if_pos (by decide)]; rfl
      | succ u =>
        rw [if_neg (show ¬ iI ((u + 1 : Nat) : Int) ≤ 0 by rw [show (0 : Int32) = iI 0 from rfl, iI_le (by omega) (by omega) (by omega) (by omega)]; omega), px_partsAll hN hL hW (by omega) hu, Option.bind_some]
        dsimp only
        unfold dn
        by_cases c : pa R (u + 1) = true
        · rw [if_pos c, if_pos c]
        · rw [if_neg c, if_neg c, iI_dec, show ((u + 1 : Nat) : Int) + -1 = (u : Int) by omega]
          exact ih u (by omega) (by omega)
  exact key N 9 (by omega) (by omega)
theorem pm_over (hN : 200000 ≤ N) (hR : AR σ 69 189 R) (hW : WfL R) {β : Type} (v : Int32) (k : Int32 → Int32 → Sg → Option (Int32 × Sg)) : f_m_over_L22 N N v 1 2 σ k = k v (iI (dn R 9 : Int)) σ := by
  have h3 := hW.nb
  have e2 : gA σ 69 2 = iI (R 2 : Int) := hR.A (z := 2) 2 rfl (by omega) (by omega)
  have inner : ∀ (n : Nat) (part : Int32), 2 ≤ n → n ≤ 9 → ∀ (m b : Nat) (a : Bool) (k : Int32 → Int32 → Int32 → Int32 → Sg → Option (Int32 × Sg)), b ≤ R 2 → R 2 - b < m → f_m_over_L34 N m v part (iI (n : Int)) (b2i a) (iI (b : Int)) σ k = k v part (iI (n : Int)) (b2i (a && paB R n (R 2 - b) b)) σ := by
    intro n part hn1 hn2 m
    induction m with
    | zero => intro b a k _ h; omega
    | succ m ih =>
      intro b a k hb hm
      unfold f_m_over_L34
      rw [e2]
      by_cases h : b < R 2
      · have hbt := hW.bt h
        have e9 := hR.A (z := 9 + (b : Int)) (9 + b) (by omega) (by omega) (by omega)
        rw [if_neg (show ¬ iI (R 2 : Int) ≤ iI (b : Int) by rw [iI_le (by omega) (by omega) (by omega) (by omega)]; omega), show (9 : Int32) + iI (b : Int) = iI (9 + (b : Int)) from iI_add 9 _, e9, if_pos (show vin (iI (9 + (b : Int))) 189 by rw [vin_iI (by omega) (by omega)]; omega), if_neg (show ¬ iI (n : Int) = 0 by rw [show (0 : Int32) = iI 0 from rfl, iI_eq (by omega) (by omega) (by omega) (by omega)]; omega), iI_rem (by omega) (by omega) (by omega) (by omega), show R 2 - b = (R 2 - (b + 1)) + 1 by omega, show iI (b : Int) + 1 = iI ((b + 1 : Nat) : Int) from iI_add _ 1]
        unfold paB
        have hm2 : R (9 + b) % n < 10 := Nat.lt_of_lt_of_le (Nat.mod_lt _ (by omega)) (by omega)
        have e : ((R (9 + b) : Int) % (n : Int)) = ((R (9 + b) % n : Nat) : Int) := rfl
        cases a with
        | false =>
          rw [if_pos (show b2i false = 0 from rfl), Bool.false_and]
          have := ih (b + 1) false k (by omega) (by omega)
          rw [Bool.false_and] at this
          exact this
        | true =>
          rw [if_neg (show ¬ b2i true = 0 by decide), Bool.true_and]
          by_cases c : R (9 + b) % n = 0
          · rw [if_pos (show iI ((R (9 + b) : Int) % (n : Int)) = 0 by rw [e, c]; rfl), if_pos c]
            have := ih (b + 1) true k (by omega) (by omega)
            rw [Bool.true_and] at this
            exact this
          · rw [if_neg (show ¬ iI ((R (9 + b) : Int) % (n : Int)) = 0 by rw [e, show (0 : Int32) = iI 0 from rfl, iI_eq (by omega) (by omega) (by omega) (by omega)]; omega), if_neg c]
            have := ih (b + 1) false k (by omega) (by omega)
            rw [Bool.false_and] at this
            exact this
      · rw [if_pos (show iI (R 2 : Int) ≤ iI (b : Int) by rw [iI_le (by omega) (by omega) (by omega) (by omega)]; omega), show R 2 - b = 0 by omega]
        unfold paB
        rw [Bool.and_true]
  have outer : ∀ (m n : Nat), 2 ≤ n → n ≤ 10 → 10 - n < m → f_m_over_L22 N m v (iI (dn R (n - 1) : Int)) (iI (n : Int)) σ k = k v (iI (dn R 9 : Int)) σ := by
    intro m
    induction m with
    | zero => intro n _ _ h; omega
    | succ m ih =>
      intro n hn1 hn2 hm
      unfold f_m_over_L22
      by_cases c : n = 10
      · subst c
        rw [if_pos (by decide)]
      · rw [if_neg (show ¬ 10 ≤ iI (n : Int) by rw [show (10 : Int32) = iI 10 from rfl, iI_le (by omega) (by omega) (by omega) (by omega)]; omega)]
        have e := inner n (iI (dn R (n - 1) : Int)) hn1 (by omega) N 0 true
        rw [show (1 : Int32) = b2i true from rfl, show (0 : Int32) = iI ((0 : Nat) : Int) from rfl, e _ (by omega) (by omega), Bool.true_and, Nat.sub_zero]
        rw [show iI (n : Int) + b2i true = iI ((n + 1 : Nat) : Int) from iI_add _ 1]
        have hi := ih (n + 1) (by omega) (by omega) (by omega)
        rw [show n + 1 - 1 = (n - 1) + 1 by omega] at hi
        unfold dn at hi
        rw [show n - 1 + 1 = n by omega] at hi
        by_cases c2 : pa R n = true
        · rw [if_neg (show ¬ b2i (paB R n (R 2) 0) = iI ((0 : Nat) : Int) by rw [show paB R n (R 2) 0 = true from c2]; decide)]
          rw [if_pos c2] at hi
          exact hi
        · rw [if_pos (show b2i (paB R n (R 2) 0) = iI ((0 : Nat) : Int) by rw [show paB R n (R 2) 0 = false from (by simpa using c2 : pa R n = false)]; rfl)]
          rw [if_neg c2] at hi
          exact hi
  have h := outer N 2 (by omega) (by omega) (by omega)
  rw [show dn R (2 - 1) = 1 from dn_1] at h
  exact h
def ovI (R S : Nat → Nat) (k : Nat) : Int := (((if S 60 ≤ k then k - S 60 else S 60 - k) % dn R 9 : Nat) : Int)
theorem sim_over (hN : 200000 ≤ N) (v : Int32) (h : Sim σ) : Both (f_x_over N v σ) (f_m_over N v) := by
  obtain ⟨R, S, B, h, hr⟩ := h
  obtain ⟨z, rfl, z1, z2⟩ := iI_of v
  have hc := h.gd.c
  have hd := dn_r (R := R) 9 (by omega)
  have hd0 : ¬ iI (dn R 9 : Int) = 0 := by rw [show (0 : Int32) = iI 0 from rfl, iI_eq (by omega) (by omega) (by omega) (by omega)]; omega
  refine sim_ro (a := ra (tC R z) (ovI R S z.toNat)) h hr (ra_t tC_3) ?_ (fun z => w_f_x_over) rfl (fun τ g => ?_) (fun τ y => w_f_m_over) rfl rfl
  · simp only [f_x_over, tx_cell h.lx.c h.gd.c z1 z2, px_gr N tC_r, Option.bind_some, bind_ite, Bool.false_eq_true, ↓reduceIte]
    refine x_fin (fun h0 => ?_)
    rw [tC_0] at h0
    have hW := h.gd.wl (by omega)
    have hS := h.gd.ws (by omega)
    have h60 := hS.2.2.1
    obtain ⟨k, rfl⟩ : ∃ b : Nat, z = (b : Int) := ⟨z.toNat, by omega⟩
    have hsx : SX 40 S (sI σ 0 10 0) := h.sx.tr (by decide)
    rw [px_strideUnit hN h.lx.tr hW, Option.bind_some]
    dsimp only
    rw [if_neg hd0, if_neg hd0, hsx.2.2.1, iI_sub, jabs_iI (by omega) (by omega), Int.toNat_natCast]
    unfold ovI
    by_cases c : S 60 ≤ k
    · rw [if_pos (show 0 ≤ (k : Int) - (S 60 : Int) by omega), if_pos c, show (k : Int) - (S 60 : Int) = ((k - S 60 : Nat) : Int) by omega, iI_rem (by omega) (by omega) (by omega) (by omega)]
      exact okS.mpr ⟨rfl, gI_eq⟩
    · rw [if_neg (show ¬ 0 ≤ (k : Int) - (S 60 : Int) by omega), if_neg c, show -((k : Int) - (S 60 : Int)) = ((S 60 - k : Nat) : Int) by omega, iI_rem (by omega) (by omega) (by omega) (by omega)]
      exact okS.mpr ⟨rfl, gI_eq⟩
  · simp only [f_m_over, pm_anew, pm_isCell g.lm.an g.gd.c z1 z2, f_m_no, Option.bind_some, bind_ite, Bool.false_eq_true, ↓reduceIte, decide_eq_true_eq]
    refine m_finC (fun h0 => ?_)
    have hW := g.gd.wl (by omega)
    have hS := g.gd.ws (by omega)
    have h60 := hS.2.2.1
    obtain ⟨k, rfl⟩ : ∃ b : Nat, z = (b : Int) := ⟨z.toNat, by omega⟩
    have e1 : gA (an τ) 74 60 = iI (S 60 : Int) := g.lm.an.2.1.A (z := 60) 60 rfl (by omega) (by omega)
    rw [pm_over (β := Unit) hN g.lm.an.1 hW]
    rw [e1, if_neg hd0, if_neg hd0, Int.toNat_natCast, iI_sub, iI_sub]
    unfold ovI
    by_cases c : S 60 ≤ k
    · rw [if_pos (show iI (S 60 : Int) ≤ iI (k : Int) by rw [iI_le (by omega) (by omega) (by omega) (by omega)]; omega), if_pos c, show (k : Int) - (S 60 : Int) = ((k - S 60 : Nat) : Int) by omega, iI_rem (by omega) (by omega) (by omega) (by omega)]
      exact okS.mpr ⟨rfl, an_t⟩
    · rw [if_neg (show ¬ iI (S 60 : Int) ≤ iI (k : Int) by rw [iI_le (by omega) (by omega) (by omega) (by omega)]; omega), if_neg c, show (S 60 : Int) - (k : Int) = ((S 60 - k : Nat) : Int) by omega, iI_rem (by omega) (by omega) (by omega) (by omega)]
      exact okS.mpr ⟨rfl, an_t⟩
/-! draws -/
def dwN (s : Nat) : Nat → Nat
  | 0 => s
  | i + 1 => (75 * dwN s i + 74) % 65537
theorem dwN_s {s i : Nat} : dwN s (i + 1) = (75 * dwN s i + 74) % 65537 := rfl
def dwS (R S ds : Nat → Nat) (s : Nat) : Nat → (Nat → Nat)
  | 0 => S
  | i + 1 => if dwN s (i + 1) % 100 < R 1 then dwS R S ds s i else go R (dwS R S ds s i) (ds i)
theorem dwN_r {s : Nat} (h : s ≤ 65536) : ∀ i, dwN s i ≤ 65536 := by
  intro i
  cases i with
  | zero => exact h
  | succ i => unfold dwN; omega
theorem dwS_wf {ds : Nat → Nat} {s : Nat} (hW : WfL R) (hC : WfC R S) (hs : S 60 < R 0) : ∀ i, WfC R (dwS R S ds s i) ∧ dwS R S ds s i 60 < R 0 := by
  intro i
  induction i with
  | zero => exact ⟨hC, hs⟩
  | succ i ih =>
    unfold dwS
    split
    · exact ih
    · exact ih.1.god hW ih.2
theorem dw_i {s i : Nat} (h : s ≤ 65536) : ((75 * iI (dwN s i : Int)) + 74) - ((75 * iI (dwN s i : Int)) + 74) / 65537 * 65537 = iI (dwN s (i + 1) : Int) := by
  have := dwN_r h i
  rw [show (75 : Int32) * iI (dwN s i : Int) + 74 = iI (75 * (dwN s i : Int) + 74) by rw [show (75 : Int32) = iI 75 from rfl, show (74 : Int32) = iI 74 from rfl, iI_mul, iI_add]]
  exact (iI_rem (b := 65537) (by omega) (by omega) (by omega) (by omega)).trans (by rw [dwN_s]; rfl)
theorem dw_c {s i : Nat} (h : s ≤ 65536) (hg : R 1 ≤ 100) : ((iI (dwN s (i + 1) : Int)) - (iI (dwN s (i + 1) : Int)) / 100 * 100 < iI (R 1 : Int)) = (dwN s (i + 1) % 100 < R 1) := by
  have := dwN_r h (i + 1)
  rw [show iI (dwN s (i + 1) : Int) - iI (dwN s (i + 1) : Int) / 100 * 100 = iI ((dwN s (i + 1) : Int) % 100) from iI_rem (b := 100) (by omega) (by omega) (by omega) (by omega), iI_lt (by omega) (by omega) (by omega) (by omega)]
  exact propext (by omega)
def tD (R : Nat → Nat) (z n s : Int) : Int := if tR R z n = 0 then (if 0 ≤ s ∧ s ≤ 65536 then 0 else 2) else tR R z n
theorem tD_3 {z y s : Int} : 0 ≤ tD R z y s ∧ tD R z y s ≤ 3 := by
  have := tR_3 (R := R) (z := z) (y := y)
  unfold tD; split <;> (try split) <;> omega
theorem sim_drawn (hN : 200000 ≤ N) (v w u : Int32) (h : Sim σ) : Both (f_x_drawn N v w u σ) (f_m_drawn N v w u) := by
  obtain ⟨R, S, B, h, hr⟩ := h
  obtain ⟨z, rfl, z1, z2⟩ := iI_of v
  obtain ⟨y, rfl, y1, y2⟩ := iI_of w
  obtain ⟨s, rfl, s1, s2⟩ := iI_of u
  have hr9 := tR_r (R := R) (z := z) (y := y)
  refine sim_ro (a := ra (tD R z y s) (dwS R S (dg z.toNat y.toNat) s.toNat y.toNat 60 : Int)) h hr (ra_t tD_3) ?_ (fun z => w_f_x_drawn) rfl (fun τ g => ?_) (fun τ y => w_f_m_drawn) rfl rfl
  · have e := tx_num (N := N) h.lx.c h.gd.c s1 s2 (m := 65536) (by omega) (by omega)
    simp only [f_x_drawn, tx_row hN h.lx h.gd.c h.gd.nb z1 z2 y1 y2, show (65536 : Int32) = iI 65536 from rfl, e, px_gr N tN_r, px_gr N tR_r, Option.bind_some, bind_ite, Bool.false_eq_true, ↓reduceIte, iI_0 tR_r]
    by_cases ht : tR R z y = 0
    · rw [if_pos ht]
      have h0 := tR_0.mp ht
      have hte : tN R s 65536 = tD R z y s := by unfold tN tD; rw [if_neg h0.1, if_pos ht]
      rw [hte]
      refine x_fin (fun hd => ?_)
      have hs : 0 ≤ s ∧ s ≤ 65536 := by
        unfold tD at hd
        rw [if_pos ht] at hd
        by_cases c : 0 ≤ s ∧ s ≤ 65536
        · exact c
        · rw [if_neg c] at hd; omega
      obtain ⟨a, rfl⟩ : ∃ b : Nat, z = (b : Int) := ⟨z.toNat, by omega⟩
      obtain ⟨n, rfl⟩ : ∃ b : Nat, y = (b : Int) := ⟨y.toNat, by omega⟩
      obtain ⟨s, rfl⟩ : ∃ b : Nat, s = (b : Int) := ⟨s.toNat, by omega⟩
      have hW := h.gd.wl h0.1
      have hS := h.gd.ws h0.1
      have hg := hW.gout
      simp only [Int.toNat_natCast] at h0 ⊢
      have key : ∀ m i τ, i ≤ n → n - i < m → gI τ 0 10 = iI 0 → LX 10 R τ → SX 41 (dwS R S (dg a n) s i) τ → ok (f_x_drawn_L52 N m (iI (a : Int)) (iI (n : Int)) (iI (dwN s i : Int)) (iI (i : Int)) τ) (An ((dwS R S (dg a n) s n 60 : Int), 0)) := by
        intro m
        induction m with
        | zero => intro i τ _ h; omega
        | succ m ih =>
          intro i τ hi hm ht1 hLt hX
          unfold f_x_drawn_L52
          by_cases c : i = n
          · subst c
            rw [if_pos (show iI (i : Int) ≤ iI (i : Int) by rw [iI_le (by omega) (by omega) (by omega) (by omega)]; omega)]
            exact okS.mpr ⟨hX.2.2.1, ht1⟩
          · rw [if_neg (show ¬ iI (n : Int) ≤ iI (i : Int) by rw [iI_le (by omega) (by omega) (by omega) (by omega)]; omega), dw_i (by omega), hLt.gout, show iI (i : Int) + 1 = iI ((i + 1 : Nat) : Int) from iI_add _ 1]
            simp only [dw_c (R := R) (i := i) (show s ≤ 65536 by omega) hg]
            by_cases c2 : dwN s (i + 1) % 100 < R 1
            · rw [if_pos c2]
              refine ih (i + 1) τ (by omega) (by omega) ht1 hLt ?_
              unfold dwS
              rw [if_pos c2]; exact hX
            · rw [if_neg c2, px_digitOf hN (by omega) (by omega) (by omega), Option.bind_some, okB]
              have hw := dwS_wf (ds := dg a n) (s := s) hW hS.c hS.2.2.1 i
              have hdi := rowOk_dg h0.2.2.2 i (by omega)
              refine ((px_makeStride hLt hX hW hw.1 hw.2 (Or.inr rfl) hdi.1 hdi.2).and (fun z => w_f_state_makeStride)).imp (fun q hq => ?_)
              refine ih (i + 1) q.2 (by omega) (by omega) (by rw [hq.2.I 0 10 rfl]; exact ht1) (hLt.fr hq.2 rfl) ?_
              unfold dwS
              rw [if_neg c2]; exact hq.1.2
      rw [okB]
      refine ((px_copy (h.sx.tr (v := 0) (by decide))).and (fun z => w_f_state_copy)).imp (fun q hq => ?_)
      exact key N 0 q.2 (by omega) (by omega) (by rw [hq.2.I 0 10 rfl]; exact gI_eq) (h.lx.tr.fr hq.2 rfl) hq.1
    · rw [if_neg ht, if_neg ht, show tD R z y s = tR R z y by unfold tD; rw [if_neg ht]]
      unfold ra
      rw [if_neg ht]
      exact okS.mpr ⟨rfl, gI_eq⟩
  · simp only [f_m_drawn, pm_anew, f_m_no, Option.bind_some]
    rw [okB]
    refine ((pm_rowWhyT hN g.lm.an g.gd.nb z1 z2 y1 y2).and (fun z => w_f_m_rowWhy)).imp (fun q hq => ?_)
    rw [hq.1.1]
    simp only [iI_0 hr9]
    have ht66 : gI q.2 66 11 = iI 0 := by rw [hq.2.I 66 11 rfl]; exact an_t
    by_cases ht : tR R z y = 0
    · have h0 := tR_0.mp ht
      have hdg := hq.1.2 ht
      rw [if_pos ht, show f_m_in N (iI s) 0 65536 q.2 = some (decide (0 ≤ s ∧ s ≤ 65536), q.2) from pm_in (b := 0) (c := 65536) s1 s2 (by omega) (by omega) (by omega) (by omega), Option.bind_some]
      simp only [decide_eq_true_eq]
      by_cases hs : 0 ≤ s ∧ s ≤ 65536
      · rw [if_pos hs, if_pos ht, show tD R z y s = 0 by unfold tD; rw [if_pos ht, if_pos hs], ra_0]
        obtain ⟨a, rfl⟩ : ∃ b : Nat, z = (b : Int) := ⟨z.toNat, by omega⟩
        obtain ⟨n, rfl⟩ : ∃ b : Nat, y = (b : Int) := ⟨y.toNat, by omega⟩
        obtain ⟨s, rfl⟩ : ∃ b : Nat, s = (b : Int) := ⟨s.toNat, by omega⟩
        have hW := g.gd.wl h0.1
        have hS := g.gd.ws h0.1
        have hg := hW.gout
        simp only [Int.toNat_natCast] at h0 hdg ⊢
        have key : ∀ m i τ, i ≤ n → n - i < m → gI τ 66 11 = iI 0 → AR τ 69 189 R → (∀ j, j < n → gI τ 79 j = iI (dg a n j : Int)) → AR τ 75 63 (dwS R S (dg a n) s i) → ok (f_m_drawn_L57 N m (iI (n : Int)) (iI (dwN s i : Int)) (iI (i : Int)) τ) (Am ((dwS R S (dg a n) s n 60 : Int), 0)) := by
          intro m
          induction m with
          | zero => intro i τ _ h; omega
          | succ m ih =>
            intro i τ hi hm ht1 hRt hdt hX
            unfold f_m_drawn_L57
            by_cases c : i = n
            · subst c
              rw [if_pos (show iI (i : Int) ≤ iI (i : Int) by rw [iI_le (by omega) (by omega) (by omega) (by omega)]; omega)]
              exact okS.mpr ⟨hX.A (z := 60) 60 rfl (by omega) (by omega), ht1⟩
            · have e1 : gA τ 69 1 = iI (R 1 : Int) := hRt.A (z := 1) 1 rfl (by omega) (by omega)
              rw [if_neg (show ¬ iI (n : Int) ≤ iI (i : Int) by rw [iI_le (by omega) (by omega) (by omega) (by omega)]; omega), dw_i (by omega), e1, show iI (i : Int) + 1 = iI ((i + 1 : Nat) : Int) from iI_add _ 1]
              simp only [dw_c (R := R) (i := i) (show s ≤ 65536 by omega) hg]
              by_cases c2 : dwN s (i + 1) % 100 < R 1
              · rw [if_pos c2]
                refine ih (i + 1) τ (by omega) (by omega) ht1 hRt hdt ?_
                unfold dwS
                rw [if_pos c2]; exact hX
              · rw [if_neg c2, if_pos (show vin (iI (i : Int)) 5 by rw [vin_iI (by omega) (by omega)]; omega), gA_iI (by omega) (by omega), Int.toNat_natCast, hdt i (by omega), okB]
                have hw := dwS_wf (ds := dg a n) (s := s) hW hS.c hS.2.2.1 i
                have hdi := rowOk_dg h0.2.2.2 i (by omega)
                refine ((pm_digitOn hN hRt hX (by decide) hW hw.2 hw.1.r hdi.1 hdi.2).and (fun z => w_f_m_digitOn)).imp (fun q hq => ?_)
                refine ih (i + 1) q.2 (by omega) (by omega) (by rw [hq.2.I 66 11 rfl]; exact ht1) (hRt.fr hq.2 rfl) (fun j hj => by rw [hq.2.I 79 j rfl]; exact hdt j hj) ?_
                unfold dwS
                rw [if_neg c2]; exact hq.1.2
        rw [okB]
        refine ((pm_begin hN (g.lm.an.2.1.fr hq.2 rfl)).and (fun z => w_f_m_begin)).imp (fun q2 h2 => ?_)
        exact key N 0 q2.2 (by omega) (by omega) (by rw [h2.2.I 66 11 rfl]; exact ht66) ((g.lm.an.1.fr hq.2 rfl).fr h2.2 rfl) (fun j hj => by rw [h2.2.I 79 j rfl]; exact hdg j hj) h2.1
      · rw [if_neg hs, show tD R z y s = 2 by unfold tD; rw [if_pos ht, if_neg hs]]
        exact okS.mpr ⟨rfl, gI_eq⟩
    · rw [if_neg ht, if_neg ht, show tD R z y s = tR R z y by unfold tD; rw [if_neg ht]]
      unfold ra
      rw [if_neg ht]
      exact okS.mpr ⟨rfl, gI_eq⟩
end OVER
