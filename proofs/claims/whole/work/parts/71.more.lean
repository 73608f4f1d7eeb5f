/-! ===== places lost, sums of strides, draws ===== -/
section MORE
variable {N : Nat} {R S : Nat → Nat} {σ : Sg}
def ldS (R : Nat → Nat) (g : Nat → Bool) (z : Int) : Nat → Nat → Nat → Option Nat
  | 0, _, _ => none
  | f + 1, p, n => if g (R (12 + 2 * p)) = true then (if z = (n : Int) then some p else ldS R g z f (p + 1) (n + 1)) else ldS R g z f (p + 1) n
theorem iI_sub0 {z : Int} {n : Nat} (h1 : -2147483648 ≤ z) (h2 : z < 2147483648) (hn : n ≤ 100) : (iI (z - n) = 0) = (z = (n : Int)) := by
  refine propext ⟨fun h => ?_, fun h => by rw [h, Int.sub_self]; rfl⟩
  have e := congrArg Int32.toInt h
  have e2 : (iI (z - n)).toInt = (z - n).bmod 4294967296 := Int32.toInt_ofInt
  rw [e2, Int.bmod_def] at e
  have e3 : (0 : Int32).toInt = 0 := rfl
  rw [e3] at e
  split at e <;> omega
theorem px_led (hN : 200000 ≤ N) (hL : LX 10 R σ) (hX : SX 40 S σ) (hg : Gd R S) {z : Int} (z1 : -2147483648 ≤ z) (z2 : z < 2147483648) : f_x_led N (iI z) σ = some ((ldS R (gon S) z (R 3) 0 0).map (fun p => iI (p : Int)), σ) := by
  have h6 := hg.np
  have key : ∀ m p n, p ≤ R 3 → n ≤ p → R 3 - p < m → f_x_led_L4 N m (iI (z - n)) (iI (p : Int)) σ = some ((ldS R (gon S) z (R 3 - p) p n).map (fun p => iI (p : Int)), σ) := by
    intro m
    induction m with
    | zero => intro p n _ _ h; omega
    | succ m ih =>
      intro p n hp hnp hm
      unfold f_x_led_L4
      by_cases h : p < R 3
      · have h0 := hg.np0 (by omega)
        have hW := hg.wl h0
        have hS := hg.ws h0
        rw [px_goneCells, Option.bind_some]
        dsimp only
        rw [px_isLost hL hW _ h, Option.bind_some, hX.b.gone hS.1]
        dsimp only
        rw [hL.np]
        simp only [iI_sub0 z1 z2 (show n ≤ 100 by omega)]
        rw [if_neg (show ¬ iI (R 3 : Int) ≤ iI (p : Int) by rw [iI_le (by omega) (by omega) (by omega) (by omega)]; omega), show R 3 - p = (R 3 - (p + 1)) + 1 by omega]
        unfold ldS
        rw [show iI (p : Int) + 1 = iI ((p + 1 : Nat) : Int) from iI_add _ 1, show iI (z - n) + -1 = iI (z - ((n + 1 : Nat) : Int)) by rw [iI_dec]; congr 1; omega]
        by_cases c : gon S (R (12 + 2 * p)) = true
        · rw [if_pos c, if_pos c]
          by_cases c2 : z = (n : Int)
          · rw [if_pos c2, if_pos c2]; rfl
          · rw [if_neg c2, if_neg c2]
            exact ih (p + 1) (n + 1) (by omega) (by omega) (by omega)
        · rw [if_neg c, if_neg c]
          exact ih (p + 1) n (by omega) (by omega) (by omega)
      · rw [hL.np, if_pos (show iI (R 3 : Int) ≤ iI (p : Int) by rw [iI_le (by omega) (by omega) (by omega) (by omega)]; omega), show R 3 - p = 0 by omega]
        rfl
  have h := key N 0 0 (by omega) (by omega) (by omega)
  unfold f_x_led
  rw [show z - ((0 : Nat) : Int) = z by omega] at h
  exact h
theorem pm_led (hN : 200000 ≤ N) (hM : LandM R S σ) (hg : Gd R S) {z : Int} (z1 : -2147483648 ≤ z) (z2 : z < 2147483648) : f_m_led N (iI z) σ = some (match ldS R (gon S) z (R 3) 0 0 with
    | some p => (iI (p : Int), sI σ 66 0 0)
    | none => (0, sI σ 66 0 1)) := by
  have h6 := hg.np
  by_cases hl : R 0 = 0
  · have h30 : R 3 = 0 := by
      by_cases c : R 3 = 0
      · exact c
      · exact absurd hl (hg.np0 (by omega))
    unfold f_m_led
    obtain ⟨M, rfl⟩ : ∃ M, N = M + 1 := ⟨N - 1, by omega⟩
    unfold f_m_led_L4
    rw [if_pos (by rw [hM.has]; exact hl), h30]
    rfl
  · have hW := hg.wl hl
    have hS := hg.ws hl
    have hc := hW.c
    have key : ∀ m p n, p ≤ R 3 → n ≤ p → R 3 - p < m → f_m_led_L4 N m (iI z) (iI (n : Int)) (iI (p : Int)) σ = some (match ldS R (gon S) z (R 3 - p) p n with
        | some p => (iI (p : Int), sI σ 66 0 0)
        | none => (0, sI σ 66 0 1)) := by
      intro m
      induction m with
      | zero => intro p n _ _ h; omega
      | succ m ih =>
        intro p n hp hnp hm
        unfold f_m_led_L4
        have e3 : gA σ 69 3 = iI (R 3 : Int) := hM.1.A (z := 3) 3 rfl (by omega) (by omega)
        rw [if_neg (by rw [hM.has]; exact hl), e3]
        by_cases h : p < R 3
        · have hp := hW.pl h
          have hs := hS.1 (R (12 + 2 * p)) (by omega)
          have e1 := hM.1.A (z := 12 + 2 * (p : Int)) (12 + 2 * p) (by omega) (by omega) (by omega)
          have e2 := hM.2.1.A (z := (R (12 + 2 * p) : Int)) (R (12 + 2 * p)) rfl (by omega) (by omega)
          rw [if_neg (show ¬ iI (R 3 : Int) ≤ iI (p : Int) by rw [iI_le (by omega) (by omega) (by omega) (by omega)]; omega)]
          rw [show (12 : Int32) + 2 * iI (p : Int) = iI (12 + 2 * (p : Int)) by rw [show (12 : Int32) = iI 12 from rfl, show (2 : Int32) = iI 2 from rfl, iI_mul, iI_add], e1, e2]
          rw [if_pos (show vin (iI (12 + 2 * (p : Int))) 189 by rw [vin_iI (by omega) (by omega)]; omega), if_pos (show vin (iI (R (12 + 2 * p) : Int)) 63 by rw [vin_iI (by omega) (by omega)]; omega)]
          rw [show iI (p : Int) + 1 = iI ((p + 1 : Nat) : Int) from iI_add _ 1, show iI (n : Int) + 1 = iI ((n + 1 : Nat) : Int) from iI_add _ 1, show R 3 - p = (R 3 - (p + 1)) + 1 by omega]
          unfold ldS
          by_cases c : S (R (12 + 2 * p)) = 0
          · rw [if_pos (show iI (S (R (12 + 2 * p)) : Int) = 0 by rw [c]; rfl), if_neg (show ¬ gon S (R (12 + 2 * p)) = true by simp [gon]; omega)]
            exact ih (p + 1) n (by omega) (by omega) (by omega)
          · rw [if_neg (show ¬ iI (S (R (12 + 2 * p)) : Int) = 0 by rw [show (0 : Int32) = iI 0 from rfl, iI_eq (by omega) (by omega) (by omega) (by omega)]; omega), if_pos (show gon S (R (12 + 2 * p)) = true by simp [gon]; omega)]
            by_cases c2 : z = (n : Int)
            · rw [if_pos c2, if_pos (show iI (n : Int) = iI z by rw [c2])]
            · rw [if_neg c2, if_neg (show ¬ iI (n : Int) = iI z by rw [iI_eq (by omega) (by omega) (by omega) (by omega)]; omega)]
              exact ih (p + 1) (n + 1) (by omega) (by omega) (by omega)
        · rw [if_pos (show iI (R 3 : Int) ≤ iI (p : Int) by rw [iI_le (by omega) (by omega) (by omega) (by omega)]; omega), show R 3 - p = 0 by omega]
          rfl
    exact key N 0 0 (by omega) (by omega) (by omega)
theorem sim_led (hN : 200000 ≤ N) (v : Int32) (h : Sim σ) : ok (f_led N v σ) (fun z => ok (f_m_led N v z.2) (fun y => gI y.2 66 0 = z.1 ∧ (z.1 = 0 → gL y.2 85 0 = y.1.toInt64) ∧ Sim y.2)) := by
  obtain ⟨z, rfl, z1, z2⟩ := iI_of v
  have h' := h
  obtain ⟨R, S, B, h, hr⟩ := h
  unfold f_led
  rw [px_led hN h.lx h.sx h.gd z1 z2, Option.bind_some]
  cases hd : ldS R (gon S) z (R 3) 0 0 with
  | none =>
    refine okS.mpr ?_
    dsimp only
    rw [pm_led hN h.lm h.gd z1 z2, hd]
    exact okS.mpr ⟨gI_eq, fun q => absurd q (by decide), h'.thr⟩
  | some p =>
    refine okS.mpr ?_
    dsimp only
    have hf : Fr [(85, none)] σ (sM σ 85 0 (iI (p : Int)).toInt64) := Fr.wM Fr.rf (by simp)
    have hs : Sim (sM σ 85 0 (iI (p : Int)).toInt64) := ⟨R, S, B, h.fr hf rfl, hr⟩
    have hs0 := h.fr hf rfl
    rw [pm_led hN hs0.lm h.gd z1 z2, hd]
    exact okS.mpr ⟨gI_eq, fun _ => gL_eq (σ := σ) (i := 85) (k := 0), hs.thr⟩
/-! sums of strides -/
def mch : Nat := 100000000
def bst (R : Nat → Nat) (f : Nat → Nat) (d : Nat) : Nat → Nat → Nat → Nat
  | 0, _, z => z
  | n + 1, b, z => bst R f d n (b + 1) (if R (9 + b) ≤ d ∧ f (d - R (9 + b)) + 1 < z then f (d - R (9 + b)) + 1 else z)
def fwT (R : Nat → Nat) : Nat → Nat → Nat
  | 0 => fun k => if k = 0 then 0 else mch
  | d + 1 => fun k => if k = d + 1 then bst R (fwT R d) (d + 1) (R 2) 0 mch else fwT R d k
theorem bst_b {f : Nat → Nat} {d : Nat} (hf : ∀ k, k < d → f k = mch ∨ f k ≤ k) (hb : ∀ b, b < R 2 → 2 ≤ R (9 + b)) : ∀ n b z, b + n ≤ R 2 → (z = mch ∨ z ≤ d) → (bst R f d n b z = mch ∨ bst R f d n b z ≤ d) := by
  intro n
  induction n with
  | zero => intro b z _ h; exact h
  | succ n ih =>
    intro b z hn h
    unfold bst
    refine ih (b + 1) _ (by omega) ?_
    by_cases c : R (9 + b) ≤ d ∧ f (d - R (9 + b)) + 1 < z
    · rw [if_pos c]
      have h2 := hb b (by omega)
      have h1 := hf (d - R (9 + b)) (by omega)
      unfold mch at *
      omega
    · rw [if_neg c]; exact h
theorem fwT_s {d k : Nat} : fwT R (d + 1) k = if k = d + 1 then bst R (fwT R d) (d + 1) (R 2) 0 mch else fwT R d k := rfl
theorem fwT_b (hb : ∀ b, b < R 2 → 2 ≤ R (9 + b)) : ∀ d, d ≤ 60 → ∀ k, fwT R d k = mch ∨ fwT R d k ≤ k := by
  intro d
  induction d with
  | zero =>
    intro _ k
    unfold fwT
    by_cases c : k = 0
    · right; simp [c]
    · left; simp [c]
  | succ d ih =>
    intro hd k
    rw [fwT_s]
    by_cases c : k = d + 1
    · rw [if_pos c, c]
      exact bst_b (fun k hk => ih (by omega) k) hb (R 2) 0 mch (by omega) (Or.inl rfl)
    · rw [if_neg c]; exact ih (by omega) k
theorem fwT_up {d k : Nat} (hk : k ≤ d) : ∀ e, fwT R (d + e) k = fwT R d k := by
  intro e
  induction e with
  | zero => rfl
  | succ e ih =>
    rw [← Nat.add_assoc, fwT_s, if_neg (by omega)]
    exact ih
theorem fwT_60 {d k : Nat} (hk : k ≤ d) (hd : d ≤ 60) : fwT R 60 k = fwT R d k := by
  have := fwT_up (R := R) hk (60 - d)
  rw [show d + (60 - d) = 60 by omega] at this
  exact this
def cX (v : Nat) : Int := if v = mch then -2 else (v : Int)
theorem px_get {a0 a1 : Nat} {i : Int} (h1 : -2147483648 ≤ i) (h2 : i < 2147483648) (ha : a0 < 1000) : f_paths_get N a0 a1 (iI i) σ = some (if 0 ≤ i ∧ i < a0 then gI σ a1 i.toNat else -2, σ) := by
  unfold f_paths_get
  simp (disch := omega) only [nI_iI, iI_lit, iI_neg, iI_add, iI_sub, iI_mul, iI_lt, iI_le, iI_eq, vin_iI, gA_iI, sA_iI, gM_iI, sM_iI]
  by_cases c : i < 0
  · rw [if_pos c, if_neg (by omega)]
  · rw [if_neg c]
    by_cases c2 : (a0 : Int) ≤ i
    · rw [if_pos c2, if_neg (by omega)]
    · rw [if_neg c2, if_pos (by omega), if_pos (by omega)]
theorem px_put {a0 a1 : Nat} {i : Nat} {v : Int32} (h2 : i < a0) (ha : a0 < 1000) : f_paths_put N a0 a1 (iI (i : Int)) v σ = some ((), sI σ a1 i v) := by
  unfold f_paths_put
  simp (disch := omega) only [nI_iI, iI_lit, iI_neg, iI_add, iI_sub, iI_mul, iI_lt, iI_le, iI_eq, vin_iI, gA_iI, sA_iI, gM_iI, sM_iI]
  rw [if_neg (by omega), if_neg (by omega), if_pos (by omega), Int.toNat_natCast]
theorem cX_m2 {v : Nat} (h : v ≤ mch) : (iI (cX v) = -2) = (v = mch) := by
  rw [show (-2 : Int32) = iI (-2) from rfl]
  unfold cX mch at *
  by_cases c : v = 100000000
  · rw [if_pos c]; simp [c]
  · rw [if_neg c, iI_eq (by omega) (by omega) (by omega) (by omega)]
    exact propext ⟨fun q => by omega, fun q => absurd q c⟩
theorem px_fewestFor (hN : 200000 ≤ N) (hL : LX 10 R σ) (hW : WfL R) {w : Nat} (hw : w ≤ 60) : ok (f_paths_fewestFor N (iI (w : Int)) σ) (fun z => z.1 = iI (cX (fwT R 60 w)) ∧ ∀ k, k ≤ w → gI z.2 62 k = iI (cX (fwT R 60 k))) := by
  have h3 := hW.nb
  have hb2 : ∀ b, b < R 2 → 2 ≤ R (9 + b) := fun b hb => (hW.bt hb).1
  have hle : ∀ d, d ≤ 60 → ∀ k, k ≤ 60 → fwT R d k ≤ mch := fun d hd k hk => by
    have := fwT_b hb2 d hd k
    unfold mch at *; omega
  have inner : ∀ (d : Nat) τ, d < 60 → LX 10 R τ → (∀ k, k ≤ d → gI τ 62 k = iI (cX (fwT R d k))) → ∀ m b z (k : Int32 → Int32 → Int32 → Sg → Option (Int32 × Sg)), b ≤ R 2 → R 2 - b < m → (z = mch ∨ z ≤ d + 1) → f_paths_fewestFor_L23 N m (iI (w : Int)) (iI ((d + 1 : Nat) : Int)) (iI (cX z)) (iI (b : Int)) τ k = k (iI (w : Int)) (iI ((d + 1 : Nat) : Int)) (iI (cX (bst R (fwT R d) (d + 1) (R 2 - b) b z))) τ := by
    intro d τ hd hLt h62 m
    induction m with
    | zero => intro b z k _ h; omega
    | succ m ih =>
      intro b z k hb hm hz
      unfold f_paths_fewestFor_L23
      rw [hLt.nb]
      by_cases h : b < R 2
      · have hbt := hW.bt h
        rw [if_neg (show ¬ iI (R 2 : Int) ≤ iI (b : Int) by rw [iI_le (by omega) (by omega) (by omega) (by omega)]; omega), px_at hLt.nb h (by omega) (by omega), Option.bind_some]
        dsimp only
        rw [hLt.bt b h, iI_sub, px_get (by omega) (by omega) (by omega), Option.bind_some]
        dsimp only
        rw [show R 2 - b = (R 2 - (b + 1)) + 1 by omega, show iI (b : Int) + 1 = iI ((b + 1 : Nat) : Int) from iI_add _ 1]
        unfold bst
        have hz0 : z ≤ mch := by unfold mch at *; omega
        by_cases c : R (9 + b) ≤ d + 1
        · have hv := hle d (by omega) (d + 1 - R (9 + b)) (by omega)
          have hv2 := fwT_b hb2 d (by omega) (d + 1 - R (9 + b))
          rw [if_pos (show 0 ≤ ((d + 1 : Nat) : Int) - (R (9 + b) : Int) ∧ ((d + 1 : Nat) : Int) - (R (9 + b) : Int) < ((61 : Nat) : Int) by omega), show (((d + 1 : Nat) : Int) - (R (9 + b) : Int)).toNat = d + 1 - R (9 + b) by omega, h62 _ (by omega)]
          simp only [cX_m2 hv, cX_m2 hz0]
          by_cases c1 : fwT R d (d + 1 - R (9 + b)) = mch
          · rw [if_pos c1, if_neg (show ¬ (R (9 + b) ≤ d + 1 ∧ fwT R d (d + 1 - R (9 + b)) + 1 < z) by rw [c1]; omega)]
            exact ih (b + 1) z k (by omega) (by omega) hz
          · rw [if_neg c1]
            have e1 : iI (cX (fwT R d (d + 1 - R (9 + b)))) + 1 = iI (cX (fwT R d (d + 1 - R (9 + b)) + 1)) := by
              unfold cX
              rw [if_neg c1, if_neg (by unfold mch at *; omega)]
              exact iI_add _ 1
            rw [e1]
            by_cases c2 : z = mch
            · rw [if_pos c2, if_pos (show R (9 + b) ≤ d + 1 ∧ fwT R d (d + 1 - R (9 + b)) + 1 < z by unfold mch at *; omega)]
              exact ih (b + 1) _ k (by omega) (by omega) (by unfold mch at *; omega)
            · rw [if_neg c2]
              have e2 : (iI (cX z) ≤ iI (cX (fwT R d (d + 1 - R (9 + b)) + 1))) = (z ≤ fwT R d (d + 1 - R (9 + b)) + 1) := by
                unfold cX
                rw [if_neg c2, if_neg (by unfold mch at *; omega), iI_le (by omega) (by unfold mch at *; omega) (by omega) (by unfold mch at *; omega)]
                exact propext (by omega)
              simp only [e2]
              by_cases c3 : z ≤ fwT R d (d + 1 - R (9 + b)) + 1
              · rw [if_pos c3, if_neg (by omega)]
                exact ih (b + 1) z k (by omega) (by omega) hz
              · rw [if_neg c3, if_pos (by omega)]
                exact ih (b + 1) _ k (by omega) (by omega) (by unfold mch at *; omega)
        · rw [if_neg (show ¬ (0 ≤ ((d + 1 : Nat) : Int) - (R (9 + b) : Int) ∧ ((d + 1 : Nat) : Int) - (R (9 + b) : Int) < ((61 : Nat) : Int)) by omega), if_pos rfl, if_neg (by omega)]
          exact ih (b + 1) z k (by omega) (by omega) hz
      · rw [if_pos (show iI (R 2 : Int) ≤ iI (b : Int) by rw [iI_le (by omega) (by omega) (by omega) (by omega)]; omega), show R 2 - b = 0 by omega]
        rfl
  have outer : ∀ m d τ, d ≤ w → w - d < m → LX 10 R τ → (∀ k, k ≤ d → gI τ 62 k = iI (cX (fwT R d k))) → ok (f_paths_fewestFor_L11 N m (iI (w : Int)) (iI ((d + 1 : Nat) : Int)) τ) (fun z => z.1 = iI (cX (fwT R 60 w)) ∧ ∀ k, k ≤ w → gI z.2 62 k = iI (cX (fwT R 60 k))) := by
    intro m
    induction m with
    | zero => intro d τ _ h; omega
    | succ m ih =>
      intro d τ hd hm hLt h62
      unfold f_paths_fewestFor_L11
      by_cases c : d = w
      · subst c
        rw [if_pos (show iI (d : Int) < iI ((d + 1 : Nat) : Int) by rw [iI_lt (by omega) (by omega) (by omega) (by omega)]; omega), px_get (by omega) (by omega) (by omega), Option.bind_some]
        refine okS.mpr ⟨?_, fun k hk => ?_⟩
        · rw [if_pos (by omega), Int.toNat_natCast, h62 d (by omega), fwT_60 (Nat.le_refl d) (by omega)]
        · rw [h62 k hk, fwT_60 hk (by omega)]
      · rw [if_neg (show ¬ iI (w : Int) < iI ((d + 1 : Nat) : Int) by rw [iI_lt (by omega) (by omega) (by omega) (by omega)]; omega)]
        have e := inner d τ (by omega) hLt h62 N 0 mch
        rw [show (-2 : Int32) = iI (cX mch) from rfl, show (0 : Int32) = iI ((0 : Nat) : Int) from rfl, e _ (by omega) (by omega) (Or.inl rfl), px_put (by omega) (by omega), Option.bind_some]
        dsimp only
        rw [show iI ((d + 1 : Nat) : Int) + 1 = iI ((d + 1 + 1 : Nat) : Int) from iI_add _ 1]
        refine ih (d + 1) _ (by omega) (by omega) (hLt.fr (W := [(62, none)]) (Fr.wIc Fr.rf (by simp)) rfl) (fun k hk => ?_)
        rw [gI_sI, fwT_s]
        by_cases c2 : k = d + 1
        · rw [if_pos ⟨rfl, c2⟩, if_pos c2, Nat.sub_zero]
        · rw [if_neg (fun q => c2 q.2), if_neg c2]
          exact h62 k (by omega)
  unfold f_paths_fewestFor
  rw [show (0 : Int32) = iI ((0 : Nat) : Int) from rfl, px_put (by omega) (by omega), Option.bind_some]
  refine outer N 0 _ (by omega) (by omega) (hL.fr (W := [(62, none)]) (Fr.wIc Fr.rf (by simp)) rfl) (fun k hk => ?_)
  have : k = 0 := by omega
  subst this
  exact gI_eq
theorem pm_laySums (hN : 200000 ≤ N) (hR : AR σ 69 189 R) (hW : WfL R) : ok (f_m_laySums N σ) (fun z => ∀ k, k ≤ 60 → gI z.2 83 k = iI (fwT R 60 k : Int)) := by
  have h3 := hW.nb
  have hb2 : ∀ b, b < R 2 → 2 ≤ R (9 + b) := fun b hb => (hW.bt hb).1
  have hle : ∀ d, d ≤ 60 → ∀ k, k ≤ 60 → fwT R d k ≤ mch := fun d hd k hk => by
    have := fwT_b hb2 d hd k
    unfold mch at *; omega
  have inner : ∀ (d : Nat), d < 60 → ∀ m b z τ (k : Int32 → Sg → Option (Unit × Sg)) (P : Unit × Sg → Prop), b ≤ R 2 → R 2 - b < m → (z = mch ∨ z ≤ d + 1) → AR τ 69 189 R → (∀ k, k ≤ d → gI τ 83 k = iI (fwT R d k : Int)) → gI τ 83 (d + 1) = iI (z : Int) →
      (∀ τ', AR τ' 69 189 R → (∀ k, k ≤ d → gI τ' 83 k = iI (fwT R d k : Int)) → gI τ' 83 (d + 1) = iI (bst R (fwT R d) (d + 1) (R 2 - b) b z : Int) → ok (k (iI ((d + 1 : Nat) : Int)) τ') P) → ok (f_m_laySums_L26 N m (iI ((d + 1 : Nat) : Int)) (iI (b : Int)) τ k) P := by
    intro d hd m
    induction m with
    | zero => intro b z τ k P _ h; omega
    | succ m ih =>
      intro b z τ k P hb hm hz hRt h83 hz1 hk
      unfold f_m_laySums_L26
      have e2 : gA τ 69 2 = iI (R 2 : Int) := hRt.A (z := 2) 2 rfl (by omega) (by omega)
      rw [e2]
      by_cases h : b < R 2
      · have hbt := hW.bt h
        have e9 := hRt.A (z := 9 + (b : Int)) (9 + b) (by omega) (by omega) (by omega)
        rw [if_neg (show ¬ iI (R 2 : Int) ≤ iI (b : Int) by rw [iI_le (by omega) (by omega) (by omega) (by omega)]; omega), show (9 : Int32) + iI (b : Int) = iI (9 + (b : Int)) from iI_add 9 _, e9]
        have v9 : vin (iI (9 + (b : Int))) 189 := by rw [vin_iI (by omega) (by omega)]; omega
        have vd : vin (iI ((d + 1 : Nat) : Int)) 61 := by rw [vin_iI (by omega) (by omega)]; omega
        rw [if_pos v9, show iI (b : Int) + 1 = iI ((b + 1 : Nat) : Int) from iI_add _ 1]
        rw [show R 2 - b = (R 2 - (b + 1)) + 1 by omega] at hk
        unfold bst at hk
        have hz0 : z ≤ mch := by unfold mch at *; omega
        by_cases c : R (9 + b) ≤ d + 1
        · have hv := hle d (by omega) (d + 1 - R (9 + b)) (by omega)
          have hv2 := fwT_b hb2 d (by omega) (d + 1 - R (9 + b))
          have vr : vin (iI (((d + 1 : Nat) : Int) - (R (9 + b) : Int))) 61 := by rw [vin_iI (by omega) (by omega)]; omega
          have g1 : gA τ 83 (iI (((d + 1 : Nat) : Int) - (R (9 + b) : Int))) = iI (fwT R d (d + 1 - R (9 + b)) : Int) := by
            rw [gA_iI (by omega) (by omega), show (((d + 1 : Nat) : Int) - (R (9 + b) : Int)).toNat = d + 1 - R (9 + b) by omega]
            exact h83 _ (by omega)
          have g2 : gA τ 83 (iI ((d + 1 : Nat) : Int)) = iI (z : Int) := by
            rw [gA_iI (by omega) (by omega), Int.toNat_natCast]; exact hz1
          rw [if_neg (show ¬ iI ((d + 1 : Nat) : Int) < iI (R (9 + b) : Int) by rw [iI_lt (by omega) (by omega) (by omega) (by omega)]; omega), if_pos v9, iI_sub, if_pos vr, if_pos vd, g1, g2, show iI (fwT R d (d + 1 - R (9 + b)) : Int) + 1 = iI ((fwT R d (d + 1 - R (9 + b)) + 1 : Nat) : Int) from iI_add _ 1]
          by_cases c3 : fwT R d (d + 1 - R (9 + b)) + 1 < z
          · rw [if_neg (show ¬ iI (z : Int) ≤ iI ((fwT R d (d + 1 - R (9 + b)) + 1 : Nat) : Int) by rw [iI_le (by omega) (by unfold mch at *; omega) (by omega) (by unfold mch at *; omega)]; omega), if_pos v9, if_pos vr, if_pos vd, sA_iI (by omega) (by omega), Int.toNat_natCast]
            rw [if_pos ⟨c, c3⟩] at hk
            refine ih (b + 1) _ _ k P (by omega) (by omega) (by unfold mch at *; omega) (fun j hj => ?_) (fun j hj => ?_) gI_eq hk
            · rw [gI_ne (by omega)]; exact hRt j hj
            · rw [gI_ne (by omega)]; exact h83 j hj
          · rw [if_pos (show iI (z : Int) ≤ iI ((fwT R d (d + 1 - R (9 + b)) + 1 : Nat) : Int) by rw [iI_le (by omega) (by unfold mch at *; omega) (by omega) (by unfold mch at *; omega)]; omega)]
            rw [if_neg (fun q => c3 q.2)] at hk
            exact ih (b + 1) z τ k P (by omega) (by omega) hz hRt h83 hz1 hk
        · rw [if_pos (show iI ((d + 1 : Nat) : Int) < iI (R (9 + b) : Int) by rw [iI_lt (by omega) (by omega) (by omega) (by omega)]; omega)]
          rw [if_neg (fun q => c q.1)] at hk
          exact ih (b + 1) z τ k P (by omega) (by omega) hz hRt h83 hz1 hk
      · rw [if_pos (show iI (R 2 : Int) ≤ iI (b : Int) by rw [iI_le (by omega) (by omega) (by omega) (by omega)]; omega)]
        rw [show R 2 - b = 0 by omega] at hk
        exact hk τ hRt h83 hz1
  have outer : ∀ m d τ, d ≤ 60 → 60 - d < m → AR τ 69 189 R → (∀ k, k ≤ d → gI τ 83 k = iI (fwT R d k : Int)) → ok (f_m_laySums_L9 N m (iI ((d + 1 : Nat) : Int)) τ) (fun z => ∀ k, k ≤ 60 → gI z.2 83 k = iI (fwT R 60 k : Int)) := by
    intro m
    induction m with
    | zero => intro d τ _ h; omega
    | succ m ih =>
      intro d τ hd hm hRt h83
      unfold f_m_laySums_L9
      by_cases c : d = 60
      · subst c
        rw [if_pos (by decide)]
        exact okS.mpr h83
      · rw [if_neg (show ¬ 60 < iI ((d + 1 : Nat) : Int) by rw [show (60 : Int32) = iI 60 from rfl, iI_lt (by omega) (by omega) (by omega) (by omega)]; omega), if_pos (show vin (iI ((d + 1 : Nat) : Int)) 61 by rw [vin_iI (by omega) (by omega)]; omega), sA_iI (by omega) (by omega), Int.toNat_natCast, show (0 : Int32) = iI ((0 : Nat) : Int) from rfl]
        refine inner d (by omega) N 0 mch _ _ _ (by omega) (by omega) (Or.inl rfl) (fun j hj => ?_) (fun j hj => ?_) gI_eq (fun τ' a1 a2 a3 => ?_)
        · rw [gI_ne (by omega)]; exact hRt j hj
        · rw [gI_ne (by omega)]; exact h83 j hj
        · rw [show iI ((d + 1 : Nat) : Int) + 1 = iI ((d + 1 + 1 : Nat) : Int) from iI_add _ 1]
          refine ih (d + 1) τ' (by omega) (by omega) a1 (fun k hk => ?_)
          rw [fwT_s]
          by_cases c2 : k = d + 1
          · rw [if_pos c2, c2, a3, Nat.sub_zero]
          · rw [if_neg c2]; exact a2 k (by omega)
  unfold f_m_laySums
  rw [show (0 : Int32) = iI ((0 : Nat) : Int) from rfl, sA_iI (by omega) (by omega), Int.toNat_natCast]
  refine outer N 0 _ (by omega) (by omega) (fun j hj => ?_) (fun k hk => ?_)
  · rw [gI_ne (by omega)]; exact hR j hj
  · have : k = 0 := by omega
    subst this
    exact gI_eq
theorem sim_sum (hN : 200000 ≤ N) (v : Int32) (h : Sim σ) : Both (f_x_sum N v σ) (f_m_sum N v) := by
  obtain ⟨R, S, B, h, hr⟩ := h
  obtain ⟨z, rfl, z1, z2⟩ := iI_of v
  refine sim_ro (a := ra (tN R z 60) (cX (fwT R 60 z.toNat))) h hr (ra_t tN_3) ?_ (fun z => w_f_x_sum) rfl (fun τ g => ?_) (fun τ y => w_f_m_sum) rfl rfl
  · have e := tx_num (N := N) h.lx.c h.gd.c z1 z2 (m := 60) (by omega) (by omega)
    simp only [f_x_sum, show (60 : Int32) = iI 60 from rfl, e, px_gr N tN_r, Option.bind_some, bind_ite, Bool.false_eq_true, ↓reduceIte]
    refine x_fin (fun h0 => ?_)
    rw [tN_0] at h0
    obtain ⟨n, rfl⟩ : ∃ b : Nat, z = (b : Int) := ⟨z.toNat, by omega⟩
    rw [okB]
    refine ((px_fewestFor hN h.lx.tr (h.gd.wl h0.1) (w := n) (by omega)).and (fun z => w_f_paths_fewestFor)).imp (fun q hq => okS.mpr ⟨?_, ?_⟩)
    · rw [Int.toNat_natCast]; exact hq.1.1
    · rw [hq.2.I 0 10 rfl]; exact gI_eq
  · simp only [f_m_sum, pm_anew, pm_aheadWhy g.lm.an z1 z2, f_m_no, Option.bind_some, bind_ite, Bool.false_eq_true, ↓reduceIte, iI_0 tN_r]
    refine m_fin (fun h0 => ?_)
    rw [tN_0] at h0
    obtain ⟨n, rfl⟩ : ∃ b : Nat, z = (b : Int) := ⟨z.toNat, by omega⟩
    have hW := g.gd.wl h0.1
    have hb := fwT_b (R := R) (fun b hb => (hW.bt hb).1) 60 (by omega) n
    rw [okB]
    refine ((pm_laySums hN g.lm.an.1 hW).and (fun z => w_f_m_laySums)).imp (fun q hq => ?_)
    have ht : gI q.2 66 11 = iI 0 := by rw [hq.2.I 66 11 rfl]; exact an_t
    have hv : vin (iI (n : Int)) 61 := by rw [vin_iI (by omega) (by omega)]; omega
    rw [if_pos hv, gA_iI (by omega) (by omega), Int.toNat_natCast, hq.1 n (by omega)]
    unfold cX
    by_cases c : fwT R 60 n = mch
    · rw [if_neg (show ¬ iI (fwT R 60 n : Int) < 100000000 by rw [c]; decide), if_pos c]
      exact okS.mpr ⟨rfl, ht⟩
    · rw [if_pos (show iI (fwT R 60 n : Int) < 100000000 by rw [show (100000000 : Int32) = iI 100000000 from rfl, iI_lt (by omega) (by unfold mch at *; omega) (by omega) (by omega)]; unfold mch at *; omega), if_pos hv, if_neg c]
      exact okS.mpr ⟨rfl, ht⟩
def nvI (R : Nat → Nat) : Nat → Int
  | 0 => if fwT R 60 0 = mch then 0 else -2
  | d + 1 => if fwT R 60 (d + 1) = mch then ((d + 1 : Nat) : Int) else nvI R d
theorem sim_never (hN : 200000 ≤ N) (h : Sim σ) : Both (f_x_never N σ) (f_m_never N) := by
  obtain ⟨R, S, B, h, hr⟩ := h
  refine sim_ro (a := ra (tL R) (nvI R 60)) h hr (ra_t tL_3) ?_ (fun z => w_f_x_never) rfl (fun τ g => ?_) (fun τ y => w_f_m_never) rfl rfl
  · simp only [f_x_never, tx_land h.lx.c h.gd.c, px_gr N tL_r, Option.bind_some, bind_ite, Bool.false_eq_true, ↓reduceIte]
    refine x_fin (fun h0 => ?_)
    have hW := h.gd.wl (tL_0.mp h0)
    have hle : ∀ k, k ≤ 60 → fwT R 60 k ≤ mch := fun k hk => by
      have := fwT_b (R := R) (fun b hb => (hW.bt hb).1) 60 (by omega) k
      unfold mch at *; omega
    unfold f_paths_longestWithoutSum
    rw [okB, okB]
    have e := px_fewestFor hN (h.lx.tr (v := 0)) hW (w := 60) (by omega)
    refine (e.and (fun z => w_f_paths_fewestFor)).imp (fun q hq => ?_)
    have ht : gI q.2 0 10 = iI 0 := by rw [hq.2.I 0 10 rfl]; exact gI_eq
    have key : ∀ (m d : Nat), d ≤ 60 → d + 1 < m → f_paths_longestWithoutSum_L11 N m (iI (d : Int)) q.2 = some (iI (nvI R d), q.2) := by
      intro m
      induction m with
      | zero => intro d _ h; omega
      | succ m ih =>
        intro d hd hm
        unfold f_paths_longestWithoutSum_L11
        rw [if_neg (show ¬ iI (d : Int) < 0 by rw [show (0 : Int32) = iI 0 from rfl, iI_lt (by omega) (by omega) (by omega) (by omega)]; omega), px_get (by omega) (by omega) (by omega), Option.bind_some]
        dsimp only
        rw [if_pos (show 0 ≤ (d : Int) ∧ (d : Int) < ((61 : Nat) : Int) by omega), Int.toNat_natCast, hq.1.2 d (by omega)]
        simp only [cX_m2 (hle d hd)]
        by_cases c : fwT R 60 d = mch
        · rw [if_pos c]
          cases d with
          | zero => unfold nvI; rw [if_pos c]; rfl
          | succ d => unfold nvI; rw [if_pos c]
        · rw [if_neg c, iI_dec]
          cases d with
          | zero =>
            obtain ⟨m', rfl⟩ : ∃ m', m = m' + 1 := ⟨m - 1, by omega⟩
            unfold f_paths_longestWithoutSum_L11
            rw [if_pos (by decide)]
            unfold nvI
            rw [if_neg c]
            rfl
          | succ d =>
            unfold nvI
            rw [if_neg c, show ((d + 1 : Nat) : Int) + -1 = (d : Int) by omega]
            exact ih d (by omega) (by omega)
    rw [show (60 : Int32) = iI ((60 : Nat) : Int) from rfl, key N 60 (by omega) (by omega)]
    exact okS.mpr (okS.mpr ⟨rfl, ht⟩)
  · simp only [f_m_never, pm_anew, g.lm.an.has, f_m_no, Option.bind_some, bind_ite, Bool.false_eq_true, ↓reduceIte]
    refine m_finL (fun h0 => ?_)
    have hW := g.gd.wl h0
    have hle : ∀ k, k ≤ 60 → fwT R 60 k ≤ mch := fun k hk => by
      have := fwT_b (R := R) (fun b hb => (hW.bt hb).1) 60 (by omega) k
      unfold mch at *; omega
    rw [okB]
    refine ((pm_laySums hN g.lm.an.1 hW).and (fun z => w_f_m_laySums)).imp (fun q hq => ?_)
    have ht : gI q.2 66 11 = iI 0 := by rw [hq.2.I 66 11 rfl]; exact an_t
    have key : ∀ (m d : Nat), d ≤ 60 → d + 1 < m → f_m_never_L24 N m (iI (d : Int)) q.2 = some (iI (nvI R d), q.2) := by
      intro m
      induction m with
      | zero => intro d _ h; omega
      | succ m ih =>
        intro d hd hm
        unfold f_m_never_L24
        have hl := hle d hd
        rw [if_neg (show ¬ iI (d : Int) < 0 by rw [show (0 : Int32) = iI 0 from rfl, iI_lt (by omega) (by omega) (by omega) (by omega)]; omega), if_pos (show vin (iI (d : Int)) 61 by rw [vin_iI (by omega) (by omega)]; omega), gA_iI (by omega) (by omega), Int.toNat_natCast, hq.1 d (by omega)]
        by_cases c : fwT R 60 d = mch
        · rw [if_neg (show ¬ iI (fwT R 60 d : Int) < 100000000 by rw [c]; decide)]
          cases d with
          | zero => unfold nvI; rw [if_pos c]; rfl
          | succ d => unfold nvI; rw [if_pos c]
        · rw [if_pos (show iI (fwT R 60 d : Int) < 100000000 by rw [show (100000000 : Int32) = iI 100000000 from rfl, iI_lt (by omega) (by unfold mch at *; omega) (by omega) (by omega)]; unfold mch at *; omega), iI_dec]
          cases d with
          | zero =>
            obtain ⟨m', rfl⟩ : ∃ m', m = m' + 1 := ⟨m - 1, by omega⟩
            unfold f_m_never_L24
            rw [if_pos (by decide)]
            unfold nvI
            rw [if_neg c]
            rfl
          | succ d =>
            unfold nvI
            rw [if_neg c, show ((d + 1 : Nat) : Int) + -1 = (d : Int) by omega]
            exact ih d (by omega) (by omega)
    rw [show (60 : Int32) = iI ((60 : Nat) : Int) from rfl, key N 60 (by omega) (by omega)]
    exact okS.mpr ⟨rfl, ht⟩
end MORE
