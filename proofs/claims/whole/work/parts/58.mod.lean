/-! ===== strides, steps, counts on rows ===== -/
def mv (R S : Nat → Nat) (t : Nat) : Nat → Nat := fun k => if k = 60 then t else if (min (S 60) t < k ∧ k < max (S 60) t) ∧ S k = 0 then R (129 + k) + 1 else S k
def go (R S : Nat → Nat) (d : Nat) : Nat → Nat := match lead R (gon S) (S 60) d with
  | none => S
  | some t => mv R S t
def can (R S : Nat → Nat) (d : Nat) : Bool := (lead R (gon S) (S 60) d).isSome
theorem pm_strideL {N a0 a3 t lo hi : Nat} {R S : Nat → Nat} {σ : Sg} (hR : AR σ a3 189 R) (hne : a0 ≠ a3) (hr : ∀ k, k < 60 → S k < 2147483648) (hh : hi ≤ 60) (hl : lo < 60) (ht : t < 60) :
    ∀ n i τ, lo < i → i ≤ hi ∨ i = lo + 1 → hi - i < n → AR τ a3 189 R → AR τ a0 63 (fun k => if (lo < k ∧ k < i ∧ k < hi) ∧ S k = 0 then R (129 + k) + 1 else S k) →
      ok (f_m_strideOn_L62 N a0 63 189 a3 n (iI (t : Int)) (iI (hi : Int)) (iI (i : Int)) τ) (fun z => z.1 = true ∧ AR z.2 a0 63 (fun k => if k = 60 then t else if (lo < k ∧ k < hi) ∧ S k = 0 then R (129 + k) + 1 else S k)) := by
  intro n
  induction n with
  | zero => intro i τ _ _ h; omega
  | succ n ih =>
    intro i τ h1 h2 hn hRt hSt
    unfold f_m_strideOn_L62
    by_cases h : i < hi
    · have e1 := hSt.A (z := (i : Int)) i rfl (by omega) (by omega)
      rw [if_neg (by omega)] at e1
      have e2 := hRt.A (z := 129 + (i : Int)) (129 + i) (by omega) (by omega) (by omega)
      have hri := hr i (by omega)
      simp (disch := omega) only [nI_iI, iI_lit, iI_neg, iI_add, iI_sub, iI_mul, iI_lt, iI_le, iI_eq, vin_iI, e1, e2]
      rw [if_neg (by omega), if_pos (by omega)]
      by_cases hz : S i = 0
      · rw [if_pos (by omega), if_pos (by omega), if_pos (by omega)]
        refine ih (i + 1) _ (by omega) (by omega) (by omega) (hRt.oth (fun q => hne q.symm)) ?_
        refine hSt.set i rfl (by omega) (fun j hj => ?_)
        by_cases e : j = i
        · subst e
          rw [if_pos (by omega), if_pos rfl]
          rfl
        · rw [if_neg e]
          by_cases e2 : (lo < j ∧ j < i ∧ j < hi) ∧ S j = 0
          · rw [if_pos e2, if_pos (by omega)]
          · rw [if_neg e2, if_neg (by omega)]
      · rw [if_neg (by omega)]
        refine ih (i + 1) _ (by omega) (by omega) (by omega) hRt (fun j hj => ?_)
        rw [hSt j hj]
        dsimp only
        by_cases e : j = i
        · subst e
          rw [if_neg (by omega), if_neg (by omega)]
        · by_cases e2 : (lo < j ∧ j < i ∧ j < hi) ∧ S j = 0
          · rw [if_pos e2, if_pos (by omega)]
          · rw [if_neg e2, if_neg (by omega)]
    · simp (disch := omega) only [nI_iI, iI_lit, iI_neg, iI_add, iI_sub, iI_mul, iI_lt, iI_le, iI_eq, vin_iI]
      rw [if_pos (by omega)]
      refine okS.mpr ⟨rfl, hSt.set (z := 60) 60 (by omega) (by omega) (fun j hj => ?_)⟩
      by_cases e : j = 60
      · rw [if_pos e, if_pos e]
      · rw [if_neg e, if_neg e]
        by_cases e2 : (lo < j ∧ j < hi) ∧ S j = 0
        · rw [if_pos e2, if_pos (by omega)]
        · rw [if_neg e2, if_neg (by omega)]
theorem pm_strideOn {N a0 a3 b w : Nat} {R S : Nat → Nat} {σ : Sg} (hN : 200000 ≤ N) (hR : AR σ a3 189 R) (hS : AR σ a0 63 S) (hne : a0 ≠ a3) (hC : R 0 ≤ 60) (hb : b < 3) (hl : R (9 + b) ≤ 9) (hs : S 60 < R 0) (hr : ∀ k, k < 60 → S k < 2147483648) (hw : w ≤ 1) :
    ok (f_m_strideOn N a0 63 189 a3 (iI (b : Int)) (iI (w : Int)) σ) (fun z => z.1 = can R S (2 * b + 1 + w) ∧ AR z.2 a0 63 (go R S (2 * b + 1 + w))) := by
  unfold f_m_strideOn
  rw [pm_leadOf hR hS hC hb hl hs hr hw, Option.bind_some]
  have e1 := hS.A (z := 60) 60 (by omega) (by omega) (by omega)
  unfold can go
  cases hd : lead R (gon S) (S 60) (2 * b + 1 + w) with
  | none =>
    simp (disch := omega) only [tg, nI_iI, iI_lit, iI_neg, iI_add, iI_sub, iI_mul, iI_lt, iI_le, iI_eq, vin_iI]
    rw [if_neg (by omega)]
    exact okS.mpr ⟨rfl, hS⟩
  | some t =>
    have ht := lead_lt hs hd
    simp (disch := omega) only [tg, e1, nI_iI, iI_lit, iI_neg, iI_add, iI_sub, iI_mul, iI_lt, iI_le, iI_eq, vin_iI]
    rw [if_pos (by omega)]
    have mid : ∀ lo hi, AR σ a0 63 (fun k => if (lo < k ∧ k < lo + 1 ∧ k < hi) ∧ S k = 0 then R (129 + k) + 1 else S k) := fun lo hi k hk => by
      dsimp only
      rw [if_neg (by omega)]; exact hS k hk
    by_cases h : S 60 ≤ t
    · rw [if_pos (by omega), if_pos (by omega), show ((S 60 : Int) + 1) = ((S 60 + 1 : Nat) : Int) from rfl]
      refine (pm_strideL (lo := S 60) (hi := t) hR hne hr (by omega) (by omega) (by omega) N (S 60 + 1) σ (by omega) (by omega) (by omega) hR (mid _ _)).imp (fun z hz => ⟨hz.1, fun k hk => ?_⟩)
      rw [hz.2 k hk]
      unfold mv
      rw [Nat.min_eq_left h, Nat.max_eq_right h]
    · rw [if_neg (by omega), if_neg (by omega), show ((t : Int) + 1) = ((t + 1 : Nat) : Int) from rfl]
      refine (pm_strideL (lo := t) (hi := S 60) hR hne hr (by omega) (by omega) (by omega) N (t + 1) σ (by omega) (by omega) (by omega) hR (mid _ _)).imp (fun z hz => ⟨hz.1, fun k hk => ?_⟩)
      rw [hz.2 k hk]
      unfold mv
      rw [Nat.min_eq_right (by omega), Nat.max_eq_left (by omega)]
theorem pm_digitOn {N a0 a3 d : Nat} {R S : Nat → Nat} {σ : Sg} (hN : 200000 ≤ N) (hR : AR σ a3 189 R) (hS : AR σ a0 63 S) (hne : a0 ≠ a3) (hW : WfL R) (hs : S 60 < R 0) (hr : ∀ k, k < 60 → S k < 2147483648) (h1 : 1 ≤ d) (h2 : d ≤ 2 * R 2) :
    ok (f_m_digitOn N a0 63 189 a3 (iI (d : Int)) σ) (fun z => z.1 = can R S d ∧ AR z.2 a0 63 (go R S d)) := by
  have hb := hW.nb
  unfold f_m_digitOn
  rw [show (iI (d : Int) - 1) - (iI (d : Int) - 1) / 2 * 2 = iI (((d - 1) % 2 : Nat) : Int) by
    rw [show iI (d : Int) - 1 = iI ((d : Int) - 1) from iI_sub _ 1]
    exact (iI_rem (b := 2) (by omega) (by omega) (by omega) (by omega)).trans (by congr 1; omega)]
  rw [show (iI (d : Int) - 1) / 2 = iI (((d - 1) / 2 : Nat) : Int) by
    rw [show iI (d : Int) - 1 = iI ((d : Int) - 1) from iI_sub _ 1]
    exact (iI_div (b := 2) (by omega) (by omega) (by omega) (by omega)).trans (by congr 1; omega)]
  rw [okB]
  have h := pm_strideOn (N := N) (a0 := a0) (a3 := a3) (b := (d - 1) / 2) (w := (d - 1) % 2) hN hR hS hne hW.c.2 (by omega) (hW.bt (by omega)).2 hs hr (by omega)
  rw [show 2 * ((d - 1) / 2) + 1 + (d - 1) % 2 = d by omega] at h
  exact h.imp (fun z hz => okS.mpr hz)
