/-! ===== the reference's rows ===== -/
theorem AR.A {σ : Sg} {c n : Nat} {f : Nat → Nat} (h : AR σ c n f) {z : Int} (k : Nat) (hz : z = (k : Int)) (hk : k < n) (hn : n < 2000) : gA σ c (iI z) = iI (f k : Int) := by
  subst hz
  rw [gA_iI (by omega) (by omega), Int.toNat_natCast]
  exact h k hk
theorem AR.set {σ : Sg} {c n : Nat} {f g : Nat → Nat} (h : AR σ c n f) {z v : Int} (k : Nat) (hz : z = (k : Int)) (hk : k < 2000) (hg : ∀ j, j < n → iI (g j : Int) = if j = k then iI v else iI (f j : Int)) : AR (sA σ c (iI z) (iI v)) c n g := by
  subst hz
  intro j hj
  rw [sA_iI (by omega) (by omega), Int.toNat_natCast, gI_sI, hg j hj]
  by_cases e : j = k
  · simp [e]
  · rw [if_neg (fun q => e q.2), if_neg e]
    exact h j hj
theorem AR.oth {σ : Sg} {c n : Nat} {f : Nat → Nat} (h : AR σ c n f) {i : Nat} {x v : Int32} (hc : c ≠ i) : AR (sA σ i x v) c n f := fun k hk => by
  show gI (sI σ i _ v) c k = _
  rw [gI_ne (fun q => hc q.1)]
  exact h k hk
theorem pm_copy {N a0 a1 a2 a3 p q m : Nat} {σ : Sg} (hN : 200000 ≤ N) (hne : a2 ≠ a3) (h0 : p + m ≤ a0) (h1 : q + m ≤ a1) (b0 : a0 < 2000) (b1 : a1 < 2000) : ok (f_m_copy N a0 a1 a2 a3 (iI (p : Int)) (iI (q : Int)) (iI (m : Int)) σ) (fun z => ∀ k, gI z.2 a2 k = if q ≤ k ∧ k < q + m then gI σ a3 (p + (k - q)) else gI σ a2 k) := by
  have key : ∀ n i τ, i ≤ m → m - i < n → (∀ k, gI τ a2 k = if q ≤ k ∧ k < q + i then gI σ a3 (p + (k - q)) else gI σ a2 k) → (∀ k, gI τ a3 k = gI σ a3 k) → ok (f_m_copy_L3 N a0 a1 a2 a3 n (iI (p : Int)) (iI (q : Int)) (iI (m : Int)) (iI (i : Int)) τ) (fun z => ∀ k, gI z.2 a2 k = if q ≤ k ∧ k < q + m then gI σ a3 (p + (k - q)) else gI σ a2 k) := by
    intro n
    induction n with
    | zero => intro i τ _ h; omega
    | succ n ih =>
      intro i τ hi hn ha hb
      unfold f_m_copy_L3
      simp (disch := omega) only [nI_iI, iI_lit, iI_neg, iI_add, iI_sub, iI_mul, iI_lt, iI_le, iI_eq, vin_iI, gA_iI, sA_iI, gM_iI, sM_iI]
      by_cases h : i < m
      · rw [if_neg (by omega), if_pos (by omega), if_pos (by omega)]
        refine ih (i + 1) _ (by omega) (by omega) (fun k => ?_) (fun k => ?_)
        · rw [gI_sI, show ((q : Int) + (i : Int)).toNat = q + i by omega, show ((p : Int) + (i : Int)).toNat = p + i by omega, ha, hb]
          by_cases e : k = q + i
          · rw [if_pos ⟨rfl, e⟩, if_pos (by omega)]
            congr 1; omega
          · rw [if_neg (fun w => e w.2)]
            by_cases e2 : q ≤ k ∧ k < q + i
            · rw [if_pos e2, if_pos (by omega)]
            · rw [if_neg e2, if_neg (by omega)]
        · rw [gI_ne (fun w => hne w.1.symm)]
          exact hb k
      · rw [if_pos (by omega)]
        have : i = m := by omega
        subst this
        exact okS.mpr ha
  unfold f_m_copy
  exact key N 0 σ (by omega) (by omega) (fun k => by rw [if_neg (by omega)]) (fun k => rfl)
theorem pm_copyAR {N a0 a1 a2 a3 p q m n2 n3 : Nat} {σ : Sg} {f g h : Nat → Nat} (hN : 200000 ≤ N) (hne : a2 ≠ a3) (h0 : p + m ≤ a0) (h1 : q + m ≤ a1) (b0 : a0 < 2000) (b1 : a1 < 2000) (hf : AR σ a3 n3 f) (hg : AR σ a2 n2 g) (h3 : p + m ≤ n3) (hh : ∀ k, k < n2 → h k = if q ≤ k ∧ k < q + m then f (p + (k - q)) else g k) : ok (f_m_copy N a0 a1 a2 a3 (iI (p : Int)) (iI (q : Int)) (iI (m : Int)) σ) (fun z => AR z.2 a2 n2 h) := by
  refine (pm_copy hN hne h0 h1 b0 b1).imp (fun z hz k hk => ?_)
  rw [hz k, hh k hk]
  by_cases e : q ≤ k ∧ k < q + m
  · rw [if_pos e, if_pos e]
    exact hf _ (by omega)
  · rw [if_neg e, if_neg e]
    exact hg k hk
/-- the trial begins as it is now -/
theorem pm_begin {N : Nat} {σ : Sg} {S : Nat → Nat} (hN : 200000 ≤ N) (hS : AR σ 74 63 S) : ok (f_m_begin N σ) (fun z => AR z.2 75 63 S) := by
  unfold f_m_begin
  rw [okB]
  refine (pm_copy (N := N) (a0 := 63) (a1 := 63) (a2 := 75) (a3 := 74) (p := 0) (q := 0) (m := 63) (σ := σ) hN (by decide) (by decide) (by decide) (by decide) (by decide)).imp (fun z hz => okS.mpr ?_)
  intro k hk
  have := hz k
  rw [if_pos (by omega)] at this
  rw [this, show 0 + (k - 0) = k by omega]
  exact hS k hk
theorem pm_in {N : Nat} {a b c : Int} {σ : Sg} (h1 : -2147483648 ≤ a) (h2 : a < 2147483648) (h3 : -2147483648 ≤ b) (h4 : b < 2147483648) (h5 : -2147483648 ≤ c) (h6 : c < 2147483648) : f_m_in N (iI a) (iI b) (iI c) σ = some (decide (b ≤ a ∧ a ≤ c), σ) := by
  unfold f_m_in
  simp (disch := omega) only [iI_lt, iI_le, iI_eq, vin_iI, gA_iI, sA_iI, gM_iI, sM_iI]
  by_cases e : a < b
  · rw [if_pos e]
    simp; omega
  · rw [if_neg e]
    by_cases e2 : c < a
    · rw [if_pos e2]; simp; omega
    · rw [if_neg e2]; simp; omega
theorem pm_leadOf {N a1 a2 b w : Nat} {R S : Nat → Nat} {σ : Sg} (hR : AR σ a2 189 R) (hS : AR σ a1 63 S) (hC : R 0 ≤ 60) (hb : b < 3) (hl : R (9 + b) ≤ 9) (hs : S 60 < R 0) (hr : ∀ k, k < 60 → S k < 2147483648) (hw : w ≤ 1) : f_m_leadOf N 189 a1 a2 63 (iI (b : Int)) (iI (w : Int)) σ = some (tg (lead R (gon S) (S 60) (2 * b + 1 + w)), σ) := by
  unfold f_m_leadOf
  have e1 : gA σ a1 60 = iI (S 60 : Int) := hS.A (z := 60) 60 (by omega) (by omega) (by omega)
  have e2 : gA σ a2 (9 + iI (b : Int)) = iI (R (9 + b) : Int) := by
    rw [show (9 : Int32) = iI 9 from rfl, iI_add]
    exact hR.A (9 + b) (by omega) (by omega) (by omega)
  have e3 : gA σ a2 0 = iI (R 0 : Int) := hR.A (z := 0) 0 (by omega) (by omega) (by omega)
  rw [e1, e2, e3]
  unfold lead
  rw [show (2 * b + 1 + w - 1) / 2 = b by omega]
  generalize R (9 + b) = l at *
  by_cases hw0 : w = 0
  · rw [if_pos (show (2 * b + 1 + w) % 2 = 1 by omega)]
    by_cases hc : S 60 + l < R 0
    · have hA := hS.A (z := (S 60 : Int) + (l : Int)) (S 60 + l) (by omega) (by omega) (by omega)
      have hr : S (S 60 + l) < 2147483648 := hr _ (by omega)
      by_cases hz : S (S 60 + l) = 0
      · rw [if_pos (show S 60 + l < R 0 ∧ gon S (S 60 + l) = false from ⟨hc, by simp [gon, hz]⟩)]
        simp (disch := omega) only [nI_iI, iI_lit, iI_neg, iI_add, iI_sub, iI_mul, iI_lt, iI_le, iI_eq, vin_iI, pm_in, Option.bind_some, decide_eq_true_eq, hA]
        repeat (first | rw [if_neg (by omega)] | rw [if_pos (by omega)])
        rfl
      · rw [if_neg (show ¬ (S 60 + l < R 0 ∧ gon S (S 60 + l) = false) from fun q => by have := q.2; simp only [gon, decide_eq_false_iff_not] at this; omega)]
        simp (disch := omega) only [nI_iI, iI_lit, iI_neg, iI_add, iI_sub, iI_mul, iI_lt, iI_le, iI_eq, vin_iI, pm_in, Option.bind_some, decide_eq_true_eq, hA]
        repeat (first | rw [if_neg (by omega)] | rw [if_pos (by omega)])
        rfl
    · rw [if_neg (show ¬ (S 60 + l < R 0 ∧ gon S (S 60 + l) = false) from fun q => hc q.1)]
      simp (disch := omega) only [nI_iI, iI_lit, iI_neg, iI_add, iI_sub, iI_mul, iI_lt, iI_le, iI_eq, vin_iI, pm_in, Option.bind_some, decide_eq_true_eq]
      repeat (first | rw [if_neg (by omega)] | rw [if_pos (by omega)])
      rfl
  · rw [if_neg (show ¬ (2 * b + 1 + w) % 2 = 1 by omega)]
    by_cases hc : l ≤ S 60
    · have hA := hS.A (z := (S 60 : Int) + -(l : Int)) (S 60 - l) (by omega) (by omega) (by omega)
      have hr : S (S 60 - l) < 2147483648 := hr _ (by omega)
      by_cases hz : S (S 60 - l) = 0
      · rw [if_pos (show l ≤ S 60 ∧ gon S (S 60 - l) = false from ⟨hc, by simp [gon, hz]⟩)]
        simp (disch := omega) only [nI_iI, iI_lit, iI_neg, iI_add, iI_sub, iI_mul, iI_lt, iI_le, iI_eq, vin_iI, pm_in, Option.bind_some, decide_eq_true_eq, hA]
        repeat (first | rw [if_neg (by omega)] | rw [if_pos (by omega)])
        simp only [tg]
        rw [show ((S 60 : Int) + -(l : Int)) = ((S 60 - l : Nat) : Int) by omega]
      · rw [if_neg (show ¬ (l ≤ S 60 ∧ gon S (S 60 - l) = false) from fun q => by have := q.2; simp only [gon, decide_eq_false_iff_not] at this; omega)]
        simp (disch := omega) only [nI_iI, iI_lit, iI_neg, iI_add, iI_sub, iI_mul, iI_lt, iI_le, iI_eq, vin_iI, pm_in, Option.bind_some, decide_eq_true_eq, hA]
        repeat (first | rw [if_neg (by omega)] | rw [if_pos (by omega)])
        rfl
    · rw [if_neg (show ¬ (l ≤ S 60 ∧ gon S (S 60 - l) = false) from fun q => hc q.1)]
      simp (disch := omega) only [nI_iI, iI_lit, iI_neg, iI_add, iI_sub, iI_mul, iI_lt, iI_le, iI_eq, vin_iI, pm_in, Option.bind_some, decide_eq_true_eq]
      repeat (first | rw [if_neg (by omega)] | rw [if_pos (by omega)])
      rfl
