/-! ===== rows of strides: digits, whether they can be made ===== -/
def dg (row n i : Nat) : Nat := row / 10 ^ (n - 1 - i) % 10
def rowOk (R : Nat → Nat) : Nat → Nat → Bool
  | 0, row => decide (row = 0)
  | n + 1, row => (decide (1 ≤ row % 10) && decide (row % 10 ≤ 2 * R 2)) && rowOk R n (row / 10)
theorem rowOk_dg {R : Nat → Nat} : ∀ {n row : Nat}, rowOk R n row = true → ∀ i, i < n → 1 ≤ dg row n i ∧ dg row n i ≤ 2 * R 2 := by
  intro n
  induction n with
  | zero => intro row _ i h; omega
  | succ n ih =>
    intro row h i hi
    unfold rowOk at h
    simp only [Bool.and_eq_true, decide_eq_true_eq] at h
    by_cases e : i = n
    · subst e
      unfold dg
      rw [show i + 1 - 1 - i = 0 by omega, Nat.pow_zero, Nat.div_one]
      exact h.1
    · have h2 := ih h.2 i (by omega)
      unfold dg at h2 ⊢
      rw [Nat.div_div_eq_div_mul, ← Nat.pow_succ'] at h2
      rw [show n + 1 - 1 - i = (n - 1 - i) + 1 by omega]
      exact h2
def tR (R : Nat → Nat) (z n : Int) : Int := if R 0 = 0 then 1 else if (0 ≤ n ∧ n ≤ 5) ∧ 0 ≤ z ∧ rowOk R n.toNat z.toNat = true then 0 else 2
section ROW
variable {N : Nat} {R S : Nat → Nat} {σ : Sg}
theorem tR_r {z y : Int} : 0 ≤ tR R z y ∧ tR R z y ≤ 9 := by unfold tR; split <;> (try split) <;> omega
theorem tR_3 {z y : Int} : 0 ≤ tR R z y ∧ tR R z y ≤ 3 := by unfold tR; split <;> (try split) <;> omega
theorem tR_0 {z n : Int} : tR R z n = 0 ↔ R 0 ≠ 0 ∧ (0 ≤ n ∧ n ≤ 5) ∧ 0 ≤ z ∧ rowOk R n.toNat z.toNat = true := by
  unfold tR
  split
  · simp_all
  · split
    · simp_all
    · simp_all
theorem px_digitOf (hN : 200000 ≤ N) {row n i : Nat} (hr : row < 2147483648) (hn : n ≤ 5) (hi : i < n) : f_x_digitOf N (iI (row : Int)) (iI (n : Int)) (iI (i : Int)) σ = some (iI (dg row n i : Int), σ) := by
  have key : ∀ (m b rest : Nat), i ≤ b → b - i < m → b < 5 → rest < 2147483648 → f_x_digitOf_L7 N m (iI (i : Int)) (iI (rest : Int)) (iI (b : Int)) σ = some (iI ((rest / 10 ^ (b - i) % 10 : Nat) : Int), σ) := by
    intro m
    induction m with
    | zero => intro b rest _ h; omega
    | succ m ih =>
      intro b rest h1 h2 h3 h4
      unfold f_x_digitOf_L7
      rw [show iI (rest : Int) - iI (rest : Int) / 10 * 10 = iI ((rest : Int) % 10) from iI_rem (b := 10) (by omega) (by omega) (by omega) (by omega), show iI (rest : Int) / 10 = iI ((rest : Int) / 10) from iI_div (b := 10) (by omega) (by omega) (by omega) (by omega)]
      simp (disch := omega) only [nI_iI, iI_lit, iI_neg, iI_add, iI_sub, iI_mul, iI_lt, iI_le, iI_eq, vin_iI]
      by_cases e : b = i
      · rw [if_pos (by omega), e, Nat.sub_self, Nat.pow_zero, Nat.div_one]
        rfl
      · rw [if_neg (by omega)]
        have h5 := ih (b - 1) (rest / 10) (by omega) (by omega) (by omega) (by omega)
        rw [Nat.div_div_eq_div_mul, ← Nat.pow_succ', show (b - 1 - i).succ = b - i by omega] at h5
        rw [← h5]
        rw [show (b : Int) + -1 = ((b - 1 : Nat) : Int) by omega]
        rfl
  unfold f_x_digitOf dg
  rw [show iI (n : Int) - 1 = iI ((n - 1 : Nat) : Int) by rw [show (1 : Int32) = iI 1 from rfl, iI_sub]; congr 1; omega]
  exact key N (n - 1) row (by omega) (by omega) (by omega) hr
theorem px_isRow (hN : 200000 ≤ N) (hL : LX 10 R σ) (hb : R 2 ≤ 3) {z n : Int} (z1 : -2147483648 ≤ z) (z2 : z < 2147483648) (n1 : -2147483648 ≤ n) (n2 : n < 2147483648) : f_country_isRow N (iI z) (iI n) σ = some (decide ((0 ≤ n ∧ n ≤ 5) ∧ 0 ≤ z ∧ rowOk R n.toNat z.toNat = true), σ) := by
  have key : ∀ (k : Nat), k ≤ 5 → ∀ (m i rest : Nat), i ≤ k → k - i < m → rest < 2147483648 → f_country_isRow_L20 N m (iI (k : Int)) (iI (rest : Int)) (iI (i : Int)) σ = some (rowOk R (k - i) rest, σ) := by
    intro k hk m
    induction m with
    | zero => intro b rest _ h; omega
    | succ m ih =>
      intro i rest h1 h2 h4
      unfold f_country_isRow_L20
      rw [show iI (rest : Int) - iI (rest : Int) / 10 * 10 = iI ((rest : Int) % 10) from iI_rem (b := 10) (by omega) (by omega) (by omega) (by omega), show iI (rest : Int) / 10 = iI ((rest : Int) / 10) from iI_div (b := 10) (by omega) (by omega) (by omega) (by omega)]
      simp (disch := omega) only [hL.nb, nI_iI, iI_lit, iI_neg, iI_add, iI_sub, iI_mul, iI_lt, iI_le, iI_eq, vin_iI]
      by_cases e : i = k
      · rw [if_pos (by omega), e, Nat.sub_self]
        unfold rowOk
        by_cases e0 : rest = 0
        · rw [if_pos (by omega)]; simp [e0]
        · rw [if_neg (by omega)]; simp [e0]
      · rw [if_neg (by omega), show k - i = (k - (i + 1)) + 1 by omega]
        unfold rowOk
        have h5 := ih (i + 1) (rest / 10) (by omega) (by omega) (by omega)
        by_cases e1 : 1 ≤ rest % 10
        · rw [if_neg (by omega)]
          by_cases e2 : rest % 10 ≤ 2 * R 2
          · rw [if_pos (by omega)]
            simp only [e1, e2, decide_true, Bool.true_and]
            exact h5
          · rw [if_neg (by omega)]; simp [e2]
        · rw [if_pos (by omega)]; simp [e1]
  unfold f_country_isRow
  simp (disch := omega) only [nI_iI, iI_lit, iI_neg, iI_add, iI_sub, iI_mul, iI_lt, iI_le, iI_eq, vin_iI]
  by_cases e1 : n < 0
  · rw [if_pos e1]
    simp only [Option.some.injEq, Prod.mk.injEq, and_true]
    symm; rw [decide_eq_false_iff_not]; omega
  · rw [if_neg e1]
    by_cases e2 : 5 < n
    · rw [if_pos e2]
      simp only [Option.some.injEq, Prod.mk.injEq, and_true]
      symm; rw [decide_eq_false_iff_not]; omega
    · rw [if_neg e2]
      by_cases e3 : 0 ≤ z
      · rw [if_pos e3]
        obtain ⟨a, rfl⟩ : ∃ b : Nat, z = (b : Int) := ⟨z.toNat, by omega⟩
        obtain ⟨b, rfl⟩ : ∃ b : Nat, n = (b : Int) := ⟨n.toNat, by omega⟩
        have h := key b (by omega) N 0 a (by omega) (by omega) (by omega)
        simp only [Int.toNat_natCast]
        rw [Nat.sub_zero] at h
        refine h.trans ?_
        simp only [Option.some.injEq, Prod.mk.injEq, and_true]
        rw [Bool.eq_iff_iff, decide_eq_true_eq]
        constructor
        · intro q; exact ⟨by omega, e3, q⟩
        · intro q; exact q.2.2
      · rw [if_neg e3]
        simp only [Option.some.injEq, Prod.mk.injEq, and_true]
        symm; rw [decide_eq_false_iff_not]; omega
theorem tx_row (hN : 200000 ≤ N) (hL : LX 10 R σ) (hR : R 0 ≤ 60) (hb : R 2 ≤ 3) {z n : Int} (z1 : -2147483648 ≤ z) (z2 : z < 2147483648) (n1 : -2147483648 ≤ n) (n2 : n < 2147483648) : f_x_rowTrouble N (iI z) (iI n) σ = some (iI (tR R z n), σ) := by
  unfold f_x_rowTrouble tR
  rw [tx_land hL.c hR, Option.bind_some]
  dsimp only
  by_cases h : R 0 = 0
  · rw [show tL R = 1 by unfold tL; rw [if_pos h], if_pos h, if_neg (by decide)]
    rfl
  · rw [show tL R = 0 by unfold tL; rw [if_neg h], if_neg h, if_pos (show iI 0 = 0 from rfl), px_isRow hN hL hb z1 z2 n1 n2, Option.bind_some]
    simp only [decide_eq_true_eq]
    by_cases e : (0 ≤ n ∧ n ≤ 5) ∧ 0 ≤ z ∧ rowOk R n.toNat z.toNat = true
    · rw [if_pos e, if_pos e]; rfl
    · rw [if_neg e, if_neg e]; rfl
theorem pm_rowWhy (hN : 200000 ≤ N) (hR : AR σ 69 189 R) (hb : R 2 ≤ 3) (c : Bool) {z n : Int} (z1 : -2147483648 ≤ z) (z2 : z < 2147483648) (n1 : -2147483648 ≤ n) (n2 : n < 2147483648) : ok (f_m_rowWhy N (b2i c) (iI z) (iI n) σ) (fun q => q.1 = iI (if c = false then 1 else if (0 ≤ n ∧ n ≤ 5) ∧ 0 ≤ z ∧ rowOk R n.toNat z.toNat = true then 0 else 2) ∧ (c = true → (0 ≤ n ∧ n ≤ 5) ∧ 0 ≤ z ∧ rowOk R n.toNat z.toNat = true → ∀ j, j < n.toNat → gI q.2 79 j = iI (dg z.toNat n.toNat j : Int))) := by
  have key : ∀ (m k left : Nat) (τ : Sg), k ≤ 5 → k < m → left < 2147483648 → AR τ 69 189 R → ok (f_m_rowWhy_L29 N m (iI (left : Int)) (iI ((k : Int) - 1)) τ) (fun q => q.1 = iI (if rowOk R k left = true then 0 else 2) ∧ (rowOk R k left = true → (∀ j, j < k → gI q.2 79 j = iI (dg left k j : Int)) ∧ ∀ j, k ≤ j → gI q.2 79 j = gI τ 79 j)) := by
    intro m
    induction m with
    | zero => intro b rest _ _ h; omega
    | succ m ih =>
      intro k left τ h1 h2 h4 hRt
      unfold f_m_rowWhy_L29
      have e0 : ∀ τ', AR τ' 69 189 R → gA τ' 69 2 = iI (R 2 : Int) := fun τ' h => h.A (z := 2) 2 rfl (by omega) (by omega)
      rw [show iI (left : Int) - iI (left : Int) / 10 * 10 = iI ((left : Int) % 10) from iI_rem (b := 10) (by omega) (by omega) (by omega) (by omega), show iI (left : Int) / 10 = iI ((left : Int) / 10) from iI_div (b := 10) (by omega) (by omega) (by omega) (by omega)]
      by_cases e : k = 0
      · subst e
        rw [if_pos (by rw [show (0 : Int32) = iI 0 from rfl, iI_lt (by omega) (by omega) (by omega) (by omega)]; omega)]
        unfold rowOk
        by_cases e0 : left = 0
        · subst e0
          rw [if_pos (show iI ((0 : Nat) : Int) = 0 from rfl)]
          exact okS.mpr ⟨by simp; rfl, fun _ => ⟨fun j hj => by omega, fun j _ => rfl⟩⟩
        · rw [if_neg (by rw [show (0 : Int32) = iI 0 from rfl, iI_eq (by omega) (by omega) (by omega) (by omega)]; omega)]
          exact okS.mpr ⟨by simp [e0]; rfl, fun h => by simp [e0] at h⟩
      · have hs : sA τ 79 (iI ((k : Int) - 1)) (iI ((left : Int) % 10)) = sI τ 79 (k - 1) (iI ((left : Int) % 10)) := by
          rw [sA_iI (by omega) (by omega)]
          congr 1; omega
        have hg : gA (sI τ 79 (k - 1) (iI ((left : Int) % 10))) 79 (iI ((k : Int) - 1)) = iI ((left : Int) % 10) := by
          rw [gA_iI (by omega) (by omega), show ((k : Int) - 1).toNat = k - 1 by omega]
          exact gI_eq
        have hR2 : AR (sI τ 79 (k - 1) (iI ((left : Int) % 10))) 69 189 R := fun j hj => by
          rw [gI_ne (by omega)]; exact hRt j hj
        rw [hs, hg, e0 _ hR2, show (2 : Int32) * iI (R 2 : Int) = iI (2 * (R 2 : Int)) from iI_mul 2 _, show (1 : Int32) = iI 1 from rfl, pm_in (by omega) (by omega) (by omega) (by omega) (by omega) (by omega), Option.bind_some]
        simp only [decide_eq_true_eq]
        simp (disch := omega) only [nI_iI, iI_lit, iI_neg, iI_add, iI_sub, iI_mul, iI_lt, iI_le, iI_eq, vin_iI]
        rw [if_neg (by omega), if_pos (by omega), if_pos (by omega)]
        obtain ⟨k', rfl⟩ : ∃ k', k = k' + 1 := ⟨k - 1, by omega⟩
        unfold rowOk
        by_cases e1 : 1 ≤ left % 10 ∧ left % 10 ≤ 2 * R 2
        · rw [if_pos (by omega)]
          simp only [e1.1, e1.2, decide_true, Bool.true_and]
          have h5 := ih k' (left / 10) (sI τ 79 (k' + 1 - 1) (iI ((left : Int) % 10))) (by omega) (by omega) (by omega) hR2
          rw [show ((k' + 1 : Nat) : Int) - 1 + -1 = (k' : Int) - 1 by omega]
          refine h5.imp (fun q hq => ⟨hq.1, fun hk => ⟨fun j hj => ?_, fun j hj => ?_⟩⟩)
          · by_cases ej : j = k'
            · subst ej
              rw [(hq.2 hk).2 j (by omega), show j + 1 - 1 = j by omega, gI_eq]
              unfold dg
              rw [show j + 1 - 1 - j = 0 by omega, Nat.pow_zero, Nat.div_one]
              rfl
            · rw [(hq.2 hk).1 j (by omega)]
              unfold dg
              rw [Nat.div_div_eq_div_mul, ← Nat.pow_succ', show (k' - 1 - j).succ = k' + 1 - 1 - j by omega]
          · rw [(hq.2 hk).2 j (by omega), gI_ne (by omega)]
        · rw [if_neg (by omega)]
          refine okS.mpr ⟨?_, fun h => ?_⟩
          · rw [if_neg (fun h => by
              simp only [Bool.and_eq_true, decide_eq_true_eq] at h
              exact e1 h.1)]
          · simp only [Bool.and_eq_true, decide_eq_true_eq] at h
            exact absurd h.1 e1
  unfold f_m_rowWhy
  cases c with
  | false => 
    rw [if_pos rfl]
    exact okS.mpr ⟨by simp; rfl, fun h => by cases h⟩
  | true =>
    rw [if_neg (by decide), show (0 : Int32) = iI 0 from rfl, show (5 : Int32) = iI 5 from rfl, pm_in n1 n2 (by omega) (by omega) (by omega) (by omega), Option.bind_some]
    simp only [decide_eq_true_eq]
    by_cases e1 : 0 ≤ n ∧ n ≤ 5
    · rw [if_pos e1]
      simp (disch := omega) only [iI_le]
      by_cases e2 : 0 ≤ z
      · rw [if_pos e2]
        obtain ⟨a, rfl⟩ : ∃ b : Nat, z = (b : Int) := ⟨z.toNat, by omega⟩
        obtain ⟨b, rfl⟩ : ∃ b : Nat, n = (b : Int) := ⟨n.toNat, by omega⟩
        rw [show iI (b : Int) - 1 = iI ((b : Int) - 1) from iI_sub _ 1]
        simp only [Int.toNat_natCast]
        refine (key N b a σ (by omega) (by omega) (by omega) hR).imp (fun q hq => ⟨?_, fun _ h => (hq.2 h.2.2).1⟩)
        rw [hq.1]
        by_cases e3 : rowOk R b a = true
        · rw [if_pos e3, if_neg (by simp), if_pos ⟨by omega, by omega, e3⟩]
        · rw [if_neg e3, if_neg (by simp), if_neg (fun h => e3 h.2.2)]
      · rw [if_neg e2]
        refine okS.mpr ⟨?_, fun _ h => by omega⟩
        rw [if_neg (by simp), if_neg (by omega)]; rfl
    · rw [if_neg e1]
      refine okS.mpr ⟨?_, fun _ h => absurd h.1 e1⟩
      rw [if_neg (by simp), if_neg (fun h => e1 h.1)]; rfl
theorem pm_rowWhyT (hN : 200000 ≤ N) (h : LandM R S σ) (hb : R 2 ≤ 3) {z n : Int} (z1 : -2147483648 ≤ z) (z2 : z < 2147483648) (n1 : -2147483648 ≤ n) (n2 : n < 2147483648) : ok (f_m_rowWhy N (gI σ 66 14) (iI z) (iI n) σ) (fun q => q.1 = iI (tR R z n) ∧ (tR R z n = 0 → ∀ j, j < n.toNat → gI q.2 79 j = iI (dg z.toNat n.toNat j : Int))) := by
  rw [h.hasB]
  refine (pm_rowWhy hN h.1 hb (decide (R 0 ≠ 0)) z1 z2 n1 n2).imp (fun q hq => ⟨?_, fun h0 => hq.2 (by rw [tR_0] at h0; simp [h0.1]) (tR_0.mp h0).2⟩)
  rw [hq.1]
  unfold tR
  by_cases e : R 0 = 0 <;> simp [e]
/-- the state behind the first strides of a row, and whether they can be made -/
def rgo (R S ds : Nat → Nat) : Nat → (Nat → Nat)
  | 0 => S
  | i + 1 => go R (rgo R S ds i) (ds i)
def rcan (R S ds : Nat → Nat) : Nat → Bool
  | 0 => true
  | i + 1 => rcan R S ds i && can R (rgo R S ds i) (ds i)
theorem rcan_lt {ds : Nat → Nat} {n i : Nat} (h : rcan R S ds n = true) (hi : i < n) : can R (rgo R S ds i) (ds i) = true := by
  induction n with
  | zero => omega
  | succ n ih =>
    unfold rcan at h
    rw [Bool.and_eq_true] at h
    by_cases e : i = n
    · rw [e]; exact h.2
    · exact ih h.1 (by omega)
theorem rgo_wf {ds : Nat → Nat} (hW : WfL R) (hC : WfC R S) (hs : S 60 < R 0) : ∀ i, WfC R (rgo R S ds i) ∧ rgo R S ds i 60 < R 0 := by
  intro i
  induction i with
  | zero => exact ⟨hC, hs⟩
  | succ i ih => exact ih.1.god hW ih.2
theorem px_copy (hX : SX 40 S σ) : ok (f_state_copy N σ) (fun z => SX 41 S z.2) := by
  unfold f_state_copy
  refine okS.mpr ⟨fun k => ?_, fun k => ?_, ?_, ?_, ?_⟩
  · repeat (first | rw [gI_sLx] | rw [gL_sIx] | rw [gI_eq] | rw [gL_eq] | rw [gI_ne (by omega)] | rw [gL_ne (by omega)]); exact hX.1 k
  · repeat (first | rw [gI_sLx] | rw [gL_sIx] | rw [gI_eq] | rw [gL_eq] | rw [gI_ne (by omega)] | rw [gL_ne (by omega)]); exact hX.2.1 k
  · repeat (first | rw [gI_sLx] | rw [gL_sIx] | rw [gI_eq] | rw [gL_eq] | rw [gI_ne (by omega)] | rw [gL_ne (by omega)]); exact hX.2.2.1
  · repeat (first | rw [gI_sLx] | rw [gL_sIx] | rw [gI_eq] | rw [gL_eq] | rw [gI_ne (by omega)] | rw [gL_ne (by omega)]); exact hX.2.2.2.1
  · repeat (first | rw [gI_sLx] | rw [gL_sIx] | rw [gI_eq] | rw [gL_eq] | rw [gI_ne (by omega)] | rw [gL_ne (by omega)]); exact hX.2.2.2.2
theorem px_makeRow (hN : 200000 ≤ N) (hL : LX 10 R σ) (hX : SX 40 S σ) (hW : WfL R) (hC : WfC R S) (hs : S 60 < R 0) {row n : Nat} (hr : row < 2147483648) (hn : n ≤ 5) (hd : rowOk R n row = true) : ok (f_x_makeRow N (iI (row : Int)) (iI (n : Int)) σ) (fun z => z.1 = rcan R S (dg row n) n ∧ (rcan R S (dg row n) n = true → SX 41 (rgo R S (dg row n) n) z.2)) := by
  have key : ∀ m i τ, i ≤ n → n - i < m → LX 10 R τ → SX 41 (rgo R S (dg row n) i) τ → rcan R S (dg row n) i = true → ok (f_x_makeRow_L13 N m (iI (row : Int)) (iI (n : Int)) (iI (i : Int)) τ) (fun z => z.1 = rcan R S (dg row n) n ∧ (rcan R S (dg row n) n = true → SX 41 (rgo R S (dg row n) n) z.2)) := by
    intro m
    induction m with
    | zero => intro i τ _ h; omega
    | succ m ih =>
      intro i τ h1 h2 hLt hXt hct
      unfold f_x_makeRow_L13
      simp (disch := omega) only [nI_iI, iI_lit, iI_neg, iI_add, iI_sub, iI_mul, iI_lt, iI_le, iI_eq, vin_iI]
      by_cases e : i = n
      · rw [if_pos (by omega)]
        subst e
        exact okS.mpr ⟨hct.symm, fun _ => hXt⟩
      · rw [if_neg (by omega), px_digitOf hN hr hn (by omega), Option.bind_some, okB]
        have hw := rgo_wf (ds := dg row n) hW hC hs i
        have hdi := rowOk_dg hd i (by omega)
        refine ((px_makeStride hLt hXt hW hw.1 hw.2 (Or.inr rfl) hdi.1 hdi.2).and (fun z => w_f_state_makeStride)).imp (fun q hq => ?_)
        rw [hq.1.1]
        by_cases ec : can R (rgo R S (dg row n) i) (dg row n i) = true
        · rw [if_pos ec]
          refine ih (i + 1) q.2 (by omega) (by omega) (hLt.fr hq.2 rfl) hq.1.2 ?_
          unfold rcan; rw [hct, ec]; rfl
        · rw [if_neg ec]
          have hf : rcan R S (dg row n) n = false := by
            cases h : rcan R S (dg row n) n with
            | false => rfl
            | true => exact absurd (rcan_lt h (by omega)) ec
          rw [hf]
          exact okS.mpr ⟨rfl, fun h => by cases h⟩
  unfold f_x_makeRow
  rw [okB]
  refine ((px_copy hX).and (fun z => w_f_state_copy)).imp (fun q hq => ?_)
  exact key N 0 q.2 (by omega) (by omega) (hL.fr hq.2 rfl) hq.1 rfl
theorem pm_makes (hN : 200000 ≤ N) (hR : AR σ 69 189 R) (hS : AR σ 74 63 S) (hW : WfL R) (hC : WfC R S) (hs : S 60 < R 0) {ds : Nat → Nat} {n : Nat} (hn : n ≤ 5) (hdg : ∀ j, j < n → gI σ 79 j = iI (ds j : Int)) (hd : ∀ j, j < n → 1 ≤ ds j ∧ ds j ≤ 2 * R 2) : ok (f_m_makes N (iI (n : Int)) σ) (fun z => z.1 = rcan R S ds n ∧ (rcan R S ds n = true → AR z.2 75 63 (rgo R S ds n))) := by
  have key : ∀ m i τ, i ≤ n → n - i < m → AR τ 69 189 R → AR τ 75 63 (rgo R S ds i) → (∀ j, j < n → gI τ 79 j = iI (ds j : Int)) → rcan R S ds i = true → ok (f_m_makes_L6 N m (iI (n : Int)) (iI (i : Int)) τ) (fun z => z.1 = rcan R S ds n ∧ (rcan R S ds n = true → AR z.2 75 63 (rgo R S ds n))) := by
    intro m
    induction m with
    | zero => intro i τ _ h; omega
    | succ m ih =>
      intro i τ h1 h2 hRt hXt hdt hct
      unfold f_m_makes_L6
      simp (disch := omega) only [nI_iI, iI_lit, iI_neg, iI_add, iI_sub, iI_mul, iI_lt, iI_le, iI_eq, vin_iI]
      by_cases e : i = n
      · rw [if_pos (by omega)]
        subst e
        exact okS.mpr ⟨hct.symm, fun _ => hXt⟩
      · rw [if_neg (by omega), if_pos (by omega), gA_iI (by omega) (by omega), Int.toNat_natCast, hdt i (by omega), okB]
        have hw := rgo_wf (ds := ds) hW hC hs i
        have hdi := hd i (by omega)
        refine ((pm_digitOn hN hRt hXt (by decide) hW hw.2 hw.1.r hdi.1 hdi.2).and (fun z => w_f_m_digitOn)).imp (fun q hq => ?_)
        rw [hq.1.1]
        by_cases ec : can R (rgo R S ds i) (ds i) = true
        · rw [if_pos ec]
          refine ih (i + 1) q.2 (by omega) (by omega) (hRt.fr hq.2 rfl) hq.1.2 (fun j hj => ?_) ?_
          · rw [hq.2.I 79 j rfl]; exact hdt j hj
          · unfold rcan; rw [hct, ec]; rfl
        · rw [if_neg ec]
          have hf : rcan R S ds n = false := by
            cases h : rcan R S ds n with
            | false => rfl
            | true => exact absurd (rcan_lt h (by omega)) ec
          rw [hf]
          exact okS.mpr ⟨rfl, fun h => by cases h⟩
  unfold f_m_makes
  rw [okB]
  refine ((pm_begin hN hS).and (fun z => w_f_m_begin)).imp (fun q hq => ?_)
  exact key N 0 q.2 (by omega) (by omega) (hR.fr hq.2 rfl) hq.1 (fun j hj => by rw [hq.2.I 79 j rfl]; exact hdg j hj) rfl
def rlI (R S : Nat → Nat) (row n : Nat) : Int := if rcan R S (dg row n) n = true then (rgo R S (dg row n) n 60 : Int) else -2
def roI (R S : Nat → Nat) (row n : Nat) : Int := if rcan R S (dg row n) n = true then (lost R (gon (rgo R S (dg row n) n)) : Int) else -2
theorem sim_rowLeads (hN : 200000 ≤ N) (v w : Int32) (h : Sim σ) : Both (f_x_rowLeads N v w σ) (f_m_rowLeads N v w) := by
  obtain ⟨R, S, B, h, hr⟩ := h
  obtain ⟨z, rfl, z1, z2⟩ := iI_of v
  obtain ⟨y, rfl, y1, y2⟩ := iI_of w
  refine sim_ro (a := ra (tR R z y) (rlI R S z.toNat y.toNat)) h hr (ra_t tR_3) ?_ (fun z => w_f_x_rowLeads) rfl (fun τ g => ?_) (fun τ y => w_f_m_rowLeads) rfl rfl
  · simp only [f_x_rowLeads, tx_row hN h.lx h.gd.c h.gd.nb z1 z2 y1 y2, px_gr N tR_r, Option.bind_some, bind_ite, Bool.false_eq_true, ↓reduceIte]
    refine x_fin (fun h0 => ?_)
    rw [tR_0] at h0
    obtain ⟨a, rfl⟩ : ∃ b : Nat, z = (b : Int) := ⟨z.toNat, by omega⟩
    obtain ⟨n, rfl⟩ : ∃ b : Nat, y = (b : Int) := ⟨y.toNat, by omega⟩
    have hW := h.gd.wl h0.1
    have hS := h.gd.ws h0.1
    rw [okB]
    simp only [Int.toNat_natCast] at h0 ⊢
    refine ((px_makeRow hN h.lx.tr (h.sx.tr (by decide)) hW hS.c hS.2.2.1 (by omega) (by omega) h0.2.2.2).and (fun z => w_f_x_makeRow)).imp (fun q hq => ?_)
    have ht : gI q.2 0 10 = iI 0 := by rw [hq.2.I 0 10 rfl]; exact gI_eq
    unfold rlI
    rw [hq.1.1]
    by_cases e : rcan R S (dg a n) n = true
    · rw [if_pos e, if_pos e]
      exact okS.mpr ⟨(hq.1.2 e).2.2.1, ht⟩
    · rw [if_neg e, if_neg e]
      exact okS.mpr ⟨rfl, ht⟩
  · simp only [f_m_rowLeads, pm_anew, f_m_no, Option.bind_some]
    rw [okB]
    refine ((pm_rowWhyT hN g.lm.an g.gd.nb z1 z2 y1 y2).and (fun z => w_f_m_rowWhy)).imp (fun q hq => ?_)
    rw [hq.1.1]
    simp only [iI_0 (tR_r (R := R) (z := z) (y := y))]
    refine m_fin (fun h0 => ?_)
    have hdg := hq.1.2 h0
    rw [tR_0] at h0
    obtain ⟨a, rfl⟩ : ∃ b : Nat, z = (b : Int) := ⟨z.toNat, by omega⟩
    obtain ⟨n, rfl⟩ : ∃ b : Nat, y = (b : Int) := ⟨y.toNat, by omega⟩
    have hW := g.gd.wl h0.1
    have hS := g.gd.ws h0.1
    rw [okB]
    simp only [Int.toNat_natCast] at h0 hdg ⊢
    refine ((pm_makes hN (g.lm.an.1.fr hq.2 rfl) (g.lm.an.2.1.fr hq.2 rfl) hW hS.c hS.2.2.1 (by omega) hdg (rowOk_dg h0.2.2.2)).and (fun z => w_f_m_makes)).imp (fun q2 h2 => ?_)
    have ht : gI q2.2 66 11 = iI 0 := by rw [h2.2.I 66 11 rfl, hq.2.I 66 11 rfl]; exact an_t
    unfold rlI
    rw [h2.1.1]
    by_cases e : rcan R S (dg a n) n = true
    · rw [if_pos e, if_pos e]
      exact okS.mpr ⟨(h2.1.2 e).A (z := 60) 60 rfl (by omega) (by omega), ht⟩
    · rw [if_neg e, if_neg e]
      exact okS.mpr ⟨rfl, ht⟩
theorem sim_rowLost (hN : 200000 ≤ N) (v w : Int32) (h : Sim σ) : Both (f_x_rowLost N v w σ) (f_m_rowLost N v w) := by
  obtain ⟨R, S, B, h, hr⟩ := h
  obtain ⟨z, rfl, z1, z2⟩ := iI_of v
  obtain ⟨y, rfl, y1, y2⟩ := iI_of w
  refine sim_ro (a := ra (tR R z y) (roI R S z.toNat y.toNat)) h hr (ra_t tR_3) ?_ (fun z => w_f_x_rowLost) rfl (fun τ g => ?_) (fun τ y => w_f_m_rowLost) rfl rfl
  · simp only [f_x_rowLost, tx_row hN h.lx h.gd.c h.gd.nb z1 z2 y1 y2, px_gr N tR_r, Option.bind_some, bind_ite, Bool.false_eq_true, ↓reduceIte]
    refine x_fin (fun h0 => ?_)
    rw [tR_0] at h0
    obtain ⟨a, rfl⟩ : ∃ b : Nat, z = (b : Int) := ⟨z.toNat, by omega⟩
    obtain ⟨n, rfl⟩ : ∃ b : Nat, y = (b : Int) := ⟨y.toNat, by omega⟩
    have hW := h.gd.wl h0.1
    have hS := h.gd.ws h0.1
    rw [okB]
    simp only [Int.toNat_natCast] at h0 ⊢
    refine ((px_makeRow hN h.lx.tr (h.sx.tr (by decide)) hW hS.c hS.2.2.1 (by omega) (by omega) h0.2.2.2).and (fun z => w_f_x_makeRow)).imp (fun q hq => ?_)
    have ht : gI q.2 0 10 = iI 0 := by rw [hq.2.I 0 10 rfl]; exact gI_eq
    unfold roI
    rw [hq.1.1]
    by_cases e : rcan R S (dg a n) n = true
    · rw [if_pos e, if_pos e, px_goneCells, Option.bind_some]
      have hX := hq.1.2 e
      rw [px_lost hN (h.lx.tr.fr hq.2 rfl) hW, hX.b.gone (rgo_wf hW hS.c hS.2.2.1 n).1.1]
      exact okS.mpr ⟨rfl, ht⟩
    · rw [if_neg e, if_neg e]
      exact okS.mpr ⟨rfl, ht⟩
  · simp only [f_m_rowLost, pm_anew, f_m_no, Option.bind_some]
    rw [okB]
    refine ((pm_rowWhyT hN g.lm.an g.gd.nb z1 z2 y1 y2).and (fun z => w_f_m_rowWhy)).imp (fun q hq => ?_)
    rw [hq.1.1]
    simp only [iI_0 (tR_r (R := R) (z := z) (y := y))]
    refine m_fin (fun h0 => ?_)
    have hdg := hq.1.2 h0
    rw [tR_0] at h0
    obtain ⟨a, rfl⟩ : ∃ b : Nat, z = (b : Int) := ⟨z.toNat, by omega⟩
    obtain ⟨n, rfl⟩ : ∃ b : Nat, y = (b : Int) := ⟨y.toNat, by omega⟩
    have hW := g.gd.wl h0.1
    have hS := g.gd.ws h0.1
    rw [okB]
    simp only [Int.toNat_natCast] at h0 hdg ⊢
    refine ((pm_makes hN (g.lm.an.1.fr hq.2 rfl) (g.lm.an.2.1.fr hq.2 rfl) hW hS.c hS.2.2.1 (by omega) hdg (rowOk_dg h0.2.2.2)).and (fun z => w_f_m_makes)).imp (fun q2 h2 => ?_)
    have ht : gI q2.2 66 11 = iI 0 := by rw [h2.2.I 66 11 rfl, hq.2.I 66 11 rfl]; exact an_t
    unfold roI
    rw [h2.1.1]
    by_cases e : rcan R S (dg a n) n = true
    · rw [if_pos e, if_pos e, pm_lostOn hN ((g.lm.an.1.fr hq.2 rfl).fr h2.2 rfl) (h2.1.2 e) hW (rgo_wf hW hS.c hS.2.2.1 n).1.r]
      exact okS.mpr ⟨rfl, ht⟩
    · rw [if_neg e, if_neg e]
      exact okS.mpr ⟨rfl, ht⟩
end ROW
