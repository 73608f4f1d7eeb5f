/-! ===== pure side: whole numbers as Int32, Int64; answers ===== -/
def iI (z : Int) : Int32 := Int32.ofInt z
theorem iI_add (a b : Int) : iI a + iI b = iI (a + b) := (Int32.ofInt_add a b).symm
theorem iI_sub (a b : Int) : iI a - iI b = iI (a - b) := (Int32.ofInt_sub a b).symm
theorem iI_mul (a b : Int) : iI a * iI b = iI (a * b) := (Int32.ofInt_mul a b).symm
theorem iI_neg (a : Int) : -iI a = iI (-a) := (Int32.ofInt_neg a).symm
theorem iI_lit (n : Nat) : (OfNat.ofNat n : Int32) = iI (OfNat.ofNat n) := (Int32.ofInt_eq_ofNat (n := n)).symm
theorem nI_iI (n : Nat) : nI n = iI (n : Int) := (Int32.ofInt_eq_ofNat (n := n)).symm
theorem iI_toInt {a : Int} (h1 : -2147483648 ≤ a) (h2 : a < 2147483648) : (iI a).toInt = a := Int32.toInt_ofInt_of_le h1 h2
theorem iI_lt {a b : Int} (h1 : -2147483648 ≤ a) (h2 : a < 2147483648) (h3 : -2147483648 ≤ b) (h4 : b < 2147483648) : iI a < iI b ↔ a < b := by
  rw [Int32.lt_iff_toInt_lt, iI_toInt h1 h2, iI_toInt h3 h4]
theorem iI_le {a b : Int} (h1 : -2147483648 ≤ a) (h2 : a < 2147483648) (h3 : -2147483648 ≤ b) (h4 : b < 2147483648) : iI a ≤ iI b ↔ a ≤ b := by
  rw [Int32.le_iff_toInt_le, iI_toInt h1 h2, iI_toInt h3 h4]
theorem iI_eq {a b : Int} (h1 : -2147483648 ≤ a) (h2 : a < 2147483648) (h3 : -2147483648 ≤ b) (h4 : b < 2147483648) : iI a = iI b ↔ a = b := by
  rw [← Int32.toInt_inj, iI_toInt h1 h2, iI_toInt h3 h4]
theorem iI_of (v : Int32) : ∃ z : Int, v = iI z ∧ -2147483648 ≤ z ∧ z < 2147483648 := ⟨v.toInt, (Int32.ofInt_toInt v).symm, v.le_toInt, v.toInt_lt⟩
theorem iI_div {a b : Int} (h1 : 0 ≤ a) (h2 : a < 2147483648) (h3 : 0 < b) (h4 : b < 2147483648) : iI a / iI b = iI (a / b) := by
  have h := Int32.ofInt_tdiv (a := a) (b := b) (by rw [Int32.toInt_minValue]; omega) (by rw [Int32.toInt_maxValue]; omega) (by rw [Int32.toInt_minValue]; omega) (by rw [Int32.toInt_maxValue]; omega)
  rw [Int.tdiv_eq_ediv_of_nonneg h1] at h
  exact h.symm
theorem iI_rem {a b : Int} (h1 : 0 ≤ a) (h2 : a < 2147483648) (h3 : 0 < b) (h4 : b < 2147483648) : iI a - iI a / iI b * iI b = iI (a % b) := by
  rw [iI_div h1 h2 h3 h4, iI_mul, iI_sub]
  congr 1
  have := Int.mul_ediv_add_emod a b
  rw [Int.mul_comm] at this
  omega
theorem iI_clamp {a : Int} (h2 : -2147483648 ≤ a) (h3 : a < 2147483648) : (iI a).toNatClampNeg = a.toNat := by rw [← Int32.toNat_toInt, iI_toInt h2 h3]
theorem iI_clampN {n : Nat} (h : n < 2147483648) : (iI (n : Int)).toNatClampNeg = n := by rw [iI_clamp (by omega) (by omega)]; omega
theorem gA_iI {σ : Sg} {i : Nat} {a : Int} (h1 : -2147483648 ≤ a) (h2 : a < 2147483648) : gA σ i (iI a) = gI σ i a.toNat := by unfold gA; rw [iI_clamp h1 h2]
theorem gM_iI {σ : Sg} {i : Nat} {a : Int} (h1 : -2147483648 ≤ a) (h2 : a < 2147483648) : gM σ i (iI a) = gL σ i a.toNat := by unfold gM; rw [iI_clamp h1 h2]
theorem sA_iI {σ : Sg} {i : Nat} {a : Int} {v : Int32} (h1 : -2147483648 ≤ a) (h2 : a < 2147483648) : sA σ i (iI a) v = sI σ i a.toNat v := by unfold sA; rw [iI_clamp h1 h2]
theorem sM_iI {σ : Sg} {i : Nat} {a : Int} {v : Int64} (h1 : -2147483648 ≤ a) (h2 : a < 2147483648) : sM σ i (iI a) v = sL σ i a.toNat v := by unfold sM; rw [iI_clamp h1 h2]
theorem vin_iI {a : Int} {n : Nat} (h1 : -2147483648 ≤ a) (h2 : a < 2147483648) : vin (iI a) n ↔ 0 ≤ a ∧ a < n := by
  unfold vin
  rw [iI_clamp h1 h2, show (0 : Int32) = iI 0 from rfl, iI_lt h1 h2 (by omega) (by omega)]
  omega
theorem gI_sI (σ : Sg) (i k : Nat) (v : Int32) (j q : Nat) : gI (sI σ i k v) j q = if j = i ∧ q = k then v else gI σ j q := rfl
theorem gL_sL (σ : Sg) (i k : Nat) (v : Int64) (j q : Nat) : gL (sL σ i k v) j q = if j = i ∧ q = k then v else gL σ j q := rfl
theorem gI_sLx (σ : Sg) (i k : Nat) (v : Int64) (j q : Nat) : gI (sL σ i k v) j q = gI σ j q := rfl
theorem gL_sIx (σ : Sg) (i k : Nat) (v : Int32) (j q : Nat) : gL (sI σ i k v) j q = gL σ j q := rfl
theorem okS {α : Type} {z : α} {P : α → Prop} : ok (some z) P ↔ P z := ⟨ok_some, fun h => ⟨z, rfl, h⟩⟩
theorem okN {α : Type} {P : α → Prop} : ok (none : Option α) P ↔ False := ⟨fun h => ok_none h, False.elim⟩
theorem okB {α β : Type} {o : Option α} {f : α → Option β} {P : β → Prop} : ok (o.bind f) P ↔ ok o (fun z => ok (f z) P) := by
  refine ⟨ok_b, ?_⟩
  rintro ⟨z, rfl, h⟩
  exact h
theorem okI {α : Type} {c : Prop} {D : Decidable c} {a b : Option α} {P : α → Prop} : ok (@ite _ c D a b) P ↔ (c → ok a P) ∧ (¬ c → ok b P) := by
  by_cases hc : c
  · simp [hc]
  · simp [hc]
theorem ok.imp {α : Type} {o : Option α} {P Q : α → Prop} (h : ok o P) (f : ∀ z, P z → Q z) : ok o Q := by
  obtain ⟨z, e, p⟩ := h
  exact ⟨z, e, f z p⟩
theorem ok.and {α : Type} {o : Option α} {P Q : α → Prop} (h : ok o P) (g : ∀ z, o = some z → Q z) : ok o (fun z => P z ∧ Q z) := by
  obtain ⟨z, e, p⟩ := h
  exact ⟨z, e, p, g z e⟩
theorem ok_eq {α : Type} {o : Option α} {z : α} {P : α → Prop} (h : o = some z) (p : P z) : ok o P := ⟨z, h, p⟩
theorem jmax_iI {a b : Int} (h1 : -2147483648 ≤ a) (h2 : a < 2147483648) (h3 : -2147483648 ≤ b) (h4 : b < 2147483648) : jmax (iI a) (iI b) = iI (max a b) := by
  unfold jmax
  simp only [iI_lt h1 h2 h3 h4]
  split
  · rw [Int.max_eq_right (by omega)]
  · rw [Int.max_eq_left (by omega)]
theorem jmin_iI {a b : Int} (h1 : -2147483648 ≤ a) (h2 : a < 2147483648) (h3 : -2147483648 ≤ b) (h4 : b < 2147483648) : jmin (iI a) (iI b) = iI (min a b) := by
  unfold jmin
  simp only [iI_lt h3 h4 h1 h2]
  split
  · rw [Int.min_eq_right (by omega)]
  · rw [Int.min_eq_left (by omega)]
theorem jabs_iI {a : Int} (h1 : -2147483647 ≤ a) (h2 : a < 2147483648) : jabs (iI a) = iI (if 0 ≤ a then a else -a) := by
  unfold jabs
  rw [show (0 : Int32) = iI 0 from rfl]
  simp only [iI_le (a := 0) (b := a) (by omega) (by omega) (by omega) h2, iI_sub]
  split
  · rfl
  · congr 1; omega
/-- how many of the first n -/
def cnt (p : Nat → Bool) : Nat → Nat
  | 0 => 0
  | n + 1 => cnt p n + (if p n = true then 1 else 0)
theorem cnt_succ (p : Nat → Bool) (n : Nat) : cnt p (n + 1) = cnt p n + (if p n = true then 1 else 0) := rfl
theorem cnt_le (p : Nat → Bool) (n : Nat) : cnt p n ≤ n := by
  induction n with
  | zero => exact Nat.le_refl _
  | succ n ih => unfold cnt; split <;> omega
theorem cnt_cong {p q : Nat → Bool} {n : Nat} (h : ∀ k, k < n → p k = q k) : cnt p n = cnt q n := by
  induction n with
  | zero => rfl
  | succ n ih => unfold cnt; rw [ih (fun k hk => h k (by omega)), h n (by omega)]
theorem cnt_add (p : Nat → Bool) (m n : Nat) : cnt p (m + n) = cnt p m + cnt (fun k => p (m + k)) n := by
  induction n with
  | zero => rfl
  | succ n ih => rw [← Nat.add_assoc, cnt_succ, cnt_succ, ih]; omega
theorem cnt_zero {p : Nat → Bool} {n : Nat} (h : ∀ k, k < n → p k = false) : cnt p n = 0 := by
  induction n with
  | zero => rfl
  | succ n ih => unfold cnt; rw [ih (fun k hk => h k (by omega)), h n (by omega)]; rfl
theorem cnt_le_of {p : Nat → Bool} {m n : Nat} (hm : m ≤ n) (h : ∀ k, m ≤ k → k < n → p k = false) : cnt p n = cnt p m := by
  obtain ⟨d, rfl⟩ : ∃ d, n = m + d := ⟨n - m, by omega⟩
  rw [cnt_add, cnt_zero (fun k hk => h (m + k) (by omega) (by omega)), Nat.add_zero]
theorem cnt_sub {p q : Nat → Bool} {n : Nat} (h : ∀ k, k < n → p k = true → q k = true) : cnt p n ≤ cnt q n := by
  induction n with
  | zero => exact Nat.le_refl _
  | succ n ih =>
    unfold cnt
    have h1 := ih (fun k hk => h k (by omega))
    have h2 := h n (by omega)
    cases hp : p n
    · simp only [Bool.false_eq_true, if_false]; omega
    · rw [h2 hp]; simp only [if_true]; omega
theorem cnt_part {p q : Nat → Bool} {n : Nat} : cnt p n = cnt (fun k => p k && q k) n + cnt (fun k => p k && !q k) n := by
  induction n with
  | zero => rfl
  | succ n ih =>
    unfold cnt
    cases hp : p n <;> cases hq : q n <;> simp <;> omega
