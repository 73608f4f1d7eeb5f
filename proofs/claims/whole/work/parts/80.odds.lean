/-! ===== gout by chance ===== -/
def iL (z : Int) : Int64 := Int64.ofInt z
theorem iL_add (a b : Int) : iL a + iL b = iL (a + b) := (Int64.ofInt_add a b).symm
theorem iL_sub (a b : Int) : iL a - iL b = iL (a - b) := (Int64.ofInt_sub a b).symm
theorem iL_mul (a b : Int) : iL a * iL b = iL (a * b) := (Int64.ofInt_mul a b).symm
theorem iL_i {z : Int} (h1 : -2147483648 ≤ z) (h2 : z < 2147483648) : Int32.toInt64 (iI z) = iL z := by
  rw [← Int64.ofInt_int32ToInt, iI_toInt h1 h2]
  rfl
theorem iL_toInt {a : Int} (h1 : 0 ≤ a) (h2 : a < 9223372036854775808) : (iL a).toInt = a := Int64.toInt_ofInt_of_le (by omega) h2
theorem iL_eq0 {a : Int} (h1 : 0 ≤ a) (h2 : a < 9223372036854775808) : (iL a = 0) = (a = 0) := by
  refine propext ⟨fun h => ?_, fun h => by rw [h]; rfl⟩
  have := congrArg Int64.toInt h
  rw [iL_toInt h1 h2] at this
  exact this
theorem iL_div {a b : Int} (h1 : 0 ≤ a) (h2 : a < 9223372036854775808) (h3 : 0 < b) (h4 : b < 9223372036854775808) : iL a / iL b = iL (a / b) := by
  have h := Int64.ofInt_tdiv (a := a) (b := b) (by rw [Int64.toInt_minValue]; omega) (by rw [Int64.toInt_maxValue]; omega) (by rw [Int64.toInt_minValue]; omega) (by rw [Int64.toInt_maxValue]; omega)
  rw [Int.tdiv_eq_ediv_of_nonneg h1] at h
  exact h.symm
theorem iL_rem {a b : Int} (h1 : 0 ≤ a) (h2 : a < 9223372036854775808) (h3 : 0 < b) (h4 : b < 9223372036854775808) : iL a - iL a / iL b * iL b = iL (a % b) := by
  rw [iL_div h1 h2 h3 h4, iL_mul, iL_sub]
  congr 1
  have := Int.mul_ediv_add_emod a b
  rw [Int.mul_comm] at this
  omega
/-- Euclid's rounds end -/
def ends : Nat → Nat → Nat → Prop
  | 0, _, b => b = 0
  | t + 1, a, b => b = 0 ∨ ends t b (a % b)
theorem ends_of : ∀ k a b, b < 2 ^ k → ends (2 * k) a b := by
  intro k
  induction k with
  | zero => intro a b h; show b = 0; omega
  | succ k ih =>
    intro a b h
    show ends (2 * k + 2) a b
    by_cases c : b = 0
    · exact Or.inl c
    · right
      by_cases c2 : a % b = 0
      · exact Or.inl c2
      · right
        refine ih _ _ ?_
        have h1 : a % b < b := Nat.mod_lt _ (by omega)
        have h2 : b % (a % b) < a % b := Nat.mod_lt _ (by omega)
        have h3 : b % (a % b) ≤ b - a % b := by
          rw [Nat.mod_eq_sub_mod (by omega)]
          exact Nat.mod_le _ _
        rw [Nat.pow_succ] at h
        omega
theorem gcd_st {a b : Nat} : Nat.gcd a b = Nat.gcd b (a % b) := by
  rw [Nat.gcd_comm, Nat.gcd_rec, Nat.gcd_comm]
section ODD
variable {N : Nat} {R S : Nat → Nat} {σ : Sg}
theorem px_euclid {v0 v2 : Int64} {v4 : Int32} {K : Int64 → Int64 → Int32 → Int64 → Sg → Option (Int64 × Sg)} : ∀ (t m r a b : Nat), ends t a b → t < m → r + t < 200 → a < 9000000000000000000 → b < 9000000000000000000 → f_x_inLowestTerms_L9 N m v0 v2 v4 (iL (a : Int)) (iL (b : Int)) (iI (r : Int)) σ K = K v0 v2 v4 (iL (Nat.gcd a b : Int)) σ := by
  intro t
  induction t with
  | zero =>
    intro m r a b h hm hr ha hb
    have hb0 : b = 0 := h
    subst hb0
    obtain ⟨m, rfl⟩ : ∃ m', m = m' + 1 := ⟨m - 1, by omega⟩
    unfold f_x_inLowestTerms_L9
    rw [if_neg (show ¬ 200 ≤ iI (r : Int) by rw [show (200 : Int32) = iI 200 from rfl, iI_le (by omega) (by omega) (by omega) (by omega)]; omega), if_pos (show lg_cmp (iL ((0 : Nat) : Int)) 0 = 0 by rw [lg_cmp_0]; rfl), Nat.gcd_zero_right]
  | succ t ih =>
    intro m r a b h hm hr ha hb
    obtain ⟨m, rfl⟩ : ∃ m', m = m' + 1 := ⟨m - 1, by omega⟩
    unfold f_x_inLowestTerms_L9
    rw [if_neg (show ¬ 200 ≤ iI (r : Int) by rw [show (200 : Int32) = iI 200 from rfl, iI_le (by omega) (by omega) (by omega) (by omega)]; omega)]
    by_cases c : b = 0
    · subst c
      rw [if_pos (show lg_cmp (iL ((0 : Nat) : Int)) 0 = 0 by rw [lg_cmp_0]; rfl), Nat.gcd_zero_right]
    · have hne : ¬ iL (b : Int) = 0 := by rw [iL_eq0 (by omega) (by omega)]; omega
      rw [if_neg (show ¬ lg_cmp (iL (b : Int)) 0 = 0 by rw [lg_cmp_0]; exact hne), if_neg hne, iL_rem (by omega) (by omega) (by omega) (by omega), show iI (r : Int) + 1 = iI ((r + 1 : Nat) : Int) from iI_add _ 1, gcd_st]
      have hml : a % b < b := Nat.mod_lt _ (by omega)
      rcases h with h | h
      · exact absurd h c
      · exact ih m (r + 1) b (a % b) h (by omega) (by omega) hb (by omega)
theorem pm_euclid {v0 v2 : Int64} {v4 : Int32} : ∀ (t m a b : Nat), ends t a b → t < m → a < 9000000000000000000 → b < 9000000000000000000 → 0 < Nat.gcd a b → f_m_lowest_L6 N m v0 v2 v4 (iL (a : Int)) (iL (b : Int)) σ = some ((if v4 = 0 then v0 else v2) / iL (Nat.gcd a b : Int), σ) := by
  have fin : ∀ (m a : Nat), a < 9000000000000000000 → 0 < a → f_m_lowest_L6 N (m + 1) v0 v2 v4 (iL (a : Int)) (iL ((0 : Nat) : Int)) σ = some ((if v4 = 0 then v0 else v2) / iL (a : Int), σ) := by
    intro m a ha h0
    have hne : ¬ iL (a : Int) = 0 := by rw [iL_eq0 (by omega) (by omega)]; omega
    unfold f_m_lowest_L6
    rw [if_pos (show lg_cmp (iL ((0 : Nat) : Int)) 0 = 0 by rw [lg_cmp_0]; rfl), if_neg hne, if_neg hne]
    by_cases c : v4 = 0
    · rw [if_pos c, if_pos c]
    · rw [if_neg c, if_neg c]
  intro t
  induction t with
  | zero =>
    intro m a b h hm ha hb hg
    have hb0 : b = 0 := h
    subst hb0
    obtain ⟨m, rfl⟩ : ∃ m', m = m' + 1 := ⟨m - 1, by omega⟩
    rw [Nat.gcd_zero_right] at hg ⊢
    exact fin m a ha hg
  | succ t ih =>
    intro m a b h hm ha hb hg
    obtain ⟨m, rfl⟩ : ∃ m', m = m' + 1 := ⟨m - 1, by omega⟩
    by_cases c : b = 0
    · subst c
      rw [Nat.gcd_zero_right] at hg ⊢
      exact fin m a ha hg
    · unfold f_m_lowest_L6
      have hne : ¬ iL (b : Int) = 0 := by rw [iL_eq0 (by omega) (by omega)]; omega
      rw [if_neg (show ¬ lg_cmp (iL (b : Int)) 0 = 0 by rw [lg_cmp_0]; exact hne), if_neg hne, iL_rem (by omega) (by omega) (by omega) (by omega)]
      have hml : a % b < b := Nat.mod_lt _ (by omega)
      rw [gcd_st] at hg ⊢
      rcases h with h | h
      · exact absurd h c
      · exact ih m b (a % b) h (by omega) hb (by omega) hg
/-- the parts of a hundred times themselves, by strides to come -/
def wW (R ds : Nat → Nat) (f : (Nat → Nat) → Nat) : Nat → Nat → (Nat → Nat) → Nat
  | 0, _, S => f S
  | m + 1, i, S => R 1 * wW R ds f m (i + 1) S + (100 - R 1) * wW R ds f m (i + 1) (go R S (ds i))
def pW (R ds : Nat → Nat) (f : (Nat → Nat) → Nat) : Nat → Nat → (Nat → Nat) → Nat → Nat
  | 0, _, S, _ => f S
  | m + 1, i, S, u => if u % 2 = 1 then R 1 * pW R ds f m (i + 1) S (u / 2) else (100 - R 1) * pW R ds f m (i + 1) (go R S (ds i)) (u / 2)
theorem sm_two (f : Nat → Nat) : ∀ n, sm f (2 * n) = sm (fun u => f (2 * u) + f (2 * u + 1)) n := by
  intro n
  induction n with
  | zero => rfl
  | succ n ih =>
    rw [show 2 * (n + 1) = 2 * n + 1 + 1 by omega, sm_succ, sm_succ, sm_succ, ih]
    omega
theorem sm_cong {f g : Nat → Nat} {n : Nat} (h : ∀ k, k < n → f k = g k) : sm f n = sm g n := by
  induction n with
  | zero => rfl
  | succ n ih => rw [sm_succ, sm_succ, ih (fun k hk => h k (by omega)), h n (by omega)]
theorem sm_lin (a b : Nat) (f g : Nat → Nat) : ∀ n, sm (fun u => b * g u + a * f u) n = a * sm f n + b * sm g n := by
  intro n
  induction n with
  | zero => show 0 = a * 0 + b * 0; omega
  | succ n ih =>
    rw [sm_succ, sm_succ, sm_succ, ih, Nat.mul_add, Nat.mul_add]
    omega
theorem pW_sum {ds : Nat → Nat} {f : (Nat → Nat) → Nat} : ∀ m i S, sm (pW R ds f m i S) (2 ^ m) = wW R ds f m i S := by
  intro m
  induction m with
  | zero => intro i S; show 0 + f S = f S; omega
  | succ m ih =>
    intro i S
    rw [Nat.pow_succ, Nat.mul_comm, sm_two]
    rw [sm_cong (g := fun u => (100 - R 1) * pW R ds f m (i + 1) (go R S (ds i)) u + R 1 * pW R ds f m (i + 1) S u) (fun u _ => by
      show (if 2 * u % 2 = 1 then _ else _) + (if (2 * u + 1) % 2 = 1 then _ else _) = _
      rw [if_neg (by omega), if_pos (by omega), show 2 * u / 2 = u by omega, show (2 * u + 1) / 2 = u by omega])]
    rw [sm_lin (R 1) (100 - R 1) (fun u => pW R ds f m (i + 1) S u) (fun u => pW R ds f m (i + 1) (go R S (ds i)) u)]
    show R 1 * sm (pW R ds f m (i + 1) S) (2 ^ m) + (100 - R 1) * sm (pW R ds f m (i + 1) (go R S (ds i))) (2 ^ m) = _
    rw [ih, ih]
    rfl
theorem wW_one {ds : Nat → Nat} (hg : R 1 ≤ 100) : ∀ m i S, wW R ds (fun _ => 1) m i S = 100 ^ m := by
  intro m
  induction m with
  | zero => intro i S; rfl
  | succ m ih =>
    intro i S
    show R 1 * wW R ds (fun _ => 1) m (i + 1) S + (100 - R 1) * wW R ds (fun _ => 1) m (i + 1) (go R S (ds i)) = _
    rw [ih, ih, ← Nat.add_mul, Nat.pow_succ, Nat.mul_comm (100 ^ m), show R 1 + (100 - R 1) = 100 by omega]
theorem wW_le {ds : Nat → Nat} {f : (Nat → Nat) → Nat} {c : Nat} (hg : R 1 ≤ 100) (hf : ∀ S, f S ≤ c) : ∀ m i S, wW R ds f m i S ≤ c * 100 ^ m := by
  intro m
  induction m with
  | zero => intro i S; show f S ≤ c * 1; have := hf S; omega
  | succ m ih =>
    intro i S
    show R 1 * wW R ds f m (i + 1) S + (100 - R 1) * wW R ds f m (i + 1) (go R S (ds i)) ≤ _
    have h1 := Nat.mul_le_mul_left (R 1) (ih (i + 1) S)
    have h2 := Nat.mul_le_mul_left (100 - R 1) (ih (i + 1) (go R S (ds i)))
    have e : c * 100 ^ (m + 1) = R 1 * (c * 100 ^ m) + (100 - R 1) * (c * 100 ^ m) := by
      rw [← Nat.add_mul, show R 1 + (100 - R 1) = 100 by omega, Nat.pow_succ, Nat.mul_comm 100, Nat.mul_assoc]
    omega
def wI (R : Nat → Nat) (u : Nat) : Nat → Nat
  | 0 => 1
  | k + 1 => wI R u k * (if bt u k = true then R 1 else 100 - R 1)
def sI' (R S ds : Nat → Nat) (u : Nat) : Nat → (Nat → Nat)
  | 0 => S
  | k + 1 => if bt u k = true then sI' R S ds u k else go R (sI' R S ds u k) (ds k)
theorem pW_it {ds : Nat → Nat} {f : (Nat → Nat) → Nat} {n u : Nat} : ∀ k, k ≤ n → wI R u k * pW R ds f (n - k) k (sI' R S ds u k) (u / 2 ^ k) = pW R ds f n 0 S u := by
  intro k
  induction k with
  | zero => intro _; show 1 * pW R ds f n 0 S (u / 1) = _; rw [Nat.one_mul, Nat.div_one]
  | succ k ih =>
    intro hk
    rw [← ih (by omega), show n - k = (n - (k + 1)) + 1 by omega]
    show wI R u k * (if bt u k = true then R 1 else 100 - R 1) * pW R ds f (n - (k + 1)) (k + 1) (if bt u k = true then sI' R S ds u k else go R (sI' R S ds u k) (ds k)) (u / 2 ^ (k + 1)) = wI R u k * (if u / 2 ^ k % 2 = 1 then _ else _)
    rw [Nat.div_div_eq_div_mul, ← Nat.pow_succ]
    unfold bt
    by_cases c : u / 2 ^ k % 2 = 1
    · rw [if_pos c, if_pos (by simp [c]), if_pos (by simp [c]), Nat.mul_assoc]
    · rw [if_neg c, if_neg (by simp [c]), if_neg (by simp [c]), Nat.mul_assoc]
theorem pW_end {ds : Nat → Nat} {f : (Nat → Nat) → Nat} {n u : Nat} : pW R ds f n 0 S u = wI R u n * f (sI' R S ds u n) := by
  rw [← pW_it (k := n) (Nat.le_refl _), Nat.sub_self]
  rfl
end ODD
