/-! ===== bits of ints ===== -/
def uM (x : Int32) : Nat := x.toBitVec.toNat
theorem uM_lt (x : Int32) : uM x < 4294967296 := x.toBitVec.isLt
theorem uM_i {m : Nat} (h : m < 2147483648) : uM (iI (m : Int)) = m := by
  show (BitVec.ofInt 32 (m : Int)).toNat = m
  rw [BitVec.ofInt_natCast, BitVec.toNat_ofNat]
  omega
theorem uM_inj {x y : Int32} (h : uM x = uM y) : x = y := Int32.toBitVec_inj.mp (BitVec.eq_of_toNat_eq h)
theorem uM_add (x y : Int32) : uM (x + y) = (uM x + uM y) % 4294967296 := by
  unfold uM
  rw [Int32.toBitVec_add, BitVec.toNat_add]
theorem uM_sub {x y : Int32} (h : uM y ≤ uM x) : uM (x - y) = uM x - uM y := by
  have h1 := uM_lt x
  have h2 := uM_lt y
  unfold uM at *
  rw [Int32.toBitVec_sub, BitVec.toNat_sub]
  omega
theorem uM_and (x y : Int32) : uM (x &&& y) = uM x &&& uM y := by
  show (x.toBitVec &&& y.toBitVec).toNat = _
  rw [BitVec.toNat_and]
  rfl
theorem uM_or (x y : Int32) : uM (x ||| y) = uM x ||| uM y := by
  show (x.toBitVec ||| y.toBitVec).toNat = _
  rw [BitVec.toNat_or]
  rfl
theorem uM_xor (x y : Int32) : uM (x ^^^ y) = uM x ^^^ uM y := by
  show (x.toBitVec ^^^ y.toBitVec).toNat = _
  rw [BitVec.toNat_xor]
  rfl
theorem uM_ush (w s : Int32) {k : Nat} (hk : (Int32.toUInt32 s &&& Int32.toUInt32 31).toNat = k) (h32 : k < 32) : uM ((w.toUInt32 >>> (Int32.toUInt32 s &&& Int32.toUInt32 31)).toInt32) = uM w / 2 ^ k := by
  show (w.toUInt32 >>> (Int32.toUInt32 s &&& Int32.toUInt32 31)).toNat = _
  rw [UInt32.toNat_shiftRight, hk, Nat.mod_eq_of_lt h32, Nat.shiftRight_eq_div_pow]
  rfl
theorem iI_or {x y : Nat} (hx : x < 2147483648) (hy : y < 2147483648) : iI (x : Int) ||| iI (y : Int) = iI ((x ||| y : Nat) : Int) := by
  refine uM_inj ?_
  have h : x ||| y < 2 ^ 31 := Nat.or_lt_two_pow (by omega) (by omega)
  rw [uM_or, uM_i hx, uM_i hy, uM_i (by omega)]
theorem iI_and {x y : Nat} (hx : x < 2147483648) (hy : y < 2147483648) : iI (x : Int) &&& iI (y : Int) = iI ((x &&& y : Nat) : Int) := by
  refine uM_inj ?_
  have h : x &&& y < 2 ^ 31 := Nat.and_lt_two_pow x (by omega)
  rw [uM_and, uM_i hx, uM_i hy, uM_i (by omega)]
theorem iI_or_pow {a k : Nat} (hk : k < 31) (ha : a < 2 ^ k) : iI (a : Int) ||| ((1 : Int32) <<< (iI (k : Int) &&& 31)) = iI ((a + 2 ^ k : Nat) : Int) := by
  have h2 : 2 ^ k < 2147483648 := by
    have : 2 ^ k ≤ 2 ^ 30 := Nat.pow_le_pow_right (by omega) (by omega)
    omega
  rw [shl_1 k hk, iI_or (by omega) h2]
  have e := Nat.two_pow_add_eq_or_of_lt ha 1
  rw [Nat.mul_one] at e
  rw [Nat.or_comm, ← e, Nat.add_comm]
def q1 (v : Int32) : Int32 := v - (((v.toUInt32 >>> (Int32.toUInt32 1 &&& Int32.toUInt32 31)).toInt32) &&& 1431655765)
def q2 (v : Int32) : Int32 := (v &&& 858993459) + (((v.toUInt32 >>> (Int32.toUInt32 2 &&& Int32.toUInt32 31)).toInt32) &&& 858993459)
def q3 (v : Int32) : Int32 := (v + ((v.toUInt32 >>> (Int32.toUInt32 4 &&& Int32.toUInt32 31)).toInt32)) &&& 252645135
def q4 (k v : Int32) : Int32 := v + ((v.toUInt32 >>> (Int32.toUInt32 k &&& Int32.toUInt32 31)).toInt32)
theorem ji_form (N : Nat) (v : Int32) (σ : Sg) : f_ji_bitCount N v σ = some ((q4 16 (q4 8 (q3 (q2 (q1 v))))) &&& 63, σ) := by
  unfold f_ji_bitCount q4 q3 q2 q1
  rfl
theorem px_ibit (N : Nat) {m : Nat} (hm : m < 65536) (σ : Sg) : f_ji_bitCount N (iI (m : Int)) σ = some (iI (cnt m.testBit 16 : Int), σ) := by
  rw [ji_form]
  have hl : m % 256 < 256 := Nat.mod_lt _ (by decide)
  have hh : m / 2 ^ 8 % 256 < 256 := Nat.mod_lt _ (by decide)
  have c1 : cnt m.testBit 16 = cnt m.testBit 8 + g8 (m / 2 ^ 8 % 256) := by rw [← show cnt (fun k => m.testBit (8 + k)) 8 = g8 (m / 2 ^ 8 % 256) from cnt_8 m 1]; exact cnt_add m.testBit 8 8
  have c0 : cnt m.testBit 8 = g8 (m % 256) := by
    have h := cnt_8 m 0
    rw [Nat.mul_zero, Nat.pow_zero, Nat.div_one] at h
    rw [← h]
    exact cnt_cong (fun k _ => by rw [Nat.zero_add])
  have hv : m = vl [m % 256, m / 2 ^ 8 % 256, 0, 0] := by simp only [vl]; omega
  generalize m % 256 = l at *
  generalize m / 2 ^ 8 % 256 = h at *
  obtain ⟨gl1, gl2, gl3, gl4, _⟩ := g8_ok l hl
  obtain ⟨gh1, gh2, gh3, gh4, _⟩ := g8_ok h hh
  have M55 : mk8 0x55 4 = 1431655765 := by decide
  have M33 : mk8 0x33 4 = 858993459 := by decide
  have M0f : mk8 0x0f 4 = 252645135 := by decide
  have u0 : uM (iI (m : Int)) = vl [l, h, 0, 0] := by rw [uM_i (by omega)]; exact hv
  generalize iI (m : Int) = v at u0
  have u1 : uM (q1 v) = vl [n1 l 0x55, n1 h 0x55, 0, 0] := by
    have e := uM_ush v 1 (k := 1) (by decide) (by decide)
    have e2 : uM (((v.toUInt32 >>> (Int32.toUInt32 1 &&& Int32.toUInt32 31)).toInt32) &&& 1431655765) = (uM v / 2 &&& mk8 0x55 4) := by
      rw [uM_and, e, M55]; rfl
    unfold q1
    rw [uM_sub (by rw [e2]; exact Nat.le_trans Nat.and_le_left (by omega)), e2, u0]
    exact L1 [l, h, 0, 0] (by intro b hb; simp at hb; omega)
  have u2 : uM (q2 (q1 v)) = vl [n2 (n1 l 0x55) 0x33, n2 (n1 h 0x55) 0x33, 0, 0] := by
    have e := uM_ush (q1 v) 2 (k := 2) (by decide) (by decide)
    have e2 : uM ((((q1 v).toUInt32 >>> (Int32.toUInt32 2 &&& Int32.toUInt32 31)).toInt32) &&& 858993459) = (uM (q1 v) / 4 &&& mk8 0x33 4) := by
      rw [uM_and, e, M33]; rfl
    have e3 : uM (q1 v &&& 858993459) = (uM (q1 v) &&& mk8 0x33 4) := by rw [uM_and, M33]; rfl
    unfold q2
    rw [uM_add, e2, e3, u1]
    have hL := L2 [n1 l 0x55, n1 h 0x55, 0, 0] (by intro b hb; simp at hb; omega)
    have h1 : vl [n1 l 0x55, n1 h 0x55, 0, 0] &&& mk8 0x33 4 ≤ mk8 0x33 4 := Nat.and_le_right
    have h2 : vl [n1 l 0x55, n1 h 0x55, 0, 0] / 4 &&& mk8 0x33 4 ≤ mk8 0x33 4 := Nat.and_le_right
    rw [Nat.mod_eq_of_lt (by rw [M33] at *; omega)]
    exact hL
  have u3 : uM (q3 (q2 (q1 v))) = vl [g8 l, g8 h, 0, 0] := by
    have e := uM_ush (q2 (q1 v)) 4 (k := 4) (by decide) (by decide)
    unfold q3
    rw [uM_and, uM_add, e, u2]
    have hb : vl [n2 (n1 l 0x55) 0x33, n2 (n1 h 0x55) 0x33, 0, 0] ≤ 17476 := by simp only [vl]; omega
    rw [Nat.mod_eq_of_lt (by omega), show uM 252645135 = mk8 0x0f 4 by rw [M0f]; rfl]
    exact L3 [n2 (n1 l 0x55) 0x33, n2 (n1 h 0x55) 0x33, 0, 0] (by intro b hb; simp at hb; omega)
  generalize q3 (q2 (q1 v)) = y at u3
  have u3' : uM y = 256 * g8 h + g8 l := by rw [u3]; simp only [vl]; omega
  have e4 : uM (q4 8 y) = 256 * g8 h + g8 l + g8 h := by
    unfold q4
    rw [uM_add, uM_ush y 8 (k := 8) (by decide) (by decide), u3']
    omega
  have e5 : uM (q4 16 (q4 8 y)) = 256 * g8 h + g8 l + g8 h := by
    have e := uM_ush (q4 8 y) 16 (k := 16) (by decide) (by decide)
    show uM (q4 8 y + _) = _
    rw [uM_add, e, e4, Nat.div_eq_of_lt (show 256 * g8 h + g8 l + g8 h < 2 ^ 16 by omega)]
    omega
  congr 2
  refine uM_inj ?_
  rw [uM_and, e5, show uM 63 = 2 ^ 6 - 1 from rfl, Nat.and_two_pow_sub_one_eq_mod, c1, c0, uM_i (by omega)]
  omega
/-- the sets that are so, as bits -/
def msk (p : Nat → Bool) : Nat → Nat
  | 0 => 0
  | n + 1 => msk p n + (if p n = true then 2 ^ n else 0)
theorem msk_s {p : Nat → Bool} {n : Nat} : msk p (n + 1) = msk p n + (if p n = true then 2 ^ n else 0) := rfl
theorem msk_lt (p : Nat → Bool) : ∀ n, msk p n < 2 ^ n := by
  intro n
  induction n with
  | zero => show 0 < 1; omega
  | succ n ih =>
    rw [msk_s, Nat.pow_succ]
    split <;> omega
theorem msk_bit (p : Nat → Bool) : ∀ n k, (msk p n).testBit k = (decide (k < n) && p k) := by
  intro n
  induction n with
  | zero => intro k; show (0 : Nat).testBit k = _; simp
  | succ n ih =>
    intro k
    have hl := msk_lt p n
    rw [msk_s]
    by_cases hp : p n = true
    · rw [if_pos hp, Nat.add_comm]
      by_cases c1 : k = n
      · subst c1
        rw [Nat.testBit_two_pow_add_eq, Nat.testBit_lt_two_pow hl, hp]; simp
      · by_cases c2 : k < n
        · rw [Nat.testBit_two_pow_add_gt c2, ih]
          simp [c2, show k < n + 1 by omega]
        · rw [Nat.testBit_lt_two_pow (Nat.lt_of_lt_of_le (show 2 ^ n + msk p n < 2 ^ (n + 1) by rw [Nat.pow_succ]; omega) (Nat.pow_le_pow_right (by omega) (by omega)))]
          simp [show ¬ k < n + 1 by omega]
    · rw [if_neg hp, Nat.add_zero, ih]
      by_cases c1 : k = n
      · subst c1; simp [hp]
      · by_cases c2 : k < n
        · simp [c2, show k < n + 1 by omega]
        · simp [c2, show ¬ k < n + 1 by omega]
theorem msk_cnt {p : Nat → Bool} {n : Nat} (hn : n ≤ 16) : cnt (msk p n).testBit 16 = cnt p n := by
  rw [cnt_le_of (p := (msk p n).testBit) hn (fun k h1 h2 => by rw [msk_bit]; simp; omega)]
  refine cnt_cong (fun k hk => ?_)
  rw [msk_bit, decide_eq_true hk, Bool.true_and]
