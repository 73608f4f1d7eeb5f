/-! ===== bits of small numbers ===== -/
theorem shr_bit : ∀ s, s < 1024 → ∀ k, k < 11 → (iI ((s : Nat) : Int) >>> (iI ((k : Nat) : Int) &&& 31)) &&& 1 = iI ((s / 2 ^ k % 2 : Nat) : Int) := by decide +kernel
theorem shl_1 : ∀ n, n < 31 → (1 : Int32) <<< (iI ((n : Nat) : Int) &&& 31) = iI ((2 ^ n : Nat) : Int) := by decide +kernel
theorem or_shl : ∀ k, k < 10 → ∀ a, a < 2 ^ k → iI ((a : Nat) : Int) ||| (iI 1 <<< (iI ((k : Nat) : Int) &&& 31)) = iI ((a + 2 ^ k : Nat) : Int) := by decide +kernel
theorem or_sh0 : ∀ k, k < 10 → ∀ a, a < 2 ^ k → iI ((a : Nat) : Int) ||| (iI 0 <<< (iI ((k : Nat) : Int) &&& 31)) = iI ((a : Nat) : Int) := by decide +kernel
theorem tb_i32 {p k : Nat} (hp : p < 2147483648) : tb (Int32.toInt64 (iI (p : Int))) k = (decide (k < 64) && p.testBit k) := by
  have e : Int32.toInt64 (iI (p : Int)) = Int64.ofInt (p : Int) := by
    rw [← Int64.ofInt_int32ToInt, iI_toInt (by omega) (by omega)]
  unfold tb
  rw [e]
  show (BitVec.ofInt 64 (p : Int)).getLsbD k = _
  rw [BitVec.ofInt_natCast, BitVec.getLsbD_ofNat]
def pth : Nat → Nat → Nat
  | 0, _ => 0
  | m + 1, h => pth m (h / 2) + (h % 2) * 2 ^ m
theorem pth_lt : ∀ m h, pth m h < 2 ^ m := by
  intro m
  induction m with
  | zero => intro h; unfold pth; omega
  | succ m ih =>
    intro h
    unfold pth
    have h1 := ih (h / 2)
    have h2 : h % 2 = 0 ∨ h % 2 = 1 := by omega
    rw [Nat.pow_succ]
    rcases h2 with e | e <;> rw [e] <;> omega
theorem pth_bit : ∀ n, n < 11 → ∀ s, s < 2 ^ n → ∀ i, i < n → (pth n s).testBit i = s.testBit (n - 1 - i) := by decide +kernel
theorem set_bit : ∀ s, s < 1024 → ∀ k, k < 11 → s.testBit k = decide (s / 2 ^ k % 2 = 1) := by decide +kernel
