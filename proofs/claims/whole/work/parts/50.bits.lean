/-! ===== pure side: the bits of longs ===== -/
def tb (w : Int64) (k : Nat) : Bool := w.toBitVec.getLsbD k
theorem tb_and (a b : Int64) (k : Nat) : tb (a &&& b) k = (tb a k && tb b k) := by simp [tb]
theorem tb_or (a b : Int64) (k : Nat) : tb (a ||| b) k = (tb a k || tb b k) := by simp [tb]
theorem tb_xor (a b : Int64) (k : Nat) : tb (a ^^^ b) k = (tb a k ^^ tb b k) := by simp [tb]
theorem tb_big {a : Int64} {k : Nat} (h : 64 ≤ k) : tb a k = false := BitVec.getLsbD_of_ge _ _ h
theorem tb_0 (k : Nat) : tb 0 k = false := by
  show (0 : BitVec 64).getLsbD k = false
  simp
theorem tb_m1 : ∀ k, k < 64 → tb (-1) k = true := by decide +kernel
theorem tb_ext {a b : Int64} (h : ∀ k, k < 64 → tb a k = tb b k) : a = b := by
  apply Int64.toBitVec_inj.mp
  exact BitVec.eq_of_getLsbD_eq h
theorem tb_not (a : Int64) {k : Nat} (h : k < 64) : tb (a ^^^ (-1)) k = !tb a k := by
  rw [tb_xor, tb_m1 k h, Bool.xor_true]
