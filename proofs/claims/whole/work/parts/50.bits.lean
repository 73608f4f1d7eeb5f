/-! ===== pure side: the bits of longs ===== -/
def tb (w : Int64) (k : Nat) : Bool := w.toBitVec.getLsbD k
theorem tb_and (a b : Int64) (k : Nat) : tb (a &&& b) k = (tb a k && tb b k) := by simp [tb]
theorem tb_or (a b : Int64) (k : Nat) : tb (a ||| b) k = (tb a k || tb b k) := by simp [tb]
theorem tb_xor (a b : Int64) (k : Nat) : tb (a ^^^ b) k = (tb a k ^^ tb b k) := by simp [tb]
theorem tb_big {a : Int64} {k : Nat} (h : 64 ≤ k) : tb a k = false := BitVec.getLsbD_of_ge _ _ h
theorem tb_0 (k : Nat) : tb 0 k = false := by
  show (0 : BitVec 64).getLsbD k = false
  simp
theorem tb_m1 : ∀ k, k < 64 → tb (-1) k = true := by decide +kernel
theorem tb_ext {a b : Int64} (h : ∀ k, k < 64 → tb a k = tb b k) : a = b := by
  apply Int64.toBitVec_inj.mp
  exact BitVec.eq_of_getLsbD_eq h
theorem tb_not (a : Int64) {k : Nat} (h : k < 64) : tb (a ^^^ (-1)) k = !tb a k := by
  rw [tb_xor, tb_m1 k h, Bool.xor_true]
theorem sh_cnt : ∀ k, k < 64 → (Int64.toUInt64 (Int32.toInt64 (nI k)) &&& Int64.toUInt64 63).toNat = k := by decide +kernel
theorem tb_ush (w : Int64) {k : Nat} (hk : k < 64) (j : Nat) : tb (UInt64.toInt64 (Int64.toUInt64 w >>> (Int64.toUInt64 (Int32.toInt64 (nI k)) &&& Int64.toUInt64 63))) j = tb w (k + j) := by
  have h := sh_cnt k hk
  generalize Int64.toUInt64 (Int32.toInt64 (nI k)) &&& Int64.toUInt64 63 = s at h
  have e : (w.toUInt64 >>> s).toInt64.toBitVec = w.toBitVec >>> k := by
    apply BitVec.eq_of_toNat_eq
    show (w.toUInt64 >>> s).toNat = _
    rw [UInt64.toNat_shiftRight, h, Nat.mod_eq_of_lt hk, BitVec.toNat_ushiftRight]
    rfl
  unfold tb
  rw [e, BitVec.getLsbD_ushiftRight]
theorem lg_cmp_1 (z : Int64) : lg_cmp z 1 = 0 ↔ z = 1 := by
  unfold lg_cmp
  split
  · rename_i h
    refine ⟨fun q => absurd q (by decide), fun q => ?_⟩
    rw [q] at h
    exact absurd h (by decide)
  · split
    · rename_i h; exact ⟨fun _ => h, fun _ => rfl⟩
    · rename_i h; exact ⟨fun q => absurd q (by decide), fun q => absurd q h⟩
theorem tb_1 : ∀ k, k < 64 → tb 1 k = decide (k = 0) := by decide +kernel
theorem and_1 (z : Int64) : z &&& 1 = 1 ↔ tb z 0 = true := by
  constructor
  · intro h
    have t : tb (z &&& 1) 0 = tb 1 0 := by rw [h]
    rw [tb_and, tb_1 0 (by decide)] at t
    simpa using t
  · intro h
    apply tb_ext
    intro k hk
    rw [tb_and, tb_1 k hk]
    by_cases e : k = 0
    · subst e; rw [h]; rfl
    · simp [e]
/-- bit(w, k) -/
theorem px_bit (N : Nat) (w : Int64) {k : Nat} (hk : k < 64) (σ : Sg) : f_x_bit N w (nI k) σ = some (tb w k, σ) := by
  unfold f_x_bit
  rw [if_neg (nI_pos (by omega)), if_neg (show ¬ (64 : Int32) ≤ nI k from nI_ge (b := 64) hk (by decide))]
  have h := tb_ush w hk 0
  by_cases e : tb w k = true
  · rw [if_pos ((lg_cmp_1 _).mpr ((and_1 _).mpr (by rw [h]; exact e))), e]
  · rw [if_neg (fun q => e (by have := (and_1 _).mp ((lg_cmp_1 _).mp q); rw [h] at this; exact this))]
    cases ht : tb w k
    · rfl
    · exact absurd ht e
/-- cells 0 to k, without k -/
def blw (k : Nat) : Int64 := if k = 0 then 0 else if k < 64 then (1 <<< (Int32.toInt64 (nI k) &&& 63)) - 1 else -1
theorem blw_tb : ∀ k, k < 64 → ∀ j, j < 64 → tb (blw k) j = decide (j < k) := by decide +kernel
theorem px_below (N : Nat) {k : Nat} (hk : k < 64) (σ : Sg) : f_x_below N (nI k) σ = some (blw k, σ) := by
  unfold f_x_below blw
  by_cases h0 : k = 0
  · subst h0
    rw [if_neg (by decide), if_pos rfl]
  · rw [if_pos (show (0 : Int32) < nI k from nI_lt (a := 0) (by omega) (by omega)), if_pos (show nI k < 64 from nI_lt (b := 64) hk (by decide)), if_neg h0, if_pos hk]
