/-! ===== pure side: bits of cells ===== -/
def tbz (w : Int64) (z : Int) : Bool := decide (0 ≤ z) && tb w z.toNat
theorem px_bitz (N : Nat) (w : Int64) {z : Int} (h1 : -2147483648 ≤ z) (h2 : z < 2147483648) (σ : Sg) : f_x_bit N w (iI z) σ = some (tbz w z, σ) := by
  by_cases h0 : z < 0
  · unfold f_x_bit
    simp (disch := omega) only [nI_iI, iI_lit, iI_neg, iI_add, iI_sub, iI_mul, iI_lt, iI_le, iI_eq, vin_iI, gA_iI, sA_iI, gM_iI, sM_iI]
    rw [if_pos h0]
    simp [tbz, show ¬ 0 ≤ z by omega]
  · by_cases h64 : 64 ≤ z
    · unfold f_x_bit
      simp (disch := omega) only [nI_iI, iI_lit, iI_neg, iI_add, iI_sub, iI_mul, iI_lt, iI_le, iI_eq, vin_iI, gA_iI, sA_iI, gM_iI, sM_iI]
      rw [if_neg h0, if_pos h64]
      simp [tbz, tb_big (a := w) (k := z.toNat) (by omega)]
    · have h := px_bit N w (k := z.toNat) (by omega) σ
      rw [nI_iI, show ((z.toNat : Nat) : Int) = z by omega] at h
      rw [h]
      simp [tbz, show 0 ≤ z by omega]
theorem px_bitN (N : Nat) (w : Int64) {k : Nat} (h2 : k < 2147483648) (σ : Sg) : f_x_bit N w (iI (k : Int)) σ = some (tb w k, σ) := by
  rw [px_bitz N w (by omega) (by omega)]
  simp [tbz]
theorem px_belowN (N : Nat) {k : Nat} (hk : k < 64) (σ : Sg) : f_x_below N (iI (k : Int)) σ = some (blw k, σ) := by
  rw [← nI_iI]
  exact px_below N hk σ
def insN (a b : Nat) : Int64 := blw (max a b) &&& (blw (min a b + 1) ^^^ (-1))
def spnN (a b : Nat) : Int64 := blw (max a b + 1) &&& (blw (min a b) ^^^ (-1))
theorem px_inside (N : Nat) {a b : Nat} (ha : a < 63) (hb : b < 63) (σ : Sg) : f_x_inside N (iI (a : Int)) (iI (b : Int)) σ = some (insN a b, σ) := by
  unfold f_x_inside
  rw [jmax_iI (by omega) (by omega) (by omega) (by omega), jmin_iI (by omega) (by omega) (by omega) (by omega), show max (a : Int) (b : Int) = ((max a b : Nat) : Int) by omega, show (1 : Int32) = iI 1 from rfl, iI_add, show min (a : Int) (b : Int) + 1 = ((min a b + 1 : Nat) : Int) by omega, px_belowN N (by omega), Option.bind_some, px_belowN N (by omega), Option.bind_some]
  rfl
theorem px_span (N : Nat) {a b : Nat} (ha : a < 63) (hb : b < 63) (σ : Sg) : f_x_span N (iI (a : Int)) (iI (b : Int)) σ = some (spnN a b, σ) := by
  unfold f_x_span
  rw [jmax_iI (by omega) (by omega) (by omega) (by omega), jmin_iI (by omega) (by omega) (by omega) (by omega), show (1 : Int32) = iI 1 from rfl, iI_add, show max (a : Int) (b : Int) + 1 = ((max a b + 1 : Nat) : Int) by omega, show min (a : Int) (b : Int) = ((min a b : Nat) : Int) by omega, px_belowN N (by omega), Option.bind_some, px_belowN N (by omega), Option.bind_some]
  rfl
theorem tb_ins {a b : Nat} (ha : a < 63) (hb : b < 63) (k : Nat) : tb (insN a b) k = decide (min a b < k ∧ k < max a b) := by
  by_cases hk : k < 64
  · unfold insN
    rw [tb_and, tb_not _ hk, blw_tb _ (by omega) _ hk, blw_tb _ (by omega) _ hk]
    by_cases h1 : k < max a b <;> by_cases h2 : k < min a b + 1 <;> simp [h1, h2] <;> omega
  · rw [tb_big (by omega)]
    simp only [Bool.false_eq, decide_eq_false_iff_not]
    omega
theorem tb_spn {a b : Nat} (ha : a < 63) (hb : b < 63) (k : Nat) : tb (spnN a b) k = decide (min a b ≤ k ∧ k ≤ max a b) := by
  by_cases hk : k < 64
  · unfold spnN
    rw [tb_and, tb_not _ hk, blw_tb _ (by omega) _ hk, blw_tb _ (by omega) _ hk]
    by_cases h1 : k < max a b + 1 <;> by_cases h2 : k < min a b <;> simp [h1, h2] <;> omega
  · rw [tb_big (by omega)]
    simp only [Bool.false_eq, decide_eq_false_iff_not]
    omega
theorem tb_blw {n : Nat} (h : n < 64) (k : Nat) : tb (blw n) k = decide (k < n) := by
  by_cases hk : k < 64
  · exact blw_tb n h k hk
  · rw [tb_big (by omega)]
    simp only [Bool.false_eq, decide_eq_false_iff_not]
    omega
theorem tb_nt (a : Int64) (k : Nat) : tb (a ^^^ (-1)) k = (decide (k < 64) && !tb a k) := by
  by_cases hk : k < 64
  · rw [tb_not a hk]; simp [hk]
  · rw [tb_big (by omega)]; simp [hk]
theorem lg_cmp_0 (z y : Int64) : lg_cmp z y = 0 ↔ z = y := by
  unfold lg_cmp
  split
  · rename_i h
    refine ⟨fun q => absurd q (by decide), fun q => ?_⟩
    rw [q] at h
    exact absurd h Int64.lt_irrefl
  · split
    · rename_i h; exact ⟨fun _ => h, fun _ => rfl⟩
    · rename_i h; exact ⟨fun q => absurd q (by decide), fun q => absurd q h⟩
theorem tb_ext' {a b : Int64} (h : tb a = tb b) : a = b := tb_ext (fun k _ => congrFun h k)
theorem tb_shl1 (w : Int64) (k : Nat) : tb (w <<< (Int32.toInt64 1 &&& 63)) k = (decide (0 < k ∧ k < 64) && tb w (k - 1)) := by
  have e : (w <<< (Int32.toInt64 1 &&& 63)).toBitVec = w.toBitVec <<< 1 := by
    rw [Int64.toBitVec_shiftLeft]
    rfl
  unfold tb
  rw [e, BitVec.getLsbD_shiftLeft]
  by_cases h1 : k < 64 <;> by_cases h2 : k < 1 <;> simp [h1, h2] <;> omega
theorem tb_shr1 (w : Int64) (k : Nat) : tb (UInt64.toInt64 (Int64.toUInt64 w >>> (Int64.toUInt64 (Int32.toInt64 1) &&& Int64.toUInt64 63))) k = tb w (k + 1) := by
  have h := tb_ush w (k := 1) (by decide) k
  rw [Nat.add_comm] at h
  exact h
