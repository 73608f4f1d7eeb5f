/-! ===== pure side: Long.bitCount, Integer.bitCount ===== -/
def uN (x : Int64) : Nat := x.toBitVec.toNat
theorem uN_lt (x : Int64) : uN x < 18446744073709551616 := x.toBitVec.isLt
theorem uN_add (x y : Int64) : uN (x + y) = (uN x + uN y) % 18446744073709551616 := by
  unfold uN
  rw [Int64.toBitVec_add, BitVec.toNat_add]
theorem uN_sub {x y : Int64} (h : uN y ≤ uN x) : uN (x - y) = uN x - uN y := by
  have h1 := uN_lt x
  have h2 := uN_lt y
  unfold uN at *
  rw [Int64.toBitVec_sub, BitVec.toNat_sub]
  omega
theorem uN_and (x y : Int64) : uN (x &&& y) = uN x &&& uN y := by
  unfold uN
  rw [Int64.toBitVec_and, BitVec.toNat_and]
theorem uN_ush (w : Int64) {k : Nat} (hk : k < 64) : uN (UInt64.toInt64 (Int64.toUInt64 w >>> (Int64.toUInt64 (Int32.toInt64 (nI k)) &&& Int64.toUInt64 63))) = uN w / 2 ^ k := by
  have h := sh_cnt k hk
  generalize Int64.toUInt64 (Int32.toInt64 (nI k)) &&& Int64.toUInt64 63 = s at h
  show (w.toUInt64 >>> s).toNat = _
  rw [UInt64.toNat_shiftRight, h, Nat.mod_eq_of_lt hk, Nat.shiftRight_eq_div_pow]
  rfl
theorem tb_uN (w : Int64) (k : Nat) : tb w k = (uN w).testBit k := rfl
def vl : List Nat → Nat
  | [] => 0
  | b :: r => 256 * vl r + b
def mk8 (m : Nat) : Nat → Nat
  | 0 => 0
  | n + 1 => 256 * mk8 m n + m
theorem and_spl {h l H L : Nat} (hl : l < 256) (hL : L < 256) : (256 * h + l) &&& (256 * H + L) = 256 * (h &&& H) + (l &&& L) := by
  have e1 := Nat.and_div_two_pow (a := 256 * h + l) (b := 256 * H + L) (n := 8)
  have e2 := Nat.and_mod_two_pow (a := 256 * h + l) (b := 256 * H + L) (n := 8)
  rw [show (2 : Nat) ^ 8 = 256 from rfl] at e1 e2
  rw [show (256 * h + l) / 256 = h by omega, show (256 * H + L) / 256 = H by omega] at e1
  rw [show (256 * h + l) % 256 = l by omega, show (256 * H + L) % 256 = L by omega] at e2
  omega
def n1 (x M : Nat) : Nat := x - (x / 2 &&& M)
def n2 (x M : Nat) : Nat := (x &&& M) + (x / 4 &&& M)
def n3 (x M : Nat) : Nat := (x + x / 16) &&& M
theorem d1 : ∀ l, l < 256 → ∀ c, c < 2 → ((c * 128 + l / 2) &&& 0x55) = (l / 2 &&& 0x55) := by decide +kernel
theorem d2 : ∀ l, l < 256 → ∀ c, c < 4 → ((c * 64 + l / 4) &&& 0x33) = (l / 4 &&& 0x33) := by decide +kernel
theorem d3 : ∀ l, l < 256 → ∀ c, c < 5 → ((l + c * 16 + l / 16) &&& 0x0f) = ((l + l / 16) &&& 0x0f) := by decide +kernel
theorem L1 : ∀ bs : List Nat, (∀ b ∈ bs, b < 256) → n1 (vl bs) (mk8 0x55 bs.length) = vl (bs.map (fun b => n1 b 0x55)) := by
  intro bs
  induction bs with
  | nil => intro _; rfl
  | cons b r ih =>
    intro h
    have hb := h b List.mem_cons_self
    have ih := ih (fun c hc => h c (List.mem_cons_of_mem _ hc))
    simp only [vl, mk8, List.length_cons, List.map_cons]
    rw [← ih]
    unfold n1
    have e : (256 * vl r + b) / 2 = 256 * (vl r / 2) + (vl r % 2 * 128 + b / 2) := by omega
    rw [e, and_spl (by omega) (by decide), d1 b hb _ (by omega)]
    have h1 : vl r / 2 &&& mk8 0x55 r.length ≤ vl r := Nat.le_trans Nat.and_le_left (by omega)
    have h2 : b / 2 &&& 0x55 ≤ b := Nat.le_trans Nat.and_le_left (by omega)
    omega
theorem L2 : ∀ bs : List Nat, (∀ b ∈ bs, b < 256) → n2 (vl bs) (mk8 0x33 bs.length) = vl (bs.map (fun b => n2 b 0x33)) := by
  intro bs
  induction bs with
  | nil => intro _; rfl
  | cons b r ih =>
    intro h
    have hb := h b List.mem_cons_self
    have ih := ih (fun c hc => h c (List.mem_cons_of_mem _ hc))
    simp only [vl, mk8, List.length_cons, List.map_cons]
    rw [← ih]
    unfold n2
    have e : (256 * vl r + b) / 4 = 256 * (vl r / 4) + (vl r % 4 * 64 + b / 4) := by omega
    rw [e, and_spl hb (by decide), and_spl (by omega) (by decide), d2 b hb _ (by omega)]
    omega
theorem L3 : ∀ bs : List Nat, (∀ b ∈ bs, b ≤ 68 ∧ b % 16 ≤ 4) → n3 (vl bs) (mk8 0x0f bs.length) = vl (bs.map (fun b => n3 b 0x0f)) := by
  intro bs
  induction bs with
  | nil => intro _; rfl
  | cons b r ih =>
    intro h
    have hb := h b List.mem_cons_self
    have hr : vl r % 16 ≤ 4 := by
      cases r with
      | nil => simp [vl]
      | cons c r =>
        have := h c (List.mem_cons_of_mem _ List.mem_cons_self)
        simp only [vl]
        omega
    have ih := ih (fun c hc => h c (List.mem_cons_of_mem _ hc))
    simp only [vl, mk8, List.length_cons, List.map_cons]
    rw [← ih]
    unfold n3
    have e : 256 * vl r + b + (256 * vl r + b) / 16 = 256 * (vl r + vl r / 16) + (b + vl r % 16 * 16 + b / 16) := by omega
    rw [e, and_spl (by omega) (by decide), d3 b (by omega) _ (by omega)]
def g8 (b : Nat) : Nat := n3 (n2 (n1 b 0x55) 0x33) 0x0f
theorem g8_ok : ∀ b, b < 256 → n1 b 0x55 < 256 ∧ n2 (n1 b 0x55) 0x33 ≤ 68 ∧ n2 (n1 b 0x55) 0x33 % 16 ≤ 4 ∧ g8 b ≤ 8 ∧ g8 b = cnt b.testBit 8 := by decide +kernel
def p1 (v : Int64) : Int64 := v - ((UInt64.toInt64 (Int64.toUInt64 v >>> (Int64.toUInt64 (Int32.toInt64 1) &&& Int64.toUInt64 63))) &&& 6148914691236517205)
def p2 (v : Int64) : Int64 := (v &&& 3689348814741910323) + ((UInt64.toInt64 (Int64.toUInt64 v >>> (Int64.toUInt64 (Int32.toInt64 2) &&& Int64.toUInt64 63))) &&& 3689348814741910323)
def p3 (v : Int64) : Int64 := (v + (UInt64.toInt64 (Int64.toUInt64 v >>> (Int64.toUInt64 (Int32.toInt64 4) &&& Int64.toUInt64 63)))) &&& 1085102592571150095
def p4 (k : Int32) (v : Int64) : Int64 := v + (UInt64.toInt64 (Int64.toUInt64 v >>> (Int64.toUInt64 (Int32.toInt64 k) &&& Int64.toUInt64 63)))
theorem bc_form (N : Nat) (v : Int64) (σ : Sg) : f_jl_bitCount N v σ = some ((Int64.toInt32 (p4 32 (p4 16 (p4 8 (p3 (p2 (p1 v))))))) &&& 127, σ) := by
  unfold f_jl_bitCount p4 p3 p2 p1
  rfl
theorem uN_p1 (v : Int64) : uN (p1 v) = n1 (uN v) (mk8 0x55 8) := by
  have e := uN_ush v (k := 1) (by decide)
  have e2 : uN ((UInt64.toInt64 (Int64.toUInt64 v >>> (Int64.toUInt64 (Int32.toInt64 1) &&& Int64.toUInt64 63))) &&& 6148914691236517205) = (uN v / 2 &&& mk8 0x55 8) := by
    rw [uN_and]
    exact congrArg (fun z => z &&& mk8 0x55 8) e
  unfold p1 n1
  rw [uN_sub (by rw [e2]; exact Nat.le_trans Nat.and_le_left (by omega)), e2]
theorem uN_p2 {v : Int64} (h : uN v < 18446744073709551616) : uN (p2 v) = n2 (uN v) (mk8 0x33 8) := by
  have e := uN_ush v (k := 2) (by decide)
  have e2 : uN ((UInt64.toInt64 (Int64.toUInt64 v >>> (Int64.toUInt64 (Int32.toInt64 2) &&& Int64.toUInt64 63))) &&& 3689348814741910323) = (uN v / 4 &&& mk8 0x33 8) := by
    rw [uN_and]
    exact congrArg (fun z => z &&& mk8 0x33 8) e
  have e3 : uN (v &&& 3689348814741910323) = (uN v &&& mk8 0x33 8) := uN_and _ _
  unfold p2 n2
  rw [uN_add, e2, e3]
  have h1 : uN v &&& mk8 0x33 8 ≤ mk8 0x33 8 := Nat.and_le_right
  have h2 : uN v / 4 &&& mk8 0x33 8 ≤ mk8 0x33 8 := Nat.and_le_right
  have h3 : mk8 0x33 8 = 3689348814741910323 := by decide +kernel
  omega
theorem uN_p3 {v : Int64} (h : uN v < 9223372036854775808) : uN (p3 v) = n3 (uN v) (mk8 0x0f 8) := by
  have e := uN_ush v (k := 4) (by decide)
  unfold p3 n3
  rw [uN_and, uN_add]
  have e : uN (UInt64.toInt64 (Int64.toUInt64 v >>> (Int64.toUInt64 (Int32.toInt64 4) &&& Int64.toUInt64 63))) = uN v / 16 := e
  rw [e, Nat.mod_eq_of_lt (by omega)]
  rfl
theorem uN_p4 {v : Int64} {k : Nat} (hk : k < 64) (h : uN v + uN v / 2 ^ k < 18446744073709551616) : uN (p4 (nI k) v) = uN v + uN v / 2 ^ k := by
  unfold p4
  rw [uN_add, uN_ush v hk, Nat.mod_eq_of_lt h]
theorem cnt_8 (x i : Nat) : cnt (fun k => x.testBit (8 * i + k)) 8 = g8 (x / 2 ^ (8 * i) % 256) := by
  rw [(g8_ok _ (Nat.mod_lt _ (by decide))).2.2.2.2]
  apply cnt_cong
  intro k hk
  rw [show (256 : Nat) = 2 ^ 8 from rfl, Nat.testBit_mod_two_pow, Nat.testBit_div_two_pow]
  simp [hk, Nat.add_comm]
theorem cnt_64 (x : Nat) : cnt x.testBit 64 = g8 (x % 256) + g8 (x / 2 ^ 8 % 256) + g8 (x / 2 ^ 16 % 256) + g8 (x / 2 ^ 24 % 256) + g8 (x / 2 ^ 32 % 256) + g8 (x / 2 ^ 40 % 256) + g8 (x / 2 ^ 48 % 256) + g8 (x / 2 ^ 56 % 256) := by
  have c7 : cnt x.testBit 64 = cnt x.testBit 56 + g8 (x / 2 ^ 56 % 256) := by rw [← show cnt (fun k => x.testBit (56 + k)) 8 = g8 (x / 2 ^ 56 % 256) from cnt_8 x 7]; exact cnt_add x.testBit 56 8
  have c6 : cnt x.testBit 56 = cnt x.testBit 48 + g8 (x / 2 ^ 48 % 256) := by rw [← show cnt (fun k => x.testBit (48 + k)) 8 = g8 (x / 2 ^ 48 % 256) from cnt_8 x 6]; exact cnt_add x.testBit 48 8
  have c5 : cnt x.testBit 48 = cnt x.testBit 40 + g8 (x / 2 ^ 40 % 256) := by rw [← show cnt (fun k => x.testBit (40 + k)) 8 = g8 (x / 2 ^ 40 % 256) from cnt_8 x 5]; exact cnt_add x.testBit 40 8
  have c4 : cnt x.testBit 40 = cnt x.testBit 32 + g8 (x / 2 ^ 32 % 256) := by rw [← show cnt (fun k => x.testBit (32 + k)) 8 = g8 (x / 2 ^ 32 % 256) from cnt_8 x 4]; exact cnt_add x.testBit 32 8
  have c3 : cnt x.testBit 32 = cnt x.testBit 24 + g8 (x / 2 ^ 24 % 256) := by rw [← show cnt (fun k => x.testBit (24 + k)) 8 = g8 (x / 2 ^ 24 % 256) from cnt_8 x 3]; exact cnt_add x.testBit 24 8
  have c2 : cnt x.testBit 24 = cnt x.testBit 16 + g8 (x / 2 ^ 16 % 256) := by rw [← show cnt (fun k => x.testBit (16 + k)) 8 = g8 (x / 2 ^ 16 % 256) from cnt_8 x 2]; exact cnt_add x.testBit 16 8
  have c1 : cnt x.testBit 16 = cnt x.testBit 8 + g8 (x / 2 ^ 8 % 256) := by rw [← show cnt (fun k => x.testBit (8 + k)) 8 = g8 (x / 2 ^ 8 % 256) from cnt_8 x 1]; exact cnt_add x.testBit 8 8
  have c0 : cnt x.testBit 8 = g8 (x % 256) := by
    have h := cnt_8 x 0
    rw [Nat.mul_zero, Nat.pow_zero, Nat.div_one] at h
    rw [← h]
    exact cnt_cong (fun k _ => by rw [Nat.zero_add])
  rw [c7, c6, c5, c4, c3, c2, c1, c0]
theorem px_bitCount (N : Nat) (w : Int64) (σ : Sg) : f_jl_bitCount N w σ = some (iI (cnt (tb w) 64), σ) := by
  rw [bc_form]
  have hx := uN_lt w
  have hc : cnt (tb w) 64 = cnt (uN w).testBit 64 := rfl
  have hx0 : uN w = vl [uN w % 256, uN w / 2 ^ 8 % 256, uN w / 2 ^ 16 % 256, uN w / 2 ^ 24 % 256, uN w / 2 ^ 32 % 256, uN w / 2 ^ 40 % 256, uN w / 2 ^ 48 % 256, uN w / 2 ^ 56 % 256] := by
    simp only [vl]; omega
  rw [hc, cnt_64]
  have hb0 : uN w % 256 < 256 := Nat.mod_lt _ (by decide)
  have hb1 : uN w / 2 ^ 8 % 256 < 256 := Nat.mod_lt _ (by decide)
  have hb2 : uN w / 2 ^ 16 % 256 < 256 := Nat.mod_lt _ (by decide)
  have hb3 : uN w / 2 ^ 24 % 256 < 256 := Nat.mod_lt _ (by decide)
  have hb4 : uN w / 2 ^ 32 % 256 < 256 := Nat.mod_lt _ (by decide)
  have hb5 : uN w / 2 ^ 40 % 256 < 256 := Nat.mod_lt _ (by decide)
  have hb6 : uN w / 2 ^ 48 % 256 < 256 := Nat.mod_lt _ (by decide)
  have hb7 : uN w / 2 ^ 56 % 256 < 256 := Nat.mod_lt _ (by decide)
  generalize uN w % 256 = b0 at *
  generalize uN w / 2 ^ 8 % 256 = b1 at *
  generalize uN w / 2 ^ 16 % 256 = b2 at *
  generalize uN w / 2 ^ 24 % 256 = b3 at *
  generalize uN w / 2 ^ 32 % 256 = b4 at *
  generalize uN w / 2 ^ 40 % 256 = b5 at *
  generalize uN w / 2 ^ 48 % 256 = b6 at *
  generalize uN w / 2 ^ 56 % 256 = b7 at *
  have hall : ∀ b ∈ [b0, b1, b2, b3, b4, b5, b6, b7], b < 256 := by
    intro b hb
    simp only [List.mem_cons, List.not_mem_nil, or_false] at hb
    rcases hb with rfl | rfl | rfl | rfl | rfl | rfl | rfl | rfl <;> assumption
  have s1 : uN (p1 w) = vl ([b0, b1, b2, b3, b4, b5, b6, b7].map (fun b => n1 b 0x55)) := by
    rw [uN_p1, hx0]
    exact L1 _ hall
  have s2 : uN (p2 (p1 w)) = vl (([b0, b1, b2, b3, b4, b5, b6, b7].map (fun b => n1 b 0x55)).map (fun b => n2 b 0x33)) := by
    rw [uN_p2 (uN_lt _), s1]
    refine L2 _ (fun b hb => ?_)
    obtain ⟨c, hc, rfl⟩ := List.mem_map.mp hb
    exact (g8_ok c (hall c hc)).1
  have b2s : ∀ b ∈ (([b0, b1, b2, b3, b4, b5, b6, b7].map (fun b => n1 b 0x55)).map (fun b => n2 b 0x33)), b ≤ 68 ∧ b % 16 ≤ 4 := by
    intro b hb
    obtain ⟨c, hc, rfl⟩ := List.mem_map.mp hb
    obtain ⟨d, hd, rfl⟩ := List.mem_map.mp hc
    exact ⟨(g8_ok d (hall d hd)).2.1, (g8_ok d (hall d hd)).2.2.1⟩
  have s3 : uN (p3 (p2 (p1 w))) = vl [g8 b0, g8 b1, g8 b2, g8 b3, g8 b4, g8 b5, g8 b6, g8 b7] := by
    rw [uN_p3, s2]
    · exact L3 _ b2s
    · rw [s2]
      have h7 := b2s (n2 (n1 b7 0x55) 0x33) (by simp)
      have h6 := b2s (n2 (n1 b6 0x55) 0x33) (by simp)
      have h5 := b2s (n2 (n1 b5 0x55) 0x33) (by simp)
      have h4 := b2s (n2 (n1 b4 0x55) 0x33) (by simp)
      have h3 := b2s (n2 (n1 b3 0x55) 0x33) (by simp)
      have h2 := b2s (n2 (n1 b2 0x55) 0x33) (by simp)
      have h1 := b2s (n2 (n1 b1 0x55) 0x33) (by simp)
      have h0 := b2s (n2 (n1 b0 0x55) 0x33) (by simp)
      simp only [List.map_cons, List.map_nil, vl]
      omega
  have q0 := (g8_ok b0 hb0).2.2.2.1
  have q1 := (g8_ok b1 hb1).2.2.2.1
  have q2 := (g8_ok b2 hb2).2.2.2.1
  have q3 := (g8_ok b3 hb3).2.2.2.1
  have q4 := (g8_ok b4 hb4).2.2.2.1
  have q5 := (g8_ok b5 hb5).2.2.2.1
  have q6 := (g8_ok b6 hb6).2.2.2.1
  have q7 := (g8_ok b7 hb7).2.2.2.1
  generalize p3 (p2 (p1 w)) = y at s3 ⊢
  generalize g8 b0 = a0 at *
  generalize g8 b1 = a1 at *
  generalize g8 b2 = a2 at *
  generalize g8 b3 = a3 at *
  generalize g8 b4 = a4 at *
  generalize g8 b5 = a5 at *
  generalize g8 b6 = a6 at *
  generalize g8 b7 = a7 at *
  clear hall b2s s1 s2 hx0 hb0 hb1 hb2 hb3 hb4 hb5 hb6 hb7
  simp only [vl, Nat.mul_zero, Nat.zero_add] at s3
  obtain ⟨Y6, h6⟩ : ∃ Y, Y = 256 * a7 + a6 := ⟨_, rfl⟩
  obtain ⟨Y5, h5⟩ : ∃ Y, Y = 256 * Y6 + a5 := ⟨_, rfl⟩
  obtain ⟨Y4, h4⟩ : ∃ Y, Y = 256 * Y5 + a4 := ⟨_, rfl⟩
  obtain ⟨Y3, h3⟩ : ∃ Y, Y = 256 * Y4 + a3 := ⟨_, rfl⟩
  obtain ⟨Y2, h2⟩ : ∃ Y, Y = 256 * Y3 + a2 := ⟨_, rfl⟩
  obtain ⟨Y1, h1⟩ : ∃ Y, Y = 256 * Y2 + a1 := ⟨_, rfl⟩
  rw [← h6, ← h5, ← h4, ← h3, ← h2, ← h1] at s3
  have m6 : Y6 ≤ 2056 := by omega
  have m5 : Y5 ≤ 526344 := by omega
  have m4 : Y4 ≤ 134744072 := by omega
  have m3 : Y3 ≤ 34494482440 := by omega
  have m2 : Y2 ≤ 8830587504648 := by omega
  have m1 : Y1 ≤ 2260630401189896 := by omega
  have r1 : uN y / 2 ^ 8 = Y1 := by omega
  have t1 : uN (p4 8 y) = uN y + Y1 := by
    have := uN_p4 (v := y) (k := 8) (by decide) (by rw [r1]; omega)
    rw [r1] at this
    exact this
  have r2 : uN (p4 8 y) / 2 ^ 16 = Y2 + Y3 := by omega
  have t2 : uN (p4 16 (p4 8 y)) = uN y + Y1 + (Y2 + Y3) := by
    have := uN_p4 (v := p4 8 y) (k := 16) (by decide) (by rw [r2]; omega)
    rw [r2, t1] at this
    exact this
  have r3 : uN (p4 16 (p4 8 y)) / 2 ^ 32 = Y4 + Y5 + Y6 + a7 := by omega
  have t3 : uN (p4 32 (p4 16 (p4 8 y))) = uN y + Y1 + (Y2 + Y3) + (Y4 + Y5 + Y6 + a7) := by
    have := uN_p4 (v := p4 16 (p4 8 y)) (k := 32) (by decide) (by rw [r3]; omega)
    rw [r3, t2] at this
    exact this
  generalize p4 32 (p4 16 (p4 8 y)) = e3 at *
  have u3 : uN e3 % 128 = a0 + a1 + a2 + a3 + a4 + a5 + a6 + a7 := by omega
  have hf : (Int64.toInt32 e3 &&& 127) = nI (uN e3 % 128) := by
    rw [pk_and (Int64.toInt32 e3) (m := 127) 7 (by decide)]
    congr 1
    show (e3.toBitVec.signExtend 32).toNat % 2 ^ 7 = _
    rw [BitVec.signExtend_eq_setWidth_of_le _ (by decide), BitVec.toNat_setWidth]
    show uN e3 % 2 ^ 32 % 2 ^ 7 = uN e3 % 128
    omega
  rw [hf, u3, nI_iI]
