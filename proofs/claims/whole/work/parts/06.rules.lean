/-! ===== branches ===== -/
theorem g_goto {x : CX} {own : Nat} {cc : ByteArray} (hx : Cx own cc x) {pc tgt : Nat} {off : Int} {lo : List (Option Value)} {st : List Value} {σ : Sg} (hd : decode cc pc = .ok (.goto off, 3)) (ht : (pc : Int) + off = (tgt : Int)) (k : G x tgt lo st σ) : G x pc lo st σ := by
  obtain ⟨⟨p, l, e, R, s, m, args, below, meth, c⟩, ⟨a, cA, D, ⟨cells, slots⟩, Q⟩⟩ := x
  obtain ⟨hexec, hb, hown, hts, hK, hinj⟩ := hx
  exact fun H locs ls hP hS hl => lv_goto hexec hb hd ht (k H locs ls hP hS hl)
theorem g_if_eq {x : CX} {own : Nat} {cc : ByteArray} (hx : Cx own cc x) {pc tgt : Nat} {off : Int} {lo : List (Option Value)} {st : List Value} {σ : Sg} {y : Int32} (hd : decode cc pc = .ok (.ifCond .eq off, 3)) (ht : (pc : Int) + off = (tgt : Int)) (kt : y = 0 → G x tgt lo st σ) (kf : ¬ y = 0 → G x (pc + 3) lo st σ) : G x pc lo (.int y :: st) σ := by
  obtain ⟨⟨p, l, e, R, s, m, args, below, meth, c⟩, ⟨a, cA, D, ⟨cells, slots⟩, Q⟩⟩ := x
  obtain ⟨hexec, hb, hown, hts, hK, hinj⟩ := hx
  exact fun H locs ls hP hS hl => lv_if_eq hexec hb hd ht (fun h => kt h H locs ls hP hS hl) (fun h => kf h H locs ls hP hS hl)
theorem g_ic_eq {x : CX} {own : Nat} {cc : ByteArray} (hx : Cx own cc x) {pc tgt : Nat} {off : Int} {lo : List (Option Value)} {st : List Value} {σ : Sg} {y z : Int32} (hd : decode cc pc = .ok (.if_icmp .eq off, 3)) (ht : (pc : Int) + off = (tgt : Int)) (kt : z = y → G x tgt lo st σ) (kf : ¬ z = y → G x (pc + 3) lo st σ) : G x pc lo (.int y :: .int z :: st) σ := by
  obtain ⟨⟨p, l, e, R, s, m, args, below, meth, c⟩, ⟨a, cA, D, ⟨cells, slots⟩, Q⟩⟩ := x
  obtain ⟨hexec, hb, hown, hts, hK, hinj⟩ := hx
  exact fun H locs ls hP hS hl => lv_icmp_eq hexec hb hd ht (fun h => kt h H locs ls hP hS hl) (fun h => kf h H locs ls hP hS hl)
theorem g_if_ne {x : CX} {own : Nat} {cc : ByteArray} (hx : Cx own cc x) {pc tgt : Nat} {off : Int} {lo : List (Option Value)} {st : List Value} {σ : Sg} {y : Int32} (hd : decode cc pc = .ok (.ifCond .ne off, 3)) (ht : (pc : Int) + off = (tgt : Int)) (kt : ¬ y = 0 → G x tgt lo st σ) (kf : y = 0 → G x (pc + 3) lo st σ) : G x pc lo (.int y :: st) σ := by
  obtain ⟨⟨p, l, e, R, s, m, args, below, meth, c⟩, ⟨a, cA, D, ⟨cells, slots⟩, Q⟩⟩ := x
  obtain ⟨hexec, hb, hown, hts, hK, hinj⟩ := hx
  exact fun H locs ls hP hS hl => lv_if_ne hexec hb hd ht (fun h => kt h H locs ls hP hS hl) (fun h => kf h H locs ls hP hS hl)
theorem g_ic_ne {x : CX} {own : Nat} {cc : ByteArray} (hx : Cx own cc x) {pc tgt : Nat} {off : Int} {lo : List (Option Value)} {st : List Value} {σ : Sg} {y z : Int32} (hd : decode cc pc = .ok (.if_icmp .ne off, 3)) (ht : (pc : Int) + off = (tgt : Int)) (kt : ¬ z = y → G x tgt lo st σ) (kf : z = y → G x (pc + 3) lo st σ) : G x pc lo (.int y :: .int z :: st) σ := by
  obtain ⟨⟨p, l, e, R, s, m, args, below, meth, c⟩, ⟨a, cA, D, ⟨cells, slots⟩, Q⟩⟩ := x
  obtain ⟨hexec, hb, hown, hts, hK, hinj⟩ := hx
  exact fun H locs ls hP hS hl => lv_icmp_ne hexec hb hd ht (fun h => kt h H locs ls hP hS hl) (fun h => kf h H locs ls hP hS hl)
theorem g_if_lt {x : CX} {own : Nat} {cc : ByteArray} (hx : Cx own cc x) {pc tgt : Nat} {off : Int} {lo : List (Option Value)} {st : List Value} {σ : Sg} {y : Int32} (hd : decode cc pc = .ok (.ifCond .lt off, 3)) (ht : (pc : Int) + off = (tgt : Int)) (kt : y < 0 → G x tgt lo st σ) (kf : ¬ y < 0 → G x (pc + 3) lo st σ) : G x pc lo (.int y :: st) σ := by
  obtain ⟨⟨p, l, e, R, s, m, args, below, meth, c⟩, ⟨a, cA, D, ⟨cells, slots⟩, Q⟩⟩ := x
  obtain ⟨hexec, hb, hown, hts, hK, hinj⟩ := hx
  exact fun H locs ls hP hS hl => lv_if_lt hexec hb hd ht (fun h => kt h H locs ls hP hS hl) (fun h => kf h H locs ls hP hS hl)
theorem g_ic_lt {x : CX} {own : Nat} {cc : ByteArray} (hx : Cx own cc x) {pc tgt : Nat} {off : Int} {lo : List (Option Value)} {st : List Value} {σ : Sg} {y z : Int32} (hd : decode cc pc = .ok (.if_icmp .lt off, 3)) (ht : (pc : Int) + off = (tgt : Int)) (kt : z < y → G x tgt lo st σ) (kf : ¬ z < y → G x (pc + 3) lo st σ) : G x pc lo (.int y :: .int z :: st) σ := by
  obtain ⟨⟨p, l, e, R, s, m, args, below, meth, c⟩, ⟨a, cA, D, ⟨cells, slots⟩, Q⟩⟩ := x
  obtain ⟨hexec, hb, hown, hts, hK, hinj⟩ := hx
  exact fun H locs ls hP hS hl => lv_icmp_lt hexec hb hd ht (fun h => kt h H locs ls hP hS hl) (fun h => kf h H locs ls hP hS hl)
theorem g_if_ge {x : CX} {own : Nat} {cc : ByteArray} (hx : Cx own cc x) {pc tgt : Nat} {off : Int} {lo : List (Option Value)} {st : List Value} {σ : Sg} {y : Int32} (hd : decode cc pc = .ok (.ifCond .ge off, 3)) (ht : (pc : Int) + off = (tgt : Int)) (kt : 0 ≤ y → G x tgt lo st σ) (kf : ¬ 0 ≤ y → G x (pc + 3) lo st σ) : G x pc lo (.int y :: st) σ := by
  obtain ⟨⟨p, l, e, R, s, m, args, below, meth, c⟩, ⟨a, cA, D, ⟨cells, slots⟩, Q⟩⟩ := x
  obtain ⟨hexec, hb, hown, hts, hK, hinj⟩ := hx
  exact fun H locs ls hP hS hl => lv_if_ge hexec hb hd ht (fun h => kt h H locs ls hP hS hl) (fun h => kf h H locs ls hP hS hl)
theorem g_ic_ge {x : CX} {own : Nat} {cc : ByteArray} (hx : Cx own cc x) {pc tgt : Nat} {off : Int} {lo : List (Option Value)} {st : List Value} {σ : Sg} {y z : Int32} (hd : decode cc pc = .ok (.if_icmp .ge off, 3)) (ht : (pc : Int) + off = (tgt : Int)) (kt : y ≤ z → G x tgt lo st σ) (kf : ¬ y ≤ z → G x (pc + 3) lo st σ) : G x pc lo (.int y :: .int z :: st) σ := by
  obtain ⟨⟨p, l, e, R, s, m, args, below, meth, c⟩, ⟨a, cA, D, ⟨cells, slots⟩, Q⟩⟩ := x
  obtain ⟨hexec, hb, hown, hts, hK, hinj⟩ := hx
  exact fun H locs ls hP hS hl => lv_icmp_ge hexec hb hd ht (fun h => kt h H locs ls hP hS hl) (fun h => kf h H locs ls hP hS hl)
theorem g_if_gt {x : CX} {own : Nat} {cc : ByteArray} (hx : Cx own cc x) {pc tgt : Nat} {off : Int} {lo : List (Option Value)} {st : List Value} {σ : Sg} {y : Int32} (hd : decode cc pc = .ok (.ifCond .gt off, 3)) (ht : (pc : Int) + off = (tgt : Int)) (kt : 0 < y → G x tgt lo st σ) (kf : ¬ 0 < y → G x (pc + 3) lo st σ) : G x pc lo (.int y :: st) σ := by
  obtain ⟨⟨p, l, e, R, s, m, args, below, meth, c⟩, ⟨a, cA, D, ⟨cells, slots⟩, Q⟩⟩ := x
  obtain ⟨hexec, hb, hown, hts, hK, hinj⟩ := hx
  exact fun H locs ls hP hS hl => lv_if_gt hexec hb hd ht (fun h => kt h H locs ls hP hS hl) (fun h => kf h H locs ls hP hS hl)
theorem g_ic_gt {x : CX} {own : Nat} {cc : ByteArray} (hx : Cx own cc x) {pc tgt : Nat} {off : Int} {lo : List (Option Value)} {st : List Value} {σ : Sg} {y z : Int32} (hd : decode cc pc = .ok (.if_icmp .gt off, 3)) (ht : (pc : Int) + off = (tgt : Int)) (kt : y < z → G x tgt lo st σ) (kf : ¬ y < z → G x (pc + 3) lo st σ) : G x pc lo (.int y :: .int z :: st) σ := by
  obtain ⟨⟨p, l, e, R, s, m, args, below, meth, c⟩, ⟨a, cA, D, ⟨cells, slots⟩, Q⟩⟩ := x
  obtain ⟨hexec, hb, hown, hts, hK, hinj⟩ := hx
  exact fun H locs ls hP hS hl => lv_icmp_gt hexec hb hd ht (fun h => kt h H locs ls hP hS hl) (fun h => kf h H locs ls hP hS hl)
theorem g_if_le {x : CX} {own : Nat} {cc : ByteArray} (hx : Cx own cc x) {pc tgt : Nat} {off : Int} {lo : List (Option Value)} {st : List Value} {σ : Sg} {y : Int32} (hd : decode cc pc = .ok (.ifCond .le off, 3)) (ht : (pc : Int) + off = (tgt : Int)) (kt : y ≤ 0 → G x tgt lo st σ) (kf : ¬ y ≤ 0 → G x (pc + 3) lo st σ) : G x pc lo (.int y :: st) σ := by
  obtain ⟨⟨p, l, e, R, s, m, args, below, meth, c⟩, ⟨a, cA, D, ⟨cells, slots⟩, Q⟩⟩ := x
  obtain ⟨hexec, hb, hown, hts, hK, hinj⟩ := hx
  exact fun H locs ls hP hS hl => lv_if_le hexec hb hd ht (fun h => kt h H locs ls hP hS hl) (fun h => kf h H locs ls hP hS hl)
theorem g_ic_le {x : CX} {own : Nat} {cc : ByteArray} (hx : Cx own cc x) {pc tgt : Nat} {off : Int} {lo : List (Option Value)} {st : List Value} {σ : Sg} {y z : Int32} (hd : decode cc pc = .ok (.if_icmp .le off, 3)) (ht : (pc : Int) + off = (tgt : Int)) (kt : z ≤ y → G x tgt lo st σ) (kf : ¬ z ≤ y → G x (pc + 3) lo st σ) : G x pc lo (.int y :: .int z :: st) σ := by
  obtain ⟨⟨p, l, e, R, s, m, args, below, meth, c⟩, ⟨a, cA, D, ⟨cells, slots⟩, Q⟩⟩ := x
  obtain ⟨hexec, hb, hown, hts, hK, hinj⟩ := hx
  exact fun H locs ls hP hS hl => lv_icmp_le hexec hb hd ht (fun h => kt h H locs ls hP hS hl) (fun h => kf h H locs ls hP hS hl)
theorem b2i_0 {b : Bool} : b2i b = 0 ↔ b = false := by cases b <;> decide
theorem g_ifb_eq {x : CX} {own : Nat} {cc : ByteArray} (hx : Cx own cc x) {pc tgt : Nat} {off : Int} {lo : List (Option Value)} {st : List Value} {σ : Sg} {b : Bool} (hd : decode cc pc = .ok (.ifCond .eq off, 3)) (ht : (pc : Int) + off = (tgt : Int)) (kt : ¬ b = true → G x tgt lo st σ) (kf : b = true → G x (pc + 3) lo st σ) : G x pc lo (.int (b2i b) :: st) σ :=
  g_if_eq hx hd ht (fun h => kt (by rw [b2i_0.mp h]; decide)) (fun h => kf (by cases b <;> first | rfl | exact absurd rfl h))
theorem g_ifb_ne {x : CX} {own : Nat} {cc : ByteArray} (hx : Cx own cc x) {pc tgt : Nat} {off : Int} {lo : List (Option Value)} {st : List Value} {σ : Sg} {b : Bool} (hd : decode cc pc = .ok (.ifCond .ne off, 3)) (ht : (pc : Int) + off = (tgt : Int)) (kt : b = true → G x tgt lo st σ) (kf : ¬ b = true → G x (pc + 3) lo st σ) : G x pc lo (.int (b2i b) :: st) σ :=
  g_if_ne hx hd ht (fun h => kt (by cases b <;> first | rfl | exact absurd rfl h)) (fun h => kf (by rw [b2i_0.mp h]; decide))
/-! ===== arrays at places that are computed ===== -/
theorem g_iald {x : CX} {own : Nat} {cc : ByteArray} (hx : Cx own cc x) {pc i n : Nat} {lo : List (Option Value)} {st : List Value} {σ : Sg} {y : Int32} (hd : decode cc pc = .ok (.iaload, 1)) (hi : SH[i]? = some (.inr (0, n))) (hy : vp_in y n) (k : G x (pc + 1) lo (.int (gA σ i y) :: st) σ) : G x pc lo (.int y :: .ref i :: st) σ := by
  obtain ⟨⟨p, l, e, R, s, m, args, below, meth, c⟩, ⟨a, cA, D, ⟨cells, slots⟩, Q⟩⟩ := x
  obtain ⟨hexec, hb, hown, hts, hK, hinj⟩ := hx
  exact fun H locs ls hP hS hl => va_iald hexec hb hK hP i 0 (wld_at hi) rfl hy hd (k H locs ls hP hS hl)
theorem g_bald {x : CX} {own : Nat} {cc : ByteArray} (hx : Cx own cc x) {pc i n : Nat} {lo : List (Option Value)} {st : List Value} {σ : Sg} {y : Int32} (hd : decode cc pc = .ok (.baload, 1)) (hi : SH[i]? = some (.inr (1, n))) (hy : vp_in y n) (k : G x (pc + 1) lo (.int (gA σ i y) :: st) σ) : G x pc lo (.int y :: .ref i :: st) σ := by
  obtain ⟨⟨p, l, e, R, s, m, args, below, meth, c⟩, ⟨a, cA, D, ⟨cells, slots⟩, Q⟩⟩ := x
  obtain ⟨hexec, hb, hown, hts, hK, hinj⟩ := hx
  exact fun H locs ls hP hS hl => va_bald hexec hb hK hP i 1 (wld_at hi) rfl hy hd (k H locs ls hP hS hl)
theorem g_lald {x : CX} {own : Nat} {cc : ByteArray} (hx : Cx own cc x) {pc i n : Nat} {lo : List (Option Value)} {st : List Value} {σ : Sg} {y : Int32} (hd : decode cc pc = .ok (.laload, 1)) (hi : SH[i]? = some (.inr (2, n))) (hy : vp_in y n) (k : G x (pc + 1) lo (.long (gM σ i y) :: st) σ) : G x pc lo (.int y :: .ref i :: st) σ := by
  obtain ⟨⟨p, l, e, R, s, m, args, below, meth, c⟩, ⟨a, cA, D, ⟨cells, slots⟩, Q⟩⟩ := x
  obtain ⟨hexec, hb, hown, hts, hK, hinj⟩ := hx
  exact fun H locs ls hP hS hl => va_lald hexec hb hK hP i 2 (wld_at hi) rfl hy hd (k H locs ls hP hS hl)
theorem upd_sI {σ : Sg} {i q : Nat} {v : Int32} : upd (gI σ i) q v = gI (sI σ i q v) i := by
  funext j
  unfold upd
  by_cases e : j = q
  · subst e; rw [if_pos rfl, gI_eq]
  · rw [if_neg e, gI_ne (fun z => e z.2)]
theorem upd_sL {σ : Sg} {i q : Nat} {v : Int64} : vp_updL (gL σ i) q v = gL (sL σ i q v) i := by
  funext j
  unfold vp_updL
  by_cases e : j = q
  · subst e; rw [if_pos rfl, gL_eq]
  · rw [if_neg e, gL_ne (fun z => e z.2)]
theorem g_iast {x : CX} {own : Nat} {cc : ByteArray} (hx : Cx own cc x) {pc i n : Nat} {lo : List (Option Value)} {st : List Value} {σ : Sg} {y v : Int32} (hd : decode cc pc = .ok (.iastore, 1)) (hi : SH[i]? = some (.inr (0, n))) (hy : vp_in y n) (k : G x (pc + 1) lo st (sA σ i y v)) : G x pc lo (.int v :: .int y :: .ref i :: st) σ := by
  obtain ⟨⟨p, l, e, R, s, m, args, below, meth, c⟩, ⟨a, cA, D, ⟨cells, slots⟩, Q⟩⟩ := x
  obtain ⟨hexec, hb, hown, hts, hK, hinj⟩ := hx
  intro H locs ls hP hS hl
  refine va_iast hexec hb hK hP (wld_D hinj) hS i 0 (wld_at hi) rfl hy hd (fun H1 locs1 hP1 _ hS1 => ?_)
  have e1 : upd (gI σ i) y.toNatClampNeg v = gI (sA σ i y v) i := upd_sI
  rw [e1] at hP1
  have e2 : (wld a cA σ).set i (cel a cA (sA σ i y v) i (.inr (0, n))) = wld a cA (sA σ i y v) := wld_set hi (fun j z n => cel_sI_ne n)
  have e3 : cel a cA (sA σ i y v) i (.inr (0, n)) = (a i, .inl (cA 0, n, .inl (gI (sA σ i y v) i))) := rfl
  rw [e3] at e2
  rw [e2] at hP1
  exact k H1 locs1 ls hP1 hS1 hl
theorem g_bast {x : CX} {own : Nat} {cc : ByteArray} (hx : Cx own cc x) {pc i n : Nat} {lo : List (Option Value)} {st : List Value} {σ : Sg} {y v : Int32} (hd : decode cc pc = .ok (.bastore, 1)) (hi : SH[i]? = some (.inr (1, n))) (hy : vp_in y n) (k : G x (pc + 1) lo st (sA σ i y v.toInt8.toInt32)) : G x pc lo (.int v :: .int y :: .ref i :: st) σ := by
  obtain ⟨⟨p, l, e, R, s, m, args, below, meth, c⟩, ⟨a, cA, D, ⟨cells, slots⟩, Q⟩⟩ := x
  obtain ⟨hexec, hb, hown, hts, hK, hinj⟩ := hx
  intro H locs ls hP hS hl
  refine va_bast hexec hb hK hP (wld_D hinj) hS i 1 (wld_at hi) rfl hy hd (fun H1 locs1 hP1 _ hS1 => ?_)
  rw [vp_nar_byte] at hP1
  have e1 : upd (gI σ i) y.toNatClampNeg v.toInt8.toInt32 = gI (sA σ i y v.toInt8.toInt32) i := upd_sI
  rw [e1] at hP1
  have e2 : (wld a cA σ).set i (cel a cA (sA σ i y v.toInt8.toInt32) i (.inr (1, n))) = wld a cA (sA σ i y v.toInt8.toInt32) := wld_set hi (fun j z n => cel_sI_ne n)
  have e3 : cel a cA (sA σ i y v.toInt8.toInt32) i (.inr (1, n)) = (a i, .inl (cA 1, n, .inl (gI (sA σ i y v.toInt8.toInt32) i))) := rfl
  rw [e3] at e2
  rw [e2] at hP1
  exact k H1 locs1 ls hP1 hS1 hl
theorem g_last {x : CX} {own : Nat} {cc : ByteArray} (hx : Cx own cc x) {pc i n : Nat} {lo : List (Option Value)} {st : List Value} {σ : Sg} {y : Int32} {v : Int64} (hd : decode cc pc = .ok (.lastore, 1)) (hi : SH[i]? = some (.inr (2, n))) (hy : vp_in y n) (k : G x (pc + 1) lo st (sM σ i y v)) : G x pc lo (.long v :: .int y :: .ref i :: st) σ := by
  obtain ⟨⟨p, l, e, R, s, m, args, below, meth, c⟩, ⟨a, cA, D, ⟨cells, slots⟩, Q⟩⟩ := x
  obtain ⟨hexec, hb, hown, hts, hK, hinj⟩ := hx
  intro H locs ls hP hS hl
  refine va_last hexec hb hK hP (wld_D hinj) hS i 2 (wld_at hi) rfl hy hd (fun H1 locs1 hP1 _ hS1 => ?_)
  have e1 : vp_updL (gL σ i) y.toNatClampNeg v = gL (sM σ i y v) i := upd_sL
  rw [e1] at hP1
  have e2 : (wld a cA σ).set i (cel a cA (sM σ i y v) i (.inr (2, n))) = wld a cA (sM σ i y v) := wld_set hi (fun j z n => cel_sL_ne n)
  have e3 : cel a cA (sM σ i y v) i (.inr (2, n)) = (a i, .inl (cA 2, n, .inr (.inl (gL (sM σ i y v) i)))) := rfl
  rw [e3] at e2
  rw [e2] at hP1
  exact k H1 locs1 ls hP1 hS1 hl
theorem g_irem {x : CX} {own : Nat} {cc : ByteArray} (hx : Cx own cc x) {pc : Nat} {lo : List (Option Value)} {st : List Value} {σ : Sg} {y z : Int32} (hd : decode cc pc = .ok (.irem, 1)) (hy : ¬ y = 0) (k : G x (pc + 1) lo (.int (z - z / y * y) :: st) σ) : G x pc lo (.int y :: .int z :: st) σ := by
  obtain ⟨⟨p, l, e, R, s, m, args, below, meth, c⟩, ⟨a, cA, D, ⟨cells, slots⟩, Q⟩⟩ := x
  obtain ⟨hexec, hb, hown, hts, hK, hinj⟩ := hx
  exact fun H locs ls hP hS hl => lv_irem hexec hb hd hy (k H locs ls hP hS hl)
theorem g_lrem {x : CX} {own : Nat} {cc : ByteArray} (hx : Cx own cc x) {pc : Nat} {lo : List (Option Value)} {st : List Value} {σ : Sg} {y z : Int64} (hd : decode cc pc = .ok (.lrem, 1)) (hy : ¬ y = 0) (k : G x (pc + 1) lo (.long (z - z / y * y) :: st) σ) : G x pc lo (.long y :: .long z :: st) σ := by
  obtain ⟨⟨p, l, e, R, s, m, args, below, meth, c⟩, ⟨a, cA, D, ⟨cells, slots⟩, Q⟩⟩ := x
  obtain ⟨hexec, hb, hown, hts, hK, hinj⟩ := hx
  exact fun H locs ls hP hS hl => lv_lrem hexec hb hd hy (k H locs ls hP hS hl)
theorem g_ldiv {x : CX} {own : Nat} {cc : ByteArray} (hx : Cx own cc x) {pc : Nat} {lo : List (Option Value)} {st : List Value} {σ : Sg} {y z : Int64} (hd : decode cc pc = .ok (.ldiv, 1)) (hy : ¬ y = 0) (k : G x (pc + 1) lo (.long (z / y) :: st) σ) : G x pc lo (.long y :: .long z :: st) σ := by
  obtain ⟨⟨p, l, e, R, s, m, args, below, meth, c⟩, ⟨a, cA, D, ⟨cells, slots⟩, Q⟩⟩ := x
  obtain ⟨hexec, hb, hown, hts, hK, hinj⟩ := hx
  exact fun H locs ls hP hS hl => lv_ldiv hexec hb hd hy (k H locs ls hP hS hl)
theorem g_weak {x : CX} {pc : Nat} {lo lo' : List (Option Value)} {st : List Value} {σ : Sg} (hl : lo'.length = lo.length) (hs : ∀ (i : Nat) (v : Value), lo'[i]? = some (some v) → lo[i]? = some (some v)) (k : G x pc lo' st σ) : G x pc lo st σ := by
  obtain ⟨⟨p, l, e, R, s, m, args, below, meth, c⟩, ⟨a, cA, D, ⟨cells, slots⟩, Q⟩⟩ := x
  exact fun H locs ls hP hS hl2 => k H locs ls hP hS (lh_weak hl2 hl hs)
