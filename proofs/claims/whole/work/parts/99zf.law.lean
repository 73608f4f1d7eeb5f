section LAWA
variable {x : CX} {b L k i N : Nat} {xs : Nat → Int32} {v : Int32} {σ : Sg}
/-- what the law's walk keeps: the tables, the script, room for n calls of led -/
def LwX (n : Nat) (x : CX) : Prop := match x with
  | ((_, l, _, _, s, _, _, _, _, _), (a, _, _, (cells, slots), _)) => LedE (Aw a s.heap.size) s s.heap ∧ l.stackTraces = false ∧ cells + n ≤ 601000 ∧ slots + 6 * n ≤ 7293000
def LwC (b L : Nat) (xs : Nat → Int32) (n : Nat) (x : CX) : Prop := Cx 11 code x ∧ Cc (ey x) 7 40 x ∧ Sx L xs x ∧ Lx b x ∧ LwX n x
theorem LwC.dn {n : Nat} (h : LwC b L xs (n + 1) x) : LwC b L xs n x := by
  obtain ⟨⟨p, l, e, R, s, m, args, below, meth, c⟩, ⟨a, cA, D, ⟨cells, slots⟩, Q⟩⟩ := x
  obtain ⟨h1, h2, h3, h4, h5, h6, h7, h8⟩ := h
  exact ⟨h1, h2, h3, h4, h5, h6, by omega, by omega⟩
theorem LwC.pi {n : Nat} (h : LwC b L xs n x) : LwC b L xs n (xpi x) := by
  refine ⟨Cx_pi h.1, Cc_pi h.2.1, ?_⟩
  obtain ⟨⟨p, l, e, R, s, m, args, below, meth, c⟩, ⟨a, cA, D, ⟨cells, slots⟩, Q⟩⟩ := x
  obtain ⟨-, -, ⟨a1, a2, a3⟩, ⟨b1, b2, b3, b4, b5, b6, b7, b8⟩, h5, h6, h7, h8⟩ := h
  refine ⟨⟨a1, a2, ?_⟩, ⟨b1, b2, b3, b4, fun i hi => ?_, b6, b7, b8⟩, ?_, h6, h7, h8⟩
  · rw [Aw_pi]; exact a3
  · exact b5 (pi i) (by rw [SH_len] at hi ⊢; exact pi_lt hi)
  · rw [Aw_pi]; exact h5
theorem LwC.land {n : Nat} {x1 : CX} (h : LwC b L xs n x) (e : x1 = x ∨ x1 = xpi x) : LwC b L xs n x1 := by
  rcases e with rfl | rfl
  · exact h
  · exact h.pi
theorem LwC.ledx {n : Nat} (h : LwC b L xs (n + 1) x) : LedX x := by
  obtain ⟨⟨p, l, e, R, s, m, args, below, meth, c⟩, ⟨a, cA, D, ⟨cells, slots⟩, Q⟩⟩ := x
  obtain ⟨-, -, -, ⟨rfl, -⟩, h5, h6, h7, h8⟩ := h
  exact ⟨h5, h6, show cells + 1 ≤ 601024 by omega, show slots + 6 ≤ 7293034 by omega⟩
theorem LwC.led {n : Nat} (h : LwC b L xs (n + 1) x) : LwC b L xs n (xled x) := by
  obtain ⟨⟨p, l, e, R, s, m, args, below, meth, c⟩, ⟨a, cA, D, ⟨cells, slots⟩, Q⟩⟩ := x
  obtain ⟨h1, ⟨-, c2, c3, c4, c5, c6, c7⟩, h3, ⟨rfl, b2, b3, b4, b5, b6, b7, b8⟩, h5, h6, h7, h8⟩ := h
  exact ⟨h1, ⟨rfl, c2, c3, c4, show cells + 1 ≤ 601024 by omega, show slots + 6 ≤ 7293034 by omega, c7⟩, h3, ⟨rfl, b2, b3, b4, b5, show cells + 1 ≤ 601024 by omega, show slots + 6 ≤ 7293034 by omega, b8⟩, h5, h6, show cells + 1 + n ≤ 601000 by omega, show slots + 6 + 6 * n ≤ 7293000 by omega⟩
theorem lw_in0 (hv : v = iI (i : Int)) (hi : i + 6 ≤ L) (hL : L ≤ 3072) : vp_in v L := by
  have h : vin v L := by rw [hv, vin_iI (by omega) (by omega)]; omega
  exact h
theorem lw_in1 (hv : v = iI (i : Int)) (hi : i + 6 ≤ L) (hL : L ≤ 3072) : vp_in (v + 1) L := by
  have h : vin (v + 1) L := by rw [hv, show iI (i : Int) + 1 = iI ((i + 1 : Nat) : Int) from iI_add _ 1, vin_iI (by omega) (by omega)]; omega
  exact h
theorem lw_in2 (hv : v = iI (i : Int)) (hi : i + 6 ≤ L) (hL : L ≤ 3072) : vp_in (v + 2) L := by
  have h : vin (v + 2) L := by rw [hv, show iI (i : Int) + 2 = iI ((i + 2 : Nat) : Int) from iI_add _ 2, vin_iI (by omega) (by omega)]; omega
  exact h
theorem lw_in3 (hv : v = iI (i : Int)) (hi : i + 6 ≤ L) (hL : L ≤ 3072) : vp_in (v + 3) L := by
  have h : vin (v + 3) L := by rw [hv, show iI (i : Int) + 3 = iI ((i + 3 : Nat) : Int) from iI_add _ 3, vin_iI (by omega) (by omega)]; omega
  exact h
theorem lw_in4 (hv : v = iI (i : Int)) (hi : i + 6 ≤ L) (hL : L ≤ 3072) : vp_in (v + 4) L := by
  have h : vin (v + 4) L := by rw [hv, show iI (i : Int) + 4 = iI ((i + 4 : Nat) : Int) from iI_add _ 4, vin_iI (by omega) (by omega)]; omega
  exact h
theorem lw_in5 (hv : v = iI (i : Int)) (hi : i + 6 ≤ L) (hL : L ≤ 3072) : vp_in (v + 5) L := by
  have h : vin (v + 5) L := by rw [hv, show iI (i : Int) + 5 = iI ((i + 5 : Nat) : Int) from iI_add _ 5, vin_iI (by omega) (by omega)]; omega
  exact h
/-- y != 0, laid on the stack -/
theorem g_bool {own : Nat} {cc : ByteArray} {pc : Nat} {lo : List (Option Value)} {st : List Value} {y : Int32} (hx : Cx own cc x) (d1 : decode cc pc = .ok (.ifCond .eq 7, 3)) (d2 : decode cc (pc + 3) = .ok (.iconst 1, 1)) (d3 : decode cc (pc + 4) = .ok (.goto 4, 3)) (d4 : decode cc (pc + 7) = .ok (.iconst 0, 1)) (k : G x (pc + 8) lo (.int (b2i (decide (¬ y = 0))) :: st) σ) : G x pc lo (.int y :: st) σ := by
  refine g_if_eq hx (off := 7) (tgt := pc + 7) d1 (by omega) (fun c => ?_) (fun c => ?_)
  · refine g_run hx [(.iconst 0, 0, 0)] (pc' := pc + 8) (lo' := lo) (st' := .int 0 :: st) (σ' := σ) ?_ rfl rfl (g_bf (fun z => z c) k)
    show (decide (decode cc (pc + 7) = .ok (.iconst 0, 1)) && (cst own (.iconst 0) 0 0 && true)) = true
    rw [decide_eq_true d4]
    rfl
  · refine g_run hx [(.iconst 1, 1, 0)] (pc' := pc + 4) (lo' := lo) (st' := .int 1 :: st) (σ' := σ) ?_ rfl rfl (g_goto hx (off := 4) (tgt := pc + 8) d3 (by omega) (g_bt c k))
    show (decide (decode cc (pc + 3) = .ok (.iconst 1, 1)) && (cst own (.iconst 1) 1 0 && true)) = true
    rw [decide_eq_true d2]
    rfl
end LAWA
