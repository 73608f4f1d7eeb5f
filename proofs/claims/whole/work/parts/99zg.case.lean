section LAWC
variable {x : CX} {b L k i N : Nat} {xs : Nat → Int32} {v : Int32} {σ : Sg}
theorem lw_c0 (hN : 200000 ≤ N) (hl : LwC b L xs (k + 1) x) (hs : Sim σ) (hv : v = iI (i : Int)) (hi : i + 6 ≤ L) (hL : L ≤ 3072) (K : ∀ x1 s1, LwC b L xs k x1 → Sim s1 → G x1 1986 [some (.ref 92), some (.ref 0), some (.ref 66), some (.ref 85), some (.int v), none, none] [] s1) : G x 300 [some (.ref 92), some (.ref 0), some (.ref 66), some (.ref 85), some (.int v), none, none] [] σ := by
  have hx := hl.1
  have hc := hl.2.1
  have hS := hl.2.2.1
  refine g_run hx [(.aload_n 1, 0, 0), (.aload_n 0, 0, 0), (.iload 4, 0, 0), (.iconst 1, 1, 0), (.iadd, 0, 0)] (pc' := 306) (lo' := [some (.ref 92), some (.ref 0), some (.ref 66), some (.ref 85), some (.int v), none, none]) (st' := [.int (v + 1), .ref 92, .ref 0]) (σ' := σ) (by decide +kernel) rfl rfl ?_
  refine g_sldX hx hS (lw_in1 hv hi hL) (by decide +kernel) ?_
  refine g_run hx [(.aload_n 0, 0, 0), (.iload 4, 0, 0), (.iconst 2, 2, 0), (.iadd, 0, 0)] (pc' := 312) (lo' := [some (.ref 92), some (.ref 0), some (.ref 66), some (.ref 85), some (.int v), none, none]) (st' := [.int (v + 2), .ref 92, .int (xs (v + 1).toNatClampNeg), .ref 0]) (σ' := σ) (by decide +kernel) rfl rfl ?_
  refine g_sldX hx hS (lw_in2 hv hi hL) (by decide +kernel) ?_
  refine g_run hx [(.aload_n 0, 0, 0), (.iload 4, 0, 0), (.iconst 3, 3, 0), (.iadd, 0, 0)] (pc' := 318) (lo' := [some (.ref 92), some (.ref 0), some (.ref 66), some (.ref 85), some (.int v), none, none]) (st' := [.int (v + 3), .ref 92, .int (xs (v + 2).toNatClampNeg), .int (xs (v + 1).toNatClampNeg), .ref 0]) (σ' := σ) (by decide +kernel) rfl rfl ?_
  refine g_sldX hx hS (lw_in3 hv hi hL) (by decide +kernel) ?_
  refine g_run hx [(.aload_n 0, 0, 0), (.iload 4, 0, 0), (.iconst 4, 4, 0), (.iadd, 0, 0)] (pc' := 324) (lo' := [some (.ref 92), some (.ref 0), some (.ref 66), some (.ref 85), some (.int v), none, none]) (st' := [.int (v + 4), .ref 92, .int (xs (v + 3).toNatClampNeg), .int (xs (v + 2).toNatClampNeg), .int (xs (v + 1).toNatClampNeg), .ref 0]) (σ' := σ) (by decide +kernel) rfl rfl ?_
  refine g_sldX hx hS (lw_in4 hv hi hL) (by decide +kernel) ?_
  refine g_run hx [(.aload_n 0, 0, 0), (.iload 4, 0, 0), (.iconst 5, 5, 0), (.iadd, 0, 0)] (pc' := 330) (lo' := [some (.ref 92), some (.ref 0), some (.ref 66), some (.ref 85), some (.int v), none, none]) (st' := [.int (v + 5), .ref 92, .int (xs (v + 4).toNatClampNeg), .int (xs (v + 3).toNatClampNeg), .int (xs (v + 2).toNatClampNeg), .int (xs (v + 1).toNatClampNeg), .ref 0]) (σ' := σ) (by decide +kernel) rfl rfl ?_
  refine g_sldX hx hS (lw_in5 hv hi hL) (by decide +kernel) ?_
  refine g_callV (rest := []) [.int (xs (v + 1).toNatClampNeg), .int (xs (v + 2).toNatClampNeg), .int (xs (v + 3).toNatClampNeg), .int (xs (v + 4).toNatClampNeg), .int (xs (v + 5).toNatClampNeg)] hx hc mk_x_feed ln_11_19 rfl (by decide +kernel) (Nat.le_of_ble_eq_true rfl) (Nat.le_of_ble_eq_true rfl) (s_x_feed (sim_feed hN (xs (v + 1).toNatClampNeg) (xs (v + 2).toNatClampNeg) (xs (v + 3).toNatClampNeg) (xs (v + 4).toNatClampNeg) (xs (v + 5).toNatClampNeg) hs)) (fun r1 s1 h => ?_)
  change G x 334 [some (.ref 92), some (.ref 0), some (.ref 66), some (.ref 85), some (.int v), none, none] [.int r1] s1
  refine g_run hx [(.aload_n 2, 0, 0), (.aload_n 0, 0, 0), (.iload 4, 0, 0), (.iconst 1, 1, 0), (.iadd, 0, 0)] (pc' := 340) (lo' := [some (.ref 92), some (.ref 0), some (.ref 66), some (.ref 85), some (.int v), none, none]) (st' := [.int (v + 1), .ref 92, .ref 66, .int r1]) (σ' := s1) (by decide +kernel) rfl rfl ?_
  refine g_sldX hx hS (lw_in1 hv hi hL) (by decide +kernel) ?_
  refine g_run hx [(.aload_n 0, 0, 0), (.iload 4, 0, 0), (.iconst 2, 2, 0), (.iadd, 0, 0)] (pc' := 346) (lo' := [some (.ref 92), some (.ref 0), some (.ref 66), some (.ref 85), some (.int v), none, none]) (st' := [.int (v + 2), .ref 92, .int (xs (v + 1).toNatClampNeg), .ref 66, .int r1]) (σ' := s1) (by decide +kernel) rfl rfl ?_
  refine g_sldX hx hS (lw_in2 hv hi hL) (by decide +kernel) ?_
  refine g_run hx [(.aload_n 0, 0, 0), (.iload 4, 0, 0), (.iconst 3, 3, 0), (.iadd, 0, 0)] (pc' := 352) (lo' := [some (.ref 92), some (.ref 0), some (.ref 66), some (.ref 85), some (.int v), none, none]) (st' := [.int (v + 3), .ref 92, .int (xs (v + 2).toNatClampNeg), .int (xs (v + 1).toNatClampNeg), .ref 66, .int r1]) (σ' := s1) (by decide +kernel) rfl rfl ?_
  refine g_sldX hx hS (lw_in3 hv hi hL) (by decide +kernel) ?_
  refine g_run hx [(.aload_n 0, 0, 0), (.iload 4, 0, 0), (.iconst 4, 4, 0), (.iadd, 0, 0)] (pc' := 358) (lo' := [some (.ref 92), some (.ref 0), some (.ref 66), some (.ref 85), some (.int v), none, none]) (st' := [.int (v + 4), .ref 92, .int (xs (v + 3).toNatClampNeg), .int (xs (v + 2).toNatClampNeg), .int (xs (v + 1).toNatClampNeg), .ref 66, .int r1]) (σ' := s1) (by decide +kernel) rfl rfl ?_
  refine g_sldX hx hS (lw_in4 hv hi hL) (by decide +kernel) ?_
  refine g_run hx [(.aload_n 0, 0, 0), (.iload 4, 0, 0), (.iconst 5, 5, 0), (.iadd, 0, 0)] (pc' := 364) (lo' := [some (.ref 92), some (.ref 0), some (.ref 66), some (.ref 85), some (.int v), none, none]) (st' := [.int (v + 5), .ref 92, .int (xs (v + 4).toNatClampNeg), .int (xs (v + 3).toNatClampNeg), .int (xs (v + 2).toNatClampNeg), .int (xs (v + 1).toNatClampNeg), .ref 66, .int r1]) (σ' := s1) (by decide +kernel) rfl rfl ?_
  refine g_sldX hx hS (lw_in5 hv hi hL) (by decide +kernel) ?_
  refine g_callV (rest := [.int r1]) [.int (xs (v + 1).toNatClampNeg), .int (xs (v + 2).toNatClampNeg), .int (xs (v + 3).toNatClampNeg), .int (xs (v + 4).toNatClampNeg), .int (xs (v + 5).toNatClampNeg)] hx hc mk_m_feed ln_11_23 rfl (by decide +kernel) (Nat.le_of_ble_eq_true rfl) (Nat.le_of_ble_eq_true rfl) (s_m_feed h) (fun r2 s2 h => ?_)
  change G x 368 [some (.ref 92), some (.ref 0), some (.ref 66), some (.ref 85), some (.int v), none, none] [.int r2, .int r1] s2
  exact g_ic_eq hx (off := 1618) (tgt := 1986) (by decide +kernel) (by decide) (fun _ => K x s2 hl.dn h.2) (fun c => absurd h.1 c)
theorem lw_c1 (hN : 200000 ≤ N) (hl : LwC b L xs (k + 1) x) (hs : Sim σ) (hv : v = iI (i : Int)) (hi : i + 6 ≤ L) (hL : L ≤ 3072) (K : ∀ x1 s1, LwC b L xs k x1 → Sim s1 → G x1 1986 [some (.ref 92), some (.ref 0), some (.ref 66), some (.ref 85), some (.int v), none, none] [] s1) : G x 373 [some (.ref 92), some (.ref 0), some (.ref 66), some (.ref 85), some (.int v), none, none] [] σ := by
  have hx := hl.1
  have hc := hl.2.1
  have hS := hl.2.2.1
  refine g_run hx [(.aload_n 1, 0, 0), (.aload_n 0, 0, 0), (.iload 4, 0, 0), (.iconst 1, 1, 0), (.iadd, 0, 0)] (pc' := 379) (lo' := [some (.ref 92), some (.ref 0), some (.ref 66), some (.ref 85), some (.int v), none, none]) (st' := [.int (v + 1), .ref 92, .ref 0]) (σ' := σ) (by decide +kernel) rfl rfl ?_
  refine g_sldX hx hS (lw_in1 hv hi hL) (by decide +kernel) ?_
  refine g_callL [.int (xs (v + 1).toNatClampNeg)] hx hc mk_x_land ln_11_24 rfl (by decide +kernel) (Nat.le_of_ble_eq_true rfl) ⟨rfl, rfl, rfl, rfl, rfl, trivial⟩ (s_x_land (sim_land hN (xs (v + 1).toNatClampNeg) hs)) (fun x1 e1 r1 s1 h => ?_)
  have hl := hl.land e1
  have hx := hl.1
  have hc := hl.2.1
  have hS := hl.2.2.1
  change G x1 383 [some (.ref 92), some (.ref 0), some (.ref 66), some (.ref 85), some (.int v), none, none] [.int r1] s1
  refine g_run hx [(.aload_n 2, 0, 0), (.aload_n 0, 0, 0), (.iload 4, 0, 0), (.iconst 1, 1, 0), (.iadd, 0, 0)] (pc' := 389) (lo' := [some (.ref 92), some (.ref 0), some (.ref 66), some (.ref 85), some (.int v), none, none]) (st' := [.int (v + 1), .ref 92, .ref 66, .int r1]) (σ' := s1) (by decide +kernel) rfl rfl ?_
  refine g_sldX hx hS (lw_in1 hv hi hL) (by decide +kernel) ?_
  refine g_callV (rest := [.int r1]) [.int (xs (v + 1).toNatClampNeg)] hx hc mk_m_land ln_11_27 rfl (by decide +kernel) (Nat.le_of_ble_eq_true rfl) (Nat.le_of_ble_eq_true rfl) (s_m_land h) (fun r2 s2 h => ?_)
  change G x1 393 [some (.ref 92), some (.ref 0), some (.ref 66), some (.ref 85), some (.int v), none, none] [.int r2, .int r1] s2
  exact g_ic_eq hx (off := 1593) (tgt := 1986) (by decide +kernel) (by decide) (fun _ => K x1 s2 hl.dn h.2) (fun c => absurd h.1 c)
theorem lw_c2 (hN : 200000 ≤ N) (hl : LwC b L xs (k + 1) x) (hs : Sim σ) (hv : v = iI (i : Int)) (hi : i + 6 ≤ L) (hL : L ≤ 3072) (K : ∀ x1 s1, LwC b L xs k x1 → Sim s1 → G x1 1986 [some (.ref 92), some (.ref 0), some (.ref 66), some (.ref 85), some (.int v), none, none] [] s1) : G x 398 [some (.ref 92), some (.ref 0), some (.ref 66), some (.ref 85), some (.int v), none, none] [] σ := by
  have hx := hl.1
  have hc := hl.2.1
  have hS := hl.2.2.1
  refine g_run hx [(.aload_n 1, 0, 0)] (pc' := 399) (lo' := [some (.ref 92), some (.ref 0), some (.ref 66), some (.ref 85), some (.int v), none, none]) (st' := [.ref 0]) (σ' := σ) (by decide +kernel) rfl rfl ?_
  refine g_callV (rest := []) [] hx hc mk_x_fault ln_11_28 rfl (by decide +kernel) (Nat.le_of_ble_eq_true rfl) (Nat.le_of_ble_eq_true rfl) (s_x_fault (sim_fault (N := N) hs)) (fun r1 s1 h => ?_)
  change G x 402 [some (.ref 92), some (.ref 0), some (.ref 66), some (.ref 85), some (.int v), none, none] [.int r1] s1
  refine g_run hx [(.aload_n 2, 0, 0)] (pc' := 403) (lo' := [some (.ref 92), some (.ref 0), some (.ref 66), some (.ref 85), some (.int v), none, none]) (st' := [.ref 66, .int r1]) (σ' := s1) (by decide +kernel) rfl rfl ?_
  refine g_callV (rest := [.int r1]) [] hx hc mk_m_fault ln_11_32 rfl (by decide +kernel) (Nat.le_of_ble_eq_true rfl) (Nat.le_of_ble_eq_true rfl) (s_m_fault h) (fun r2 s2 h => ?_)
  change G x 406 [some (.ref 92), some (.ref 0), some (.ref 66), some (.ref 85), some (.int v), none, none] [.int r2, .int r1] s2
  exact g_ic_eq hx (off := 1580) (tgt := 1986) (by decide +kernel) (by decide) (fun _ => K x s2 hl.dn h.2) (fun c => absurd h.1 c)
theorem lw_c3 (hN : 200000 ≤ N) (hl : LwC b L xs (k + 1) x) (hs : Sim σ) (hv : v = iI (i : Int)) (hi : i + 6 ≤ L) (hL : L ≤ 3072) (K : ∀ x1 s1, LwC b L xs k x1 → Sim s1 → G x1 1986 [some (.ref 92), some (.ref 0), some (.ref 66), some (.ref 85), some (.int v), none, none] [] s1) : G x 411 [some (.ref 92), some (.ref 0), some (.ref 66), some (.ref 85), some (.int v), none, none] [] σ := by
  have hx := hl.1
  have hc := hl.2.1
  have hS := hl.2.2.1
  refine g_run hx [(.aload_n 1, 0, 0)] (pc' := 412) (lo' := [some (.ref 92), some (.ref 0), some (.ref 66), some (.ref 85), some (.int v), none, none]) (st' := [.ref 0]) (σ' := σ) (by decide +kernel) rfl rfl ?_
  refine g_callV (rest := []) [] hx hc mk_x_where ln_11_33 rfl (by decide +kernel) (Nat.le_of_ble_eq_true rfl) (Nat.le_of_ble_eq_true rfl) (s_x_where (sim_where (N := N) hs)) (fun r1 s1 h => ?_)
  change G x 415 [some (.ref 92), some (.ref 0), some (.ref 66), some (.ref 85), some (.int v), none, none] [.int r1] s1
  refine g_run hx [(.aload_n 2, 0, 0)] (pc' := 416) (lo' := [some (.ref 92), some (.ref 0), some (.ref 66), some (.ref 85), some (.int v), none, none]) (st' := [.ref 66, .int r1]) (σ' := s1) (by decide +kernel) rfl rfl ?_
  refine g_callV (rest := [.int r1]) [] hx hc mk_m_where ln_11_36 rfl (by decide +kernel) (Nat.le_of_ble_eq_true rfl) (Nat.le_of_ble_eq_true rfl) (s_m_where h) (fun r2 s2 h => ?_)
  change G x 419 [some (.ref 92), some (.ref 0), some (.ref 66), some (.ref 85), some (.int v), none, none] [.int r2, .int r1] s2
  exact g_ic_eq hx (off := 1567) (tgt := 1986) (by decide +kernel) (by decide) (fun _ => K x s2 hl.dn h.2) (fun c => absurd h.1 c)
theorem lw_c4 (hN : 200000 ≤ N) (hl : LwC b L xs (k + 1) x) (hs : Sim σ) (hv : v = iI (i : Int)) (hi : i + 6 ≤ L) (hL : L ≤ 3072) (K : ∀ x1 s1, LwC b L xs k x1 → Sim s1 → G x1 1986 [some (.ref 92), some (.ref 0), some (.ref 66), some (.ref 85), some (.int v), none, none] [] s1) : G x 424 [some (.ref 92), some (.ref 0), some (.ref 66), some (.ref 85), some (.int v), none, none] [] σ := by
  have hx := hl.1
  have hc := hl.2.1
  have hS := hl.2.2.1
  refine g_run hx [(.aload_n 1, 0, 0), (.aload_n 0, 0, 0), (.iload 4, 0, 0), (.iconst 1, 1, 0), (.iadd, 0, 0)] (pc' := 430) (lo' := [some (.ref 92), some (.ref 0), some (.ref 66), some (.ref 85), some (.int v), none, none]) (st' := [.int (v + 1), .ref 92, .ref 0]) (σ' := σ) (by decide +kernel) rfl rfl ?_
  refine g_sldX hx hS (lw_in1 hv hi hL) (by decide +kernel) ?_
  refine g_run hx [(.aload_n 0, 0, 0), (.iload 4, 0, 0), (.iconst 2, 2, 0), (.iadd, 0, 0)] (pc' := 436) (lo' := [some (.ref 92), some (.ref 0), some (.ref 66), some (.ref 85), some (.int v), none, none]) (st' := [.int (v + 2), .ref 92, .int (xs (v + 1).toNatClampNeg), .ref 0]) (σ' := σ) (by decide +kernel) rfl rfl ?_
  refine g_sldX hx hS (lw_in2 hv hi hL) (by decide +kernel) ?_
  refine g_callV (rest := []) [.int (xs (v + 1).toNatClampNeg), .int (xs (v + 2).toNatClampNeg)] hx hc mk_x_cell ln_11_37 rfl (by decide +kernel) (Nat.le_of_ble_eq_true rfl) (Nat.le_of_ble_eq_true rfl) (s_x_cell (sim_cell hN (xs (v + 1).toNatClampNeg) (xs (v + 2).toNatClampNeg) hs)) (fun r1 s1 h => ?_)
  change G x 440 [some (.ref 92), some (.ref 0), some (.ref 66), some (.ref 85), some (.int v), none, none] [.int r1] s1
  refine g_run hx [(.aload_n 2, 0, 0), (.aload_n 0, 0, 0), (.iload 4, 0, 0), (.iconst 1, 1, 0), (.iadd, 0, 0)] (pc' := 446) (lo' := [some (.ref 92), some (.ref 0), some (.ref 66), some (.ref 85), some (.int v), none, none]) (st' := [.int (v + 1), .ref 92, .ref 66, .int r1]) (σ' := s1) (by decide +kernel) rfl rfl ?_
  refine g_sldX hx hS (lw_in1 hv hi hL) (by decide +kernel) ?_
  refine g_run hx [(.aload_n 0, 0, 0), (.iload 4, 0, 0), (.iconst 2, 2, 0), (.iadd, 0, 0)] (pc' := 452) (lo' := [some (.ref 92), some (.ref 0), some (.ref 66), some (.ref 85), some (.int v), none, none]) (st' := [.int (v + 2), .ref 92, .int (xs (v + 1).toNatClampNeg), .ref 66, .int r1]) (σ' := s1) (by decide +kernel) rfl rfl ?_
  refine g_sldX hx hS (lw_in2 hv hi hL) (by decide +kernel) ?_
  refine g_callV (rest := [.int r1]) [.int (xs (v + 1).toNatClampNeg), .int (xs (v + 2).toNatClampNeg)] hx hc mk_m_cell ln_11_41 rfl (by decide +kernel) (Nat.le_of_ble_eq_true rfl) (Nat.le_of_ble_eq_true rfl) (s_m_cell h) (fun r2 s2 h => ?_)
  change G x 456 [some (.ref 92), some (.ref 0), some (.ref 66), some (.ref 85), some (.int v), none, none] [.int r2, .int r1] s2
  exact g_ic_eq hx (off := 1530) (tgt := 1986) (by decide +kernel) (by decide) (fun _ => K x s2 hl.dn h.2) (fun c => absurd h.1 c)
theorem lw_c5 (hN : 200000 ≤ N) (hl : LwC b L xs (k + 1) x) (hs : Sim σ) (hv : v = iI (i : Int)) (hi : i + 6 ≤ L) (hL : L ≤ 3072) (K : ∀ x1 s1, LwC b L xs k x1 → Sim s1 → G x1 1986 [some (.ref 92), some (.ref 0), some (.ref 66), some (.ref 85), some (.int v), none, none] [] s1) : G x 461 [some (.ref 92), some (.ref 0), some (.ref 66), some (.ref 85), some (.int v), none, none] [] σ := by
  have hx := hl.1
  have hc := hl.2.1
  have hS := hl.2.2.1
  refine g_run hx [(.aload_n 1, 0, 0), (.aload_n 0, 0, 0), (.iload 4, 0, 0), (.iconst 1, 1, 0), (.iadd, 0, 0)] (pc' := 467) (lo' := [some (.ref 92), some (.ref 0), some (.ref 66), some (.ref 85), some (.int v), none, none]) (st' := [.int (v + 1), .ref 92, .ref 0]) (σ' := σ) (by decide +kernel) rfl rfl ?_
  refine g_sldX hx hS (lw_in1 hv hi hL) (by decide +kernel) ?_
  refine g_run hx [(.aload_n 0, 0, 0), (.iload 4, 0, 0), (.iconst 2, 2, 0), (.iadd, 0, 0)] (pc' := 473) (lo' := [some (.ref 92), some (.ref 0), some (.ref 66), some (.ref 85), some (.int v), none, none]) (st' := [.int (v + 2), .ref 92, .int (xs (v + 1).toNatClampNeg), .ref 0]) (σ' := σ) (by decide +kernel) rfl rfl ?_
  refine g_sldX hx hS (lw_in2 hv hi hL) (by decide +kernel) ?_
  refine g_callV (rest := []) [.int (xs (v + 1).toNatClampNeg), .int (xs (v + 2).toNatClampNeg)] hx hc mk_x_place ln_11_42 rfl (by decide +kernel) (Nat.le_of_ble_eq_true rfl) (Nat.le_of_ble_eq_true rfl) (s_x_place (sim_place (N := N) (xs (v + 1).toNatClampNeg) (xs (v + 2).toNatClampNeg) hs)) (fun r1 s1 h => ?_)
  change G x 477 [some (.ref 92), some (.ref 0), some (.ref 66), some (.ref 85), some (.int v), none, none] [.int r1] s1
  refine g_run hx [(.aload_n 2, 0, 0), (.aload_n 0, 0, 0), (.iload 4, 0, 0), (.iconst 1, 1, 0), (.iadd, 0, 0)] (pc' := 483) (lo' := [some (.ref 92), some (.ref 0), some (.ref 66), some (.ref 85), some (.int v), none, none]) (st' := [.int (v + 1), .ref 92, .ref 66, .int r1]) (σ' := s1) (by decide +kernel) rfl rfl ?_
  refine g_sldX hx hS (lw_in1 hv hi hL) (by decide +kernel) ?_
  refine g_run hx [(.aload_n 0, 0, 0), (.iload 4, 0, 0), (.iconst 2, 2, 0), (.iadd, 0, 0)] (pc' := 489) (lo' := [some (.ref 92), some (.ref 0), some (.ref 66), some (.ref 85), some (.int v), none, none]) (st' := [.int (v + 2), .ref 92, .int (xs (v + 1).toNatClampNeg), .ref 66, .int r1]) (σ' := s1) (by decide +kernel) rfl rfl ?_
  refine g_sldX hx hS (lw_in2 hv hi hL) (by decide +kernel) ?_
  refine g_callV (rest := [.int r1]) [.int (xs (v + 1).toNatClampNeg), .int (xs (v + 2).toNatClampNeg)] hx hc mk_m_place ln_11_45 rfl (by decide +kernel) (Nat.le_of_ble_eq_true rfl) (Nat.le_of_ble_eq_true rfl) (s_m_place h) (fun r2 s2 h => ?_)
  change G x 493 [some (.ref 92), some (.ref 0), some (.ref 66), some (.ref 85), some (.int v), none, none] [.int r2, .int r1] s2
  exact g_ic_eq hx (off := 1493) (tgt := 1986) (by decide +kernel) (by decide) (fun _ => K x s2 hl.dn h.2) (fun c => absurd h.1 c)
theorem lw_c6 (hN : 200000 ≤ N) (hl : LwC b L xs (k + 1) x) (hs : Sim σ) (hv : v = iI (i : Int)) (hi : i + 6 ≤ L) (hL : L ≤ 3072) (K : ∀ x1 s1, LwC b L xs k x1 → Sim s1 → G x1 1986 [some (.ref 92), some (.ref 0), some (.ref 66), some (.ref 85), some (.int v), none, none] [] s1) : G x 498 [some (.ref 92), some (.ref 0), some (.ref 66), some (.ref 85), some (.int v), none, none] [] σ := by
  have hx := hl.1
  have hc := hl.2.1
  have hS := hl.2.2.1
  refine g_run hx [(.aload_n 1, 0, 0), (.aload_n 0, 0, 0), (.iload 4, 0, 0), (.iconst 1, 1, 0), (.iadd, 0, 0)] (pc' := 504) (lo' := [some (.ref 92), some (.ref 0), some (.ref 66), some (.ref 85), some (.int v), none, none]) (st' := [.int (v + 1), .ref 92, .ref 0]) (σ' := σ) (by decide +kernel) rfl rfl ?_
  refine g_sldX hx hS (lw_in1 hv hi hL) (by decide +kernel) ?_
  refine g_callV (rest := []) [.int (xs (v + 1).toNatClampNeg)] hx hc mk_x_boots ln_11_46 rfl (by decide +kernel) (Nat.le_of_ble_eq_true rfl) (Nat.le_of_ble_eq_true rfl) (s_x_boots (sim_boots (N := N) (xs (v + 1).toNatClampNeg) hs)) (fun r1 s1 h => ?_)
  change G x 508 [some (.ref 92), some (.ref 0), some (.ref 66), some (.ref 85), some (.int v), none, none] [.int r1] s1
  refine g_run hx [(.aload_n 2, 0, 0), (.aload_n 0, 0, 0), (.iload 4, 0, 0), (.iconst 1, 1, 0), (.iadd, 0, 0)] (pc' := 514) (lo' := [some (.ref 92), some (.ref 0), some (.ref 66), some (.ref 85), some (.int v), none, none]) (st' := [.int (v + 1), .ref 92, .ref 66, .int r1]) (σ' := s1) (by decide +kernel) rfl rfl ?_
  refine g_sldX hx hS (lw_in1 hv hi hL) (by decide +kernel) ?_
  refine g_callV (rest := [.int r1]) [.int (xs (v + 1).toNatClampNeg)] hx hc mk_m_boots ln_11_49 rfl (by decide +kernel) (Nat.le_of_ble_eq_true rfl) (Nat.le_of_ble_eq_true rfl) (s_m_boots h) (fun r2 s2 h => ?_)
  change G x 518 [some (.ref 92), some (.ref 0), some (.ref 66), some (.ref 85), some (.int v), none, none] [.int r2, .int r1] s2
  exact g_ic_eq hx (off := 1468) (tgt := 1986) (by decide +kernel) (by decide) (fun _ => K x s2 hl.dn h.2) (fun c => absurd h.1 c)
theorem lw_c7 (hN : 200000 ≤ N) (hl : LwC b L xs (k + 1) x) (hs : Sim σ) (hv : v = iI (i : Int)) (hi : i + 6 ≤ L) (hL : L ≤ 3072) (K : ∀ x1 s1, LwC b L xs k x1 → Sim s1 → G x1 1986 [some (.ref 92), some (.ref 0), some (.ref 66), some (.ref 85), some (.int v), none, none] [] s1) : G x 523 [some (.ref 92), some (.ref 0), some (.ref 66), some (.ref 85), some (.int v), none, none] [] σ := by
  have hx := hl.1
  have hc := hl.2.1
  have hS := hl.2.2.1
  refine g_run hx [(.aload_n 1, 0, 0)] (pc' := 524) (lo' := [some (.ref 92), some (.ref 0), some (.ref 66), some (.ref 85), some (.int v), none, none]) (st' := [.ref 0]) (σ' := σ) (by decide +kernel) rfl rfl ?_
  refine g_callV (rest := []) [] hx hc mk_x_son ln_11_50 rfl (by decide +kernel) (Nat.le_of_ble_eq_true rfl) (Nat.le_of_ble_eq_true rfl) (s_x_son (sim_son (N := N) hs)) (fun r1 s1 h => ?_)
  change G x 527 [some (.ref 92), some (.ref 0), some (.ref 66), some (.ref 85), some (.int v), none, none] [.int r1] s1
  refine g_run hx [(.aload_n 2, 0, 0)] (pc' := 528) (lo' := [some (.ref 92), some (.ref 0), some (.ref 66), some (.ref 85), some (.int v), none, none]) (st' := [.ref 66, .int r1]) (σ' := s1) (by decide +kernel) rfl rfl ?_
  refine g_callV (rest := [.int r1]) [] hx hc mk_m_son ln_11_53 rfl (by decide +kernel) (Nat.le_of_ble_eq_true rfl) (Nat.le_of_ble_eq_true rfl) (s_m_son h) (fun r2 s2 h => ?_)
  change G x 531 [some (.ref 92), some (.ref 0), some (.ref 66), some (.ref 85), some (.int v), none, none] [.int r2, .int r1] s2
  exact g_ic_eq hx (off := 1455) (tgt := 1986) (by decide +kernel) (by decide) (fun _ => K x s2 hl.dn h.2) (fun c => absurd h.1 c)
theorem lw_c8 (hN : 200000 ≤ N) (hl : LwC b L xs (k + 1) x) (hs : Sim σ) (hv : v = iI (i : Int)) (hi : i + 6 ≤ L) (hL : L ≤ 3072) (K : ∀ x1 s1, LwC b L xs k x1 → Sim s1 → G x1 1986 [some (.ref 92), some (.ref 0), some (.ref 66), some (.ref 85), some (.int v), none, none] [] s1) : G x 536 [some (.ref 92), some (.ref 0), some (.ref 66), some (.ref 85), some (.int v), none, none] [] σ := by
  have hx := hl.1
  have hc := hl.2.1
  have hS := hl.2.2.1
  refine g_run hx [(.aload_n 1, 0, 0)] (pc' := 537) (lo' := [some (.ref 92), some (.ref 0), some (.ref 66), some (.ref 85), some (.int v), none, none]) (st' := [.ref 0]) (σ' := σ) (by decide +kernel) rfl rfl ?_
  refine g_callV (rest := []) [] hx hc mk_x_curate ln_11_54 rfl (by decide +kernel) (Nat.le_of_ble_eq_true rfl) (Nat.le_of_ble_eq_true rfl) (s_x_curate (sim_curate (N := N) hs)) (fun r1 s1 h => ?_)
  change G x 540 [some (.ref 92), some (.ref 0), some (.ref 66), some (.ref 85), some (.int v), none, none] [.int r1] s1
  refine g_run hx [(.aload_n 2, 0, 0)] (pc' := 541) (lo' := [some (.ref 92), some (.ref 0), some (.ref 66), some (.ref 85), some (.int v), none, none]) (st' := [.ref 66, .int r1]) (σ' := s1) (by decide +kernel) rfl rfl ?_
  refine g_callV (rest := [.int r1]) [] hx hc mk_m_curate ln_11_57 rfl (by decide +kernel) (Nat.le_of_ble_eq_true rfl) (Nat.le_of_ble_eq_true rfl) (s_m_curate h) (fun r2 s2 h => ?_)
  change G x 544 [some (.ref 92), some (.ref 0), some (.ref 66), some (.ref 85), some (.int v), none, none] [.int r2, .int r1] s2
  exact g_ic_eq hx (off := 1442) (tgt := 1986) (by decide +kernel) (by decide) (fun _ => K x s2 hl.dn h.2) (fun c => absurd h.1 c)
theorem lw_c9 (hN : 200000 ≤ N) (hl : LwC b L xs (k + 1) x) (hs : Sim σ) (hv : v = iI (i : Int)) (hi : i + 6 ≤ L) (hL : L ≤ 3072) (K : ∀ x1 s1, LwC b L xs k x1 → Sim s1 → G x1 1986 [some (.ref 92), some (.ref 0), some (.ref 66), some (.ref 85), some (.int v), none, none] [] s1) : G x 549 [some (.ref 92), some (.ref 0), some (.ref 66), some (.ref 85), some (.int v), none, none] [] σ := by
  have hx := hl.1
  have hc := hl.2.1
  have hS := hl.2.2.1
  refine g_run hx [(.aload_n 1, 0, 0)] (pc' := 550) (lo' := [some (.ref 92), some (.ref 0), some (.ref 66), some (.ref 85), some (.int v), none, none]) (st' := [.ref 0]) (σ' := σ) (by decide +kernel) rfl rfl ?_
  refine g_callV (rest := []) [] hx hc mk_x_gone ln_11_58 rfl (by decide +kernel) (Nat.le_of_ble_eq_true rfl) (Nat.le_of_ble_eq_true rfl) (s_x_gone (sim_gone hN hs)) (fun r1 s1 h => ?_)
  change G x 553 [some (.ref 92), some (.ref 0), some (.ref 66), some (.ref 85), some (.int v), none, none] [.int r1] s1
  refine g_run hx [(.aload_n 2, 0, 0)] (pc' := 554) (lo' := [some (.ref 92), some (.ref 0), some (.ref 66), some (.ref 85), some (.int v), none, none]) (st' := [.ref 66, .int r1]) (σ' := s1) (by decide +kernel) rfl rfl ?_
  refine g_callV (rest := [.int r1]) [] hx hc mk_m_gone ln_11_61 rfl (by decide +kernel) (Nat.le_of_ble_eq_true rfl) (Nat.le_of_ble_eq_true rfl) (s_m_gone h) (fun r2 s2 h => ?_)
  change G x 557 [some (.ref 92), some (.ref 0), some (.ref 66), some (.ref 85), some (.int v), none, none] [.int r2, .int r1] s2
  exact g_ic_eq hx (off := 1429) (tgt := 1986) (by decide +kernel) (by decide) (fun _ => K x s2 hl.dn h.2) (fun c => absurd h.1 c)
end LAWC
