section LAWC
variable {x : CX} {b L k i N : Nat} {xs : Nat → Int32} {v : Int32} {σ : Sg}
theorem lw_c10 (hN : 200000 ≤ N) (hl : LwC b L xs (k + 1) x) (hs : Sim σ) (hv : v = iI (i : Int)) (hi : i + 6 ≤ L) (hL : L ≤ 3072) (K : ∀ x1 s1, LwC b L xs k x1 → Sim s1 → G x1 1986 [some (.ref 92), some (.ref 0), some (.ref 66), some (.ref 85), some (.int v), none, none] [] s1) : G x 562 [some (.ref 92), some (.ref 0), some (.ref 66), some (.ref 85), some (.int v), none, none] [] σ := by
  have hx := hl.1
  have hc := hl.2.1
  have hS := hl.2.2.1
  refine g_run hx [(.aload_n 1, 0, 0)] (pc' := 563) (lo' := [some (.ref 92), some (.ref 0), some (.ref 66), some (.ref 85), some (.int v), none, none]) (st' := [.ref 0]) (σ' := σ) (by decide +kernel) rfl rfl ?_
  refine g_callV (rest := []) [] hx hc mk_x_lost ln_11_62 rfl (by decide +kernel) (Nat.le_of_ble_eq_true rfl) (Nat.le_of_ble_eq_true rfl) (s_x_lost (sim_lost hN hs)) (fun r1 s1 h => ?_)
  change G x 566 [some (.ref 92), some (.ref 0), some (.ref 66), some (.ref 85), some (.int v), none, none] [.int r1] s1
  refine g_run hx [(.aload_n 2, 0, 0)] (pc' := 567) (lo' := [some (.ref 92), some (.ref 0), some (.ref 66), some (.ref 85), some (.int v), none, none]) (st' := [.ref 66, .int r1]) (σ' := s1) (by decide +kernel) rfl rfl ?_
  refine g_callV (rest := [.int r1]) [] hx hc mk_m_lost ln_11_65 rfl (by decide +kernel) (Nat.le_of_ble_eq_true rfl) (Nat.le_of_ble_eq_true rfl) (s_m_lost h) (fun r2 s2 h => ?_)
  change G x 570 [some (.ref 92), some (.ref 0), some (.ref 66), some (.ref 85), some (.int v), none, none] [.int r2, .int r1] s2
  exact g_ic_eq hx (off := 1416) (tgt := 1986) (by decide +kernel) (by decide) (fun _ => K x s2 hl.dn h.2) (fun c => absurd h.1 c)
theorem lw_c11 (hN : 200000 ≤ N) (hl : LwC b L xs (k + 1) x) (hs : Sim σ) (hv : v = iI (i : Int)) (hi : i + 6 ≤ L) (hL : L ≤ 3072) (K : ∀ x1 s1, LwC b L xs k x1 → Sim s1 → G x1 1986 [some (.ref 92), some (.ref 0), some (.ref 66), some (.ref 85), some (.int v), none, none] [] s1) : G x 575 [some (.ref 92), some (.ref 0), some (.ref 66), some (.ref 85), some (.int v), none, none] [] σ := by
  have hx := hl.1
  have hc := hl.2.1
  have hS := hl.2.2.1
  refine g_run hx [(.aload_n 1, 0, 0)] (pc' := 576) (lo' := [some (.ref 92), some (.ref 0), some (.ref 66), some (.ref 85), some (.int v), none, none]) (st' := [.ref 0]) (σ' := σ) (by decide +kernel) rfl rfl ?_
  refine g_callV (rest := []) [] hx hc mk_x_stretches ln_11_66 rfl (by decide +kernel) (Nat.le_of_ble_eq_true rfl) (Nat.le_of_ble_eq_true rfl) (s_x_stretches (sim_stretches hN hs)) (fun r1 s1 h => ?_)
  change G x 579 [some (.ref 92), some (.ref 0), some (.ref 66), some (.ref 85), some (.int v), none, none] [.int r1] s1
  refine g_run hx [(.aload_n 2, 0, 0)] (pc' := 580) (lo' := [some (.ref 92), some (.ref 0), some (.ref 66), some (.ref 85), some (.int v), none, none]) (st' := [.ref 66, .int r1]) (σ' := s1) (by decide +kernel) rfl rfl ?_
  refine g_callV (rest := [.int r1]) [] hx hc mk_m_stretches ln_11_69 rfl (by decide +kernel) (Nat.le_of_ble_eq_true rfl) (Nat.le_of_ble_eq_true rfl) (s_m_stretches h) (fun r2 s2 h => ?_)
  change G x 583 [some (.ref 92), some (.ref 0), some (.ref 66), some (.ref 85), some (.int v), none, none] [.int r2, .int r1] s2
  exact g_ic_eq hx (off := 1403) (tgt := 1986) (by decide +kernel) (by decide) (fun _ => K x s2 hl.dn h.2) (fun c => absurd h.1 c)
theorem lw_c12 (hN : 200000 ≤ N) (hl : LwC b L xs (k + 1) x) (hs : Sim σ) (hv : v = iI (i : Int)) (hi : i + 6 ≤ L) (hL : L ≤ 3072) (K : ∀ x1 s1, LwC b L xs k x1 → Sim s1 → G x1 1986 [some (.ref 92), some (.ref 0), some (.ref 66), some (.ref 85), some (.int v), none, none] [] s1) : G x 588 [some (.ref 92), some (.ref 0), some (.ref 66), some (.ref 85), some (.int v), none, none] [] σ := by
  have hx := hl.1
  have hc := hl.2.1
  have hS := hl.2.2.1
  refine g_run hx [(.aload_n 1, 0, 0)] (pc' := 589) (lo' := [some (.ref 92), some (.ref 0), some (.ref 66), some (.ref 85), some (.int v), none, none]) (st' := [.ref 0]) (σ' := σ) (by decide +kernel) rfl rfl ?_
  refine g_callV (rest := []) [] hx hc mk_x_longest ln_11_70 rfl (by decide +kernel) (Nat.le_of_ble_eq_true rfl) (Nat.le_of_ble_eq_true rfl) (s_x_longest (sim_longest hN hs)) (fun r1 s1 h => ?_)
  change G x 592 [some (.ref 92), some (.ref 0), some (.ref 66), some (.ref 85), some (.int v), none, none] [.int r1] s1
  refine g_run hx [(.aload_n 2, 0, 0)] (pc' := 593) (lo' := [some (.ref 92), some (.ref 0), some (.ref 66), some (.ref 85), some (.int v), none, none]) (st' := [.ref 66, .int r1]) (σ' := s1) (by decide +kernel) rfl rfl ?_
  refine g_callV (rest := [.int r1]) [] hx hc mk_m_longest ln_11_73 rfl (by decide +kernel) (Nat.le_of_ble_eq_true rfl) (Nat.le_of_ble_eq_true rfl) (s_m_longest h) (fun r2 s2 h => ?_)
  change G x 596 [some (.ref 92), some (.ref 0), some (.ref 66), some (.ref 85), some (.int v), none, none] [.int r2, .int r1] s2
  exact g_ic_eq hx (off := 1390) (tgt := 1986) (by decide +kernel) (by decide) (fun _ => K x s2 hl.dn h.2) (fun c => absurd h.1 c)
theorem lw_c13 (hN : 200000 ≤ N) (hl : LwC b L xs (k + 1) x) (hs : Sim σ) (hv : v = iI (i : Int)) (hi : i + 6 ≤ L) (hL : L ≤ 3072) (K : ∀ x1 s1, LwC b L xs k x1 → Sim s1 → G x1 1986 [some (.ref 92), some (.ref 0), some (.ref 66), some (.ref 85), some (.int v), none, none] [] s1) : G x 601 [some (.ref 92), some (.ref 0), some (.ref 66), some (.ref 85), some (.int v), none, none] [] σ := by
  have hx := hl.1
  have hc := hl.2.1
  have hS := hl.2.2.1
  refine g_run hx [(.aload_n 1, 0, 0)] (pc' := 602) (lo' := [some (.ref 92), some (.ref 0), some (.ref 66), some (.ref 85), some (.int v), none, none]) (st' := [.ref 0]) (σ' := σ) (by decide +kernel) rfl rfl ?_
  refine g_callV (rest := []) [] hx hc mk_x_widest ln_11_74 rfl (by decide +kernel) (Nat.le_of_ble_eq_true rfl) (Nat.le_of_ble_eq_true rfl) (s_x_widest (sim_widest hN hs)) (fun r1 s1 h => ?_)
  change G x 605 [some (.ref 92), some (.ref 0), some (.ref 66), some (.ref 85), some (.int v), none, none] [.int r1] s1
  refine g_run hx [(.aload_n 2, 0, 0)] (pc' := 606) (lo' := [some (.ref 92), some (.ref 0), some (.ref 66), some (.ref 85), some (.int v), none, none]) (st' := [.ref 66, .int r1]) (σ' := s1) (by decide +kernel) rfl rfl ?_
  refine g_callV (rest := [.int r1]) [] hx hc mk_m_widest ln_11_77 rfl (by decide +kernel) (Nat.le_of_ble_eq_true rfl) (Nat.le_of_ble_eq_true rfl) (s_m_widest h) (fun r2 s2 h => ?_)
  change G x 609 [some (.ref 92), some (.ref 0), some (.ref 66), some (.ref 85), some (.int v), none, none] [.int r2, .int r1] s2
  exact g_ic_eq hx (off := 1377) (tgt := 1986) (by decide +kernel) (by decide) (fun _ => K x s2 hl.dn h.2) (fun c => absurd h.1 c)
theorem lw_c14 (hN : 200000 ≤ N) (hl : LwC b L xs (k + 1) x) (hs : Sim σ) (hv : v = iI (i : Int)) (hi : i + 6 ≤ L) (hL : L ≤ 3072) (K : ∀ x1 s1, LwC b L xs k x1 → Sim s1 → G x1 1986 [some (.ref 92), some (.ref 0), some (.ref 66), some (.ref 85), some (.int v), none, none] [] s1) : G x 614 [some (.ref 92), some (.ref 0), some (.ref 66), some (.ref 85), some (.int v), none, none] [] σ := by
  have hx := hl.1
  have hc := hl.2.1
  have hS := hl.2.2.1
  refine g_run hx [(.aload_n 1, 0, 0), (.aload_n 0, 0, 0), (.iload 4, 0, 0), (.iconst 1, 1, 0), (.iadd, 0, 0)] (pc' := 620) (lo' := [some (.ref 92), some (.ref 0), some (.ref 66), some (.ref 85), some (.int v), none, none]) (st' := [.int (v + 1), .ref 92, .ref 0]) (σ' := σ) (by decide +kernel) rfl rfl ?_
  refine g_sldX hx hS (lw_in1 hv hi hL) (by decide +kernel) ?_
  refine g_run hx [(.aload_n 0, 0, 0), (.iload 4, 0, 0), (.iconst 2, 2, 0), (.iadd, 0, 0)] (pc' := 626) (lo' := [some (.ref 92), some (.ref 0), some (.ref 66), some (.ref 85), some (.int v), none, none]) (st' := [.int (v + 2), .ref 92, .int (xs (v + 1).toNatClampNeg), .ref 0]) (σ' := σ) (by decide +kernel) rfl rfl ?_
  refine g_sldX hx hS (lw_in2 hv hi hL) (by decide +kernel) ?_
  refine g_callV (rest := []) [.int (xs (v + 1).toNatClampNeg), .int (xs (v + 2).toNatClampNeg)] hx hc mk_x_between ln_11_78 rfl (by decide +kernel) (Nat.le_of_ble_eq_true rfl) (Nat.le_of_ble_eq_true rfl) (s_x_between (sim_between hN (xs (v + 1).toNatClampNeg) (xs (v + 2).toNatClampNeg) hs)) (fun r1 s1 h => ?_)
  change G x 630 [some (.ref 92), some (.ref 0), some (.ref 66), some (.ref 85), some (.int v), none, none] [.int r1] s1
  refine g_run hx [(.aload_n 2, 0, 0), (.aload_n 0, 0, 0), (.iload 4, 0, 0), (.iconst 1, 1, 0), (.iadd, 0, 0)] (pc' := 636) (lo' := [some (.ref 92), some (.ref 0), some (.ref 66), some (.ref 85), some (.int v), none, none]) (st' := [.int (v + 1), .ref 92, .ref 66, .int r1]) (σ' := s1) (by decide +kernel) rfl rfl ?_
  refine g_sldX hx hS (lw_in1 hv hi hL) (by decide +kernel) ?_
  refine g_run hx [(.aload_n 0, 0, 0), (.iload 4, 0, 0), (.iconst 2, 2, 0), (.iadd, 0, 0)] (pc' := 642) (lo' := [some (.ref 92), some (.ref 0), some (.ref 66), some (.ref 85), some (.int v), none, none]) (st' := [.int (v + 2), .ref 92, .int (xs (v + 1).toNatClampNeg), .ref 66, .int r1]) (σ' := s1) (by decide +kernel) rfl rfl ?_
  refine g_sldX hx hS (lw_in2 hv hi hL) (by decide +kernel) ?_
  refine g_callV (rest := [.int r1]) [.int (xs (v + 1).toNatClampNeg), .int (xs (v + 2).toNatClampNeg)] hx hc mk_m_between ln_11_81 rfl (by decide +kernel) (Nat.le_of_ble_eq_true rfl) (Nat.le_of_ble_eq_true rfl) (s_m_between h) (fun r2 s2 h => ?_)
  change G x 646 [some (.ref 92), some (.ref 0), some (.ref 66), some (.ref 85), some (.int v), none, none] [.int r2, .int r1] s2
  exact g_ic_eq hx (off := 1340) (tgt := 1986) (by decide +kernel) (by decide) (fun _ => K x s2 hl.dn h.2) (fun c => absurd h.1 c)
theorem lw_c15 (hN : 200000 ≤ N) (hl : LwC b L xs (k + 1) x) (hs : Sim σ) (hv : v = iI (i : Int)) (hi : i + 6 ≤ L) (hL : L ≤ 3072) (K : ∀ x1 s1, LwC b L xs k x1 → Sim s1 → G x1 1986 [some (.ref 92), some (.ref 0), some (.ref 66), some (.ref 85), some (.int v), none, none] [] s1) : G x 651 [some (.ref 92), some (.ref 0), some (.ref 66), some (.ref 85), some (.int v), none, none] [] σ := by
  have hx := hl.1
  have hc := hl.2.1
  have hS := hl.2.2.1
  refine g_run hx [(.aload_n 1, 0, 0), (.aload_n 0, 0, 0), (.iload 4, 0, 0), (.iconst 1, 1, 0), (.iadd, 0, 0)] (pc' := 657) (lo' := [some (.ref 92), some (.ref 0), some (.ref 66), some (.ref 85), some (.int v), none, none]) (st' := [.int (v + 1), .ref 92, .ref 0]) (σ' := σ) (by decide +kernel) rfl rfl ?_
  refine g_sldX hx hS (lw_in1 hv hi hL) (by decide +kernel) ?_
  refine g_run hx [(.aload_n 0, 0, 0), (.iload 4, 0, 0), (.iconst 2, 2, 0), (.iadd, 0, 0)] (pc' := 663) (lo' := [some (.ref 92), some (.ref 0), some (.ref 66), some (.ref 85), some (.int v), none, none]) (st' := [.int (v + 2), .ref 92, .int (xs (v + 1).toNatClampNeg), .ref 0]) (σ' := σ) (by decide +kernel) rfl rfl ?_
  refine g_sldX hx hS (lw_in2 hv hi hL) (by decide +kernel) ?_
  refine g_callV (rest := []) [.int (xs (v + 1).toNatClampNeg), .int (xs (v + 2).toNatClampNeg)] hx hc mk_x_deep ln_11_82 rfl (by decide +kernel) (Nat.le_of_ble_eq_true rfl) (Nat.le_of_ble_eq_true rfl) (s_x_deep (sim_deep hN (xs (v + 1).toNatClampNeg) (xs (v + 2).toNatClampNeg) hs)) (fun r1 s1 h => ?_)
  change G x 667 [some (.ref 92), some (.ref 0), some (.ref 66), some (.ref 85), some (.int v), none, none] [.int r1] s1
  refine g_run hx [(.aload_n 2, 0, 0), (.aload_n 0, 0, 0), (.iload 4, 0, 0), (.iconst 1, 1, 0), (.iadd, 0, 0)] (pc' := 673) (lo' := [some (.ref 92), some (.ref 0), some (.ref 66), some (.ref 85), some (.int v), none, none]) (st' := [.int (v + 1), .ref 92, .ref 66, .int r1]) (σ' := s1) (by decide +kernel) rfl rfl ?_
  refine g_sldX hx hS (lw_in1 hv hi hL) (by decide +kernel) ?_
  refine g_run hx [(.aload_n 0, 0, 0), (.iload 4, 0, 0), (.iconst 2, 2, 0), (.iadd, 0, 0)] (pc' := 679) (lo' := [some (.ref 92), some (.ref 0), some (.ref 66), some (.ref 85), some (.int v), none, none]) (st' := [.int (v + 2), .ref 92, .int (xs (v + 1).toNatClampNeg), .ref 66, .int r1]) (σ' := s1) (by decide +kernel) rfl rfl ?_
  refine g_sldX hx hS (lw_in2 hv hi hL) (by decide +kernel) ?_
  refine g_callV (rest := [.int r1]) [.int (xs (v + 1).toNatClampNeg), .int (xs (v + 2).toNatClampNeg)] hx hc mk_m_deep ln_11_85 rfl (by decide +kernel) (Nat.le_of_ble_eq_true rfl) (Nat.le_of_ble_eq_true rfl) (s_m_deep h) (fun r2 s2 h => ?_)
  change G x 683 [some (.ref 92), some (.ref 0), some (.ref 66), some (.ref 85), some (.int v), none, none] [.int r2, .int r1] s2
  exact g_ic_eq hx (off := 1303) (tgt := 1986) (by decide +kernel) (by decide) (fun _ => K x s2 hl.dn h.2) (fun c => absurd h.1 c)
theorem lw_c16 (hN : 200000 ≤ N) (hl : LwC b L xs (k + 1) x) (hs : Sim σ) (hv : v = iI (i : Int)) (hi : i + 6 ≤ L) (hL : L ≤ 3072) (K : ∀ x1 s1, LwC b L xs k x1 → Sim s1 → G x1 1986 [some (.ref 92), some (.ref 0), some (.ref 66), some (.ref 85), some (.int v), none, none] [] s1) : G x 688 [some (.ref 92), some (.ref 0), some (.ref 66), some (.ref 85), some (.int v), none, none] [] σ := by
  have hx := hl.1
  have hc := hl.2.1
  have hS := hl.2.2.1
  refine g_run hx [(.aload_n 1, 0, 0)] (pc' := 689) (lo' := [some (.ref 92), some (.ref 0), some (.ref 66), some (.ref 85), some (.int v), none, none]) (st' := [.ref 0]) (σ' := σ) (by decide +kernel) rfl rfl ?_
  refine g_callV (rest := []) [] hx hc mk_x_nearest ln_11_86 rfl (by decide +kernel) (Nat.le_of_ble_eq_true rfl) (Nat.le_of_ble_eq_true rfl) (s_x_nearest (sim_nearest hN hs)) (fun r1 s1 h => ?_)
  change G x 692 [some (.ref 92), some (.ref 0), some (.ref 66), some (.ref 85), some (.int v), none, none] [.int r1] s1
  refine g_run hx [(.aload_n 2, 0, 0)] (pc' := 693) (lo' := [some (.ref 92), some (.ref 0), some (.ref 66), some (.ref 85), some (.int v), none, none]) (st' := [.ref 66, .int r1]) (σ' := s1) (by decide +kernel) rfl rfl ?_
  refine g_callV (rest := [.int r1]) [] hx hc mk_m_nearest ln_11_89 rfl (by decide +kernel) (Nat.le_of_ble_eq_true rfl) (Nat.le_of_ble_eq_true rfl) (s_m_nearest h) (fun r2 s2 h => ?_)
  change G x 696 [some (.ref 92), some (.ref 0), some (.ref 66), some (.ref 85), some (.int v), none, none] [.int r2, .int r1] s2
  exact g_ic_eq hx (off := 1290) (tgt := 1986) (by decide +kernel) (by decide) (fun _ => K x s2 hl.dn h.2) (fun c => absurd h.1 c)
theorem lw_c17 (hN : 200000 ≤ N) (hl : LwC b L xs (k + 1) x) (hs : Sim σ) (hv : v = iI (i : Int)) (hi : i + 6 ≤ L) (hL : L ≤ 3072) (K : ∀ x1 s1, LwC b L xs k x1 → Sim s1 → G x1 1986 [some (.ref 92), some (.ref 0), some (.ref 66), some (.ref 85), some (.int v), none, none] [] s1) : G x 701 [some (.ref 92), some (.ref 0), some (.ref 66), some (.ref 85), some (.int v), none, none] [] σ := by
  have hx := hl.1
  have hc := hl.2.1
  have hS := hl.2.2.1
  refine g_run hx [(.aload_n 1, 0, 0), (.aload_n 0, 0, 0), (.iload 4, 0, 0), (.iconst 1, 1, 0), (.iadd, 0, 0)] (pc' := 707) (lo' := [some (.ref 92), some (.ref 0), some (.ref 66), some (.ref 85), some (.int v), none, none]) (st' := [.int (v + 1), .ref 92, .ref 0]) (σ' := σ) (by decide +kernel) rfl rfl ?_
  refine g_sldX hx hS (lw_in1 hv hi hL) (by decide +kernel) ?_
  refine g_callV (rest := []) [.int (xs (v + 1).toNatClampNeg)] hx hc mk_x_goneIn ln_11_90 rfl (by decide +kernel) (Nat.le_of_ble_eq_true rfl) (Nat.le_of_ble_eq_true rfl) (s_x_goneIn (sim_goneIn hN (xs (v + 1).toNatClampNeg) hs)) (fun r1 s1 h => ?_)
  change G x 711 [some (.ref 92), some (.ref 0), some (.ref 66), some (.ref 85), some (.int v), none, none] [.int r1] s1
  refine g_run hx [(.aload_n 2, 0, 0), (.aload_n 0, 0, 0), (.iload 4, 0, 0), (.iconst 1, 1, 0), (.iadd, 0, 0)] (pc' := 717) (lo' := [some (.ref 92), some (.ref 0), some (.ref 66), some (.ref 85), some (.int v), none, none]) (st' := [.int (v + 1), .ref 92, .ref 66, .int r1]) (σ' := s1) (by decide +kernel) rfl rfl ?_
  refine g_sldX hx hS (lw_in1 hv hi hL) (by decide +kernel) ?_
  refine g_callV (rest := [.int r1]) [.int (xs (v + 1).toNatClampNeg)] hx hc mk_m_goneIn ln_11_93 rfl (by decide +kernel) (Nat.le_of_ble_eq_true rfl) (Nat.le_of_ble_eq_true rfl) (s_m_goneIn h) (fun r2 s2 h => ?_)
  change G x 721 [some (.ref 92), some (.ref 0), some (.ref 66), some (.ref 85), some (.int v), none, none] [.int r2, .int r1] s2
  exact g_ic_eq hx (off := 1265) (tgt := 1986) (by decide +kernel) (by decide) (fun _ => K x s2 hl.dn h.2) (fun c => absurd h.1 c)
theorem lw_c18 (hN : 200000 ≤ N) (hl : LwC b L xs (k + 1) x) (hs : Sim σ) (hv : v = iI (i : Int)) (hi : i + 6 ≤ L) (hL : L ≤ 3072) (K : ∀ x1 s1, LwC b L xs k x1 → Sim s1 → G x1 1986 [some (.ref 92), some (.ref 0), some (.ref 66), some (.ref 85), some (.int v), none, none] [] s1) : G x 726 [some (.ref 92), some (.ref 0), some (.ref 66), some (.ref 85), some (.int v), none, none] [] σ := by
  have hx := hl.1
  have hc := hl.2.1
  have hS := hl.2.2.1
  refine g_run hx [(.aload_n 1, 0, 0), (.aload_n 0, 0, 0), (.iload 4, 0, 0), (.iconst 1, 1, 0), (.iadd, 0, 0)] (pc' := 732) (lo' := [some (.ref 92), some (.ref 0), some (.ref 66), some (.ref 85), some (.int v), none, none]) (st' := [.int (v + 1), .ref 92, .ref 0]) (σ' := σ) (by decide +kernel) rfl rfl ?_
  refine g_sldX hx hS (lw_in1 hv hi hL) (by decide +kernel) ?_
  refine g_callV (rest := []) [.int (xs (v + 1).toNatClampNeg)] hx hc mk_x_lostIn ln_11_94 rfl (by decide +kernel) (Nat.le_of_ble_eq_true rfl) (Nat.le_of_ble_eq_true rfl) (s_x_lostIn (sim_lostIn hN (xs (v + 1).toNatClampNeg) hs)) (fun r1 s1 h => ?_)
  change G x 736 [some (.ref 92), some (.ref 0), some (.ref 66), some (.ref 85), some (.int v), none, none] [.int r1] s1
  refine g_run hx [(.aload_n 2, 0, 0), (.aload_n 0, 0, 0), (.iload 4, 0, 0), (.iconst 1, 1, 0), (.iadd, 0, 0)] (pc' := 742) (lo' := [some (.ref 92), some (.ref 0), some (.ref 66), some (.ref 85), some (.int v), none, none]) (st' := [.int (v + 1), .ref 92, .ref 66, .int r1]) (σ' := s1) (by decide +kernel) rfl rfl ?_
  refine g_sldX hx hS (lw_in1 hv hi hL) (by decide +kernel) ?_
  refine g_callV (rest := [.int r1]) [.int (xs (v + 1).toNatClampNeg)] hx hc mk_m_lostIn ln_11_97 rfl (by decide +kernel) (Nat.le_of_ble_eq_true rfl) (Nat.le_of_ble_eq_true rfl) (s_m_lostIn h) (fun r2 s2 h => ?_)
  change G x 746 [some (.ref 92), some (.ref 0), some (.ref 66), some (.ref 85), some (.int v), none, none] [.int r2, .int r1] s2
  exact g_ic_eq hx (off := 1240) (tgt := 1986) (by decide +kernel) (by decide) (fun _ => K x s2 hl.dn h.2) (fun c => absurd h.1 c)
theorem lw_c19 (hN : 200000 ≤ N) (hl : LwC b L xs (k + 1) x) (hs : Sim σ) (hv : v = iI (i : Int)) (hi : i + 6 ≤ L) (hL : L ≤ 3072) (K : ∀ x1 s1, LwC b L xs k x1 → Sim s1 → G x1 1986 [some (.ref 92), some (.ref 0), some (.ref 66), some (.ref 85), some (.int v), none, none] [] s1) : G x 751 [some (.ref 92), some (.ref 0), some (.ref 66), some (.ref 85), some (.int v), none, none] [] σ := by
  have hx := hl.1
  have hc := hl.2.1
  have hS := hl.2.2.1
  refine g_run hx [(.aload_n 1, 0, 0), (.aload_n 0, 0, 0), (.iload 4, 0, 0), (.iconst 1, 1, 0), (.iadd, 0, 0)] (pc' := 757) (lo' := [some (.ref 92), some (.ref 0), some (.ref 66), some (.ref 85), some (.int v), none, none]) (st' := [.int (v + 1), .ref 92, .ref 0]) (σ' := σ) (by decide +kernel) rfl rfl ?_
  refine g_sldX hx hS (lw_in1 hv hi hL) (by decide +kernel) ?_
  refine g_callV (rest := []) [.int (xs (v + 1).toNatClampNeg)] hx hc mk_x_backIn ln_11_98 rfl (by decide +kernel) (Nat.le_of_ble_eq_true rfl) (Nat.le_of_ble_eq_true rfl) (s_x_backIn (sim_backIn hN (xs (v + 1).toNatClampNeg) hs)) (fun r1 s1 h => ?_)
  change G x 761 [some (.ref 92), some (.ref 0), some (.ref 66), some (.ref 85), some (.int v), none, none] [.int r1] s1
  refine g_run hx [(.aload_n 2, 0, 0), (.aload_n 0, 0, 0), (.iload 4, 0, 0), (.iconst 1, 1, 0), (.iadd, 0, 0)] (pc' := 767) (lo' := [some (.ref 92), some (.ref 0), some (.ref 66), some (.ref 85), some (.int v), none, none]) (st' := [.int (v + 1), .ref 92, .ref 66, .int r1]) (σ' := s1) (by decide +kernel) rfl rfl ?_
  refine g_sldX hx hS (lw_in1 hv hi hL) (by decide +kernel) ?_
  refine g_callV (rest := [.int r1]) [.int (xs (v + 1).toNatClampNeg)] hx hc mk_m_backIn ln_11_101 rfl (by decide +kernel) (Nat.le_of_ble_eq_true rfl) (Nat.le_of_ble_eq_true rfl) (s_m_backIn h) (fun r2 s2 h => ?_)
  change G x 771 [some (.ref 92), some (.ref 0), some (.ref 66), some (.ref 85), some (.int v), none, none] [.int r2, .int r1] s2
  exact g_ic_eq hx (off := 1215) (tgt := 1986) (by decide +kernel) (by decide) (fun _ => K x s2 hl.dn h.2) (fun c => absurd h.1 c)
end LAWC
