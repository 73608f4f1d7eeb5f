section LAWC
variable {x : CX} {b L k i N : Nat} {xs : Nat → Int32} {v : Int32} {σ : Sg}
theorem lw_c40 (hN : 200000 ≤ N) (hl : LwC b L xs (k + 1) x) (hs : Sim σ) (hv : v = iI (i : Int)) (hi : i + 6 ≤ L) (hL : L ≤ 3072) (K : ∀ x1 s1, LwC b L xs k x1 → Sim s1 → G x1 1986 [some (.ref 92), some (.ref 0), some (.ref 66), some (.ref 85), some (.int v), none, none] [] s1) : G x 1324 [some (.ref 92), some (.ref 0), some (.ref 66), some (.ref 85), some (.int v), none, none] [] σ := by
  have hx := hl.1
  have hc := hl.2.1
  have hS := hl.2.2.1
  refine g_run hx [(.aload_n 1, 0, 0)] (pc' := 1325) (lo' := [some (.ref 92), some (.ref 0), some (.ref 66), some (.ref 85), some (.int v), none, none]) (st' := [.ref 0]) (σ' := σ) (by decide +kernel) rfl rfl ?_
  refine g_callV (rest := []) [] hx hc mk_x_could ln_11_182 rfl (by decide +kernel) (Nat.le_of_ble_eq_true rfl) (Nat.le_of_ble_eq_true rfl) (s_x_could (sim_could hN hs)) (fun r1 s1 h => ?_)
  change G x 1328 [some (.ref 92), some (.ref 0), some (.ref 66), some (.ref 85), some (.int v), none, none] [.int r1] s1
  refine g_run hx [(.aload_n 2, 0, 0)] (pc' := 1329) (lo' := [some (.ref 92), some (.ref 0), some (.ref 66), some (.ref 85), some (.int v), none, none]) (st' := [.ref 66, .int r1]) (σ' := s1) (by decide +kernel) rfl rfl ?_
  refine g_callV (rest := [.int r1]) [] hx hc mk_m_could ln_11_185 rfl (by decide +kernel) (Nat.le_of_ble_eq_true rfl) (Nat.le_of_ble_eq_true rfl) (s_m_could h) (fun r2 s2 h => ?_)
  change G x 1332 [some (.ref 92), some (.ref 0), some (.ref 66), some (.ref 85), some (.int v), none, none] [.int r2, .int r1] s2
  exact g_ic_eq hx (off := 654) (tgt := 1986) (by decide +kernel) (by decide) (fun _ => K x s2 hl.dn h.2) (fun c => absurd h.1 c)
theorem lw_c41 (hN : 200000 ≤ N) (hl : LwC b L xs (k + 1) x) (hs : Sim σ) (hv : v = iI (i : Int)) (hi : i + 6 ≤ L) (hL : L ≤ 3072) (K : ∀ x1 s1, LwC b L xs k x1 → Sim s1 → G x1 1986 [some (.ref 92), some (.ref 0), some (.ref 66), some (.ref 85), some (.int v), none, none] [] s1) : G x 1337 [some (.ref 92), some (.ref 0), some (.ref 66), some (.ref 85), some (.int v), none, none] [] σ := by
  have hx := hl.1
  have hc := hl.2.1
  have hS := hl.2.2.1
  refine g_run hx [(.aload_n 1, 0, 0)] (pc' := 1338) (lo' := [some (.ref 92), some (.ref 0), some (.ref 66), some (.ref 85), some (.int v), none, none]) (st' := [.ref 0]) (σ' := σ) (by decide +kernel) rfl rfl ?_
  refine g_callV (rest := []) [] hx hc mk_x_surely ln_11_186 rfl (by decide +kernel) (Nat.le_of_ble_eq_true rfl) (Nat.le_of_ble_eq_true rfl) (s_x_surely (sim_surely hN hs)) (fun r1 s1 h => ?_)
  change G x 1341 [some (.ref 92), some (.ref 0), some (.ref 66), some (.ref 85), some (.int v), none, none] [.int r1] s1
  refine g_run hx [(.aload_n 2, 0, 0)] (pc' := 1342) (lo' := [some (.ref 92), some (.ref 0), some (.ref 66), some (.ref 85), some (.int v), none, none]) (st' := [.ref 66, .int r1]) (σ' := s1) (by decide +kernel) rfl rfl ?_
  refine g_callV (rest := [.int r1]) [] hx hc mk_m_surely ln_11_189 rfl (by decide +kernel) (Nat.le_of_ble_eq_true rfl) (Nat.le_of_ble_eq_true rfl) (s_m_surely h) (fun r2 s2 h => ?_)
  change G x 1345 [some (.ref 92), some (.ref 0), some (.ref 66), some (.ref 85), some (.int v), none, none] [.int r2, .int r1] s2
  exact g_ic_eq hx (off := 641) (tgt := 1986) (by decide +kernel) (by decide) (fun _ => K x s2 hl.dn h.2) (fun c => absurd h.1 c)
theorem lw_c42 (hN : 200000 ≤ N) (hl : LwC b L xs (k + 1) x) (hs : Sim σ) (hv : v = iI (i : Int)) (hi : i + 6 ≤ L) (hL : L ≤ 3072) (K : ∀ x1 s1, LwC b L xs k x1 → Sim s1 → G x1 1986 [some (.ref 92), some (.ref 0), some (.ref 66), some (.ref 85), some (.int v), none, none] [] s1) : G x 1350 [some (.ref 92), some (.ref 0), some (.ref 66), some (.ref 85), some (.int v), none, none] [] σ := by
  have hx := hl.1
  have hc := hl.2.1
  have hS := hl.2.2.1
  refine g_run hx [(.aload_n 1, 0, 0)] (pc' := 1351) (lo' := [some (.ref 92), some (.ref 0), some (.ref 66), some (.ref 85), some (.int v), none, none]) (st' := [.ref 0]) (σ' := σ) (by decide +kernel) rfl rfl ?_
  refine g_callV (rest := []) [] hx hc mk_x_ask ln_11_190 rfl (by decide +kernel) (Nat.le_of_ble_eq_true rfl) (Nat.le_of_ble_eq_true rfl) (s_x_ask (sim_ask hN hs)) (fun r1 s1 h => ?_)
  change G x 1354 [some (.ref 92), some (.ref 0), some (.ref 66), some (.ref 85), some (.int v), none, none] [.int r1] s1
  refine g_run hx [(.aload_n 2, 0, 0)] (pc' := 1355) (lo' := [some (.ref 92), some (.ref 0), some (.ref 66), some (.ref 85), some (.int v), none, none]) (st' := [.ref 66, .int r1]) (σ' := s1) (by decide +kernel) rfl rfl ?_
  refine g_callV (rest := [.int r1]) [] hx hc mk_m_ask ln_11_193 rfl (by decide +kernel) (Nat.le_of_ble_eq_true rfl) (Nat.le_of_ble_eq_true rfl) (s_m_ask h) (fun r2 s2 h => ?_)
  change G x 1358 [some (.ref 92), some (.ref 0), some (.ref 66), some (.ref 85), some (.int v), none, none] [.int r2, .int r1] s2
  exact g_ic_eq hx (off := 628) (tgt := 1986) (by decide +kernel) (by decide) (fun _ => K x s2 hl.dn h.2) (fun c => absurd h.1 c)
theorem lw_c43 (hN : 200000 ≤ N) (hl : LwC b L xs (k + 1) x) (hs : Sim σ) (hv : v = iI (i : Int)) (hi : i + 6 ≤ L) (hL : L ≤ 3072) (K : ∀ x1 s1, LwC b L xs k x1 → Sim s1 → G x1 1986 [some (.ref 92), some (.ref 0), some (.ref 66), some (.ref 85), some (.int v), none, none] [] s1) : G x 1363 [some (.ref 92), some (.ref 0), some (.ref 66), some (.ref 85), some (.int v), none, none] [] σ := by
  have hx := hl.1
  have hc := hl.2.1
  have hS := hl.2.2.1
  refine g_run hx [(.aload_n 1, 0, 0)] (pc' := 1364) (lo' := [some (.ref 92), some (.ref 0), some (.ref 66), some (.ref 85), some (.int v), none, none]) (st' := [.ref 0]) (σ' := σ) (by decide +kernel) rfl rfl ?_
  refine g_callV (rest := []) [] hx hc mk_x_askLeaves ln_11_194 rfl (by decide +kernel) (Nat.le_of_ble_eq_true rfl) (Nat.le_of_ble_eq_true rfl) (s_x_askLeaves (sim_askLeaves hN hs)) (fun r1 s1 h => ?_)
  change G x 1367 [some (.ref 92), some (.ref 0), some (.ref 66), some (.ref 85), some (.int v), none, none] [.int r1] s1
  refine g_run hx [(.aload_n 2, 0, 0)] (pc' := 1368) (lo' := [some (.ref 92), some (.ref 0), some (.ref 66), some (.ref 85), some (.int v), none, none]) (st' := [.ref 66, .int r1]) (σ' := s1) (by decide +kernel) rfl rfl ?_
  refine g_callV (rest := [.int r1]) [] hx hc mk_m_askLeaves ln_11_197 rfl (by decide +kernel) (Nat.le_of_ble_eq_true rfl) (Nat.le_of_ble_eq_true rfl) (s_m_askLeaves h) (fun r2 s2 h => ?_)
  change G x 1371 [some (.ref 92), some (.ref 0), some (.ref 66), some (.ref 85), some (.int v), none, none] [.int r2, .int r1] s2
  exact g_ic_eq hx (off := 615) (tgt := 1986) (by decide +kernel) (by decide) (fun _ => K x s2 hl.dn h.2) (fun c => absurd h.1 c)
theorem lw_c44 (hN : 200000 ≤ N) (hl : LwC b L xs (k + 1) x) (hs : Sim σ) (hv : v = iI (i : Int)) (hi : i + 6 ≤ L) (hL : L ≤ 3072) (K : ∀ x1 s1, LwC b L xs k x1 → Sim s1 → G x1 1986 [some (.ref 92), some (.ref 0), some (.ref 66), some (.ref 85), some (.int v), none, none] [] s1) : G x 1376 [some (.ref 92), some (.ref 0), some (.ref 66), some (.ref 85), some (.int v), none, none] [] σ := by
  have hx := hl.1
  have hc := hl.2.1
  have hS := hl.2.2.1
  refine g_run hx [(.aload_n 1, 0, 0)] (pc' := 1377) (lo' := [some (.ref 92), some (.ref 0), some (.ref 66), some (.ref 85), some (.int v), none, none]) (st' := [.ref 0]) (σ' := σ) (by decide +kernel) rfl rfl ?_
  refine g_callV (rest := []) [] hx hc mk_x_judge ln_11_198 rfl (by decide +kernel) (Nat.le_of_ble_eq_true rfl) (Nat.le_of_ble_eq_true rfl) (s_x_judge (sim_judge hN hs)) (fun r1 s1 h => ?_)
  change G x 1380 [some (.ref 92), some (.ref 0), some (.ref 66), some (.ref 85), some (.int v), none, none] [.int r1] s1
  refine g_run hx [(.aload_n 2, 0, 0)] (pc' := 1381) (lo' := [some (.ref 92), some (.ref 0), some (.ref 66), some (.ref 85), some (.int v), none, none]) (st' := [.ref 66, .int r1]) (σ' := s1) (by decide +kernel) rfl rfl ?_
  refine g_callV (rest := [.int r1]) [] hx hc mk_m_judge ln_11_201 rfl (by decide +kernel) (Nat.le_of_ble_eq_true rfl) (Nat.le_of_ble_eq_true rfl) (s_m_judge h) (fun r2 s2 h => ?_)
  change G x 1384 [some (.ref 92), some (.ref 0), some (.ref 66), some (.ref 85), some (.int v), none, none] [.int r2, .int r1] s2
  exact g_ic_eq hx (off := 602) (tgt := 1986) (by decide +kernel) (by decide) (fun _ => K x s2 hl.dn h.2) (fun c => absurd h.1 c)
theorem lw_c45 (hN : 200000 ≤ N) (hl : LwC b L xs (k + 1) x) (hs : Sim σ) (hv : v = iI (i : Int)) (hi : i + 6 ≤ L) (hL : L ≤ 3072) (K : ∀ x1 s1, LwC b L xs k x1 → Sim s1 → G x1 1986 [some (.ref 92), some (.ref 0), some (.ref 66), some (.ref 85), some (.int v), none, none] [] s1) : G x 1389 [some (.ref 92), some (.ref 0), some (.ref 66), some (.ref 85), some (.int v), none, none] [] σ := by
  have hx := hl.1
  have hc := hl.2.1
  have hS := hl.2.2.1
  refine g_run hx [(.aload_n 1, 0, 0), (.aload_n 0, 0, 0), (.iload 4, 0, 0), (.iconst 1, 1, 0), (.iadd, 0, 0)] (pc' := 1395) (lo' := [some (.ref 92), some (.ref 0), some (.ref 66), some (.ref 85), some (.int v), none, none]) (st' := [.int (v + 1), .ref 92, .ref 0]) (σ' := σ) (by decide +kernel) rfl rfl ?_
  refine g_sldX hx hS (lw_in1 hv hi hL) (by decide +kernel) ?_
  refine g_run hx [(.aload_n 0, 0, 0), (.iload 4, 0, 0), (.iconst 2, 2, 0), (.iadd, 0, 0)] (pc' := 1401) (lo' := [some (.ref 92), some (.ref 0), some (.ref 66), some (.ref 85), some (.int v), none, none]) (st' := [.int (v + 2), .ref 92, .int (xs (v + 1).toNatClampNeg), .ref 0]) (σ' := σ) (by decide +kernel) rfl rfl ?_
  refine g_sldX hx hS (lw_in2 hv hi hL) (by decide +kernel) ?_
  refine g_bool hx (by decide +kernel) (by decide +kernel) (by decide +kernel) (by decide +kernel) ?_
  refine g_run hx [(.aload_n 0, 0, 0), (.iload 4, 0, 0), (.iconst 3, 3, 0), (.iadd, 0, 0)] (pc' := 1415) (lo' := [some (.ref 92), some (.ref 0), some (.ref 66), some (.ref 85), some (.int v), none, none]) (st' := [.int (v + 3), .ref 92, .int (b2i (decide (¬ (xs (v + 2).toNatClampNeg) = 0))), .int (xs (v + 1).toNatClampNeg), .ref 0]) (σ' := σ) (by decide +kernel) rfl rfl ?_
  refine g_sldX hx hS (lw_in3 hv hi hL) (by decide +kernel) ?_
  refine g_bool hx (by decide +kernel) (by decide +kernel) (by decide +kernel) (by decide +kernel) ?_
  refine g_run hx [(.aload_n 0, 0, 0), (.iload 4, 0, 0), (.iconst 4, 4, 0), (.iadd, 0, 0)] (pc' := 1429) (lo' := [some (.ref 92), some (.ref 0), some (.ref 66), some (.ref 85), some (.int v), none, none]) (st' := [.int (v + 4), .ref 92, .int (b2i (decide (¬ (xs (v + 3).toNatClampNeg) = 0))), .int (b2i (decide (¬ (xs (v + 2).toNatClampNeg) = 0))), .int (xs (v + 1).toNatClampNeg), .ref 0]) (σ' := σ) (by decide +kernel) rfl rfl ?_
  refine g_sldX hx hS (lw_in4 hv hi hL) (by decide +kernel) ?_
  refine g_bool hx (by decide +kernel) (by decide +kernel) (by decide +kernel) (by decide +kernel) ?_
  refine g_callV (rest := []) [.int (xs (v + 1).toNatClampNeg), .int (b2i (decide (¬ (xs (v + 2).toNatClampNeg) = 0))), .int (b2i (decide (¬ (xs (v + 3).toNatClampNeg) = 0))), .int (b2i (decide (¬ (xs (v + 4).toNatClampNeg) = 0)))] hx hc mk_x_goes ln_11_202 rfl (by decide +kernel) (Nat.le_of_ble_eq_true rfl) (Nat.le_of_ble_eq_true rfl) (s_x_goes (sim_goes (N := N) (xs (v + 1).toNatClampNeg) (b2i (decide (¬ (xs (v + 2).toNatClampNeg) = 0))) (b2i (decide (¬ (xs (v + 3).toNatClampNeg) = 0))) (b2i (decide (¬ (xs (v + 4).toNatClampNeg) = 0))) hs)) (fun r1 s1 h => ?_)
  change G x 1441 [some (.ref 92), some (.ref 0), some (.ref 66), some (.ref 85), some (.int v), none, none] [.int r1] s1
  refine g_run hx [(.aload_n 2, 0, 0), (.aload_n 0, 0, 0), (.iload 4, 0, 0), (.iconst 1, 1, 0), (.iadd, 0, 0)] (pc' := 1447) (lo' := [some (.ref 92), some (.ref 0), some (.ref 66), some (.ref 85), some (.int v), none, none]) (st' := [.int (v + 1), .ref 92, .ref 66, .int r1]) (σ' := s1) (by decide +kernel) rfl rfl ?_
  refine g_sldX hx hS (lw_in1 hv hi hL) (by decide +kernel) ?_
  refine g_run hx [(.aload_n 0, 0, 0), (.iload 4, 0, 0), (.iconst 2, 2, 0), (.iadd, 0, 0)] (pc' := 1453) (lo' := [some (.ref 92), some (.ref 0), some (.ref 66), some (.ref 85), some (.int v), none, none]) (st' := [.int (v + 2), .ref 92, .int (xs (v + 1).toNatClampNeg), .ref 66, .int r1]) (σ' := s1) (by decide +kernel) rfl rfl ?_
  refine g_sldX hx hS (lw_in2 hv hi hL) (by decide +kernel) ?_
  refine g_bool hx (by decide +kernel) (by decide +kernel) (by decide +kernel) (by decide +kernel) ?_
  refine g_run hx [(.aload_n 0, 0, 0), (.iload 4, 0, 0), (.iconst 3, 3, 0), (.iadd, 0, 0)] (pc' := 1467) (lo' := [some (.ref 92), some (.ref 0), some (.ref 66), some (.ref 85), some (.int v), none, none]) (st' := [.int (v + 3), .ref 92, .int (b2i (decide (¬ (xs (v + 2).toNatClampNeg) = 0))), .int (xs (v + 1).toNatClampNeg), .ref 66, .int r1]) (σ' := s1) (by decide +kernel) rfl rfl ?_
  refine g_sldX hx hS (lw_in3 hv hi hL) (by decide +kernel) ?_
  refine g_bool hx (by decide +kernel) (by decide +kernel) (by decide +kernel) (by decide +kernel) ?_
  refine g_run hx [(.aload_n 0, 0, 0), (.iload 4, 0, 0), (.iconst 4, 4, 0), (.iadd, 0, 0)] (pc' := 1481) (lo' := [some (.ref 92), some (.ref 0), some (.ref 66), some (.ref 85), some (.int v), none, none]) (st' := [.int (v + 4), .ref 92, .int (b2i (decide (¬ (xs (v + 3).toNatClampNeg) = 0))), .int (b2i (decide (¬ (xs (v + 2).toNatClampNeg) = 0))), .int (xs (v + 1).toNatClampNeg), .ref 66, .int r1]) (σ' := s1) (by decide +kernel) rfl rfl ?_
  refine g_sldX hx hS (lw_in4 hv hi hL) (by decide +kernel) ?_
  refine g_bool hx (by decide +kernel) (by decide +kernel) (by decide +kernel) (by decide +kernel) ?_
  refine g_callV (rest := [.int r1]) [.int (xs (v + 1).toNatClampNeg), .int (b2i (decide (¬ (xs (v + 2).toNatClampNeg) = 0))), .int (b2i (decide (¬ (xs (v + 3).toNatClampNeg) = 0))), .int (b2i (decide (¬ (xs (v + 4).toNatClampNeg) = 0)))] hx hc mk_m_goes ln_11_206 rfl (by decide +kernel) (Nat.le_of_ble_eq_true rfl) (Nat.le_of_ble_eq_true rfl) (s_m_goes h) (fun r2 s2 h => ?_)
  change G x 1493 [some (.ref 92), some (.ref 0), some (.ref 66), some (.ref 85), some (.int v), none, none] [.int r2, .int r1] s2
  exact g_ic_eq hx (off := 493) (tgt := 1986) (by decide +kernel) (by decide) (fun _ => K x s2 hl.dn h.2) (fun c => absurd h.1 c)
theorem lw_c46 (hN : 200000 ≤ N) (hl : LwC b L xs (k + 1) x) (hs : Sim σ) (hv : v = iI (i : Int)) (hi : i + 6 ≤ L) (hL : L ≤ 3072) (K : ∀ x1 s1, LwC b L xs k x1 → Sim s1 → G x1 1986 [some (.ref 92), some (.ref 0), some (.ref 66), some (.ref 85), some (.int v), none, none] [] s1) : G x 1498 [some (.ref 92), some (.ref 0), some (.ref 66), some (.ref 85), some (.int v), none, none] [] σ := by
  have hx := hl.1
  have hc := hl.2.1
  have hS := hl.2.2.1
  refine g_run hx [(.aload_n 1, 0, 0), (.aload_n 0, 0, 0), (.iload 4, 0, 0), (.iconst 1, 1, 0), (.iadd, 0, 0)] (pc' := 1504) (lo' := [some (.ref 92), some (.ref 0), some (.ref 66), some (.ref 85), some (.int v), none, none]) (st' := [.int (v + 1), .ref 92, .ref 0]) (σ' := σ) (by decide +kernel) rfl rfl ?_
  refine g_sldX hx hS (lw_in1 hv hi hL) (by decide +kernel) ?_
  refine g_callV (rest := []) [.int (xs (v + 1).toNatClampNeg)] hx hc mk_x_rests ln_11_207 rfl (by decide +kernel) (Nat.le_of_ble_eq_true rfl) (Nat.le_of_ble_eq_true rfl) (s_x_rests (sim_rests hN (xs (v + 1).toNatClampNeg) hs)) (fun r1 s1 h => ?_)
  change G x 1508 [some (.ref 92), some (.ref 0), some (.ref 66), some (.ref 85), some (.int v), none, none] [.int r1] s1
  refine g_run hx [(.aload_n 2, 0, 0), (.aload_n 0, 0, 0), (.iload 4, 0, 0), (.iconst 1, 1, 0), (.iadd, 0, 0)] (pc' := 1514) (lo' := [some (.ref 92), some (.ref 0), some (.ref 66), some (.ref 85), some (.int v), none, none]) (st' := [.int (v + 1), .ref 92, .ref 66, .int r1]) (σ' := s1) (by decide +kernel) rfl rfl ?_
  refine g_sldX hx hS (lw_in1 hv hi hL) (by decide +kernel) ?_
  refine g_callV (rest := [.int r1]) [.int (xs (v + 1).toNatClampNeg)] hx hc mk_m_rests ln_11_210 rfl (by decide +kernel) (Nat.le_of_ble_eq_true rfl) (Nat.le_of_ble_eq_true rfl) (s_m_rests h) (fun r2 s2 h => ?_)
  change G x 1518 [some (.ref 92), some (.ref 0), some (.ref 66), some (.ref 85), some (.int v), none, none] [.int r2, .int r1] s2
  exact g_ic_eq hx (off := 468) (tgt := 1986) (by decide +kernel) (by decide) (fun _ => K x s2 hl.dn h.2) (fun c => absurd h.1 c)
theorem lw_c47 (hN : 200000 ≤ N) (hl : LwC b L xs (k + 1) x) (hs : Sim σ) (hv : v = iI (i : Int)) (hi : i + 6 ≤ L) (hL : L ≤ 3072) (K : ∀ x1 s1, LwC b L xs k x1 → Sim s1 → G x1 1986 [some (.ref 92), some (.ref 0), some (.ref 66), some (.ref 85), some (.int v), none, none] [] s1) : G x 1523 [some (.ref 92), some (.ref 0), some (.ref 66), some (.ref 85), some (.int v), none, none] [] σ := by
  have hx := hl.1
  have hc := hl.2.1
  have hS := hl.2.2.1
  refine g_run hx [(.aload_n 1, 0, 0), (.aload_n 0, 0, 0), (.iload 4, 0, 0), (.iconst 1, 1, 0), (.iadd, 0, 0)] (pc' := 1529) (lo' := [some (.ref 92), some (.ref 0), some (.ref 66), some (.ref 85), some (.int v), none, none]) (st' := [.int (v + 1), .ref 92, .ref 0]) (σ' := σ) (by decide +kernel) rfl rfl ?_
  refine g_sldX hx hS (lw_in1 hv hi hL) (by decide +kernel) ?_
  refine g_callV (rest := []) [.int (xs (v + 1).toNatClampNeg)] hx hc mk_x_rest ln_11_211 rfl (by decide +kernel) (Nat.le_of_ble_eq_true rfl) (Nat.le_of_ble_eq_true rfl) (s_x_rest (sim_rest hN (xs (v + 1).toNatClampNeg) hs)) (fun r1 s1 h => ?_)
  change G x 1533 [some (.ref 92), some (.ref 0), some (.ref 66), some (.ref 85), some (.int v), none, none] [.int r1] s1
  refine g_run hx [(.aload_n 2, 0, 0), (.aload_n 0, 0, 0), (.iload 4, 0, 0), (.iconst 1, 1, 0), (.iadd, 0, 0)] (pc' := 1539) (lo' := [some (.ref 92), some (.ref 0), some (.ref 66), some (.ref 85), some (.int v), none, none]) (st' := [.int (v + 1), .ref 92, .ref 66, .int r1]) (σ' := s1) (by decide +kernel) rfl rfl ?_
  refine g_sldX hx hS (lw_in1 hv hi hL) (by decide +kernel) ?_
  refine g_callV (rest := [.int r1]) [.int (xs (v + 1).toNatClampNeg)] hx hc mk_m_rest ln_11_214 rfl (by decide +kernel) (Nat.le_of_ble_eq_true rfl) (Nat.le_of_ble_eq_true rfl) (s_m_rest h) (fun r2 s2 h => ?_)
  change G x 1543 [some (.ref 92), some (.ref 0), some (.ref 66), some (.ref 85), some (.int v), none, none] [.int r2, .int r1] s2
  exact g_ic_eq hx (off := 443) (tgt := 1986) (by decide +kernel) (by decide) (fun _ => K x s2 hl.dn h.2) (fun c => absurd h.1 c)
theorem lw_c48 (hN : 200000 ≤ N) (hl : LwC b L xs (k + 1) x) (hs : Sim σ) (hv : v = iI (i : Int)) (hi : i + 6 ≤ L) (hL : L ≤ 3072) (K : ∀ x1 s1, LwC b L xs k x1 → Sim s1 → G x1 1986 [some (.ref 92), some (.ref 0), some (.ref 66), some (.ref 85), some (.int v), none, none] [] s1) : G x 1548 [some (.ref 92), some (.ref 0), some (.ref 66), some (.ref 85), some (.int v), none, none] [] σ := by
  have hx := hl.1
  have hc := hl.2.1
  have hS := hl.2.2.1
  refine g_run hx [(.aload_n 1, 0, 0), (.aload_n 0, 0, 0), (.iload 4, 0, 0), (.iconst 1, 1, 0), (.iadd, 0, 0)] (pc' := 1554) (lo' := [some (.ref 92), some (.ref 0), some (.ref 66), some (.ref 85), some (.int v), none, none]) (st' := [.int (v + 1), .ref 92, .ref 0]) (σ' := σ) (by decide +kernel) rfl rfl ?_
  refine g_sldX hx hS (lw_in1 hv hi hL) (by decide +kernel) ?_
  refine g_run hx [(.aload_n 0, 0, 0), (.iload 4, 0, 0), (.iconst 2, 2, 0), (.iadd, 0, 0)] (pc' := 1560) (lo' := [some (.ref 92), some (.ref 0), some (.ref 66), some (.ref 85), some (.int v), none, none]) (st' := [.int (v + 2), .ref 92, .int (xs (v + 1).toNatClampNeg), .ref 0]) (σ' := σ) (by decide +kernel) rfl rfl ?_
  refine g_sldX hx hS (lw_in2 hv hi hL) (by decide +kernel) ?_
  refine g_run hx [(.aload_n 0, 0, 0), (.iload 4, 0, 0), (.iconst 3, 3, 0), (.iadd, 0, 0)] (pc' := 1566) (lo' := [some (.ref 92), some (.ref 0), some (.ref 66), some (.ref 85), some (.int v), none, none]) (st' := [.int (v + 3), .ref 92, .int (xs (v + 2).toNatClampNeg), .int (xs (v + 1).toNatClampNeg), .ref 0]) (σ' := σ) (by decide +kernel) rfl rfl ?_
  refine g_sldX hx hS (lw_in3 hv hi hL) (by decide +kernel) ?_
  refine g_run hx [(.aload_n 0, 0, 0), (.iload 4, 0, 0), (.iconst 4, 4, 0), (.iadd, 0, 0)] (pc' := 1572) (lo' := [some (.ref 92), some (.ref 0), some (.ref 66), some (.ref 85), some (.int v), none, none]) (st' := [.int (v + 4), .ref 92, .int (xs (v + 3).toNatClampNeg), .int (xs (v + 2).toNatClampNeg), .int (xs (v + 1).toNatClampNeg), .ref 0]) (σ' := σ) (by decide +kernel) rfl rfl ?_
  refine g_sldX hx hS (lw_in4 hv hi hL) (by decide +kernel) ?_
  refine g_bool hx (by decide +kernel) (by decide +kernel) (by decide +kernel) (by decide +kernel) ?_
  refine g_callV (rest := []) [.int (xs (v + 1).toNatClampNeg), .int (xs (v + 2).toNatClampNeg), .int (xs (v + 3).toNatClampNeg), .int (b2i (decide (¬ (xs (v + 4).toNatClampNeg) = 0)))] hx hc mk_x_odds ln_11_215 rfl (by decide +kernel) (Nat.le_of_ble_eq_true rfl) (Nat.le_of_ble_eq_true rfl) (s_x_odds (sim_odds hN (xs (v + 1).toNatClampNeg) (xs (v + 2).toNatClampNeg) (xs (v + 3).toNatClampNeg) (b2i (decide (¬ (xs (v + 4).toNatClampNeg) = 0))) hs)) (fun r1 s1 h => ?_)
  change G x 1584 [some (.ref 92), some (.ref 0), some (.ref 66), some (.ref 85), some (.int v), none, none] [.long r1] s1
  refine g_run hx [(.aload_n 2, 0, 0), (.aload_n 0, 0, 0), (.iload 4, 0, 0), (.iconst 1, 1, 0), (.iadd, 0, 0)] (pc' := 1590) (lo' := [some (.ref 92), some (.ref 0), some (.ref 66), some (.ref 85), some (.int v), none, none]) (st' := [.int (v + 1), .ref 92, .ref 66, .long r1]) (σ' := s1) (by decide +kernel) rfl rfl ?_
  refine g_sldX hx hS (lw_in1 hv hi hL) (by decide +kernel) ?_
  refine g_run hx [(.aload_n 0, 0, 0), (.iload 4, 0, 0), (.iconst 2, 2, 0), (.iadd, 0, 0)] (pc' := 1596) (lo' := [some (.ref 92), some (.ref 0), some (.ref 66), some (.ref 85), some (.int v), none, none]) (st' := [.int (v + 2), .ref 92, .int (xs (v + 1).toNatClampNeg), .ref 66, .long r1]) (σ' := s1) (by decide +kernel) rfl rfl ?_
  refine g_sldX hx hS (lw_in2 hv hi hL) (by decide +kernel) ?_
  refine g_run hx [(.aload_n 0, 0, 0), (.iload 4, 0, 0), (.iconst 3, 3, 0), (.iadd, 0, 0)] (pc' := 1602) (lo' := [some (.ref 92), some (.ref 0), some (.ref 66), some (.ref 85), some (.int v), none, none]) (st' := [.int (v + 3), .ref 92, .int (xs (v + 2).toNatClampNeg), .int (xs (v + 1).toNatClampNeg), .ref 66, .long r1]) (σ' := s1) (by decide +kernel) rfl rfl ?_
  refine g_sldX hx hS (lw_in3 hv hi hL) (by decide +kernel) ?_
  refine g_run hx [(.aload_n 0, 0, 0), (.iload 4, 0, 0), (.iconst 4, 4, 0), (.iadd, 0, 0)] (pc' := 1608) (lo' := [some (.ref 92), some (.ref 0), some (.ref 66), some (.ref 85), some (.int v), none, none]) (st' := [.int (v + 4), .ref 92, .int (xs (v + 3).toNatClampNeg), .int (xs (v + 2).toNatClampNeg), .int (xs (v + 1).toNatClampNeg), .ref 66, .long r1]) (σ' := s1) (by decide +kernel) rfl rfl ?_
  refine g_sldX hx hS (lw_in4 hv hi hL) (by decide +kernel) ?_
  refine g_bool hx (by decide +kernel) (by decide +kernel) (by decide +kernel) (by decide +kernel) ?_
  refine g_callV (rest := [.long r1]) [.int (xs (v + 1).toNatClampNeg), .int (xs (v + 2).toNatClampNeg), .int (xs (v + 3).toNatClampNeg), .int (b2i (decide (¬ (xs (v + 4).toNatClampNeg) = 0)))] hx hc mk_m_odds ln_11_219 rfl (by decide +kernel) (Nat.le_of_ble_eq_true rfl) (Nat.le_of_ble_eq_true rfl) (s_m_odds h) (fun r2 s2 h => ?_)
  change G x 1620 [some (.ref 92), some (.ref 0), some (.ref 66), some (.ref 85), some (.int v), none, none] [.long r2, .long r1] s2
  refine g_run hx [(.lcmp, 0, 0)] (pc' := 1621) (lo' := [some (.ref 92), some (.ref 0), some (.ref 66), some (.ref 85), some (.int v), none, none]) (st' := [.int (lg_cmp r1 r2)]) (σ' := s2) (by decide +kernel) rfl rfl ?_
  exact g_if_eq hx (off := 365) (tgt := 1986) (by decide +kernel) (by decide) (fun _ => K x s2 hl.dn h.2) (fun c => absurd ((lg_cmp_0 _ _).mpr h.1) c)
theorem lw_c49 (hN : 200000 ≤ N) (hl : LwC b L xs (k + 1) x) (hs : Sim σ) (hv : v = iI (i : Int)) (hi : i + 6 ≤ L) (hL : L ≤ 3072) (K : ∀ x1 s1, LwC b L xs k x1 → Sim s1 → G x1 1986 [some (.ref 92), some (.ref 0), some (.ref 66), some (.ref 85), some (.int v), none, none] [] s1) : G x 1626 [some (.ref 92), some (.ref 0), some (.ref 66), some (.ref 85), some (.int v), none, none] [] σ := by
  have hx := hl.1
  have hc := hl.2.1
  have hS := hl.2.2.1
  refine g_run hx [(.aload_n 1, 0, 0), (.aload_n 0, 0, 0), (.iload 4, 0, 0), (.iconst 1, 1, 0), (.iadd, 0, 0)] (pc' := 1632) (lo' := [some (.ref 92), some (.ref 0), some (.ref 66), some (.ref 85), some (.int v), none, none]) (st' := [.int (v + 1), .ref 92, .ref 0]) (σ' := σ) (by decide +kernel) rfl rfl ?_
  refine g_sldX hx hS (lw_in1 hv hi hL) (by decide +kernel) ?_
  refine g_run hx [(.aload_n 0, 0, 0), (.iload 4, 0, 0), (.iconst 2, 2, 0), (.iadd, 0, 0)] (pc' := 1638) (lo' := [some (.ref 92), some (.ref 0), some (.ref 66), some (.ref 85), some (.int v), none, none]) (st' := [.int (v + 2), .ref 92, .int (xs (v + 1).toNatClampNeg), .ref 0]) (σ' := σ) (by decide +kernel) rfl rfl ?_
  refine g_sldX hx hS (lw_in2 hv hi hL) (by decide +kernel) ?_
  refine g_run hx [(.aload_n 0, 0, 0), (.iload 4, 0, 0), (.iconst 3, 3, 0), (.iadd, 0, 0)] (pc' := 1644) (lo' := [some (.ref 92), some (.ref 0), some (.ref 66), some (.ref 85), some (.int v), none, none]) (st' := [.int (v + 3), .ref 92, .int (xs (v + 2).toNatClampNeg), .int (xs (v + 1).toNatClampNeg), .ref 0]) (σ' := σ) (by decide +kernel) rfl rfl ?_
  refine g_sldX hx hS (lw_in3 hv hi hL) (by decide +kernel) ?_
  refine g_bool hx (by decide +kernel) (by decide +kernel) (by decide +kernel) (by decide +kernel) ?_
  refine g_callV (rest := []) [.int (xs (v + 1).toNatClampNeg), .int (xs (v + 2).toNatClampNeg), .int (b2i (decide (¬ (xs (v + 3).toNatClampNeg) = 0)))] hx hc mk_x_mean ln_11_220 rfl (by decide +kernel) (Nat.le_of_ble_eq_true rfl) (Nat.le_of_ble_eq_true rfl) (s_x_mean (sim_mean hN (xs (v + 1).toNatClampNeg) (xs (v + 2).toNatClampNeg) (b2i (decide (¬ (xs (v + 3).toNatClampNeg) = 0))) hs)) (fun r1 s1 h => ?_)
  change G x 1656 [some (.ref 92), some (.ref 0), some (.ref 66), some (.ref 85), some (.int v), none, none] [.long r1] s1
  refine g_run hx [(.aload_n 2, 0, 0), (.aload_n 0, 0, 0), (.iload 4, 0, 0), (.iconst 1, 1, 0), (.iadd, 0, 0)] (pc' := 1662) (lo' := [some (.ref 92), some (.ref 0), some (.ref 66), some (.ref 85), some (.int v), none, none]) (st' := [.int (v + 1), .ref 92, .ref 66, .long r1]) (σ' := s1) (by decide +kernel) rfl rfl ?_
  refine g_sldX hx hS (lw_in1 hv hi hL) (by decide +kernel) ?_
  refine g_run hx [(.aload_n 0, 0, 0), (.iload 4, 0, 0), (.iconst 2, 2, 0), (.iadd, 0, 0)] (pc' := 1668) (lo' := [some (.ref 92), some (.ref 0), some (.ref 66), some (.ref 85), some (.int v), none, none]) (st' := [.int (v + 2), .ref 92, .int (xs (v + 1).toNatClampNeg), .ref 66, .long r1]) (σ' := s1) (by decide +kernel) rfl rfl ?_
  refine g_sldX hx hS (lw_in2 hv hi hL) (by decide +kernel) ?_
  refine g_run hx [(.aload_n 0, 0, 0), (.iload 4, 0, 0), (.iconst 3, 3, 0), (.iadd, 0, 0)] (pc' := 1674) (lo' := [some (.ref 92), some (.ref 0), some (.ref 66), some (.ref 85), some (.int v), none, none]) (st' := [.int (v + 3), .ref 92, .int (xs (v + 2).toNatClampNeg), .int (xs (v + 1).toNatClampNeg), .ref 66, .long r1]) (σ' := s1) (by decide +kernel) rfl rfl ?_
  refine g_sldX hx hS (lw_in3 hv hi hL) (by decide +kernel) ?_
  refine g_bool hx (by decide +kernel) (by decide +kernel) (by decide +kernel) (by decide +kernel) ?_
  refine g_callV (rest := [.long r1]) [.int (xs (v + 1).toNatClampNeg), .int (xs (v + 2).toNatClampNeg), .int (b2i (decide (¬ (xs (v + 3).toNatClampNeg) = 0)))] hx hc mk_m_mean ln_11_224 rfl (by decide +kernel) (Nat.le_of_ble_eq_true rfl) (Nat.le_of_ble_eq_true rfl) (s_m_mean h) (fun r2 s2 h => ?_)
  change G x 1686 [some (.ref 92), some (.ref 0), some (.ref 66), some (.ref 85), some (.int v), none, none] [.long r2, .long r1] s2
  refine g_run hx [(.lcmp, 0, 0)] (pc' := 1687) (lo' := [some (.ref 92), some (.ref 0), some (.ref 66), some (.ref 85), some (.int v), none, none]) (st' := [.int (lg_cmp r1 r2)]) (σ' := s2) (by decide +kernel) rfl rfl ?_
  exact g_if_eq hx (off := 299) (tgt := 1986) (by decide +kernel) (by decide) (fun _ => K x s2 hl.dn h.2) (fun c => absurd ((lg_cmp_0 _ _).mpr h.1) c)
end LAWC
