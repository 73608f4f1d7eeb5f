section LAWC
variable {x : CX} {b L k i N : Nat} {xs : Nat → Int32} {v : Int32} {σ : Sg}
theorem lw_c50 (hN : 200000 ≤ N) (hl : LwC b L xs (k + 1) x) (hs : Sim σ) (hv : v = iI (i : Int)) (hi : i + 6 ≤ L) (hL : L ≤ 3072) (K : ∀ x1 s1, LwC b L xs k x1 → Sim s1 → G x1 1986 [some (.ref 92), some (.ref 0), some (.ref 66), some (.ref 85), some (.int v), none, none] [] s1) : G x 1692 [some (.ref 92), some (.ref 0), some (.ref 66), some (.ref 85), some (.int v), none, none] [] σ := by
  have hx := hl.1
  have hc := hl.2.1
  have hS := hl.2.2.1
  refine g_run hx [(.aload_n 1, 0, 0), (.aload_n 0, 0, 0), (.iload 4, 0, 0), (.iconst 1, 1, 0), (.iadd, 0, 0)] (pc' := 1698) (lo' := [some (.ref 92), some (.ref 0), some (.ref 66), some (.ref 85), some (.int v), none, none]) (st' := [.int (v + 1), .ref 92, .ref 0]) (σ' := σ) (by decide +kernel) rfl rfl ?_
  refine g_sldX hx hS (lw_in1 hv hi hL) (by decide +kernel) ?_
  refine g_run hx [(.aload_n 0, 0, 0), (.iload 4, 0, 0), (.iconst 2, 2, 0), (.iadd, 0, 0)] (pc' := 1704) (lo' := [some (.ref 92), some (.ref 0), some (.ref 66), some (.ref 85), some (.int v), none, none]) (st' := [.int (v + 2), .ref 92, .int (xs (v + 1).toNatClampNeg), .ref 0]) (σ' := σ) (by decide +kernel) rfl rfl ?_
  refine g_sldX hx hS (lw_in2 hv hi hL) (by decide +kernel) ?_
  refine g_run hx [(.aload_n 0, 0, 0), (.iload 4, 0, 0), (.iconst 3, 3, 0), (.iadd, 0, 0)] (pc' := 1710) (lo' := [some (.ref 92), some (.ref 0), some (.ref 66), some (.ref 85), some (.int v), none, none]) (st' := [.int (v + 3), .ref 92, .int (xs (v + 2).toNatClampNeg), .int (xs (v + 1).toNatClampNeg), .ref 0]) (σ' := σ) (by decide +kernel) rfl rfl ?_
  refine g_sldX hx hS (lw_in3 hv hi hL) (by decide +kernel) ?_
  refine g_callV (rest := []) [.int (xs (v + 1).toNatClampNeg), .int (xs (v + 2).toNatClampNeg), .int (xs (v + 3).toNatClampNeg)] hx hc mk_x_drawn ln_11_225 rfl (by decide +kernel) (Nat.le_of_ble_eq_true rfl) (Nat.le_of_ble_eq_true rfl) (s_x_drawn (sim_drawn hN (xs (v + 1).toNatClampNeg) (xs (v + 2).toNatClampNeg) (xs (v + 3).toNatClampNeg) hs)) (fun r1 s1 h => ?_)
  change G x 1714 [some (.ref 92), some (.ref 0), some (.ref 66), some (.ref 85), some (.int v), none, none] [.int r1] s1
  refine g_run hx [(.aload_n 2, 0, 0), (.aload_n 0, 0, 0), (.iload 4, 0, 0), (.iconst 1, 1, 0), (.iadd, 0, 0)] (pc' := 1720) (lo' := [some (.ref 92), some (.ref 0), some (.ref 66), some (.ref 85), some (.int v), none, none]) (st' := [.int (v + 1), .ref 92, .ref 66, .int r1]) (σ' := s1) (by decide +kernel) rfl rfl ?_
  refine g_sldX hx hS (lw_in1 hv hi hL) (by decide +kernel) ?_
  refine g_run hx [(.aload_n 0, 0, 0), (.iload 4, 0, 0), (.iconst 2, 2, 0), (.iadd, 0, 0)] (pc' := 1726) (lo' := [some (.ref 92), some (.ref 0), some (.ref 66), some (.ref 85), some (.int v), none, none]) (st' := [.int (v + 2), .ref 92, .int (xs (v + 1).toNatClampNeg), .ref 66, .int r1]) (σ' := s1) (by decide +kernel) rfl rfl ?_
  refine g_sldX hx hS (lw_in2 hv hi hL) (by decide +kernel) ?_
  refine g_run hx [(.aload_n 0, 0, 0), (.iload 4, 0, 0), (.iconst 3, 3, 0), (.iadd, 0, 0)] (pc' := 1732) (lo' := [some (.ref 92), some (.ref 0), some (.ref 66), some (.ref 85), some (.int v), none, none]) (st' := [.int (v + 3), .ref 92, .int (xs (v + 2).toNatClampNeg), .int (xs (v + 1).toNatClampNeg), .ref 66, .int r1]) (σ' := s1) (by decide +kernel) rfl rfl ?_
  refine g_sldX hx hS (lw_in3 hv hi hL) (by decide +kernel) ?_
  refine g_callV (rest := [.int r1]) [.int (xs (v + 1).toNatClampNeg), .int (xs (v + 2).toNatClampNeg), .int (xs (v + 3).toNatClampNeg)] hx hc mk_m_drawn ln_11_229 rfl (by decide +kernel) (Nat.le_of_ble_eq_true rfl) (Nat.le_of_ble_eq_true rfl) (s_m_drawn h) (fun r2 s2 h => ?_)
  change G x 1736 [some (.ref 92), some (.ref 0), some (.ref 66), some (.ref 85), some (.int v), none, none] [.int r2, .int r1] s2
  exact g_ic_eq hx (off := 250) (tgt := 1986) (by decide +kernel) (by decide) (fun _ => K x s2 hl.dn h.2) (fun c => absurd h.1 c)
theorem lw_c51 (hN : 200000 ≤ N) (hl : LwC b L xs (k + 1) x) (hs : Sim σ) (hv : v = iI (i : Int)) (hi : i + 6 ≤ L) (hL : L ≤ 3072) (K : ∀ x1 s1, LwC b L xs k x1 → Sim s1 → G x1 1986 [some (.ref 92), some (.ref 0), some (.ref 66), some (.ref 85), some (.int v), none, none] [] s1) : G x 1741 [some (.ref 92), some (.ref 0), some (.ref 66), some (.ref 85), some (.int v), none, none] [] σ := by
  have hx := hl.1
  have hc := hl.2.1
  have hS := hl.2.2.1
  refine g_run hx [(.aload_n 1, 0, 0), (.aload_n 0, 0, 0), (.iload 4, 0, 0), (.iconst 1, 1, 0), (.iadd, 0, 0)] (pc' := 1747) (lo' := [some (.ref 92), some (.ref 0), some (.ref 66), some (.ref 85), some (.int v), none, none]) (st' := [.int (v + 1), .ref 92, .ref 0]) (σ' := σ) (by decide +kernel) rfl rfl ?_
  refine g_sldX hx hS (lw_in1 hv hi hL) (by decide +kernel) ?_
  refine g_run hx [(.aload_n 0, 0, 0), (.iload 4, 0, 0), (.iconst 2, 2, 0), (.iadd, 0, 0)] (pc' := 1753) (lo' := [some (.ref 92), some (.ref 0), some (.ref 66), some (.ref 85), some (.int v), none, none]) (st' := [.int (v + 2), .ref 92, .int (xs (v + 1).toNatClampNeg), .ref 0]) (σ' := σ) (by decide +kernel) rfl rfl ?_
  refine g_sldX hx hS (lw_in2 hv hi hL) (by decide +kernel) ?_
  refine g_callV (rest := []) [.int (xs (v + 1).toNatClampNeg), .int (xs (v + 2).toNatClampNeg)] hx hc mk_x_stride ln_11_230 rfl (by decide +kernel) (Nat.le_of_ble_eq_true rfl) (Nat.le_of_ble_eq_true rfl) (s_x_stride (sim_stride hN (xs (v + 1).toNatClampNeg) (xs (v + 2).toNatClampNeg) hs)) (fun r1 s1 h => ?_)
  change G x 1757 [some (.ref 92), some (.ref 0), some (.ref 66), some (.ref 85), some (.int v), none, none] [.int r1] s1
  refine g_run hx [(.aload_n 2, 0, 0), (.aload_n 0, 0, 0), (.iload 4, 0, 0), (.iconst 1, 1, 0), (.iadd, 0, 0)] (pc' := 1763) (lo' := [some (.ref 92), some (.ref 0), some (.ref 66), some (.ref 85), some (.int v), none, none]) (st' := [.int (v + 1), .ref 92, .ref 66, .int r1]) (σ' := s1) (by decide +kernel) rfl rfl ?_
  refine g_sldX hx hS (lw_in1 hv hi hL) (by decide +kernel) ?_
  refine g_run hx [(.aload_n 0, 0, 0), (.iload 4, 0, 0), (.iconst 2, 2, 0), (.iadd, 0, 0)] (pc' := 1769) (lo' := [some (.ref 92), some (.ref 0), some (.ref 66), some (.ref 85), some (.int v), none, none]) (st' := [.int (v + 2), .ref 92, .int (xs (v + 1).toNatClampNeg), .ref 66, .int r1]) (σ' := s1) (by decide +kernel) rfl rfl ?_
  refine g_sldX hx hS (lw_in2 hv hi hL) (by decide +kernel) ?_
  refine g_callV (rest := [.int r1]) [.int (xs (v + 1).toNatClampNeg), .int (xs (v + 2).toNatClampNeg)] hx hc mk_m_stride ln_11_233 rfl (by decide +kernel) (Nat.le_of_ble_eq_true rfl) (Nat.le_of_ble_eq_true rfl) (s_m_stride h) (fun r2 s2 h => ?_)
  change G x 1773 [some (.ref 92), some (.ref 0), some (.ref 66), some (.ref 85), some (.int v), none, none] [.int r2, .int r1] s2
  exact g_ic_eq hx (off := 213) (tgt := 1986) (by decide +kernel) (by decide) (fun _ => K x s2 hl.dn h.2) (fun c => absurd h.1 c)
theorem lw_c52 (hN : 200000 ≤ N) (hl : LwC b L xs (k + 1) x) (hs : Sim σ) (hv : v = iI (i : Int)) (hi : i + 6 ≤ L) (hL : L ≤ 3072) (K : ∀ x1 s1, LwC b L xs k x1 → Sim s1 → G x1 1986 [some (.ref 92), some (.ref 0), some (.ref 66), some (.ref 85), some (.int v), none, none] [] s1) : G x 1778 [some (.ref 92), some (.ref 0), some (.ref 66), some (.ref 85), some (.int v), none, none] [] σ := by
  have hx := hl.1
  have hc := hl.2.1
  have hS := hl.2.2.1
  refine g_run hx [(.aload_n 1, 0, 0), (.aload_n 0, 0, 0), (.iload 4, 0, 0), (.iconst 1, 1, 0), (.iadd, 0, 0)] (pc' := 1784) (lo' := [some (.ref 92), some (.ref 0), some (.ref 66), some (.ref 85), some (.int v), none, none]) (st' := [.int (v + 1), .ref 92, .ref 0]) (σ' := σ) (by decide +kernel) rfl rfl ?_
  refine g_sldX hx hS (lw_in1 hv hi hL) (by decide +kernel) ?_
  refine g_callV (rest := []) [.int (xs (v + 1).toNatClampNeg)] hx hc mk_x_step ln_11_234 rfl (by decide +kernel) (Nat.le_of_ble_eq_true rfl) (Nat.le_of_ble_eq_true rfl) (s_x_step (sim_step hN (xs (v + 1).toNatClampNeg) hs)) (fun r1 s1 h => ?_)
  change G x 1788 [some (.ref 92), some (.ref 0), some (.ref 66), some (.ref 85), some (.int v), none, none] [.int r1] s1
  refine g_run hx [(.aload_n 2, 0, 0), (.aload_n 0, 0, 0), (.iload 4, 0, 0), (.iconst 1, 1, 0), (.iadd, 0, 0)] (pc' := 1794) (lo' := [some (.ref 92), some (.ref 0), some (.ref 66), some (.ref 85), some (.int v), none, none]) (st' := [.int (v + 1), .ref 92, .ref 66, .int r1]) (σ' := s1) (by decide +kernel) rfl rfl ?_
  refine g_sldX hx hS (lw_in1 hv hi hL) (by decide +kernel) ?_
  refine g_callV (rest := [.int r1]) [.int (xs (v + 1).toNatClampNeg)] hx hc mk_m_step ln_11_237 rfl (by decide +kernel) (Nat.le_of_ble_eq_true rfl) (Nat.le_of_ble_eq_true rfl) (s_m_step h) (fun r2 s2 h => ?_)
  change G x 1798 [some (.ref 92), some (.ref 0), some (.ref 66), some (.ref 85), some (.int v), none, none] [.int r2, .int r1] s2
  exact g_ic_eq hx (off := 188) (tgt := 1986) (by decide +kernel) (by decide) (fun _ => K x s2 hl.dn h.2) (fun c => absurd h.1 c)
theorem lw_c53 (hN : 200000 ≤ N) (hl : LwC b L xs (k + 1) x) (hs : Sim σ) (hv : v = iI (i : Int)) (hi : i + 6 ≤ L) (hL : L ≤ 3072) (K : ∀ x1 s1, LwC b L xs k x1 → Sim s1 → G x1 1986 [some (.ref 92), some (.ref 0), some (.ref 66), some (.ref 85), some (.int v), none, none] [] s1) : G x 1803 [some (.ref 92), some (.ref 0), some (.ref 66), some (.ref 85), some (.int v), none, none] [] σ := by
  have hx := hl.1
  have hc := hl.2.1
  have hS := hl.2.2.1
  refine g_run hx [(.aload_n 1, 0, 0)] (pc' := 1804) (lo' := [some (.ref 92), some (.ref 0), some (.ref 66), some (.ref 85), some (.int v), none, none]) (st' := [.ref 0]) (σ' := σ) (by decide +kernel) rfl rfl ?_
  refine g_callV (rest := []) [] hx hc mk_x_year ln_11_238 rfl (by decide +kernel) (Nat.le_of_ble_eq_true rfl) (Nat.le_of_ble_eq_true rfl) (s_x_year (sim_year hN hs)) (fun r1 s1 h => ?_)
  change G x 1807 [some (.ref 92), some (.ref 0), some (.ref 66), some (.ref 85), some (.int v), none, none] [.int r1] s1
  refine g_run hx [(.aload_n 2, 0, 0)] (pc' := 1808) (lo' := [some (.ref 92), some (.ref 0), some (.ref 66), some (.ref 85), some (.int v), none, none]) (st' := [.ref 66, .int r1]) (σ' := s1) (by decide +kernel) rfl rfl ?_
  refine g_callV (rest := [.int r1]) [] hx hc mk_m_year ln_11_241 rfl (by decide +kernel) (Nat.le_of_ble_eq_true rfl) (Nat.le_of_ble_eq_true rfl) (s_m_year h) (fun r2 s2 h => ?_)
  change G x 1811 [some (.ref 92), some (.ref 0), some (.ref 66), some (.ref 85), some (.int v), none, none] [.int r2, .int r1] s2
  exact g_ic_eq hx (off := 175) (tgt := 1986) (by decide +kernel) (by decide) (fun _ => K x s2 hl.dn h.2) (fun c => absurd h.1 c)
theorem lw_c54 (hN : 200000 ≤ N) (hl : LwC b L xs (k + 1) x) (hs : Sim σ) (hv : v = iI (i : Int)) (hi : i + 6 ≤ L) (hL : L ≤ 3072) (K : ∀ x1 s1, LwC b L xs k x1 → Sim s1 → G x1 1986 [some (.ref 92), some (.ref 0), some (.ref 66), some (.ref 85), some (.int v), none, none] [] s1) : G x 1816 [some (.ref 92), some (.ref 0), some (.ref 66), some (.ref 85), some (.int v), none, none] [] σ := by
  have hx := hl.1
  have hc := hl.2.1
  have hS := hl.2.2.1
  refine g_run hx [(.aload_n 1, 0, 0), (.aload_n 0, 0, 0), (.iload 4, 0, 0), (.iconst 1, 1, 0), (.iadd, 0, 0)] (pc' := 1822) (lo' := [some (.ref 92), some (.ref 0), some (.ref 66), some (.ref 85), some (.int v), none, none]) (st' := [.int (v + 1), .ref 92, .ref 0]) (σ' := σ) (by decide +kernel) rfl rfl ?_
  refine g_sldX hx hS (lw_in1 hv hi hL) (by decide +kernel) ?_
  refine g_callV (rest := []) [.int (xs (v + 1).toNatClampNeg)] hx hc mk_x_fill ln_11_242 rfl (by decide +kernel) (Nat.le_of_ble_eq_true rfl) (Nat.le_of_ble_eq_true rfl) (s_x_fill (sim_fill hN (xs (v + 1).toNatClampNeg) hs)) (fun r1 s1 h => ?_)
  change G x 1826 [some (.ref 92), some (.ref 0), some (.ref 66), some (.ref 85), some (.int v), none, none] [.int r1] s1
  refine g_run hx [(.aload_n 2, 0, 0), (.aload_n 0, 0, 0), (.iload 4, 0, 0), (.iconst 1, 1, 0), (.iadd, 0, 0)] (pc' := 1832) (lo' := [some (.ref 92), some (.ref 0), some (.ref 66), some (.ref 85), some (.int v), none, none]) (st' := [.int (v + 1), .ref 92, .ref 66, .int r1]) (σ' := s1) (by decide +kernel) rfl rfl ?_
  refine g_sldX hx hS (lw_in1 hv hi hL) (by decide +kernel) ?_
  refine g_callV (rest := [.int r1]) [.int (xs (v + 1).toNatClampNeg)] hx hc mk_m_fill ln_11_245 rfl (by decide +kernel) (Nat.le_of_ble_eq_true rfl) (Nat.le_of_ble_eq_true rfl) (s_m_fill h) (fun r2 s2 h => ?_)
  change G x 1836 [some (.ref 92), some (.ref 0), some (.ref 66), some (.ref 85), some (.int v), none, none] [.int r2, .int r1] s2
  exact g_ic_eq hx (off := 150) (tgt := 1986) (by decide +kernel) (by decide) (fun _ => K x s2 hl.dn h.2) (fun c => absurd h.1 c)
theorem lw_c55 (hN : 200000 ≤ N) (hl : LwC b L xs (k + 1) x) (hs : Sim σ) (hv : v = iI (i : Int)) (hi : i + 6 ≤ L) (hL : L ≤ 3072) (K : ∀ x1 s1, LwC b L xs k x1 → Sim s1 → G x1 1986 [some (.ref 92), some (.ref 0), some (.ref 66), some (.ref 85), some (.int v), none, none] [] s1) : G x 1841 [some (.ref 92), some (.ref 0), some (.ref 66), some (.ref 85), some (.int v), none, none] [] σ := by
  have hx := hl.1
  have hc := hl.2.1
  have hS := hl.2.2.1
  refine g_run hx [(.aload_n 1, 0, 0)] (pc' := 1842) (lo' := [some (.ref 92), some (.ref 0), some (.ref 66), some (.ref 85), some (.int v), none, none]) (st' := [.ref 0]) (σ' := σ) (by decide +kernel) rfl rfl ?_
  refine g_callV (rest := []) [] hx hc mk_x_undo ln_11_246 rfl (by decide +kernel) (Nat.le_of_ble_eq_true rfl) (Nat.le_of_ble_eq_true rfl) (s_x_undo (sim_undo hN hs)) (fun r1 s1 h => ?_)
  change G x 1845 [some (.ref 92), some (.ref 0), some (.ref 66), some (.ref 85), some (.int v), none, none] [.int (b2i r1)] s1
  refine g_run hx [(.aload_n 2, 0, 0)] (pc' := 1846) (lo' := [some (.ref 92), some (.ref 0), some (.ref 66), some (.ref 85), some (.int v), none, none]) (st' := [.ref 66, .int (b2i r1)]) (σ' := s1) (by decide +kernel) rfl rfl ?_
  refine g_callV (rest := [.int (b2i r1)]) [] hx hc mk_m_undo ln_11_250 rfl (by decide +kernel) (Nat.le_of_ble_eq_true rfl) (Nat.le_of_ble_eq_true rfl) (s_m_undo h) (fun r2 s2 h => ?_)
  change G x 1849 [some (.ref 92), some (.ref 0), some (.ref 66), some (.ref 85), some (.int v), none, none] [.int (b2i r2), .int (b2i r1)] s2
  exact g_ic_eq hx (off := 137) (tgt := 1986) (by decide +kernel) (by decide) (fun _ => K x s2 hl.dn h.2) (fun c => absurd (congrArg b2i h.1) c)
theorem lw_c56 (hN : 200000 ≤ N) (hl : LwC b L xs (k + 1) x) (hs : Sim σ) (hv : v = iI (i : Int)) (hi : i + 6 ≤ L) (hL : L ≤ 3072) (K : ∀ x1 s1, LwC b L xs k x1 → Sim s1 → G x1 1986 [some (.ref 92), some (.ref 0), some (.ref 66), some (.ref 85), some (.int v), none, none] [] s1) : G x 1854 [some (.ref 92), some (.ref 0), some (.ref 66), some (.ref 85), some (.int v), none, none] [] σ := by
  have hx := hl.1
  have hc := hl.2.1
  have hS := hl.2.2.1
  refine g_run hx [(.aload_n 1, 0, 0)] (pc' := 1855) (lo' := [some (.ref 92), some (.ref 0), some (.ref 66), some (.ref 85), some (.int v), none, none]) (st' := [.ref 0]) (σ' := σ) (by decide +kernel) rfl rfl ?_
  refine g_callV (rest := []) [] hx hc mk_x_image ln_11_251 rfl (by decide +kernel) (Nat.le_of_ble_eq_true rfl) (Nat.le_of_ble_eq_true rfl) (s_x_image (sim_image hN hs)) (fun r1 s1 h => ?_)
  change G x 1858 [some (.ref 92), some (.ref 0), some (.ref 66), some (.ref 85), some (.int v), none, none] [.int r1] s1
  refine g_run hx [(.aload_n 2, 0, 0)] (pc' := 1859) (lo' := [some (.ref 92), some (.ref 0), some (.ref 66), some (.ref 85), some (.int v), none, none]) (st' := [.ref 66, .int r1]) (σ' := s1) (by decide +kernel) rfl rfl ?_
  refine g_callV (rest := [.int r1]) [] hx hc mk_m_image ln_11_254 rfl (by decide +kernel) (Nat.le_of_ble_eq_true rfl) (Nat.le_of_ble_eq_true rfl) (s_m_image h) (fun r2 s2 h => ?_)
  change G x 1862 [some (.ref 92), some (.ref 0), some (.ref 66), some (.ref 85), some (.int v), none, none] [.int r2, .int r1] s2
  exact g_ic_eq hx (off := 124) (tgt := 1986) (by decide +kernel) (by decide) (fun _ => K x s2 hl.dn h.2) (fun c => absurd h.1 c)
theorem lw_c57 (hN : 200000 ≤ N) (hl : LwC b L xs (k + 1) x) (hs : Sim σ) (hv : v = iI (i : Int)) (hi : i + 6 ≤ L) (hL : L ≤ 3072) (K : ∀ x1 s1, LwC b L xs k x1 → Sim s1 → G x1 1986 [some (.ref 92), some (.ref 0), some (.ref 66), some (.ref 85), some (.int v), none, none] [] s1) : G x 1867 [some (.ref 92), some (.ref 0), some (.ref 66), some (.ref 85), some (.int v), none, none] [] σ := by
  have hx := hl.1
  have hc := hl.2.1
  have hS := hl.2.2.1
  refine g_run hx [(.aload_n 1, 0, 0), (.aload_n 0, 0, 0), (.iload 4, 0, 0), (.iconst 1, 1, 0), (.iadd, 0, 0)] (pc' := 1873) (lo' := [some (.ref 92), some (.ref 0), some (.ref 66), some (.ref 85), some (.int v), none, none]) (st' := [.int (v + 1), .ref 92, .ref 0]) (σ' := σ) (by decide +kernel) rfl rfl ?_
  refine g_sldX hx hS (lw_in1 hv hi hL) (by decide +kernel) ?_
  refine g_callV (rest := []) [.int (xs (v + 1).toNatClampNeg)] hx hc mk_x_back ln_11_255 rfl (by decide +kernel) (Nat.le_of_ble_eq_true rfl) (Nat.le_of_ble_eq_true rfl) (s_x_back (sim_back hN (xs (v + 1).toNatClampNeg) hs)) (fun r1 s1 h => ?_)
  change G x 1877 [some (.ref 92), some (.ref 0), some (.ref 66), some (.ref 85), some (.int v), none, none] [.int (b2i r1)] s1
  refine g_run hx [(.aload_n 2, 0, 0), (.aload_n 0, 0, 0), (.iload 4, 0, 0), (.iconst 1, 1, 0), (.iadd, 0, 0)] (pc' := 1883) (lo' := [some (.ref 92), some (.ref 0), some (.ref 66), some (.ref 85), some (.int v), none, none]) (st' := [.int (v + 1), .ref 92, .ref 66, .int (b2i r1)]) (σ' := s1) (by decide +kernel) rfl rfl ?_
  refine g_sldX hx hS (lw_in1 hv hi hL) (by decide +kernel) ?_
  refine g_callV (rest := [.int (b2i r1)]) [.int (xs (v + 1).toNatClampNeg)] hx hc mk_m_back ln_11_259 rfl (by decide +kernel) (Nat.le_of_ble_eq_true rfl) (Nat.le_of_ble_eq_true rfl) (s_m_back h) (fun r2 s2 h => ?_)
  change G x 1887 [some (.ref 92), some (.ref 0), some (.ref 66), some (.ref 85), some (.int v), none, none] [.int (b2i r2), .int (b2i r1)] s2
  exact g_ic_eq hx (off := 99) (tgt := 1986) (by decide +kernel) (by decide) (fun _ => K x s2 hl.dn h.2) (fun c => absurd (congrArg b2i h.1) c)
theorem lw_c59 (hN : 200000 ≤ N) (hl : LwC b L xs (k + 1) x) (hs : Sim σ) (hv : v = iI (i : Int)) (hi : i + 6 ≤ L) (hL : L ≤ 3072) (K : ∀ x1 s1, LwC b L xs k x1 → Sim s1 → G x1 1986 [some (.ref 92), some (.ref 0), some (.ref 66), some (.ref 85), some (.int v), none, none] [] s1) : G x 1948 [some (.ref 92), some (.ref 0), some (.ref 66), some (.ref 85), some (.int v), none, none] [] σ := by
  have hx := hl.1
  have hc := hl.2.1
  have hS := hl.2.2.1
  refine g_run hx [(.aload_n 1, 0, 0), (.aload_n 0, 0, 0), (.iload 4, 0, 0), (.iconst 1, 1, 0), (.iadd, 0, 0)] (pc' := 1954) (lo' := [some (.ref 92), some (.ref 0), some (.ref 66), some (.ref 85), some (.int v), none, none]) (st' := [.int (v + 1), .ref 92, .ref 0]) (σ' := σ) (by decide +kernel) rfl rfl ?_
  refine g_sldX hx hS (lw_in1 hv hi hL) (by decide +kernel) ?_
  refine g_callV (rest := []) [.int (xs (v + 1).toNatClampNeg)] hx hc mk_x_size ln_11_269 rfl (by decide +kernel) (Nat.le_of_ble_eq_true rfl) (Nat.le_of_ble_eq_true rfl) (s_x_size (sim_size (N := N) (xs (v + 1).toNatClampNeg) hs)) (fun r1 s1 h => ?_)
  change G x 1958 [some (.ref 92), some (.ref 0), some (.ref 66), some (.ref 85), some (.int v), none, none] [.int r1] s1
  refine g_run hx [(.aload_n 2, 0, 0), (.aload_n 0, 0, 0), (.iload 4, 0, 0), (.iconst 1, 1, 0), (.iadd, 0, 0)] (pc' := 1964) (lo' := [some (.ref 92), some (.ref 0), some (.ref 66), some (.ref 85), some (.int v), none, none]) (st' := [.int (v + 1), .ref 92, .ref 66, .int r1]) (σ' := s1) (by decide +kernel) rfl rfl ?_
  refine g_sldX hx hS (lw_in1 hv hi hL) (by decide +kernel) ?_
  refine g_callV (rest := [.int r1]) [.int (xs (v + 1).toNatClampNeg)] hx hc mk_m_size ln_11_272 rfl (by decide +kernel) (Nat.le_of_ble_eq_true rfl) (Nat.le_of_ble_eq_true rfl) (s_m_size h) (fun r2 s2 h => ?_)
  change G x 1968 [some (.ref 92), some (.ref 0), some (.ref 66), some (.ref 85), some (.int v), none, none] [.int r2, .int r1] s2
  exact g_ic_eq hx (off := 18) (tgt := 1986) (by decide +kernel) (by decide) (fun _ => K x s2 hl.dn h.2) (fun c => absurd h.1 c)
theorem lw_c60 (hN : 200000 ≤ N) (hl : LwC b L xs (k + 1) x) (hs : Sim σ) (hv : v = iI (i : Int)) (hi : i + 6 ≤ L) (hL : L ≤ 3072) (K : ∀ x1 s1, LwC b L xs k x1 → Sim s1 → G x1 1986 [some (.ref 92), some (.ref 0), some (.ref 66), some (.ref 85), some (.int v), none, none] [] s1) : G x 1973 [some (.ref 92), some (.ref 0), some (.ref 66), some (.ref 85), some (.int v), none, none] [] σ := by
  have hx := hl.1
  have hc := hl.2.1
  have hS := hl.2.2.1
  refine g_run hx [(.aload_n 1, 0, 0)] (pc' := 1974) (lo' := [some (.ref 92), some (.ref 0), some (.ref 66), some (.ref 85), some (.int v), none, none]) (st' := [.ref 0]) (σ' := σ) (by decide +kernel) rfl rfl ?_
  refine g_callV (rest := []) [] hx hc mk_x_trouble ln_11_273 rfl (by decide +kernel) (Nat.le_of_ble_eq_true rfl) (Nat.le_of_ble_eq_true rfl) (s_x_trouble (sim_trouble (N := N) hs)) (fun r1 s1 h => ?_)
  change G x 1977 [some (.ref 92), some (.ref 0), some (.ref 66), some (.ref 85), some (.int v), none, none] [.int r1] s1
  refine g_run hx [(.aload_n 2, 0, 0)] (pc' := 1978) (lo' := [some (.ref 92), some (.ref 0), some (.ref 66), some (.ref 85), some (.int v), none, none]) (st' := [.ref 66, .int r1]) (σ' := s1) (by decide +kernel) rfl rfl ?_
  refine g_callV (rest := [.int r1]) [] hx hc mk_m_trouble ln_11_276 rfl (by decide +kernel) (Nat.le_of_ble_eq_true rfl) (Nat.le_of_ble_eq_true rfl) (s_m_trouble h) (fun r2 s2 h => ?_)
  change G x 1981 [some (.ref 92), some (.ref 0), some (.ref 66), some (.ref 85), some (.int v), none, none] [.int r2, .int r1] s2
  exact g_ic_eq hx (off := 5) (tgt := 1986) (by decide +kernel) (by decide) (fun _ => K x s2 hl.dn h.2) (fun c => absurd h.1 c)
end LAWC
