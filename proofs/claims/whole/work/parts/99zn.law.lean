section LAWD
variable {x : CX} {b L k i N : Nat} {xs : Nat → Int32} {v : Int32} {σ : Sg}
theorem lw_c58 (hN : 200000 ≤ N) (hl : LwC b L xs (k + 1) x) (hs : Sim σ) (hv : v = iI (i : Int)) (hi : i + 6 ≤ L) (hL : L ≤ 3072) (K : ∀ x1 s1, LwC b L xs k x1 → Sim s1 → G x1 1986 [some (.ref 92), some (.ref 0), some (.ref 66), some (.ref 85), some (.int v), none, none] [] s1) : G x 1892 [some (.ref 92), some (.ref 0), some (.ref 66), some (.ref 85), some (.int v), none, none] [] σ := by
  have hx := hl.1
  have hc := hl.2.1
  have hS := hl.2.2.1
  refine g_run hx [(.aload_n 1, 0, 0), (.aload_n 0, 0, 0), (.iload 4, 0, 0), (.iconst 1, 1, 0), (.iadd, 0, 0)] (pc' := 1898) (lo' := [some (.ref 92), some (.ref 0), some (.ref 66), some (.ref 85), some (.int v), none, none]) (st' := [.int (v + 1), .ref 92, .ref 0]) (σ' := σ) (by decide +kernel) rfl rfl ?_
  refine g_sldX hx hS (lw_in1 hv hi hL) (by decide +kernel) ?_
  refine g_run hx [(.aload_n 3, 0, 0)] (pc' := 1900) (lo' := [some (.ref 92), some (.ref 0), some (.ref 66), some (.ref 85), some (.int v), none, none]) (st' := [.ref 85, .int (xs (v + 1).toNatClampNeg), .ref 0]) (σ' := σ) (by decide +kernel) rfl rfl ?_
  refine g_led (rest := []) hx hc hl.ledx (Nat.le_of_ble_eq_true rfl) (by decide +kernel) (Nat.le_of_ble_eq_true rfl) (s_led (sim_led hN (xs (v + 1).toNatClampNeg) hs)) (fun r1 s1 h => ?_)
  have hl := hl.led
  have hx := hl.1
  have hc := hl.2.1
  have hS := hl.2.2.1
  generalize xled x = x1 at hl hx hc hS ⊢
  refine g_run hx [(.istore 5, 0, 0), (.aload_n 2, 0, 0), (.aload_n 0, 0, 0), (.iload 4, 0, 0), (.iconst 1, 1, 0), (.iadd, 0, 0)] (pc' := 1911) (lo' := [some (.ref 92), some (.ref 0), some (.ref 66), some (.ref 85), some (.int v), some (.int r1), none]) (st' := [.int (v + 1), .ref 92, .ref 66]) (σ' := s1) (by decide +kernel) rfl rfl ?_
  refine g_sldX hx hS (lw_in1 hv hi hL) (by decide +kernel) ?_
  refine g_callV (rest := []) [.int (xs (v + 1).toNatClampNeg)] hx hc mk_m_led ln_11_265 rfl (by decide +kernel) (Nat.le_of_ble_eq_true rfl) (Nat.le_of_ble_eq_true rfl) (s_m_led h) (fun r2 s2 h => ?_)
  obtain ⟨h1, h2, h3⟩ := h
  refine g_run hx [(.istore 6, 0, 0), (.aload_n 2, 0, 0)] (pc' := 1918) (lo' := [some (.ref 92), some (.ref 0), some (.ref 66), some (.ref 85), some (.int v), some (.int r1), some (.int r2)]) (st' := [.ref 66]) (σ' := s2) (by decide +kernel) rfl rfl ?_
  refine g_callV (rest := []) [] hx hc mk_m_thrown ln_11_266 rfl (by decide +kernel) (Nat.le_of_ble_eq_true rfl) (Nat.le_of_ble_eq_true rfl) (s_m_thrown (N := N) (P := fun z => z = (gI s2 66 0, s2)) ⟨_, rfl, rfl⟩) (fun r3 s3 h4 => ?_)
  cases h4
  refine g_run hx [(.iload 5, 0, 0)] (pc' := 1923) (lo' := [some (.ref 92), some (.ref 0), some (.ref 66), some (.ref 85), some (.int v), some (.int r1), some (.int r2)]) (st' := [.int r1, .int (gI s2 66 0)]) (σ' := s2) (by decide +kernel) rfl rfl ?_
  refine g_ic_eq hx (off := 5) (tgt := 1928) (by decide +kernel) (by decide) (fun _ => ?_) (fun c => absurd h1 c)
  have fin : G x1 1945 [some (.ref 92), some (.ref 0), some (.ref 66), some (.ref 85), some (.int v), some (.int r1), some (.int r2)] [] s2 := by
    refine g_goto hx (off := 41) (tgt := 1986) (by decide +kernel) (by decide) ?_
    refine g_wk (lo' := [some (.ref 92), some (.ref 0), some (.ref 66), some (.ref 85), some (.int v), none, none]) ⟨rfl, ⟨rfl, ⟨rfl, ⟨rfl, ⟨rfl, trivial⟩⟩⟩⟩⟩ ?_
    exact K x1 s2 hl h3
  refine g_run hx [(.iload 5, 0, 0)] (pc' := 1930) (lo' := [some (.ref 92), some (.ref 0), some (.ref 66), some (.ref 85), some (.int v), some (.int r1), some (.int r2)]) (st' := [.int r1]) (σ' := s2) (by decide +kernel) rfl rfl ?_
  refine g_if_ne hx (off := 15) (tgt := 1945) (by decide +kernel) (by decide) (fun _ => fin) (fun c => ?_)
  refine g_run hx [(.aload_n 3, 0, 0), (.iconst 0, 0, 0)] (pc' := 1935) (lo' := [some (.ref 92), some (.ref 0), some (.ref 66), some (.ref 85), some (.int v), some (.int r1), some (.int r2)]) (st' := [.int 0, .ref 85]) (σ' := s2) (by decide +kernel) rfl rfl ?_
  refine g_lald hx (by decide +kernel) (i := 85) (n := 1) sh_out (show vp_in 0 1 from by unfold vp_in; decide) ?_
  refine g_run hx [(.iload 6, 0, 0), (.i2l, 0, 0), (.lcmp, 0, 0)] (pc' := 1940) (lo' := [some (.ref 92), some (.ref 0), some (.ref 66), some (.ref 85), some (.int v), some (.int r1), some (.int r2)]) (st' := [.int (lg_cmp (gM s2 85 0) r2.toInt64)]) (σ' := s2) (by decide +kernel) rfl rfl ?_
  exact g_if_eq hx (off := 5) (tgt := 1945) (by decide +kernel) (by decide) (fun _ => fin) (fun c2 => absurd ((lg_cmp_0 _ _).mpr (h2 c)) c2)
end LAWD
