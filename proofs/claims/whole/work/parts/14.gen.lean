def f_country_lowDepth (N : Nat) (v1 : Int64) (σ : Sg) : Option (Int64 × Sg) :=
  some (v1 &&& ((gL σ 10 4) ^^^ (-1)), σ)
set_option maxRecDepth 100000 in
theorem s_country_lowDepth {y : EX} {N : Nat} {v1 : Int64} {σ : Sg} {P : Int64 × Sg → Prop} (h : ok (f_country_lowDepth N v1 σ) P) : Ev y M_country_lowDepth 0 [.ref 10, .long v1] σ rvL P := by
  refine Ev.of mk_country_lowDepth (Nat.le_of_ble_eq_true rfl) (fun x hx hc hr => ?_)
  have hx : Cx 1 prog_3_method_6_code x := hx
  have hc : Cc y 3 0 x := hc
  show G x 0 [some (.ref 10), some (.long v1), none] [] σ
  unfold f_country_lowDepth at h
  refine g_run hx [(.lload_n 1, 0, 0), (.aload_n 0, 0, 0), (.getfield 24, 0, 0), (.ldc2_w 71, 0, (-1)), (.lxor, 0, 0), (.land, 0, 0)] (pc' := 10) (lo' := [some (.ref 10), some (.long v1), none]) (st' := [.long (v1 &&& ((gL σ 10 4) ^^^ (-1)))]) (σ' := σ) (by decide +kernel) rfl rfl ?_
  exact g_lret hx hr rfl _ rfl (by decide +kernel) (ok_some h)
def f_country_highDepth (N : Nat) (v1 : Int64) (σ : Sg) : Option (Int64 × Sg) :=
  some (v1 &&& ((gL σ 10 4) ||| (gL σ 10 5)), σ)
set_option maxRecDepth 100000 in
theorem s_country_highDepth {y : EX} {N : Nat} {v1 : Int64} {σ : Sg} {P : Int64 × Sg → Prop} (h : ok (f_country_highDepth N v1 σ) P) : Ev y M_country_highDepth 0 [.ref 10, .long v1] σ rvL P := by
  refine Ev.of mk_country_highDepth (Nat.le_of_ble_eq_true rfl) (fun x hx hc hr => ?_)
  have hx : Cx 1 prog_3_method_7_code x := hx
  have hc : Cc y 3 0 x := hc
  show G x 0 [some (.ref 10), some (.long v1), none] [] σ
  unfold f_country_highDepth at h
  refine g_run hx [(.lload_n 1, 0, 0), (.aload_n 0, 0, 0), (.getfield 24, 0, 0), (.aload_n 0, 0, 0), (.getfield 28, 0, 0), (.lor, 0, 0), (.land, 0, 0)] (pc' := 11) (lo' := [some (.ref 10), some (.long v1), none]) (st' := [.long (v1 &&& ((gL σ 10 4) ||| (gL σ 10 5)))]) (σ' := σ) (by decide +kernel) rfl rfl ?_
  exact g_lret hx hr rfl _ rfl (by decide +kernel) (ok_some h)
def f_state_makeStride (N : Nat) (a0 : Nat) (a1 : Nat) (a2 : Nat) (a3 : Nat) (a4 : Nat) (v2 : Int32) (σ : Sg) : Option (Bool × Sg) :=
  (f_state_goneCells N a0 σ).bind fun q1 =>
  (f_country_target N a1 a2 a3 a4 q1.1 (gI q1.2 a0 2) v2 q1.2).bind fun q2 =>
  if q2.1 = (-2) then
    some (false, q2.2)
  else
    (f_x_inside N (gI q2.2 a0 2) q2.1 q2.2).bind fun q3 =>
    (f_state_goneCells N a0 q3.2).bind fun q4 =>
    (f_country_lowDepth N (q3.1 &&& (q4.1 ^^^ (-1))) q4.2).bind fun q5 =>
    (f_country_highDepth N (q3.1 &&& (q4.1 ^^^ (-1))) (sL q5.2 a0 0 ((gL q4.2 a0 0) ||| q5.1))).bind fun q6 =>
    some (true, sI (sL q6.2 a0 1 ((gL (sL q5.2 a0 0 ((gL q4.2 a0 0) ||| q5.1)) a0 1) ||| q6.1)) a0 2 q2.1)
set_option maxRecDepth 100000 in
theorem s_state_makeStride_41_10 {y : EX} {N : Nat} {v2 : Int32} {σ : Sg} {P : Bool × Sg → Prop} (h : ok (f_state_makeStride N 41 11 3 12 10 v2 σ) P) : Ev y M_state_makeStride 2 [.ref 41, .ref 10, .int v2] σ rvB P := by
  refine Ev.of mk_state_makeStride (Nat.le_of_ble_eq_true rfl) (fun x hx hc hr => ?_)
  have hx : Cx 7 prog_9_method_7_code x := hx
  have hc : Cc y 6 2 x := hc
  show G x 0 [some (.ref 41), some (.ref 10), some (.int v2), none, none, none] [] σ
  unfold f_state_makeStride at h
  refine g_run hx [(.aload_n 1, 0, 0), (.aload_n 0, 0, 0)] (pc' := 2) (lo' := [some (.ref 41), some (.ref 10), some (.int v2), none, none, none]) (st' := [.ref 41, .ref 10]) (σ' := σ) (by decide +kernel) rfl rfl ?_
  refine g_callV (rest := [.ref 10]) [] hx hc mk_state_goneCells ln_7_56 rfl (by decide +kernel) (by decide) (Nat.le_of_ble_eq_true rfl) (s_state_goneCells_41 (ok_b h)) (fun r1 s1 h => ?_)
  refine g_run hx [(.aload_n 0, 0, 0), (.getfield 18, 0, 0), (.iload_n 2, 0, 0)] (pc' := 10) (lo' := [some (.ref 41), some (.ref 10), some (.int v2), none, none, none]) (st' := [.int v2, .int (gI s1 41 2), .long r1, .ref 10]) (σ' := s1) (by decide +kernel) rfl rfl ?_
  refine g_callV (rest := []) [.long r1, .int (gI s1 41 2), .int v2] hx hc mk_country_target ln_7_60 rfl (by decide +kernel) (by decide) (Nat.le_of_ble_eq_true rfl) (s_country_target_10 (ok_b h)) (fun r2 s2 h => ?_)
  refine g_run hx [(.istore_n 3, 0, 0), (.iload_n 3, 0, 0), (.bipush (-2), (-2), 0)] (pc' := 17) (lo' := [some (.ref 41), some (.ref 10), some (.int v2), some (.int r2), none, none]) (st' := [.int (-2), .int r2]) (σ' := s2) (by decide +kernel) rfl rfl ?_
  refine g_ic_ne hx (off := 5) (tgt := 22) (by decide +kernel) (by decide) (fun c17 => ?_) (fun c17 => ?_)
  · have h := ok_f h c17
    refine g_run hx [(.aload_n 0, 0, 0), (.getfield 18, 0, 0), (.iload_n 3, 0, 0)] (pc' := 27) (lo' := [some (.ref 41), some (.ref 10), some (.int v2), some (.int r2), none, none]) (st' := [.int r2, .int (gI s2 41 2)]) (σ' := s2) (by decide +kernel) rfl rfl ?_
    refine g_callN (rest := []) [.int (gI s2 41 2), .int r2] hx hc mk_x_inside ln_7_64 (by decide +kernel) (by decide) (Nat.le_of_ble_eq_true rfl) (s_x_inside (ok_b h)) (fun r3 s3 h => ?_)
    refine g_run hx [(.aload_n 0, 0, 0)] (pc' := 31) (lo' := [some (.ref 41), some (.ref 10), some (.int v2), some (.int r2), none, none]) (st' := [.ref 41, .long r3]) (σ' := s3) (by decide +kernel) rfl rfl ?_
    refine g_callV (rest := [.long r3]) [] hx hc mk_state_goneCells ln_7_56 rfl (by decide +kernel) (by decide) (Nat.le_of_ble_eq_true rfl) (s_state_goneCells_41 (ok_b h)) (fun r4 s4 h => ?_)
    refine g_run hx [(.ldc2_w 68, 0, (-1)), (.lxor, 0, 0), (.land, 0, 0), (.lstore 4, 0, 0), (.aload_n 0, 0, 0), (.dup, 0, 0), (.getfield 9, 0, 0), (.aload_n 1, 0, 0), (.lload 4, 0, 0)] (pc' := 49) (lo' := [some (.ref 41), some (.ref 10), some (.int v2), some (.int r2), some (.long (r3 &&& (r4 ^^^ (-1)))), none]) (st' := [.long (r3 &&& (r4 ^^^ (-1))), .ref 10, .long (gL s4 41 0), .ref 41]) (σ' := s4) (by decide +kernel) rfl rfl ?_
    refine g_callV (rest := [.long (gL s4 41 0), .ref 41]) [.long (r3 &&& (r4 ^^^ (-1)))] hx hc mk_country_lowDepth ln_7_33 rfl (by decide +kernel) (by decide) (Nat.le_of_ble_eq_true rfl) (s_country_lowDepth (ok_b h)) (fun r5 s5 h => ?_)
    refine g_run hx [(.lor, 0, 0), (.putfield 9, 0, 0), (.aload_n 0, 0, 0), (.dup, 0, 0), (.getfield 15, 0, 0), (.aload_n 1, 0, 0), (.lload 4, 0, 0)] (pc' := 64) (lo' := [some (.ref 41), some (.ref 10), some (.int v2), some (.int r2), some (.long (r3 &&& (r4 ^^^ (-1)))), none]) (st' := [.long (r3 &&& (r4 ^^^ (-1))), .ref 10, .long (gL (sL s5 41 0 ((gL s4 41 0) ||| r5)) 41 1), .ref 41]) (σ' := sL s5 41 0 ((gL s4 41 0) ||| r5)) (by decide +kernel) rfl rfl ?_
    refine g_callV (rest := [.long (gL (sL s5 41 0 ((gL s4 41 0) ||| r5)) 41 1), .ref 41]) [.long (r3 &&& (r4 ^^^ (-1)))] hx hc mk_country_highDepth ln_7_37 rfl (by decide +kernel) (by decide) (Nat.le_of_ble_eq_true rfl) (s_country_highDepth (ok_b h)) (fun r6 s6 h => ?_)
    refine g_run hx [(.lor, 0, 0), (.putfield 15, 0, 0), (.aload_n 0, 0, 0), (.iload_n 3, 0, 0), (.putfield 18, 0, 0), (.iconst 1, 1, 0)] (pc' := 77) (lo' := [some (.ref 41), some (.ref 10), some (.int v2), some (.int r2), some (.long (r3 &&& (r4 ^^^ (-1)))), none]) (st' := [.int 1]) (σ' := sI (sL s6 41 1 ((gL (sL s5 41 0 ((gL s4 41 0) ||| r5)) 41 1) ||| r6)) 41 2 r2) (by decide +kernel) rfl rfl ?_
    exact g_zret (b := true) hx hr rfl true rfl (by decide +kernel) (ok_some h)
  · have h := ok_t h c17
    refine g_run hx [(.iconst 0, 0, 0)] (pc' := 21) (lo' := [some (.ref 41), some (.ref 10), some (.int v2), some (.int r2), none, none]) (st' := [.int 0]) (σ' := s2) (by decide +kernel) rfl rfl ?_
    exact g_zret (b := false) hx hr rfl false rfl (by decide +kernel) (ok_some h)
def f_x_drawn_L52 (N : Nat) : Nat → Int32 → Int32 → Int32 → Int32 → Sg → Option (Int32 × Sg)
  | 0, _, _, _, _, _ => none
  | n + 1, v1, v2, v5, v6, σ =>
    if v2 ≤ v6 then
      some ((gI σ 41 2), σ)
    else
      if ((((75 * v5) + 74) - ((75 * v5) + 74) / 65537 * 65537) - (((75 * v5) + 74) - ((75 * v5) + 74) / 65537 * 65537) / 100 * 100) < (gI σ 10 1) then
        f_x_drawn_L52 N n v1 v2 (((75 * v5) + 74) - ((75 * v5) + 74) / 65537 * 65537) (v6 + 1) σ
      else
        (f_x_digitOf N v1 v2 v6 σ).bind fun q5 =>
        (f_state_makeStride N 41 11 3 12 10 q5.1 q5.2).bind fun q6 =>
        f_x_drawn_L52 N n v1 v2 (((75 * v5) + 74) - ((75 * v5) + 74) / 65537 * 65537) (v6 + 1) q6.2
def f_x_drawn (N : Nat) (v1 : Int32) (v2 : Int32) (v3 : Int32) (σ : Sg) : Option (Int32 × Sg) :=
  (f_x_rowTrouble N v1 v2 σ).bind fun q1 =>
  if q1.1 = 0 then
    (f_x_numberTrouble N v3 65536 q1.2).bind fun q2 =>
    (f_x_granted N q2.1 q2.2).bind fun q3 =>
    if q3.1 = true then
      (f_state_copy N q3.2).bind fun q4 =>
      f_x_drawn_L52 N N v1 v2 v3 0 q4.2
    else
      some ((-1), q3.2)
  else
    (f_x_granted N q1.1 q1.2).bind fun q7 =>
    if q7.1 = true then
      (f_state_copy N q7.2).bind fun q8 =>
      f_x_drawn_L52 N N v1 v2 v3 0 q8.2
    else
      some ((-1), q7.2)
set_option maxRecDepth 100000 in
theorem s_x_drawn_L52 {y : EX} {N : Nat} {x : CX} {P : Int32 × Sg → Prop} (hx : Cx 9 prog_1_method_52_code x) (hc : Cc y 7 3 x) (hr : Cr M_x_drawn rvI P x) : ∀ (n : Nat) (v1 : Int32) (v2 : Int32) (v5 : Int32) (v6 : Int32) (σ : Sg), ok (f_x_drawn_L52 N n v1 v2 v5 v6 σ) P → G x 52 [some (.ref 0), some (.int v1), some (.int v2), none, none, some (.int v5), some (.int v6)] [] σ := by
  intro n
  induction n with
  | zero => intro v1 v2 v5 v6 σ h; exact ok_none h
  | succ n ih =>
    intro v1 v2 v5 v6 σ h
    rw [f_x_drawn_L52] at h
    refine g_run hx [(.iload 6, 0, 0), (.iload_n 2, 0, 0)] (pc' := 55) (lo' := [some (.ref 0), some (.int v1), some (.int v2), none, none, some (.int v5), some (.int v6)]) (st' := [.int v2, .int v6]) (σ' := σ) (by decide +kernel) rfl rfl ?_
    refine g_ic_ge hx (off := 57) (tgt := 112) (by decide +kernel) (by decide) (fun c55 => ?_) (fun c55 => ?_)
    · have h := ok_t h c55
      refine g_run hx [(.aload_n 0, 0, 0), (.getfield 30, 0, 0), (.getfield 123, 0, 0)] (pc' := 119) (lo' := [some (.ref 0), some (.int v1), some (.int v2), none, none, some (.int v5), some (.int v6)]) (st' := [.int (gI σ 41 2)]) (σ' := σ) (by decide +kernel) rfl rfl ?_
      exact g_iret hx hr rfl _ rfl (by decide +kernel) (ok_some h)
    · have h := ok_f h c55
      refine g_run hx [(.bipush 75, 75, 0), (.iload 5, 0, 0), (.imul, 0, 0), (.bipush 74, 74, 0), (.iadd, 0, 0), (.ldc_w 336, 65537, 0), (.irem, 0, 0), (.istore 5, 0, 0), (.iload 5, 0, 0), (.bipush 100, 100, 0), (.irem, 0, 0), (.aload_n 0, 0, 0), (.getfield 19, 0, 0), (.getfield 337, 0, 0)] (pc' := 84) (lo' := [some (.ref 0), some (.int v1), some (.int v2), none, none, some (.int (((75 * v5) + 74) - ((75 * v5) + 74) / 65537 * 65537)), some (.int v6)]) (st' := [.int (gI σ 10 1), .int ((((75 * v5) + 74) - ((75 * v5) + 74) / 65537 * 65537) - (((75 * v5) + 74) - ((75 * v5) + 74) / 65537 * 65537) / 100 * 100)]) (σ' := σ) (by decide +kernel) rfl rfl ?_
      refine g_ic_lt hx (off := 22) (tgt := 106) (by decide +kernel) (by decide) (fun c84 => ?_) (fun c84 => ?_)
      · have h := ok_t h c84
        refine g_run hx [(.iinc 6 1, 1, 0)] (pc' := 109) (lo' := [some (.ref 0), some (.int v1), some (.int v2), none, none, some (.int (((75 * v5) + 74) - ((75 * v5) + 74) / 65537 * 65537)), some (.int (v6 + 1))]) (st' := []) (σ' := σ) (by decide +kernel) rfl rfl ?_
        refine g_goto hx (off := (-57)) (tgt := 52) (by decide +kernel) (by decide) ?_
        exact ih _ _ _ _ _ h
      · have h := ok_f h c84
        refine g_run hx [(.aload_n 0, 0, 0), (.getfield 30, 0, 0), (.aload_n 0, 0, 0), (.getfield 19, 0, 0), (.iload_n 1, 0, 0), (.iload_n 2, 0, 0), (.iload 6, 0, 0)] (pc' := 99) (lo' := [some (.ref 0), some (.int v1), some (.int v2), none, none, some (.int (((75 * v5) + 74) - ((75 * v5) + 74) / 65537 * 65537)), some (.int v6)]) (st' := [.int v6, .int v2, .int v1, .ref 10, .ref 41]) (σ' := σ) (by decide +kernel) rfl rfl ?_
        refine g_callS (rest := [.ref 10, .ref 41]) [.int v1, .int v2, .int v6] hx hc mk_x_digitOf ln_9_241 (by decide +kernel) (by decide) (Nat.le_of_ble_eq_true rfl) (s_x_digitOf (ok_b h)) (fun r5 s5 h => ?_)
        refine g_callV (rest := []) [.ref 10, .int r5] hx hc mk_state_makeStride ln_9_340 rfl (by decide +kernel) (by decide) (Nat.le_of_ble_eq_true rfl) (s_state_makeStride_41_10 (ok_b h)) (fun r6 s6 h => ?_)
        refine g_run hx [(.pop, 0, 0), (.iinc 6 1, 1, 0)] (pc' := 109) (lo' := [some (.ref 0), some (.int v1), some (.int v2), none, none, some (.int (((75 * v5) + 74) - ((75 * v5) + 74) / 65537 * 65537)), some (.int (v6 + 1))]) (st' := []) (σ' := s6) (by decide +kernel) rfl rfl ?_
        refine g_goto hx (off := (-57)) (tgt := 52) (by decide +kernel) (by decide) ?_
        exact ih _ _ _ _ _ h
set_option maxRecDepth 100000 in
theorem s_x_drawn {y : EX} {N : Nat} {v1 : Int32} {v2 : Int32} {v3 : Int32} {σ : Sg} {P : Int32 × Sg → Prop} (h : ok (f_x_drawn N v1 v2 v3 σ) P) : Ev y M_x_drawn 3 [.ref 0, .int v1, .int v2, .int v3] σ rvI P := by
  refine Ev.of mk_x_drawn (Nat.le_of_ble_eq_true rfl) (fun x hx hc hr => ?_)
  have hx : Cx 9 prog_1_method_52_code x := hx
  have hc : Cc y 7 3 x := hc
  show G x 0 [some (.ref 0), some (.int v1), some (.int v2), some (.int v3), none, none, none] [] σ
  unfold f_x_drawn at h
  refine g_run hx [(.aload_n 0, 0, 0), (.iload_n 1, 0, 0), (.iload_n 2, 0, 0)] (pc' := 3) (lo' := [some (.ref 0), some (.int v1), some (.int v2), some (.int v3), none, none, none]) (st' := [.int v2, .int v1, .ref 0]) (σ' := σ) (by decide +kernel) rfl rfl ?_
  refine g_callV (rest := []) [.int v1, .int v2] hx hc mk_x_rowTrouble ln_9_224 rfl (by decide +kernel) (by decide) (Nat.le_of_ble_eq_true rfl) (s_x_rowTrouble (ok_b h)) (fun r1 s1 h => ?_)
  refine g_run hx [(.istore 4, 0, 0), (.aload_n 0, 0, 0), (.iload 4, 0, 0)] (pc' := 11) (lo' := [some (.ref 0), some (.int v1), some (.int v2), some (.int v3), some (.int r1), none, none]) (st' := [.int r1, .ref 0]) (σ' := s1) (by decide +kernel) rfl rfl ?_
  refine g_if_eq hx (off := 8) (tgt := 19) (by decide +kernel) (by decide) (fun c11 => ?_) (fun c11 => ?_)
  · have h := ok_t h c11
    refine g_run hx [(.aload_n 0, 0, 0), (.iload_n 3, 0, 0), (.ldc_w 335, 65536, 0)] (pc' := 24) (lo' := [some (.ref 0), some (.int v1), some (.int v2), some (.int v3), some (.int r1), none, none]) (st' := [.int 65536, .int v3, .ref 0, .ref 0]) (σ' := s1) (by decide +kernel) rfl rfl ?_
    refine g_callV (rest := [.ref 0]) [.int v3, .int 65536] hx hc mk_x_numberTrouble ln_9_197 rfl (by decide +kernel) (by decide) (Nat.le_of_ble_eq_true rfl) (s_x_numberTrouble (ok_b h)) (fun r2 s2 h => ?_)
    refine g_callV (rest := []) [.int r2] hx hc mk_x_granted ln_9_83 rfl (by decide +kernel) (by decide) (Nat.le_of_ble_eq_true rfl) (s_x_granted (ok_b h)) (fun r3 s3 h => ?_)
    refine g_ifb_ne hx (off := 5) (tgt := 35) (by decide +kernel) (by decide) (fun c30 => ?_) (fun c30 => ?_)
    · have h := ok_t h c30
      refine g_run hx [(.aload_n 0, 0, 0), (.getfield 30, 0, 0), (.aload_n 0, 0, 0), (.getfield 26, 0, 0)] (pc' := 43) (lo' := [some (.ref 0), some (.int v1), some (.int v2), some (.int v3), some (.int r1), none, none]) (st' := [.ref 40, .ref 41]) (σ' := s3) (by decide +kernel) rfl rfl ?_
      refine g_callV (rest := []) [.ref 40] hx hc mk_state_copy ln_9_204 rfl (by decide +kernel) (by decide) (Nat.le_of_ble_eq_true rfl) (s_state_copy (ok_b h)) (fun r4 s4 h => ?_)
      refine g_run hx [(.iload_n 3, 0, 0), (.istore 5, 0, 0), (.iconst 0, 0, 0), (.istore 6, 0, 0)] (pc' := 52) (lo' := [some (.ref 0), some (.int v1), some (.int v2), some (.int v3), some (.int r1), some (.int v3), some (.int 0)]) (st' := []) (σ' := s4) (by decide +kernel) rfl rfl ?_
      refine g_wk (lo' := [some (.ref 0), some (.int v1), some (.int v2), none, none, some (.int v3), some (.int 0)]) ⟨rfl, ⟨rfl, ⟨rfl, ⟨rfl, ⟨rfl, trivial⟩⟩⟩⟩⟩ ?_
      refine s_x_drawn_L52 hx hc hr N _ _ _ _ _ h
    · have h := ok_f h c30
      refine g_run hx [(.iconst (-1), (-1), 0)] (pc' := 34) (lo' := [some (.ref 0), some (.int v1), some (.int v2), some (.int v3), some (.int r1), none, none]) (st' := [.int (-1)]) (σ' := s3) (by decide +kernel) rfl rfl ?_
      exact g_iret hx hr rfl _ rfl (by decide +kernel) (ok_some h)
  · have h := ok_f h c11
    refine g_run hx [(.iload 4, 0, 0)] (pc' := 16) (lo' := [some (.ref 0), some (.int v1), some (.int v2), some (.int v3), some (.int r1), none, none]) (st' := [.int r1, .ref 0]) (σ' := s1) (by decide +kernel) rfl rfl ?_
    refine g_goto hx (off := 11) (tgt := 27) (by decide +kernel) (by decide) ?_
    refine g_callV (rest := []) [.int r1] hx hc mk_x_granted ln_9_83 rfl (by decide +kernel) (by decide) (Nat.le_of_ble_eq_true rfl) (s_x_granted (ok_b h)) (fun r7 s7 h => ?_)
    refine g_ifb_ne hx (off := 5) (tgt := 35) (by decide +kernel) (by decide) (fun c30 => ?_) (fun c30 => ?_)
    · have h := ok_t h c30
      refine g_run hx [(.aload_n 0, 0, 0), (.getfield 30, 0, 0), (.aload_n 0, 0, 0), (.getfield 26, 0, 0)] (pc' := 43) (lo' := [some (.ref 0), some (.int v1), some (.int v2), some (.int v3), some (.int r1), none, none]) (st' := [.ref 40, .ref 41]) (σ' := s7) (by decide +kernel) rfl rfl ?_
      refine g_callV (rest := []) [.ref 40] hx hc mk_state_copy ln_9_204 rfl (by decide +kernel) (by decide) (Nat.le_of_ble_eq_true rfl) (s_state_copy (ok_b h)) (fun r8 s8 h => ?_)
      refine g_run hx [(.iload_n 3, 0, 0), (.istore 5, 0, 0), (.iconst 0, 0, 0), (.istore 6, 0, 0)] (pc' := 52) (lo' := [some (.ref 0), some (.int v1), some (.int v2), some (.int v3), some (.int r1), some (.int v3), some (.int 0)]) (st' := []) (σ' := s8) (by decide +kernel) rfl rfl ?_
      refine g_wk (lo' := [some (.ref 0), some (.int v1), some (.int v2), none, none, some (.int v3), some (.int 0)]) ⟨rfl, ⟨rfl, ⟨rfl, ⟨rfl, ⟨rfl, trivial⟩⟩⟩⟩⟩ ?_
      refine s_x_drawn_L52 hx hc hr N _ _ _ _ _ h
    · have h := ok_f h c30
      refine g_run hx [(.iconst (-1), (-1), 0)] (pc' := 34) (lo' := [some (.ref 0), some (.int v1), some (.int v2), some (.int v3), some (.int r1), none, none]) (st' := [.int (-1)]) (σ' := s7) (by decide +kernel) rfl rfl ?_
      exact g_iret hx hr rfl _ rfl (by decide +kernel) (ok_some h)
def f_x_fault (N : Nat) (σ : Sg) : Option (Int32 × Sg) :=
  some ((gI σ 1 12), σ)
set_option maxRecDepth 100000 in
theorem s_x_fault {y : EX} {N : Nat} {σ : Sg} {P : Int32 × Sg → Prop} (h : ok (f_x_fault N σ) P) : Ev y M_x_fault 0 [.ref 0] σ rvI P := by
  refine Ev.of mk_x_fault (Nat.le_of_ble_eq_true rfl) (fun x hx hc hr => ?_)
  have hx : Cx 9 prog_1_method_4_code x := hx
  have hc : Cc y 1 0 x := hc
  show G x 0 [some (.ref 0)] [] σ
  unfold f_x_fault at h
  refine g_run hx [(.aload_n 0, 0, 0), (.getfield 10, 0, 0), (.getfield 90, 0, 0)] (pc' := 7) (lo' := [some (.ref 0)]) (st' := [.int (gI σ 1 12)]) (σ' := σ) (by decide +kernel) rfl rfl ?_
  exact g_iret hx hr rfl _ rfl (by decide +kernel) (ok_some h)
def f_reader_append_L3 (N : Nat) : Nat → Int32 → Int32 → Sg → Option (Unit × Sg)
  | 0, _, _, _ => none
  | n + 1, v1, v2, σ =>
    if v2 < 0 then
      some ((), σ)
    else
      if (gI σ 1 1) < 0 then
        f_reader_append_L3 N n v1 (v2 + (-8)) σ
      else
        if (nI 900) ≤ (gI σ 1 1) then
          f_reader_append_L3 N n v1 (v2 + (-8)) σ
        else
          if vin (gI σ 1 1) 900 then
          f_reader_append_L3 N n v1 (v2 + (-8)) (sI (sA σ 2 (gI σ 1 1) (Int8.toInt32 (Int32.toInt8 (Int8.toInt32 (Int32.toInt8 (v1 >>> (v2 &&& 31))))))) 1 1 ((gI (sA σ 2 (gI σ 1 1) (Int8.toInt32 (Int32.toInt8 (Int8.toInt32 (Int32.toInt8 (v1 >>> (v2 &&& 31))))))) 1 1) + 1))
          else none
def f_reader_append (N : Nat) (v1 : Int32) (σ : Sg) : Option (Unit × Sg) :=
  f_reader_append_L3 N N v1 24 σ
set_option maxRecDepth 100000 in
theorem s_reader_append_L3 {y : EX} {N : Nat} {x : CX} {P : Unit × Sg → Prop} (hx : Cx 5 prog_7_method_2_code x) (hc : Cc y 3 0 x) (hr : Cr M_reader_append rvN P x) : ∀ (n : Nat) (v1 : Int32) (v2 : Int32) (σ : Sg), ok (f_reader_append_L3 N n v1 v2 σ) P → G x 3 [some (.ref 1), some (.int v1), some (.int v2)] [] σ := by
  intro n
  induction n with
  | zero => intro v1 v2 σ h; exact ok_none h
  | succ n ih =>
    intro v1 v2 σ h
    rw [f_reader_append_L3] at h
    refine g_run hx [(.iload_n 2, 0, 0)] (pc' := 4) (lo' := [some (.ref 1), some (.int v1), some (.int v2)]) (st' := [.int v2]) (σ' := σ) (by decide +kernel) rfl rfl ?_
    refine g_if_lt hx (off := 51) (tgt := 55) (by decide +kernel) (by decide) (fun c4 => ?_) (fun c4 => ?_)
    · have h := ok_t h c4
      exact g_vret hx hr rfl () rfl (by decide +kernel) (ok_some h)
    · have h := ok_f h c4
      refine g_run hx [(.aload_n 0, 0, 0), (.getfield 15, 0, 0)] (pc' := 11) (lo' := [some (.ref 1), some (.int v1), some (.int v2)]) (st' := [.int (gI σ 1 1)]) (σ' := σ) (by decide +kernel) rfl rfl ?_
      refine g_if_lt hx (off := 38) (tgt := 49) (by decide +kernel) (by decide) (fun c11 => ?_) (fun c11 => ?_)
      · have h := ok_t h c11
        refine g_run hx [(.iinc 2 (-8), (-8), 0)] (pc' := 52) (lo' := [some (.ref 1), some (.int v1), some (.int (v2 + (-8)))]) (st' := []) (σ' := σ) (by decide +kernel) rfl rfl ?_
        refine g_goto hx (off := (-49)) (tgt := 3) (by decide +kernel) (by decide) ?_
        exact ih _ _ _ h
      · have h := ok_f h c11
        refine g_run hx [(.aload_n 0, 0, 0), (.getfield 15, 0, 0), (.aload_n 0, 0, 0), (.getfield 9, 0, 0), (.arraylength, 0, 0)] (pc' := 23) (lo' := [some (.ref 1), some (.int v1), some (.int v2)]) (st' := [.int (nI 900), .int (gI σ 1 1)]) (σ' := σ) (by decide +kernel) rfl rfl ?_
        refine g_ic_ge hx (off := 26) (tgt := 49) (by decide +kernel) (by decide) (fun c23 => ?_) (fun c23 => ?_)
        · have h := ok_t h c23
          refine g_run hx [(.iinc 2 (-8), (-8), 0)] (pc' := 52) (lo' := [some (.ref 1), some (.int v1), some (.int (v2 + (-8)))]) (st' := []) (σ' := σ) (by decide +kernel) rfl rfl ?_
          refine g_goto hx (off := (-49)) (tgt := 3) (by decide +kernel) (by decide) ?_
          exact ih _ _ _ h
        · have h := ok_f h c23
          refine g_run hx [(.aload_n 0, 0, 0), (.getfield 9, 0, 0), (.aload_n 0, 0, 0), (.getfield 15, 0, 0), (.iload_n 1, 0, 0), (.iload_n 2, 0, 0), (.ishr, 0, 0), (.i2b, 0, 0)] (pc' := 38) (lo' := [some (.ref 1), some (.int v1), some (.int v2)]) (st' := [.int (Int8.toInt32 (Int32.toInt8 (v1 >>> (v2 &&& 31)))), .int (gI σ 1 1), .ref 2]) (σ' := σ) (by decide +kernel) rfl rfl ?_
          obtain ⟨c38, h⟩ := ok_g h
          refine g_bast hx (by decide +kernel) (i := 2) (n := 900) rfl c38 ?_
          refine g_run hx [(.aload_n 0, 0, 0), (.dup, 0, 0), (.getfield 15, 0, 0), (.iconst 1, 1, 0), (.iadd, 0, 0), (.putfield 15, 0, 0), (.iinc 2 (-8), (-8), 0)] (pc' := 52) (lo' := [some (.ref 1), some (.int v1), some (.int (v2 + (-8)))]) (st' := []) (σ' := sI (sA σ 2 (gI σ 1 1) (Int8.toInt32 (Int32.toInt8 (Int8.toInt32 (Int32.toInt8 (v1 >>> (v2 &&& 31))))))) 1 1 ((gI (sA σ 2 (gI σ 1 1) (Int8.toInt32 (Int32.toInt8 (Int8.toInt32 (Int32.toInt8 (v1 >>> (v2 &&& 31))))))) 1 1) + 1)) (by decide +kernel) rfl rfl ?_
          refine g_goto hx (off := (-49)) (tgt := 3) (by decide +kernel) (by decide) ?_
          exact ih _ _ _ h
set_option maxRecDepth 100000 in
theorem s_reader_append {y : EX} {N : Nat} {v1 : Int32} {σ : Sg} {P : Unit × Sg → Prop} (h : ok (f_reader_append N v1 σ) P) : Ev y M_reader_append 0 [.ref 1, .int v1] σ rvN P := by
  refine Ev.of mk_reader_append (Nat.le_of_ble_eq_true rfl) (fun x hx hc hr => ?_)
  have hx : Cx 5 prog_7_method_2_code x := hx
  have hc : Cc y 3 0 x := hc
  show G x 0 [some (.ref 1), some (.int v1), none] [] σ
  unfold f_reader_append at h
  refine g_run hx [(.bipush 24, 24, 0), (.istore_n 2, 0, 0)] (pc' := 3) (lo' := [some (.ref 1), some (.int v1), some (.int 24)]) (st' := []) (σ' := σ) (by decide +kernel) rfl rfl ?_
  refine s_reader_append_L3 hx hc hr N _ _ _ h
def f_x_feed (N : Nat) (v1 : Int32) (v2 : Int32) (v3 : Int32) (v4 : Int32) (v5 : Int32) (σ : Sg) : Option (Int32 × Sg) :=
  if ((gI σ 1 1) + 20) ≤ 900 then
    (f_reader_append N v1 σ).bind fun q1 =>
    (f_reader_append N v2 q1.2).bind fun q2 =>
    (f_reader_append N v3 q2.2).bind fun q3 =>
    (f_reader_append N v4 q3.2).bind fun q4 =>
    (f_reader_append N v5 q4.2).bind fun q5 =>
    some ((gI q5.2 1 1), q5.2)
  else
    some ((-1), σ)
set_option maxRecDepth 100000 in
theorem s_x_feed {y : EX} {N : Nat} {v1 : Int32} {v2 : Int32} {v3 : Int32} {v4 : Int32} {v5 : Int32} {σ : Sg} {P : Int32 × Sg → Prop} (h : ok (f_x_feed N v1 v2 v3 v4 v5 σ) P) : Ev y M_x_feed 1 [.ref 0, .int v1, .int v2, .int v3, .int v4, .int v5] σ rvI P := by
  refine Ev.of mk_x_feed (Nat.le_of_ble_eq_true rfl) (fun x hx hc hr => ?_)
  have hx : Cx 9 prog_1_method_2_code x := hx
  have hc : Cc y 6 1 x := hc
  show G x 0 [some (.ref 0), some (.int v1), some (.int v2), some (.int v3), some (.int v4), some (.int v5)] [] σ
  unfold f_x_feed at h
  refine g_run hx [(.aload_n 0, 0, 0), (.getfield 10, 0, 0), (.getfield 77, 0, 0), (.bipush 20, 20, 0), (.iadd, 0, 0), (.sipush 900, 900, 0)] (pc' := 13) (lo' := [some (.ref 0), some (.int v1), some (.int v2), some (.int v3), some (.int v4), some (.int v5)]) (st' := [.int 900, .int ((gI σ 1 1) + 20)]) (σ' := σ) (by decide +kernel) rfl rfl ?_
  refine g_ic_le hx (off := 5) (tgt := 18) (by decide +kernel) (by decide) (fun c13 => ?_) (fun c13 => ?_)
  · have h := ok_t h c13
    refine g_run hx [(.aload_n 0, 0, 0), (.getfield 10, 0, 0), (.iload_n 1, 0, 0)] (pc' := 23) (lo' := [some (.ref 0), some (.int v1), some (.int v2), some (.int v3), some (.int v4), some (.int v5)]) (st' := [.int v1, .ref 1]) (σ' := σ) (by decide +kernel) rfl rfl ?_
    refine g_callV (rest := []) [.int v1] hx hc mk_reader_append ln_9_80 rfl (by decide +kernel) (by decide) (Nat.le_of_ble_eq_true rfl) (s_reader_append (ok_b h)) (fun r1 s1 h => ?_)
    refine g_run hx [(.aload_n 0, 0, 0), (.getfield 10, 0, 0), (.iload_n 2, 0, 0)] (pc' := 31) (lo' := [some (.ref 0), some (.int v1), some (.int v2), some (.int v3), some (.int v4), some (.int v5)]) (st' := [.int v2, .ref 1]) (σ' := s1) (by decide +kernel) rfl rfl ?_
    refine g_callV (rest := []) [.int v2] hx hc mk_reader_append ln_9_80 rfl (by decide +kernel) (by decide) (Nat.le_of_ble_eq_true rfl) (s_reader_append (ok_b h)) (fun r2 s2 h => ?_)
    refine g_run hx [(.aload_n 0, 0, 0), (.getfield 10, 0, 0), (.iload_n 3, 0, 0)] (pc' := 39) (lo' := [some (.ref 0), some (.int v1), some (.int v2), some (.int v3), some (.int v4), some (.int v5)]) (st' := [.int v3, .ref 1]) (σ' := s2) (by decide +kernel) rfl rfl ?_
    refine g_callV (rest := []) [.int v3] hx hc mk_reader_append ln_9_80 rfl (by decide +kernel) (by decide) (Nat.le_of_ble_eq_true rfl) (s_reader_append (ok_b h)) (fun r3 s3 h => ?_)
    refine g_run hx [(.aload_n 0, 0, 0), (.getfield 10, 0, 0), (.iload 4, 0, 0)] (pc' := 48) (lo' := [some (.ref 0), some (.int v1), some (.int v2), some (.int v3), some (.int v4), some (.int v5)]) (st' := [.int v4, .ref 1]) (σ' := s3) (by decide +kernel) rfl rfl ?_
    refine g_callV (rest := []) [.int v4] hx hc mk_reader_append ln_9_80 rfl (by decide +kernel) (by decide) (Nat.le_of_ble_eq_true rfl) (s_reader_append (ok_b h)) (fun r4 s4 h => ?_)
    refine g_run hx [(.aload_n 0, 0, 0), (.getfield 10, 0, 0), (.iload 5, 0, 0)] (pc' := 57) (lo' := [some (.ref 0), some (.int v1), some (.int v2), some (.int v3), some (.int v4), some (.int v5)]) (st' := [.int v5, .ref 1]) (σ' := s4) (by decide +kernel) rfl rfl ?_
    refine g_callV (rest := []) [.int v5] hx hc mk_reader_append ln_9_80 rfl (by decide +kernel) (by decide) (Nat.le_of_ble_eq_true rfl) (s_reader_append (ok_b h)) (fun r5 s5 h => ?_)
    refine g_run hx [(.aload_n 0, 0, 0), (.getfield 10, 0, 0), (.getfield 77, 0, 0)] (pc' := 67) (lo' := [some (.ref 0), some (.int v1), some (.int v2), some (.int v3), some (.int v4), some (.int v5)]) (st' := [.int (gI s5 1 1)]) (σ' := s5) (by decide +kernel) rfl rfl ?_
    exact g_iret hx hr rfl _ rfl (by decide +kernel) (ok_some h)
  · have h := ok_f h c13
    refine g_run hx [(.iconst (-1), (-1), 0)] (pc' := 17) (lo' := [some (.ref 0), some (.int v1), some (.int v2), some (.int v3), some (.int v4), some (.int v5)]) (st' := [.int (-1)]) (σ' := σ) (by decide +kernel) rfl rfl ?_
    exact g_iret hx hr rfl _ rfl (by decide +kernel) (ok_some h)
set_option maxRecDepth 100000 in
theorem s_shelf_has_43 {y : EX} {N : Nat} {v1 : Int32} {σ : Sg} {P : Bool × Sg → Prop} (h : ok (f_shelf_has N 16 16 16 16 16 v1 σ) P) : Ev y M_shelf_has 0 [.ref 43, .int v1] σ rvB P := by
  refine Ev.of mk_shelf_has (Nat.le_of_ble_eq_true rfl) (fun x hx hc hr => ?_)
  have hx : Cx 6 prog_8_method_2_code x := hx
  have hc : Cc y 2 0 x := hc
  show G x 0 [some (.ref 43), some (.int v1)] [] σ
  unfold f_shelf_has at h
  refine g_run hx [(.iload_n 1, 0, 0)] (pc' := 1) (lo' := [some (.ref 43), some (.int v1)]) (st' := [.int v1]) (σ' := σ) (by decide +kernel) rfl rfl ?_
  refine g_if_lt hx (off := 52) (tgt := 53) (by decide +kernel) (by decide) (fun c1 => ?_) (fun c1 => ?_)
  · have h := ok_t h c1
    refine g_run hx [(.iconst 0, 0, 0)] (pc' := 54) (lo' := [some (.ref 43), some (.int v1)]) (st' := [.int 0]) (σ' := σ) (by decide +kernel) rfl rfl ?_
    exact g_zret (b := false) hx hr rfl false rfl (by decide +kernel) (ok_some h)
  · have h := ok_f h c1
    refine g_run hx [(.iload_n 1, 0, 0), (.aload_n 0, 0, 0), (.getfield 13, 0, 0), (.arraylength, 0, 0)] (pc' := 10) (lo' := [some (.ref 43), some (.int v1)]) (st' := [.int (nI 16), .int v1]) (σ' := σ) (by decide +kernel) rfl rfl ?_
    refine g_ic_ge hx (off := 43) (tgt := 53) (by decide +kernel) (by decide) (fun c10 => ?_) (fun c10 => ?_)
    · have h := ok_t h c10
      refine g_run hx [(.iconst 0, 0, 0)] (pc' := 54) (lo' := [some (.ref 43), some (.int v1)]) (st' := [.int 0]) (σ' := σ) (by decide +kernel) rfl rfl ?_
      exact g_zret (b := false) hx hr rfl false rfl (by decide +kernel) (ok_some h)
    · have h := ok_f h c10
      refine g_run hx [(.iload_n 1, 0, 0), (.aload_n 0, 0, 0), (.getfield 19, 0, 0), (.arraylength, 0, 0)] (pc' := 19) (lo' := [some (.ref 43), some (.int v1)]) (st' := [.int (nI 16), .int v1]) (σ' := σ) (by decide +kernel) rfl rfl ?_
      refine g_ic_ge hx (off := 34) (tgt := 53) (by decide +kernel) (by decide) (fun c19 => ?_) (fun c19 => ?_)
      · have h := ok_t h c19
        refine g_run hx [(.iconst 0, 0, 0)] (pc' := 54) (lo' := [some (.ref 43), some (.int v1)]) (st' := [.int 0]) (σ' := σ) (by decide +kernel) rfl rfl ?_
        exact g_zret (b := false) hx hr rfl false rfl (by decide +kernel) (ok_some h)
      · have h := ok_f h c19
        refine g_run hx [(.iload_n 1, 0, 0), (.aload_n 0, 0, 0), (.getfield 22, 0, 0), (.arraylength, 0, 0)] (pc' := 28) (lo' := [some (.ref 43), some (.int v1)]) (st' := [.int (nI 16), .int v1]) (σ' := σ) (by decide +kernel) rfl rfl ?_
        refine g_ic_ge hx (off := 25) (tgt := 53) (by decide +kernel) (by decide) (fun c28 => ?_) (fun c28 => ?_)
        · have h := ok_t h c28
          refine g_run hx [(.iconst 0, 0, 0)] (pc' := 54) (lo' := [some (.ref 43), some (.int v1)]) (st' := [.int 0]) (σ' := σ) (by decide +kernel) rfl rfl ?_
          exact g_zret (b := false) hx hr rfl false rfl (by decide +kernel) (ok_some h)
        · have h := ok_f h c28
          refine g_run hx [(.iload_n 1, 0, 0), (.aload_n 0, 0, 0), (.getfield 26, 0, 0), (.arraylength, 0, 0)] (pc' := 37) (lo' := [some (.ref 43), some (.int v1)]) (st' := [.int (nI 16), .int v1]) (σ' := σ) (by decide +kernel) rfl rfl ?_
          refine g_ic_ge hx (off := 16) (tgt := 53) (by decide +kernel) (by decide) (fun c37 => ?_) (fun c37 => ?_)
          · have h := ok_t h c37
            refine g_run hx [(.iconst 0, 0, 0)] (pc' := 54) (lo' := [some (.ref 43), some (.int v1)]) (st' := [.int 0]) (σ' := σ) (by decide +kernel) rfl rfl ?_
            exact g_zret (b := false) hx hr rfl false rfl (by decide +kernel) (ok_some h)
          · have h := ok_f h c37
            refine g_run hx [(.iload_n 1, 0, 0), (.aload_n 0, 0, 0), (.getfield 29, 0, 0), (.arraylength, 0, 0)] (pc' := 46) (lo' := [some (.ref 43), some (.int v1)]) (st' := [.int (nI 16), .int v1]) (σ' := σ) (by decide +kernel) rfl rfl ?_
            refine g_ic_ge hx (off := 7) (tgt := 53) (by decide +kernel) (by decide) (fun c46 => ?_) (fun c46 => ?_)
            · have h := ok_t h c46
              refine g_run hx [(.iconst 0, 0, 0)] (pc' := 54) (lo' := [some (.ref 43), some (.int v1)]) (st' := [.int 0]) (σ' := σ) (by decide +kernel) rfl rfl ?_
              exact g_zret (b := false) hx hr rfl false rfl (by decide +kernel) (ok_some h)
            · have h := ok_f h c46
              refine g_run hx [(.iconst 1, 1, 0)] (pc' := 50) (lo' := [some (.ref 43), some (.int v1)]) (st' := [.int 1]) (σ' := σ) (by decide +kernel) rfl rfl ?_
              refine g_goto hx (off := 4) (tgt := 54) (by decide +kernel) (by decide) ?_
              exact g_zret (b := true) hx hr rfl true rfl (by decide +kernel) (ok_some h)
def f_shelf_keep (N : Nat) (a0 : Nat) (a1 : Nat) (a2 : Nat) (a3 : Nat) (a4 : Nat) (a5 : Nat) (a6 : Nat) (a7 : Nat) (a8 : Nat) (a9 : Nat) (a10 : Nat) (v1 : Int32) (σ : Sg) : Option (Unit × Sg) :=
  (f_shelf_has N a0 a1 a2 a3 a4 v1 σ).bind fun q1 =>
  if q1.1 = true then
    if vin v1 a0 then
    if vin v1 a1 then
    if vin v1 a2 then
    if vin v1 a3 then
    if vin v1 a4 then
    some ((), sA (sA (sA (sM (sM q1.2 a5 v1 (gL q1.2 a6 0)) a7 v1 (gL (sM q1.2 a5 v1 (gL q1.2 a6 0)) a6 1)) a8 v1 (gI (sM (sM q1.2 a5 v1 (gL q1.2 a6 0)) a7 v1 (gL (sM q1.2 a5 v1 (gL q1.2 a6 0)) a6 1)) a6 2)) a9 v1 (gI (sA (sM (sM q1.2 a5 v1 (gL q1.2 a6 0)) a7 v1 (gL (sM q1.2 a5 v1 (gL q1.2 a6 0)) a6 1)) a8 v1 (gI (sM (sM q1.2 a5 v1 (gL q1.2 a6 0)) a7 v1 (gL (sM q1.2 a5 v1 (gL q1.2 a6 0)) a6 1)) a6 2)) a6 3)) a10 v1 (gI (sA (sA (sM (sM q1.2 a5 v1 (gL q1.2 a6 0)) a7 v1 (gL (sM q1.2 a5 v1 (gL q1.2 a6 0)) a6 1)) a8 v1 (gI (sM (sM q1.2 a5 v1 (gL q1.2 a6 0)) a7 v1 (gL (sM q1.2 a5 v1 (gL q1.2 a6 0)) a6 1)) a6 2)) a9 v1 (gI (sA (sM (sM q1.2 a5 v1 (gL q1.2 a6 0)) a7 v1 (gL (sM q1.2 a5 v1 (gL q1.2 a6 0)) a6 1)) a8 v1 (gI (sM (sM q1.2 a5 v1 (gL q1.2 a6 0)) a7 v1 (gL (sM q1.2 a5 v1 (gL q1.2 a6 0)) a6 1)) a6 2)) a6 3)) a6 4))
    else none
    else none
    else none
    else none
    else none
  else
    some ((), q1.2)
set_option maxRecDepth 100000 in
theorem s_shelf_keep_43_40 {y : EX} {N : Nat} {v1 : Int32} {σ : Sg} {P : Unit × Sg → Prop} (h : ok (f_shelf_keep N 16 16 16 16 16 44 40 45 46 47 48 v1 σ) P) : Ev y M_shelf_keep 1 [.ref 43, .int v1, .ref 40] σ rvN P := by
  refine Ev.of mk_shelf_keep (Nat.le_of_ble_eq_true rfl) (fun x hx hc hr => ?_)
  have hx : Cx 6 prog_8_method_3_code x := hx
  have hc : Cc y 3 1 x := hc
  show G x 0 [some (.ref 43), some (.int v1), some (.ref 40)] [] σ
  unfold f_shelf_keep at h
  refine g_run hx [(.aload_n 0, 0, 0), (.iload_n 1, 0, 0)] (pc' := 2) (lo' := [some (.ref 43), some (.int v1), some (.ref 40)]) (st' := [.int v1, .ref 43]) (σ' := σ) (by decide +kernel) rfl rfl ?_
  refine g_callV (rest := []) [.int v1] hx hc mk_shelf_has ln_6_32 rfl (by decide +kernel) (by decide) (Nat.le_of_ble_eq_true rfl) (s_shelf_has_43 (ok_b h)) (fun r1 s1 h => ?_)
  refine g_ifb_eq hx (off := 53) (tgt := 58) (by decide +kernel) (by decide) (fun c5 => ?_) (fun c5 => ?_)
  · have h := ok_f h c5
    exact g_vret hx hr rfl () rfl (by decide +kernel) (ok_some h)
  · have h := ok_t h c5
    refine g_run hx [(.aload_n 0, 0, 0), (.getfield 13, 0, 0), (.iload_n 1, 0, 0), (.aload_n 2, 0, 0), (.getfield 36, 0, 0)] (pc' := 17) (lo' := [some (.ref 43), some (.int v1), some (.ref 40)]) (st' := [.long (gL s1 40 0), .int v1, .ref 44]) (σ' := s1) (by decide +kernel) rfl rfl ?_
    obtain ⟨c17, h⟩ := ok_g h
    refine g_last hx (by decide +kernel) (i := 44) (n := 16) rfl c17 ?_
    refine g_run hx [(.aload_n 0, 0, 0), (.getfield 19, 0, 0), (.iload_n 1, 0, 0), (.aload_n 2, 0, 0), (.getfield 42, 0, 0)] (pc' := 27) (lo' := [some (.ref 43), some (.int v1), some (.ref 40)]) (st' := [.long (gL (sM s1 44 v1 (gL s1 40 0)) 40 1), .int v1, .ref 45]) (σ' := sM s1 44 v1 (gL s1 40 0)) (by decide +kernel) rfl rfl ?_
    obtain ⟨c27, h⟩ := ok_g h
    refine g_last hx (by decide +kernel) (i := 45) (n := 16) rfl c27 ?_
    refine g_run hx [(.aload_n 0, 0, 0), (.getfield 22, 0, 0), (.iload_n 1, 0, 0), (.aload_n 2, 0, 0), (.getfield 45, 0, 0)] (pc' := 37) (lo' := [some (.ref 43), some (.int v1), some (.ref 40)]) (st' := [.int (gI (sM (sM s1 44 v1 (gL s1 40 0)) 45 v1 (gL (sM s1 44 v1 (gL s1 40 0)) 40 1)) 40 2), .int v1, .ref 46]) (σ' := sM (sM s1 44 v1 (gL s1 40 0)) 45 v1 (gL (sM s1 44 v1 (gL s1 40 0)) 40 1)) (by decide +kernel) rfl rfl ?_
    obtain ⟨c37, h⟩ := ok_g h
    refine g_iast hx (by decide +kernel) (i := 46) (n := 16) rfl c37 ?_
    refine g_run hx [(.aload_n 0, 0, 0), (.getfield 26, 0, 0), (.iload_n 1, 0, 0), (.aload_n 2, 0, 0), (.getfield 49, 0, 0)] (pc' := 47) (lo' := [some (.ref 43), some (.int v1), some (.ref 40)]) (st' := [.int (gI (sA (sM (sM s1 44 v1 (gL s1 40 0)) 45 v1 (gL (sM s1 44 v1 (gL s1 40 0)) 40 1)) 46 v1 (gI (sM (sM s1 44 v1 (gL s1 40 0)) 45 v1 (gL (sM s1 44 v1 (gL s1 40 0)) 40 1)) 40 2)) 40 3), .int v1, .ref 47]) (σ' := sA (sM (sM s1 44 v1 (gL s1 40 0)) 45 v1 (gL (sM s1 44 v1 (gL s1 40 0)) 40 1)) 46 v1 (gI (sM (sM s1 44 v1 (gL s1 40 0)) 45 v1 (gL (sM s1 44 v1 (gL s1 40 0)) 40 1)) 40 2)) (by decide +kernel) rfl rfl ?_
    obtain ⟨c47, h⟩ := ok_g h
    refine g_iast hx (by decide +kernel) (i := 47) (n := 16) rfl c47 ?_
    refine g_run hx [(.aload_n 0, 0, 0), (.getfield 29, 0, 0), (.iload_n 1, 0, 0), (.aload_n 2, 0, 0), (.getfield 52, 0, 0)] (pc' := 57) (lo' := [some (.ref 43), some (.int v1), some (.ref 40)]) (st' := [.int (gI (sA (sA (sM (sM s1 44 v1 (gL s1 40 0)) 45 v1 (gL (sM s1 44 v1 (gL s1 40 0)) 40 1)) 46 v1 (gI (sM (sM s1 44 v1 (gL s1 40 0)) 45 v1 (gL (sM s1 44 v1 (gL s1 40 0)) 40 1)) 40 2)) 47 v1 (gI (sA (sM (sM s1 44 v1 (gL s1 40 0)) 45 v1 (gL (sM s1 44 v1 (gL s1 40 0)) 40 1)) 46 v1 (gI (sM (sM s1 44 v1 (gL s1 40 0)) 45 v1 (gL (sM s1 44 v1 (gL s1 40 0)) 40 1)) 40 2)) 40 3)) 40 4), .int v1, .ref 48]) (σ' := sA (sA (sM (sM s1 44 v1 (gL s1 40 0)) 45 v1 (gL (sM s1 44 v1 (gL s1 40 0)) 40 1)) 46 v1 (gI (sM (sM s1 44 v1 (gL s1 40 0)) 45 v1 (gL (sM s1 44 v1 (gL s1 40 0)) 40 1)) 40 2)) 47 v1 (gI (sA (sM (sM s1 44 v1 (gL s1 40 0)) 45 v1 (gL (sM s1 44 v1 (gL s1 40 0)) 40 1)) 46 v1 (gI (sM (sM s1 44 v1 (gL s1 40 0)) 45 v1 (gL (sM s1 44 v1 (gL s1 40 0)) 40 1)) 40 2)) 40 3)) (by decide +kernel) rfl rfl ?_
    obtain ⟨c57, h⟩ := ok_g h
    refine g_iast hx (by decide +kernel) (i := 48) (n := 16) rfl c57 ?_
    exact g_vret hx hr rfl () rfl (by decide +kernel) (ok_some h)
def f_history_keep (N : Nat) (σ : Sg) : Option (Unit × Sg) :=
  (f_shelf_keep N 16 16 16 16 16 44 40 45 46 47 48 (gI σ 42 1) σ).bind fun q1 =>
  some ((), sI (sI q1.2 42 1 (((gI q1.2 42 1) + 1) - ((gI q1.2 42 1) + 1) / 16 * 16)) 42 2 (jmin ((gI (sI q1.2 42 1 (((gI q1.2 42 1) + 1) - ((gI q1.2 42 1) + 1) / 16 * 16)) 42 2) + 1) 16))
set_option maxRecDepth 100000 in
theorem s_history_keep {y : EX} {N : Nat} {σ : Sg} {P : Unit × Sg → Prop} (h : ok (f_history_keep N σ) P) : Ev y M_history_keep 2 [.ref 42, .ref 40] σ rvN P := by
  refine Ev.of mk_history_keep (Nat.le_of_ble_eq_true rfl) (fun x hx hc hr => ?_)
  have hx : Cx 2 prog_4_method_3_code x := hx
  have hc : Cc y 2 2 x := hc
  show G x 0 [some (.ref 42), some (.ref 40)] [] σ
  unfold f_history_keep at h
  refine g_run hx [(.aload_n 0, 0, 0), (.getfield 14, 0, 0), (.aload_n 0, 0, 0), (.getfield 20, 0, 0), (.aload_n 1, 0, 0)] (pc' := 9) (lo' := [some (.ref 42), some (.ref 40)]) (st' := [.ref 40, .int (gI σ 42 1), .ref 43]) (σ' := σ) (by decide +kernel) rfl rfl ?_
  refine g_callV (rest := []) [.int (gI σ 42 1), .ref 40] hx hc mk_shelf_keep ln_2_27 rfl (by decide +kernel) (by decide) (Nat.le_of_ble_eq_true rfl) (s_shelf_keep_43_40 (ok_b h)) (fun r1 s1 h => ?_)
  refine g_run hx [(.aload_n 0, 0, 0), (.aload_n 0, 0, 0), (.getfield 20, 0, 0), (.iconst 1, 1, 0), (.iadd, 0, 0), (.bipush 16, 16, 0), (.irem, 0, 0), (.putfield 20, 0, 0), (.aload_n 0, 0, 0), (.aload_n 0, 0, 0), (.getfield 24, 0, 0), (.iconst 1, 1, 0), (.iadd, 0, 0), (.bipush 16, 16, 0)] (pc' := 34) (lo' := [some (.ref 42), some (.ref 40)]) (st' := [.int 16, .int ((gI (sI s1 42 1 (((gI s1 42 1) + 1) - ((gI s1 42 1) + 1) / 16 * 16)) 42 2) + 1), .ref 42]) (σ' := sI s1 42 1 (((gI s1 42 1) + 1) - ((gI s1 42 1) + 1) / 16 * 16)) (by decide +kernel) rfl rfl ?_
  refine g_mmin hx hc (by decide) ln_2_31 (by decide +kernel) (Nat.le_of_ble_eq_true rfl) ?_
  refine g_run hx [(.putfield 24, 0, 0)] (pc' := 40) (lo' := [some (.ref 42), some (.ref 40)]) (st' := []) (σ' := sI (sI s1 42 1 (((gI s1 42 1) + 1) - ((gI s1 42 1) + 1) / 16 * 16)) 42 2 (jmin ((gI (sI s1 42 1 (((gI s1 42 1) + 1) - ((gI s1 42 1) + 1) / 16 * 16)) 42 2) + 1) 16)) (by decide +kernel) rfl rfl ?_
  exact g_vret hx hr rfl () rfl (by decide +kernel) (ok_some h)
def f_state_fillUp (N : Nat) (v1 : Int32) (σ : Sg) : Option (Unit × Sg) :=
  (f_x_span N v1 v1 σ).bind fun q1 =>
  (f_x_span N v1 v1 (sL q1.2 40 0 ((gL σ 40 0) &&& (q1.1 ^^^ (-1))))).bind fun q2 =>
  some ((), sL q2.2 40 1 ((gL (sL q1.2 40 0 ((gL σ 40 0) &&& (q1.1 ^^^ (-1)))) 40 1) &&& (q2.1 ^^^ (-1))))
set_option maxRecDepth 100000 in
theorem s_state_fillUp {y : EX} {N : Nat} {v1 : Int32} {σ : Sg} {P : Unit × Sg → Prop} (h : ok (f_state_fillUp N v1 σ) P) : Ev y M_state_fillUp 2 [.ref 40, .int v1] σ rvN P := by
  refine Ev.of mk_state_fillUp (Nat.le_of_ble_eq_true rfl) (fun x hx hc hr => ?_)
  have hx : Cx 7 prog_9_method_11_code x := hx
  have hc : Cc y 2 2 x := hc
  show G x 0 [some (.ref 40), some (.int v1)] [] σ
  unfold f_state_fillUp at h
  refine g_run hx [(.aload_n 0, 0, 0), (.dup, 0, 0), (.getfield 9, 0, 0), (.iload_n 1, 0, 0), (.iload_n 1, 0, 0)] (pc' := 7) (lo' := [some (.ref 40), some (.int v1)]) (st' := [.int v1, .int v1, .long (gL σ 40 0), .ref 40]) (σ' := σ) (by decide +kernel) rfl rfl ?_
  refine g_callN (rest := [.long (gL σ 40 0), .ref 40]) [.int v1, .int v1] hx hc mk_x_span ln_7_70 (by decide +kernel) (by decide) (Nat.le_of_ble_eq_true rfl) (s_x_span (ok_b h)) (fun r1 s1 h => ?_)
  refine g_run hx [(.ldc2_w 68, 0, (-1)), (.lxor, 0, 0), (.land, 0, 0), (.putfield 9, 0, 0), (.aload_n 0, 0, 0), (.dup, 0, 0), (.getfield 15, 0, 0), (.iload_n 1, 0, 0), (.iload_n 1, 0, 0)] (pc' := 25) (lo' := [some (.ref 40), some (.int v1)]) (st' := [.int v1, .int v1, .long (gL (sL s1 40 0 ((gL σ 40 0) &&& (r1 ^^^ (-1)))) 40 1), .ref 40]) (σ' := sL s1 40 0 ((gL σ 40 0) &&& (r1 ^^^ (-1)))) (by decide +kernel) rfl rfl ?_
  refine g_callN (rest := [.long (gL (sL s1 40 0 ((gL σ 40 0) &&& (r1 ^^^ (-1)))) 40 1), .ref 40]) [.int v1, .int v1] hx hc mk_x_span ln_7_70 (by decide +kernel) (by decide) (Nat.le_of_ble_eq_true rfl) (s_x_span (ok_b h)) (fun r2 s2 h => ?_)
  refine g_run hx [(.ldc2_w 68, 0, (-1)), (.lxor, 0, 0), (.land, 0, 0), (.putfield 15, 0, 0)] (pc' := 36) (lo' := [some (.ref 40), some (.int v1)]) (st' := []) (σ' := sL s2 40 1 ((gL (sL s1 40 0 ((gL σ 40 0) &&& (r1 ^^^ (-1)))) 40 1) &&& (r2 ^^^ (-1)))) (by decide +kernel) rfl rfl ?_
  exact g_vret hx hr rfl () rfl (by decide +kernel) (ok_some h)
def f_x_fill (N : Nat) (v1 : Int32) (σ : Sg) : Option (Int32 × Sg) :=
  (f_x_cellTrouble N v1 σ).bind fun q1 =>
  (f_x_granted N q1.1 q1.2).bind fun q2 =>
  if q2.1 = true then
    (f_state_depthAt N 40 v1 q2.2).bind fun q3 =>
    if q3.1 = 0 then
      (f_x_granted N 5 q3.2).bind fun q7 =>
      if q7.1 = true then
        (f_history_keep N q7.2).bind fun q8 =>
        (f_state_fillUp N v1 q8.2).bind fun q9 =>
        some (q3.1, q9.2)
      else
        some ((-1), q7.2)
    else
      (f_x_granted N 0 q3.2).bind fun q4 =>
      if q4.1 = true then
        (f_history_keep N q4.2).bind fun q5 =>
        (f_state_fillUp N v1 q5.2).bind fun q6 =>
        some (q3.1, q6.2)
      else
        some ((-1), q4.2)
  else
    some ((-1), q2.2)
set_option maxRecDepth 100000 in
theorem s_x_fill {y : EX} {N : Nat} {v1 : Int32} {σ : Sg} {P : Int32 × Sg → Prop} (h : ok (f_x_fill N v1 σ) P) : Ev y M_x_fill 3 [.ref 0, .int v1] σ rvI P := by
  refine Ev.of mk_x_fill (Nat.le_of_ble_eq_true rfl) (fun x hx hc hr => ?_)
  have hx : Cx 9 prog_1_method_56_code x := hx
  have hc : Cc y 3 3 x := hc
  show G x 0 [some (.ref 0), some (.int v1), none] [] σ
  unfold f_x_fill at h
  refine g_run hx [(.aload_n 0, 0, 0), (.aload_n 0, 0, 0), (.iload_n 1, 0, 0)] (pc' := 3) (lo' := [some (.ref 0), some (.int v1), none]) (st' := [.int v1, .ref 0, .ref 0]) (σ' := σ) (by decide +kernel) rfl rfl ?_
  refine g_callV (rest := [.ref 0]) [.int v1] hx hc mk_x_cellTrouble ln_9_110 rfl (by decide +kernel) (by decide) (Nat.le_of_ble_eq_true rfl) (s_x_cellTrouble (ok_b h)) (fun r1 s1 h => ?_)
  refine g_callV (rest := []) [.int r1] hx hc mk_x_granted ln_9_83 rfl (by decide +kernel) (by decide) (Nat.le_of_ble_eq_true rfl) (s_x_granted (ok_b h)) (fun r2 s2 h => ?_)
  refine g_ifb_ne hx (off := 5) (tgt := 14) (by decide +kernel) (by decide) (fun c9 => ?_) (fun c9 => ?_)
  · have h := ok_t h c9
    refine g_run hx [(.aload_n 0, 0, 0), (.getfield 26, 0, 0), (.iload_n 1, 0, 0)] (pc' := 19) (lo' := [some (.ref 0), some (.int v1), none]) (st' := [.int v1, .ref 40]) (σ' := s2) (by decide +kernel) rfl rfl ?_
    refine g_callV (rest := []) [.int v1] hx hc mk_state_depthAt ln_9_117 rfl (by decide +kernel) (by decide) (Nat.le_of_ble_eq_true rfl) (s_state_depthAt_40 (ok_b h)) (fun r3 s3 h => ?_)
    refine g_run hx [(.istore_n 2, 0, 0), (.aload_n 0, 0, 0), (.iload_n 2, 0, 0)] (pc' := 25) (lo' := [some (.ref 0), some (.int v1), some (.int r3)]) (st' := [.int r3, .ref 0]) (σ' := s3) (by decide +kernel) rfl rfl ?_
    refine g_if_ne hx (off := 7) (tgt := 32) (by decide +kernel) (by decide) (fun c25 => ?_) (fun c25 => ?_)
    · have h := ok_f h c25
      refine g_run hx [(.iconst 0, 0, 0)] (pc' := 33) (lo' := [some (.ref 0), some (.int v1), some (.int r3)]) (st' := [.int 0, .ref 0]) (σ' := s3) (by decide +kernel) rfl rfl ?_
      refine g_callV (rest := []) [.int 0] hx hc mk_x_granted ln_9_83 rfl (by decide +kernel) (by decide) (Nat.le_of_ble_eq_true rfl) (s_x_granted (ok_b h)) (fun r4 s4 h => ?_)
      refine g_ifb_ne hx (off := 5) (tgt := 41) (by decide +kernel) (by decide) (fun c36 => ?_) (fun c36 => ?_)
      · have h := ok_t h c36
        refine g_run hx [(.aload_n 0, 0, 0), (.getfield 36, 0, 0), (.aload_n 0, 0, 0), (.getfield 26, 0, 0)] (pc' := 49) (lo' := [some (.ref 0), some (.int v1), some (.int r3)]) (st' := [.ref 40, .ref 42]) (σ' := s4) (by decide +kernel) rfl rfl ?_
        refine g_callV (rest := []) [.ref 40] hx hc mk_history_keep ln_9_344 rfl (by decide +kernel) (by decide) (Nat.le_of_ble_eq_true rfl) (s_history_keep (ok_b h)) (fun r5 s5 h => ?_)
        refine g_run hx [(.aload_n 0, 0, 0), (.getfield 26, 0, 0), (.iload_n 1, 0, 0)] (pc' := 57) (lo' := [some (.ref 0), some (.int v1), some (.int r3)]) (st' := [.int v1, .ref 40]) (σ' := s5) (by decide +kernel) rfl rfl ?_
        refine g_callV (rest := []) [.int v1] hx hc mk_state_fillUp ln_9_359 rfl (by decide +kernel) (by decide) (Nat.le_of_ble_eq_true rfl) (s_state_fillUp (ok_b h)) (fun r6 s6 h => ?_)
        refine g_run hx [(.iload_n 2, 0, 0)] (pc' := 61) (lo' := [some (.ref 0), some (.int v1), some (.int r3)]) (st' := [.int r3]) (σ' := s6) (by decide +kernel) rfl rfl ?_
        exact g_iret hx hr rfl _ rfl (by decide +kernel) (ok_some h)
      · have h := ok_f h c36
        refine g_run hx [(.iconst (-1), (-1), 0)] (pc' := 40) (lo' := [some (.ref 0), some (.int v1), some (.int r3)]) (st' := [.int (-1)]) (σ' := s4) (by decide +kernel) rfl rfl ?_
        exact g_iret hx hr rfl _ rfl (by decide +kernel) (ok_some h)
    · have h := ok_t h c25
      refine g_run hx [(.iconst 5, 5, 0)] (pc' := 29) (lo' := [some (.ref 0), some (.int v1), some (.int r3)]) (st' := [.int 5, .ref 0]) (σ' := s3) (by decide +kernel) rfl rfl ?_
      refine g_goto hx (off := 4) (tgt := 33) (by decide +kernel) (by decide) ?_
      refine g_callV (rest := []) [.int 5] hx hc mk_x_granted ln_9_83 rfl (by decide +kernel) (by decide) (Nat.le_of_ble_eq_true rfl) (s_x_granted (ok_b h)) (fun r7 s7 h => ?_)
      refine g_ifb_ne hx (off := 5) (tgt := 41) (by decide +kernel) (by decide) (fun c36 => ?_) (fun c36 => ?_)
      · have h := ok_t h c36
        refine g_run hx [(.aload_n 0, 0, 0), (.getfield 36, 0, 0), (.aload_n 0, 0, 0), (.getfield 26, 0, 0)] (pc' := 49) (lo' := [some (.ref 0), some (.int v1), some (.int r3)]) (st' := [.ref 40, .ref 42]) (σ' := s7) (by decide +kernel) rfl rfl ?_
        refine g_callV (rest := []) [.ref 40] hx hc mk_history_keep ln_9_344 rfl (by decide +kernel) (by decide) (Nat.le_of_ble_eq_true rfl) (s_history_keep (ok_b h)) (fun r8 s8 h => ?_)
        refine g_run hx [(.aload_n 0, 0, 0), (.getfield 26, 0, 0), (.iload_n 1, 0, 0)] (pc' := 57) (lo' := [some (.ref 0), some (.int v1), some (.int r3)]) (st' := [.int v1, .ref 40]) (σ' := s8) (by decide +kernel) rfl rfl ?_
        refine g_callV (rest := []) [.int v1] hx hc mk_state_fillUp ln_9_359 rfl (by decide +kernel) (by decide) (Nat.le_of_ble_eq_true rfl) (s_state_fillUp (ok_b h)) (fun r9 s9 h => ?_)
        refine g_run hx [(.iload_n 2, 0, 0)] (pc' := 61) (lo' := [some (.ref 0), some (.int v1), some (.int r3)]) (st' := [.int r3]) (σ' := s9) (by decide +kernel) rfl rfl ?_
        exact g_iret hx hr rfl _ rfl (by decide +kernel) (ok_some h)
      · have h := ok_f h c36
        refine g_run hx [(.iconst (-1), (-1), 0)] (pc' := 40) (lo' := [some (.ref 0), some (.int v1), some (.int r3)]) (st' := [.int (-1)]) (σ' := s7) (by decide +kernel) rfl rfl ?_
        exact g_iret hx hr rfl _ rfl (by decide +kernel) (ok_some h)
  · have h := ok_f h c9
    refine g_run hx [(.iconst (-1), (-1), 0)] (pc' := 13) (lo' := [some (.ref 0), some (.int v1), none]) (st' := [.int (-1)]) (σ' := s2) (by decide +kernel) rfl rfl ?_
    exact g_iret hx hr rfl _ rfl (by decide +kernel) (ok_some h)
def f_x_nthBit_L4 (N : Nat) : Nat → Int32 → Int32 → Int32 → Sg → Option (Int32 × Sg)
  | 0, _, _, _, _ => none
  | n + 1, v0, v2, v3, σ =>
    if 32 ≤ v3 then
      some ((-1), σ)
    else
      (f_x_bit N (Int32.toInt64 v0) v3 σ).bind fun q1 =>
      if q1.1 = true then
        if v2 = 0 then
          some (v3, q1.2)
        else
          f_x_nthBit_L4 N n v0 (v2 + (-1)) (v3 + 1) q1.2
      else
        f_x_nthBit_L4 N n v0 v2 (v3 + 1) q1.2
def f_x_nthBit (N : Nat) (v0 : Int32) (v1 : Int32) (σ : Sg) : Option (Int32 × Sg) :=
  f_x_nthBit_L4 N N v0 v1 0 σ
set_option maxRecDepth 100000 in
theorem s_x_nthBit_L4 {y : EX} {N : Nat} {x : CX} {P : Int32 × Sg → Prop} (hx : Cx 9 prog_1_method_88_code x) (hc : Cc y 4 1 x) (hr : Cr M_x_nthBit rvI P x) : ∀ (n : Nat) (v0 : Int32) (v2 : Int32) (v3 : Int32) (σ : Sg), ok (f_x_nthBit_L4 N n v0 v2 v3 σ) P → G x 4 [some (.int v0), none, some (.int v2), some (.int v3)] [] σ := by
  intro n
  induction n with
  | zero => intro v0 v2 v3 σ h; exact ok_none h
  | succ n ih =>
    intro v0 v2 v3 σ h
    rw [f_x_nthBit_L4] at h
    refine g_run hx [(.iload_n 3, 0, 0), (.bipush 32, 32, 0)] (pc' := 7) (lo' := [some (.int v0), none, some (.int v2), some (.int v3)]) (st' := [.int 32, .int v3]) (σ' := σ) (by decide +kernel) rfl rfl ?_
    refine g_ic_ge hx (off := 27) (tgt := 34) (by decide +kernel) (by decide) (fun c7 => ?_) (fun c7 => ?_)
    · have h := ok_t h c7
      refine g_run hx [(.iconst (-1), (-1), 0)] (pc' := 35) (lo' := [some (.int v0), none, some (.int v2), some (.int v3)]) (st' := [.int (-1)]) (σ' := σ) (by decide +kernel) rfl rfl ?_
      exact g_iret hx hr rfl _ rfl (by decide +kernel) (ok_some h)
    · have h := ok_f h c7
      refine g_run hx [(.iload_n 0, 0, 0), (.i2l, 0, 0), (.iload_n 3, 0, 0)] (pc' := 13) (lo' := [some (.int v0), none, some (.int v2), some (.int v3)]) (st' := [.int v3, .long (Int32.toInt64 v0)]) (σ' := σ) (by decide +kernel) rfl rfl ?_
      refine g_callS (rest := []) [.long (Int32.toInt64 v0), .int v3] hx hc mk_x_bit ln_9_411 (by decide +kernel) (by decide) (Nat.le_of_ble_eq_true rfl) (s_x_bit (ok_b h)) (fun r1 s1 h => ?_)
      refine g_ifb_eq hx (off := 12) (tgt := 28) (by decide +kernel) (by decide) (fun c16 => ?_) (fun c16 => ?_)
      · have h := ok_f h c16
        refine g_run hx [(.iinc 3 1, 1, 0)] (pc' := 31) (lo' := [some (.int v0), none, some (.int v2), some (.int (v3 + 1))]) (st' := []) (σ' := s1) (by decide +kernel) rfl rfl ?_
        refine g_goto hx (off := (-27)) (tgt := 4) (by decide +kernel) (by decide) ?_
        exact ih _ _ _ _ h
      · have h := ok_t h c16
        refine g_run hx [(.iload_n 2, 0, 0)] (pc' := 20) (lo' := [some (.int v0), none, some (.int v2), some (.int v3)]) (st' := [.int v2]) (σ' := s1) (by decide +kernel) rfl rfl ?_
        refine g_if_ne hx (off := 5) (tgt := 25) (by decide +kernel) (by decide) (fun c20 => ?_) (fun c20 => ?_)
        · have h := ok_f h c20
          refine g_run hx [(.iinc 2 (-1), (-1), 0), (.iinc 3 1, 1, 0)] (pc' := 31) (lo' := [some (.int v0), none, some (.int (v2 + (-1))), some (.int (v3 + 1))]) (st' := []) (σ' := s1) (by decide +kernel) rfl rfl ?_
          refine g_goto hx (off := (-27)) (tgt := 4) (by decide +kernel) (by decide) ?_
          exact ih _ _ _ _ h
        · have h := ok_t h c20
          refine g_run hx [(.iload_n 3, 0, 0)] (pc' := 24) (lo' := [some (.int v0), none, some (.int v2), some (.int v3)]) (st' := [.int v3]) (σ' := s1) (by decide +kernel) rfl rfl ?_
          exact g_iret hx hr rfl _ rfl (by decide +kernel) (ok_some h)
set_option maxRecDepth 100000 in
theorem s_x_nthBit {y : EX} {N : Nat} {v0 : Int32} {v1 : Int32} {σ : Sg} {P : Int32 × Sg → Prop} (h : ok (f_x_nthBit N v0 v1 σ) P) : Ev y M_x_nthBit 1 [.int v0, .int v1] σ rvI P := by
  refine Ev.of mk_x_nthBit (Nat.le_of_ble_eq_true rfl) (fun x hx hc hr => ?_)
  have hx : Cx 9 prog_1_method_88_code x := hx
  have hc : Cc y 4 1 x := hc
  show G x 0 [some (.int v0), some (.int v1), none, none] [] σ
  unfold f_x_nthBit at h
  refine g_run hx [(.iload_n 1, 0, 0), (.istore_n 2, 0, 0), (.iconst 0, 0, 0), (.istore_n 3, 0, 0)] (pc' := 4) (lo' := [some (.int v0), some (.int v1), some (.int v1), some (.int 0)]) (st' := []) (σ' := σ) (by decide +kernel) rfl rfl ?_
  refine g_wk (lo' := [some (.int v0), none, some (.int v1), some (.int 0)]) ⟨rfl, ⟨rfl, ⟨rfl, trivial⟩⟩⟩ ?_
  refine s_x_nthBit_L4 hx hc hr N _ _ _ _ h
def f_x_fitAt (N : Nat) (v1 : Int32) (σ : Sg) : Option (Int32 × Sg) :=
  (f_country_fittingSets N σ).bind fun q1 =>
  if v1 < 0 then
    (f_x_landTrouble N q1.2).bind fun q2 =>
    if q2.1 = 0 then
      (f_x_granted N 1 q2.2).bind fun q5 =>
      if q5.1 = true then
        (f_x_nthBit N q1.1 v1 q5.2).bind fun q6 =>
        some (q6.1, q6.2)
      else
        some ((-1), q5.2)
    else
      (f_x_granted N 1 q2.2).bind fun q3 =>
      if q3.1 = true then
        (f_x_nthBit N q1.1 v1 q3.2).bind fun q4 =>
        some (q4.1, q4.2)
      else
        some ((-1), q3.2)
  else
    (f_ji_bitCount N q1.1 q1.2).bind fun q7 =>
    if q7.1 ≤ v1 then
      (f_x_landTrouble N q7.2).bind fun q8 =>
      if q8.1 = 0 then
        (f_x_granted N 1 q8.2).bind fun q11 =>
        if q11.1 = true then
          (f_x_nthBit N q1.1 v1 q11.2).bind fun q12 =>
          some (q12.1, q12.2)
        else
          some ((-1), q11.2)
      else
        (f_x_granted N 1 q8.2).bind fun q9 =>
        if q9.1 = true then
          (f_x_nthBit N q1.1 v1 q9.2).bind fun q10 =>
          some (q10.1, q10.2)
        else
          some ((-1), q9.2)
    else
      (f_x_landTrouble N q7.2).bind fun q13 =>
      if q13.1 = 0 then
        (f_x_granted N 0 q13.2).bind fun q16 =>
        if q16.1 = true then
          (f_x_nthBit N q1.1 v1 q16.2).bind fun q17 =>
          some (q17.1, q17.2)
        else
          some ((-1), q16.2)
      else
        (f_x_granted N 1 q13.2).bind fun q14 =>
        if q14.1 = true then
          (f_x_nthBit N q1.1 v1 q14.2).bind fun q15 =>
          some (q15.1, q15.2)
        else
          some ((-1), q14.2)
set_option maxRecDepth 100000 in
theorem s_x_fitAt {y : EX} {N : Nat} {v1 : Int32} {σ : Sg} {P : Int32 × Sg → Prop} (h : ok (f_x_fitAt N v1 σ) P) : Ev y M_x_fitAt 5 [.ref 0, .int v1] σ rvI P := by
  refine Ev.of mk_x_fitAt (Nat.le_of_ble_eq_true rfl) (fun x hx hc hr => ?_)
  have hx : Cx 9 prog_1_method_41_code x := hx
  have hc : Cc y 4 5 x := hc
  show G x 0 [some (.ref 0), some (.int v1), none, none] [] σ
  unfold f_x_fitAt at h
  refine g_run hx [(.aload_n 0, 0, 0), (.getfield 19, 0, 0)] (pc' := 4) (lo' := [some (.ref 0), some (.int v1), none, none]) (st' := [.ref 10]) (σ' := σ) (by decide +kernel) rfl rfl ?_
  refine g_callV (rest := []) [] hx hc mk_country_fittingSets ln_9_285 rfl (by decide +kernel) (by decide) (Nat.le_of_ble_eq_true rfl) (s_country_fittingSets (ok_b h)) (fun r1 s1 h => ?_)
  refine g_run hx [(.istore_n 2, 0, 0), (.iload_n 1, 0, 0)] (pc' := 9) (lo' := [some (.ref 0), some (.int v1), some (.int r1), none]) (st' := [.int v1]) (σ' := s1) (by decide +kernel) rfl rfl ?_
  refine g_if_lt hx (off := 15) (tgt := 24) (by decide +kernel) (by decide) (fun c9 => ?_) (fun c9 => ?_)
  · have h := ok_t h c9
    refine g_run hx [(.iconst 0, 0, 0), (.istore_n 3, 0, 0), (.aload_n 0, 0, 0), (.aload_n 0, 0, 0)] (pc' := 28) (lo' := [some (.ref 0), some (.int v1), some (.int r1), some (.int 0)]) (st' := [.ref 0, .ref 0]) (σ' := s1) (by decide +kernel) rfl rfl ?_
    refine g_callV (rest := [.ref 0]) [] hx hc mk_x_landTrouble ln_9_158 rfl (by decide +kernel) (by decide) (Nat.le_of_ble_eq_true rfl) (s_x_landTrouble (ok_b h)) (fun r2 s2 h => ?_)
    refine g_if_ne hx (off := 11) (tgt := 42) (by decide +kernel) (by decide) (fun c31 => ?_) (fun c31 => ?_)
    · have h := ok_f h c31
      refine g_run hx [(.iconst 1, 1, 0)] (pc' := 43) (lo' := [some (.ref 0), some (.int v1), some (.int r1), some (.int 0)]) (st' := [.int 1, .ref 0]) (σ' := s2) (by decide +kernel) rfl rfl ?_
      refine g_callV (rest := []) [.int 1] hx hc mk_x_granted ln_9_83 rfl (by decide +kernel) (by decide) (Nat.le_of_ble_eq_true rfl) (s_x_granted (ok_b h)) (fun r3 s3 h => ?_)
      refine g_ifb_ne hx (off := 5) (tgt := 51) (by decide +kernel) (by decide) (fun c46 => ?_) (fun c46 => ?_)
      · have h := ok_t h c46
        refine g_run hx [(.iload_n 2, 0, 0), (.iload_n 1, 0, 0)] (pc' := 53) (lo' := [some (.ref 0), some (.int v1), some (.int r1), some (.int 0)]) (st' := [.int v1, .int r1]) (σ' := s3) (by decide +kernel) rfl rfl ?_
        refine g_callS (rest := []) [.int r1, .int v1] hx hc mk_x_nthBit ln_9_292 (by decide +kernel) (by decide) (Nat.le_of_ble_eq_true rfl) (s_x_nthBit (ok_b h)) (fun r4 s4 h => ?_)
        exact g_iret hx hr rfl _ rfl (by decide +kernel) (ok_some h)
      · have h := ok_f h c46
        refine g_run hx [(.iconst (-1), (-1), 0)] (pc' := 50) (lo' := [some (.ref 0), some (.int v1), some (.int r1), some (.int 0)]) (st' := [.int (-1)]) (σ' := s3) (by decide +kernel) rfl rfl ?_
        exact g_iret hx hr rfl _ rfl (by decide +kernel) (ok_some h)
    · have h := ok_t h c31
      refine g_run hx [(.iload_n 3, 0, 0)] (pc' := 35) (lo' := [some (.ref 0), some (.int v1), some (.int r1), some (.int 0)]) (st' := [.int 0, .ref 0]) (σ' := s2) (by decide +kernel) rfl rfl ?_
      refine g_if_eq hx (off := 7) (tgt := 42) (by decide +kernel) (by decide) (fun _ => ?_) (fun c => absurd c (by decide))
      refine g_run hx [(.iconst 1, 1, 0)] (pc' := 43) (lo' := [some (.ref 0), some (.int v1), some (.int r1), some (.int 0)]) (st' := [.int 1, .ref 0]) (σ' := s2) (by decide +kernel) rfl rfl ?_
      refine g_callV (rest := []) [.int 1] hx hc mk_x_granted ln_9_83 rfl (by decide +kernel) (by decide) (Nat.le_of_ble_eq_true rfl) (s_x_granted (ok_b h)) (fun r5 s5 h => ?_)
      refine g_ifb_ne hx (off := 5) (tgt := 51) (by decide +kernel) (by decide) (fun c46 => ?_) (fun c46 => ?_)
      · have h := ok_t h c46
        refine g_run hx [(.iload_n 2, 0, 0), (.iload_n 1, 0, 0)] (pc' := 53) (lo' := [some (.ref 0), some (.int v1), some (.int r1), some (.int 0)]) (st' := [.int v1, .int r1]) (σ' := s5) (by decide +kernel) rfl rfl ?_
        refine g_callS (rest := []) [.int r1, .int v1] hx hc mk_x_nthBit ln_9_292 (by decide +kernel) (by decide) (Nat.le_of_ble_eq_true rfl) (s_x_nthBit (ok_b h)) (fun r6 s6 h => ?_)
        exact g_iret hx hr rfl _ rfl (by decide +kernel) (ok_some h)
      · have h := ok_f h c46
        refine g_run hx [(.iconst (-1), (-1), 0)] (pc' := 50) (lo' := [some (.ref 0), some (.int v1), some (.int r1), some (.int 0)]) (st' := [.int (-1)]) (σ' := s5) (by decide +kernel) rfl rfl ?_
        exact g_iret hx hr rfl _ rfl (by decide +kernel) (ok_some h)
  · have h := ok_f h c9
    refine g_run hx [(.iload_n 1, 0, 0), (.iload_n 2, 0, 0)] (pc' := 14) (lo' := [some (.ref 0), some (.int v1), some (.int r1), none]) (st' := [.int r1, .int v1]) (σ' := s1) (by decide +kernel) rfl rfl ?_
    refine g_callS (rest := [.int v1]) [.int r1] hx hc mk_ji_bitCount ln_9_288 (by decide +kernel) (by decide) (Nat.le_of_ble_eq_true rfl) (s_ji_bitCount (ok_b h)) (fun r7 s7 h => ?_)
    refine g_ic_ge hx (off := 7) (tgt := 24) (by decide +kernel) (by decide) (fun c17 => ?_) (fun c17 => ?_)
    · have h := ok_t h c17
      refine g_run hx [(.iconst 0, 0, 0), (.istore_n 3, 0, 0), (.aload_n 0, 0, 0), (.aload_n 0, 0, 0)] (pc' := 28) (lo' := [some (.ref 0), some (.int v1), some (.int r1), some (.int 0)]) (st' := [.ref 0, .ref 0]) (σ' := s7) (by decide +kernel) rfl rfl ?_
      refine g_callV (rest := [.ref 0]) [] hx hc mk_x_landTrouble ln_9_158 rfl (by decide +kernel) (by decide) (Nat.le_of_ble_eq_true rfl) (s_x_landTrouble (ok_b h)) (fun r8 s8 h => ?_)
      refine g_if_ne hx (off := 11) (tgt := 42) (by decide +kernel) (by decide) (fun c31 => ?_) (fun c31 => ?_)
      · have h := ok_f h c31
        refine g_run hx [(.iconst 1, 1, 0)] (pc' := 43) (lo' := [some (.ref 0), some (.int v1), some (.int r1), some (.int 0)]) (st' := [.int 1, .ref 0]) (σ' := s8) (by decide +kernel) rfl rfl ?_
        refine g_callV (rest := []) [.int 1] hx hc mk_x_granted ln_9_83 rfl (by decide +kernel) (by decide) (Nat.le_of_ble_eq_true rfl) (s_x_granted (ok_b h)) (fun r9 s9 h => ?_)
        refine g_ifb_ne hx (off := 5) (tgt := 51) (by decide +kernel) (by decide) (fun c46 => ?_) (fun c46 => ?_)
        · have h := ok_t h c46
          refine g_run hx [(.iload_n 2, 0, 0), (.iload_n 1, 0, 0)] (pc' := 53) (lo' := [some (.ref 0), some (.int v1), some (.int r1), some (.int 0)]) (st' := [.int v1, .int r1]) (σ' := s9) (by decide +kernel) rfl rfl ?_
          refine g_callS (rest := []) [.int r1, .int v1] hx hc mk_x_nthBit ln_9_292 (by decide +kernel) (by decide) (Nat.le_of_ble_eq_true rfl) (s_x_nthBit (ok_b h)) (fun r10 s10 h => ?_)
          exact g_iret hx hr rfl _ rfl (by decide +kernel) (ok_some h)
        · have h := ok_f h c46
          refine g_run hx [(.iconst (-1), (-1), 0)] (pc' := 50) (lo' := [some (.ref 0), some (.int v1), some (.int r1), some (.int 0)]) (st' := [.int (-1)]) (σ' := s9) (by decide +kernel) rfl rfl ?_
          exact g_iret hx hr rfl _ rfl (by decide +kernel) (ok_some h)
      · have h := ok_t h c31
        refine g_run hx [(.iload_n 3, 0, 0)] (pc' := 35) (lo' := [some (.ref 0), some (.int v1), some (.int r1), some (.int 0)]) (st' := [.int 0, .ref 0]) (σ' := s8) (by decide +kernel) rfl rfl ?_
        refine g_if_eq hx (off := 7) (tgt := 42) (by decide +kernel) (by decide) (fun _ => ?_) (fun c => absurd c (by decide))
        refine g_run hx [(.iconst 1, 1, 0)] (pc' := 43) (lo' := [some (.ref 0), some (.int v1), some (.int r1), some (.int 0)]) (st' := [.int 1, .ref 0]) (σ' := s8) (by decide +kernel) rfl rfl ?_
        refine g_callV (rest := []) [.int 1] hx hc mk_x_granted ln_9_83 rfl (by decide +kernel) (by decide) (Nat.le_of_ble_eq_true rfl) (s_x_granted (ok_b h)) (fun r11 s11 h => ?_)
        refine g_ifb_ne hx (off := 5) (tgt := 51) (by decide +kernel) (by decide) (fun c46 => ?_) (fun c46 => ?_)
        · have h := ok_t h c46
          refine g_run hx [(.iload_n 2, 0, 0), (.iload_n 1, 0, 0)] (pc' := 53) (lo' := [some (.ref 0), some (.int v1), some (.int r1), some (.int 0)]) (st' := [.int v1, .int r1]) (σ' := s11) (by decide +kernel) rfl rfl ?_
          refine g_callS (rest := []) [.int r1, .int v1] hx hc mk_x_nthBit ln_9_292 (by decide +kernel) (by decide) (Nat.le_of_ble_eq_true rfl) (s_x_nthBit (ok_b h)) (fun r12 s12 h => ?_)
          exact g_iret hx hr rfl _ rfl (by decide +kernel) (ok_some h)
        · have h := ok_f h c46
          refine g_run hx [(.iconst (-1), (-1), 0)] (pc' := 50) (lo' := [some (.ref 0), some (.int v1), some (.int r1), some (.int 0)]) (st' := [.int (-1)]) (σ' := s11) (by decide +kernel) rfl rfl ?_
          exact g_iret hx hr rfl _ rfl (by decide +kernel) (ok_some h)
    · have h := ok_f h c17
      refine g_run hx [(.iconst 1, 1, 0)] (pc' := 21) (lo' := [some (.ref 0), some (.int v1), some (.int r1), none]) (st' := [.int 1]) (σ' := s7) (by decide +kernel) rfl rfl ?_
      refine g_goto hx (off := 4) (tgt := 25) (by decide +kernel) (by decide) ?_
      refine g_run hx [(.istore_n 3, 0, 0), (.aload_n 0, 0, 0), (.aload_n 0, 0, 0)] (pc' := 28) (lo' := [some (.ref 0), some (.int v1), some (.int r1), some (.int 1)]) (st' := [.ref 0, .ref 0]) (σ' := s7) (by decide +kernel) rfl rfl ?_
      refine g_callV (rest := [.ref 0]) [] hx hc mk_x_landTrouble ln_9_158 rfl (by decide +kernel) (by decide) (Nat.le_of_ble_eq_true rfl) (s_x_landTrouble (ok_b h)) (fun r13 s13 h => ?_)
      refine g_if_ne hx (off := 11) (tgt := 42) (by decide +kernel) (by decide) (fun c31 => ?_) (fun c31 => ?_)
      · have h := ok_f h c31
        refine g_run hx [(.iconst 1, 1, 0)] (pc' := 43) (lo' := [some (.ref 0), some (.int v1), some (.int r1), some (.int 1)]) (st' := [.int 1, .ref 0]) (σ' := s13) (by decide +kernel) rfl rfl ?_
        refine g_callV (rest := []) [.int 1] hx hc mk_x_granted ln_9_83 rfl (by decide +kernel) (by decide) (Nat.le_of_ble_eq_true rfl) (s_x_granted (ok_b h)) (fun r14 s14 h => ?_)
        refine g_ifb_ne hx (off := 5) (tgt := 51) (by decide +kernel) (by decide) (fun c46 => ?_) (fun c46 => ?_)
        · have h := ok_t h c46
          refine g_run hx [(.iload_n 2, 0, 0), (.iload_n 1, 0, 0)] (pc' := 53) (lo' := [some (.ref 0), some (.int v1), some (.int r1), some (.int 1)]) (st' := [.int v1, .int r1]) (σ' := s14) (by decide +kernel) rfl rfl ?_
          refine g_callS (rest := []) [.int r1, .int v1] hx hc mk_x_nthBit ln_9_292 (by decide +kernel) (by decide) (Nat.le_of_ble_eq_true rfl) (s_x_nthBit (ok_b h)) (fun r15 s15 h => ?_)
          exact g_iret hx hr rfl _ rfl (by decide +kernel) (ok_some h)
        · have h := ok_f h c46
          refine g_run hx [(.iconst (-1), (-1), 0)] (pc' := 50) (lo' := [some (.ref 0), some (.int v1), some (.int r1), some (.int 1)]) (st' := [.int (-1)]) (σ' := s14) (by decide +kernel) rfl rfl ?_
          exact g_iret hx hr rfl _ rfl (by decide +kernel) (ok_some h)
      · have h := ok_t h c31
        refine g_run hx [(.iload_n 3, 0, 0)] (pc' := 35) (lo' := [some (.ref 0), some (.int v1), some (.int r1), some (.int 1)]) (st' := [.int 1, .ref 0]) (σ' := s13) (by decide +kernel) rfl rfl ?_
        refine g_if_eq hx (off := 7) (tgt := 42) (by decide +kernel) (by decide) (fun c => absurd c (by decide)) (fun _ => ?_)
        refine g_run hx [(.iconst 0, 0, 0)] (pc' := 39) (lo' := [some (.ref 0), some (.int v1), some (.int r1), some (.int 1)]) (st' := [.int 0, .ref 0]) (σ' := s13) (by decide +kernel) rfl rfl ?_
        refine g_goto hx (off := 4) (tgt := 43) (by decide +kernel) (by decide) ?_
        refine g_callV (rest := []) [.int 0] hx hc mk_x_granted ln_9_83 rfl (by decide +kernel) (by decide) (Nat.le_of_ble_eq_true rfl) (s_x_granted (ok_b h)) (fun r16 s16 h => ?_)
        refine g_ifb_ne hx (off := 5) (tgt := 51) (by decide +kernel) (by decide) (fun c46 => ?_) (fun c46 => ?_)
        · have h := ok_t h c46
          refine g_run hx [(.iload_n 2, 0, 0), (.iload_n 1, 0, 0)] (pc' := 53) (lo' := [some (.ref 0), some (.int v1), some (.int r1), some (.int 1)]) (st' := [.int v1, .int r1]) (σ' := s16) (by decide +kernel) rfl rfl ?_
          refine g_callS (rest := []) [.int r1, .int v1] hx hc mk_x_nthBit ln_9_292 (by decide +kernel) (by decide) (Nat.le_of_ble_eq_true rfl) (s_x_nthBit (ok_b h)) (fun r17 s17 h => ?_)
          exact g_iret hx hr rfl _ rfl (by decide +kernel) (ok_some h)
        · have h := ok_f h c46
          refine g_run hx [(.iconst (-1), (-1), 0)] (pc' := 50) (lo' := [some (.ref 0), some (.int v1), some (.int r1), some (.int 1)]) (st' := [.int (-1)]) (σ' := s16) (by decide +kernel) rfl rfl ?_
          exact g_iret hx hr rfl _ rfl (by decide +kernel) (ok_some h)
def f_x_fits (N : Nat) (σ : Sg) : Option (Int32 × Sg) :=
  (f_x_landTrouble N σ).bind fun q1 =>
  (f_x_granted N q1.1 q1.2).bind fun q2 =>
  if q2.1 = true then
    (f_country_fittingSets N q2.2).bind fun q3 =>
    (f_ji_bitCount N q3.1 q3.2).bind fun q4 =>
    some (q4.1, q4.2)
  else
    some ((-1), q2.2)
set_option maxRecDepth 100000 in
theorem s_x_fits {y : EX} {N : Nat} {σ : Sg} {P : Int32 × Sg → Prop} (h : ok (f_x_fits N σ) P) : Ev y M_x_fits 5 [.ref 0] σ rvI P := by
  refine Ev.of mk_x_fits (Nat.le_of_ble_eq_true rfl) (fun x hx hc hr => ?_)
  have hx : Cx 9 prog_1_method_40_code x := hx
  have hc : Cc y 1 5 x := hc
  show G x 0 [some (.ref 0)] [] σ
  unfold f_x_fits at h
  refine g_run hx [(.aload_n 0, 0, 0), (.aload_n 0, 0, 0)] (pc' := 2) (lo' := [some (.ref 0)]) (st' := [.ref 0, .ref 0]) (σ' := σ) (by decide +kernel) rfl rfl ?_
  refine g_callV (rest := [.ref 0]) [] hx hc mk_x_landTrouble ln_9_158 rfl (by decide +kernel) (by decide) (Nat.le_of_ble_eq_true rfl) (s_x_landTrouble (ok_b h)) (fun r1 s1 h => ?_)
  refine g_callV (rest := []) [.int r1] hx hc mk_x_granted ln_9_83 rfl (by decide +kernel) (by decide) (Nat.le_of_ble_eq_true rfl) (s_x_granted (ok_b h)) (fun r2 s2 h => ?_)
  refine g_ifb_eq hx (off := 16) (tgt := 24) (by decide +kernel) (by decide) (fun c8 => ?_) (fun c8 => ?_)
  · have h := ok_f h c8
    refine g_run hx [(.iconst (-1), (-1), 0)] (pc' := 25) (lo' := [some (.ref 0)]) (st' := [.int (-1)]) (σ' := s2) (by decide +kernel) rfl rfl ?_
    exact g_iret hx hr rfl _ rfl (by decide +kernel) (ok_some h)
  · have h := ok_t h c8
    refine g_run hx [(.aload_n 0, 0, 0), (.getfield 19, 0, 0)] (pc' := 15) (lo' := [some (.ref 0)]) (st' := [.ref 10]) (σ' := s2) (by decide +kernel) rfl rfl ?_
    refine g_callV (rest := []) [] hx hc mk_country_fittingSets ln_9_285 rfl (by decide +kernel) (by decide) (Nat.le_of_ble_eq_true rfl) (s_country_fittingSets (ok_b h)) (fun r3 s3 h => ?_)
    refine g_callS (rest := []) [.int r3] hx hc mk_ji_bitCount ln_9_288 (by decide +kernel) (by decide) (Nat.le_of_ble_eq_true rfl) (s_ji_bitCount (ok_b h)) (fun r4 s4 h => ?_)
    refine g_goto hx (off := 4) (tgt := 25) (by decide +kernel) (by decide) ?_
    exact g_iret hx hr rfl _ rfl (by decide +kernel) (ok_some h)
def f_x_shareOf (N : Nat) (v0 : Int32) (v1 : Int32) (v2 : Int32) (σ : Sg) : Option (Int32 × Sg) :=
  if v1 = 0 then
    if v2 = 0 then
      some (1, σ)
    else
      some ((-1), σ)
  else
    if v2 = 0 then
      some (3, σ)
    else
      some ((-v0), σ)
set_option maxRecDepth 100000 in
theorem s_x_shareOf {y : EX} {N : Nat} {v0 : Int32} {v1 : Int32} {v2 : Int32} {σ : Sg} {P : Int32 × Sg → Prop} (h : ok (f_x_shareOf N v0 v1 v2 σ) P) : Ev y M_x_shareOf 0 [.int v0, .int v1, .int v2] σ rvI P := by
  refine Ev.of mk_x_shareOf (Nat.le_of_ble_eq_true rfl) (fun x hx hc hr => ?_)
  have hx : Cx 9 prog_1_method_77_code x := hx
  have hc : Cc y 3 0 x := hc
  show G x 0 [some (.int v0), some (.int v1), some (.int v2)] [] σ
  unfold f_x_shareOf at h
  refine g_run hx [(.iload_n 1, 0, 0)] (pc' := 1) (lo' := [some (.int v0), some (.int v1), some (.int v2)]) (st' := [.int v1]) (σ' := σ) (by decide +kernel) rfl rfl ?_
  refine g_if_eq hx (off := 14) (tgt := 15) (by decide +kernel) (by decide) (fun c1 => ?_) (fun c1 => ?_)
  · have h := ok_t h c1
    refine g_run hx [(.iload_n 2, 0, 0)] (pc' := 16) (lo' := [some (.int v0), some (.int v1), some (.int v2)]) (st' := [.int v2]) (σ' := σ) (by decide +kernel) rfl rfl ?_
    refine g_if_eq hx (off := 7) (tgt := 23) (by decide +kernel) (by decide) (fun c16 => ?_) (fun c16 => ?_)
    · have h := ok_t h c16
      refine g_run hx [(.iconst 1, 1, 0)] (pc' := 24) (lo' := [some (.int v0), some (.int v1), some (.int v2)]) (st' := [.int 1]) (σ' := σ) (by decide +kernel) rfl rfl ?_
      exact g_iret hx hr rfl _ rfl (by decide +kernel) (ok_some h)
    · have h := ok_f h c16
      refine g_run hx [(.iconst (-1), (-1), 0)] (pc' := 20) (lo' := [some (.int v0), some (.int v1), some (.int v2)]) (st' := [.int (-1)]) (σ' := σ) (by decide +kernel) rfl rfl ?_
      refine g_goto hx (off := 4) (tgt := 24) (by decide +kernel) (by decide) ?_
      exact g_iret hx hr rfl _ rfl (by decide +kernel) (ok_some h)
  · have h := ok_f h c1
    refine g_run hx [(.iload_n 2, 0, 0)] (pc' := 5) (lo' := [some (.int v0), some (.int v1), some (.int v2)]) (st' := [.int v2]) (σ' := σ) (by decide +kernel) rfl rfl ?_
    refine g_if_eq hx (off := 8) (tgt := 13) (by decide +kernel) (by decide) (fun c5 => ?_) (fun c5 => ?_)
    · have h := ok_t h c5
      refine g_run hx [(.iconst 3, 3, 0)] (pc' := 14) (lo' := [some (.int v0), some (.int v1), some (.int v2)]) (st' := [.int 3]) (σ' := σ) (by decide +kernel) rfl rfl ?_
      exact g_iret hx hr rfl _ rfl (by decide +kernel) (ok_some h)
    · have h := ok_f h c5
      refine g_run hx [(.iload_n 0, 0, 0), (.ineg, 0, 0)] (pc' := 10) (lo' := [some (.int v0), some (.int v1), some (.int v2)]) (st' := [.int (-v0)]) (σ' := σ) (by decide +kernel) rfl rfl ?_
      refine g_goto hx (off := 4) (tgt := 14) (by decide +kernel) (by decide) ?_
      exact g_iret hx hr rfl _ rfl (by decide +kernel) (ok_some h)
def f_x_goes (N : Nat) (v1 : Int32) (v2 : Int32) (v3 : Int32) (v4 : Int32) (σ : Sg) : Option (Int32 × Sg) :=
  (f_x_numberTrouble N v1 9 σ).bind fun q1 =>
  (f_x_granted N q1.1 q1.2).bind fun q2 =>
  if q2.1 = true then
    if v4 = 0 then
      (f_x_shareOf N v1 v2 v3 q2.2).bind fun q3 =>
      some (q3.1, q3.2)
    else
      (f_x_shareOf N v1 v3 v2 q2.2).bind fun q4 =>
      some (q4.1, q4.2)
  else
    some ((-100), q2.2)
set_option maxRecDepth 100000 in
theorem s_x_goes {y : EX} {N : Nat} {v1 : Int32} {v2 : Int32} {v3 : Int32} {v4 : Int32} {σ : Sg} {P : Int32 × Sg → Prop} (h : ok (f_x_goes N v1 v2 v3 v4 σ) P) : Ev y M_x_goes 2 [.ref 0, .int v1, .int v2, .int v3, .int v4] σ rvI P := by
  refine Ev.of mk_x_goes (Nat.le_of_ble_eq_true rfl) (fun x hx hc hr => ?_)
  have hx : Cx 9 prog_1_method_47_code x := hx
  have hc : Cc y 5 2 x := hc
  show G x 0 [some (.ref 0), some (.int v1), some (.int v2), some (.int v3), some (.int v4)] [] σ
  unfold f_x_goes at h
  refine g_run hx [(.aload_n 0, 0, 0), (.aload_n 0, 0, 0), (.iload_n 1, 0, 0), (.bipush 9, 9, 0)] (pc' := 5) (lo' := [some (.ref 0), some (.int v1), some (.int v2), some (.int v3), some (.int v4)]) (st' := [.int 9, .int v1, .ref 0, .ref 0]) (σ' := σ) (by decide +kernel) rfl rfl ?_
  refine g_callV (rest := [.ref 0]) [.int v1, .int 9] hx hc mk_x_numberTrouble ln_9_197 rfl (by decide +kernel) (by decide) (Nat.le_of_ble_eq_true rfl) (s_x_numberTrouble (ok_b h)) (fun r1 s1 h => ?_)
  refine g_callV (rest := []) [.int r1] hx hc mk_x_granted ln_9_83 rfl (by decide +kernel) (by decide) (Nat.le_of_ble_eq_true rfl) (s_x_granted (ok_b h)) (fun r2 s2 h => ?_)
  refine g_ifb_ne hx (off := 6) (tgt := 17) (by decide +kernel) (by decide) (fun c11 => ?_) (fun c11 => ?_)
  · have h := ok_t h c11
    refine g_run hx [(.iload 4, 0, 0)] (pc' := 19) (lo' := [some (.ref 0), some (.int v1), some (.int v2), some (.int v3), some (.int v4)]) (st' := [.int v4]) (σ' := s2) (by decide +kernel) rfl rfl ?_
    refine g_if_eq hx (off := 12) (tgt := 31) (by decide +kernel) (by decide) (fun c19 => ?_) (fun c19 => ?_)
    · have h := ok_t h c19
      refine g_run hx [(.iload_n 1, 0, 0), (.iload_n 2, 0, 0), (.iload_n 3, 0, 0)] (pc' := 34) (lo' := [some (.ref 0), some (.int v1), some (.int v2), some (.int v3), some (.int v4)]) (st' := [.int v3, .int v2, .int v1]) (σ' := s2) (by decide +kernel) rfl rfl ?_
      refine g_callS (rest := []) [.int v1, .int v2, .int v3] hx hc mk_x_shareOf ln_9_310 (by decide +kernel) (by decide) (Nat.le_of_ble_eq_true rfl) (s_x_shareOf (ok_b h)) (fun r3 s3 h => ?_)
      exact g_iret hx hr rfl _ rfl (by decide +kernel) (ok_some h)
    · have h := ok_f h c19
      refine g_run hx [(.iload_n 1, 0, 0), (.iload_n 3, 0, 0), (.iload_n 2, 0, 0)] (pc' := 25) (lo' := [some (.ref 0), some (.int v1), some (.int v2), some (.int v3), some (.int v4)]) (st' := [.int v2, .int v3, .int v1]) (σ' := s2) (by decide +kernel) rfl rfl ?_
      refine g_callS (rest := []) [.int v1, .int v3, .int v2] hx hc mk_x_shareOf ln_9_310 (by decide +kernel) (by decide) (Nat.le_of_ble_eq_true rfl) (s_x_shareOf (ok_b h)) (fun r4 s4 h => ?_)
      refine g_goto hx (off := 9) (tgt := 37) (by decide +kernel) (by decide) ?_
      exact g_iret hx hr rfl _ rfl (by decide +kernel) (ok_some h)
  · have h := ok_f h c11
    refine g_run hx [(.bipush (-100), (-100), 0)] (pc' := 16) (lo' := [some (.ref 0), some (.int v1), some (.int v2), some (.int v3), some (.int v4)]) (st' := [.int (-100)]) (σ' := s2) (by decide +kernel) rfl rfl ?_
    exact g_iret hx hr rfl _ rfl (by decide +kernel) (ok_some h)
def f_x_gone (N : Nat) (σ : Sg) : Option (Int32 × Sg) :=
  (f_x_landTrouble N σ).bind fun q1 =>
  (f_x_granted N q1.1 q1.2).bind fun q2 =>
  if q2.1 = true then
    (f_state_goneCells N 40 q2.2).bind fun q3 =>
    (f_jl_bitCount N q3.1 q3.2).bind fun q4 =>
    some (q4.1, q4.2)
  else
    some ((-1), q2.2)
set_option maxRecDepth 100000 in
theorem s_x_gone {y : EX} {N : Nat} {σ : Sg} {P : Int32 × Sg → Prop} (h : ok (f_x_gone N σ) P) : Ev y M_x_gone 1 [.ref 0] σ rvI P := by
  refine Ev.of mk_x_gone (Nat.le_of_ble_eq_true rfl) (fun x hx hc hr => ?_)
  have hx : Cx 9 prog_1_method_11_code x := hx
  have hc : Cc y 1 1 x := hc
  show G x 0 [some (.ref 0)] [] σ
  unfold f_x_gone at h
  refine g_run hx [(.aload_n 0, 0, 0), (.aload_n 0, 0, 0)] (pc' := 2) (lo' := [some (.ref 0)]) (st' := [.ref 0, .ref 0]) (σ' := σ) (by decide +kernel) rfl rfl ?_
  refine g_callV (rest := [.ref 0]) [] hx hc mk_x_landTrouble ln_9_158 rfl (by decide +kernel) (by decide) (Nat.le_of_ble_eq_true rfl) (s_x_landTrouble (ok_b h)) (fun r1 s1 h => ?_)
  refine g_callV (rest := []) [.int r1] hx hc mk_x_granted ln_9_83 rfl (by decide +kernel) (by decide) (Nat.le_of_ble_eq_true rfl) (s_x_granted (ok_b h)) (fun r2 s2 h => ?_)
  refine g_ifb_eq hx (off := 16) (tgt := 24) (by decide +kernel) (by decide) (fun c8 => ?_) (fun c8 => ?_)
  · have h := ok_f h c8
    refine g_run hx [(.iconst (-1), (-1), 0)] (pc' := 25) (lo' := [some (.ref 0)]) (st' := [.int (-1)]) (σ' := s2) (by decide +kernel) rfl rfl ?_
    exact g_iret hx hr rfl _ rfl (by decide +kernel) (ok_some h)
  · have h := ok_t h c8
    refine g_run hx [(.aload_n 0, 0, 0), (.getfield 26, 0, 0)] (pc' := 15) (lo' := [some (.ref 0)]) (st' := [.ref 40]) (σ' := s2) (by decide +kernel) rfl rfl ?_
    refine g_callV (rest := []) [] hx hc mk_state_goneCells ln_9_144 rfl (by decide +kernel) (by decide) (Nat.le_of_ble_eq_true rfl) (s_state_goneCells_40 (ok_b h)) (fun r3 s3 h => ?_)
    refine g_callS (rest := []) [.long r3] hx hc mk_jl_bitCount ln_9_162 (by decide +kernel) (by decide) (Nat.le_of_ble_eq_true rfl) (s_jl_bitCount (ok_b h)) (fun r4 s4 h => ?_)
    refine g_goto hx (off := 4) (tgt := 25) (by decide +kernel) (by decide) ?_
    exact g_iret hx hr rfl _ rfl (by decide +kernel) (ok_some h)
def f_x_goneBehind_L13 (N : Nat) : Nat → Int32 → Int32 → Sg → Option (Int64 × Sg)
  | 0, _, _, _ => none
  | n + 1, v1, v2, σ =>
    if v1 ≤ v2 then
      (f_state_goneCells N 41 σ).bind fun q2 =>
      some (q2.1, q2.2)
    else
      (f_state_passYear N 41 σ).bind fun q3 =>
      f_x_goneBehind_L13 N n v1 (v2 + 1) q3.2
def f_x_goneBehind (N : Nat) (v1 : Int32) (σ : Sg) : Option (Int64 × Sg) :=
  (f_state_copy N σ).bind fun q1 =>
  f_x_goneBehind_L13 N N v1 0 q1.2
set_option maxRecDepth 100000 in
theorem s_x_goneBehind_L13 {y : EX} {N : Nat} {x : CX} {P : Int64 × Sg → Prop} (hx : Cx 9 prog_1_method_72_code x) (hc : Cc y 3 4 x) (hr : Cr M_x_goneBehind rvL P x) : ∀ (n : Nat) (v1 : Int32) (v2 : Int32) (σ : Sg), ok (f_x_goneBehind_L13 N n v1 v2 σ) P → G x 13 [some (.ref 0), some (.int v1), some (.int v2)] [] σ := by
  intro n
  induction n with
  | zero => intro v1 v2 σ h; exact ok_none h
  | succ n ih =>
    intro v1 v2 σ h
    rw [f_x_goneBehind_L13] at h
    refine g_run hx [(.iload_n 2, 0, 0), (.iload_n 1, 0, 0)] (pc' := 15) (lo' := [some (.ref 0), some (.int v1), some (.int v2)]) (st' := [.int v1, .int v2]) (σ' := σ) (by decide +kernel) rfl rfl ?_
    refine g_ic_ge hx (off := 20) (tgt := 35) (by decide +kernel) (by decide) (fun c15 => ?_) (fun c15 => ?_)
    · have h := ok_t h c15
      refine g_run hx [(.aload_n 0, 0, 0), (.getfield 30, 0, 0)] (pc' := 39) (lo' := [some (.ref 0), some (.int v1), some (.int v2)]) (st' := [.ref 41]) (σ' := σ) (by decide +kernel) rfl rfl ?_
      refine g_callV (rest := []) [] hx hc mk_state_goneCells ln_9_144 rfl (by decide +kernel) (by decide) (Nat.le_of_ble_eq_true rfl) (s_state_goneCells_41 (ok_b h)) (fun r2 s2 h => ?_)
      exact g_lret hx hr rfl _ rfl (by decide +kernel) (ok_some h)
    · have h := ok_f h c15
      refine g_run hx [(.aload_n 0, 0, 0), (.getfield 30, 0, 0), (.aload_n 0, 0, 0), (.getfield 19, 0, 0)] (pc' := 26) (lo' := [some (.ref 0), some (.int v1), some (.int v2)]) (st' := [.ref 10, .ref 41]) (σ' := σ) (by decide +kernel) rfl rfl ?_
      refine g_callV (rest := []) [.ref 10] hx hc mk_state_passYear ln_9_208 rfl (by decide +kernel) (by decide) (Nat.le_of_ble_eq_true rfl) (s_state_passYear_41_10 (ok_b h)) (fun r3 s3 h => ?_)
      refine g_run hx [(.iinc 2 1, 1, 0)] (pc' := 32) (lo' := [some (.ref 0), some (.int v1), some (.int (v2 + 1))]) (st' := []) (σ' := s3) (by decide +kernel) rfl rfl ?_
      refine g_goto hx (off := (-19)) (tgt := 13) (by decide +kernel) (by decide) ?_
      exact ih _ _ _ h
set_option maxRecDepth 100000 in
theorem s_x_goneBehind {y : EX} {N : Nat} {v1 : Int32} {σ : Sg} {P : Int64 × Sg → Prop} (h : ok (f_x_goneBehind N v1 σ) P) : Ev y M_x_goneBehind 4 [.ref 0, .int v1] σ rvL P := by
  refine Ev.of mk_x_goneBehind (Nat.le_of_ble_eq_true rfl) (fun x hx hc hr => ?_)
  have hx : Cx 9 prog_1_method_72_code x := hx
  have hc : Cc y 3 4 x := hc
  show G x 0 [some (.ref 0), some (.int v1), none] [] σ
  unfold f_x_goneBehind at h
  refine g_run hx [(.aload_n 0, 0, 0), (.getfield 30, 0, 0), (.aload_n 0, 0, 0), (.getfield 26, 0, 0)] (pc' := 8) (lo' := [some (.ref 0), some (.int v1), none]) (st' := [.ref 40, .ref 41]) (σ' := σ) (by decide +kernel) rfl rfl ?_
  refine g_callV (rest := []) [.ref 40] hx hc mk_state_copy ln_9_204 rfl (by decide +kernel) (by decide) (Nat.le_of_ble_eq_true rfl) (s_state_copy (ok_b h)) (fun r1 s1 h => ?_)
  refine g_run hx [(.iconst 0, 0, 0), (.istore_n 2, 0, 0)] (pc' := 13) (lo' := [some (.ref 0), some (.int v1), some (.int 0)]) (st' := []) (σ' := s1) (by decide +kernel) rfl rfl ?_
  refine s_x_goneBehind_L13 hx hc hr N _ _ _ h
def f_x_goneIn (N : Nat) (v1 : Int32) (σ : Sg) : Option (Int32 × Sg) :=
  (f_x_numberTrouble N v1 60 σ).bind fun q1 =>
  (f_x_granted N q1.1 q1.2).bind fun q2 =>
  if q2.1 = true then
    (f_x_goneBehind N v1 q2.2).bind fun q3 =>
    (f_jl_bitCount N q3.1 q3.2).bind fun q4 =>
    some (q4.1, q4.2)
  else
    some ((-1), q2.2)
set_option maxRecDepth 100000 in
theorem s_x_goneIn {y : EX} {N : Nat} {v1 : Int32} {σ : Sg} {P : Int32 × Sg → Prop} (h : ok (f_x_goneIn N v1 σ) P) : Ev y M_x_goneIn 5 [.ref 0, .int v1] σ rvI P := by
  refine Ev.of mk_x_goneIn (Nat.le_of_ble_eq_true rfl) (fun x hx hc hr => ?_)
  have hx : Cx 9 prog_1_method_19_code x := hx
  have hc : Cc y 2 5 x := hc
  show G x 0 [some (.ref 0), some (.int v1)] [] σ
  unfold f_x_goneIn at h
  refine g_run hx [(.aload_n 0, 0, 0), (.aload_n 0, 0, 0), (.iload_n 1, 0, 0), (.bipush 60, 60, 0)] (pc' := 5) (lo' := [some (.ref 0), some (.int v1)]) (st' := [.int 60, .int v1, .ref 0, .ref 0]) (σ' := σ) (by decide +kernel) rfl rfl ?_
  refine g_callV (rest := [.ref 0]) [.int v1, .int 60] hx hc mk_x_numberTrouble ln_9_197 rfl (by decide +kernel) (by decide) (Nat.le_of_ble_eq_true rfl) (s_x_numberTrouble (ok_b h)) (fun r1 s1 h => ?_)
  refine g_callV (rest := []) [.int r1] hx hc mk_x_granted ln_9_83 rfl (by decide +kernel) (by decide) (Nat.le_of_ble_eq_true rfl) (s_x_granted (ok_b h)) (fun r2 s2 h => ?_)
  refine g_ifb_ne hx (off := 5) (tgt := 16) (by decide +kernel) (by decide) (fun c11 => ?_) (fun c11 => ?_)
  · have h := ok_t h c11
    refine g_run hx [(.aload_n 0, 0, 0), (.iload_n 1, 0, 0)] (pc' := 18) (lo' := [some (.ref 0), some (.int v1)]) (st' := [.int v1, .ref 0]) (σ' := s2) (by decide +kernel) rfl rfl ?_
    refine g_callV (rest := []) [.int v1] hx hc mk_x_goneBehind ln_9_200 rfl (by decide +kernel) (by decide) (Nat.le_of_ble_eq_true rfl) (s_x_goneBehind (ok_b h)) (fun r3 s3 h => ?_)
    refine g_callS (rest := []) [.long r3] hx hc mk_jl_bitCount ln_9_162 (by decide +kernel) (by decide) (Nat.le_of_ble_eq_true rfl) (s_jl_bitCount (ok_b h)) (fun r4 s4 h => ?_)
    exact g_iret hx hr rfl _ rfl (by decide +kernel) (ok_some h)
  · have h := ok_f h c11
    refine g_run hx [(.iconst (-1), (-1), 0)] (pc' := 15) (lo' := [some (.ref 0), some (.int v1)]) (st' := [.int (-1)]) (σ' := s2) (by decide +kernel) rfl rfl ?_
    exact g_iret hx hr rfl _ rfl (by decide +kernel) (ok_some h)
set_option maxRecDepth 100000 in
theorem s_shelf_keep_49_40 {y : EX} {N : Nat} {v1 : Int32} {σ : Sg} {P : Unit × Sg → Prop} (h : ok (f_shelf_keep N 3 3 3 3 3 50 40 51 52 53 54 v1 σ) P) : Ev y M_shelf_keep 1 [.ref 49, .int v1, .ref 40] σ rvN P := by
  refine Ev.of mk_shelf_keep (Nat.le_of_ble_eq_true rfl) (fun x hx hc hr => ?_)
  have hx : Cx 6 prog_8_method_3_code x := hx
  have hc : Cc y 3 1 x := hc
  show G x 0 [some (.ref 49), some (.int v1), some (.ref 40)] [] σ
  unfold f_shelf_keep at h
  refine g_run hx [(.aload_n 0, 0, 0), (.iload_n 1, 0, 0)] (pc' := 2) (lo' := [some (.ref 49), some (.int v1), some (.ref 40)]) (st' := [.int v1, .ref 49]) (σ' := σ) (by decide +kernel) rfl rfl ?_
  refine g_callV (rest := []) [.int v1] hx hc mk_shelf_has ln_6_32 rfl (by decide +kernel) (by decide) (Nat.le_of_ble_eq_true rfl) (s_shelf_has_49 (ok_b h)) (fun r1 s1 h => ?_)
  refine g_ifb_eq hx (off := 53) (tgt := 58) (by decide +kernel) (by decide) (fun c5 => ?_) (fun c5 => ?_)
  · have h := ok_f h c5
    exact g_vret hx hr rfl () rfl (by decide +kernel) (ok_some h)
  · have h := ok_t h c5
    refine g_run hx [(.aload_n 0, 0, 0), (.getfield 13, 0, 0), (.iload_n 1, 0, 0), (.aload_n 2, 0, 0), (.getfield 36, 0, 0)] (pc' := 17) (lo' := [some (.ref 49), some (.int v1), some (.ref 40)]) (st' := [.long (gL s1 40 0), .int v1, .ref 50]) (σ' := s1) (by decide +kernel) rfl rfl ?_
    obtain ⟨c17, h⟩ := ok_g h
    refine g_last hx (by decide +kernel) (i := 50) (n := 3) rfl c17 ?_
    refine g_run hx [(.aload_n 0, 0, 0), (.getfield 19, 0, 0), (.iload_n 1, 0, 0), (.aload_n 2, 0, 0), (.getfield 42, 0, 0)] (pc' := 27) (lo' := [some (.ref 49), some (.int v1), some (.ref 40)]) (st' := [.long (gL (sM s1 50 v1 (gL s1 40 0)) 40 1), .int v1, .ref 51]) (σ' := sM s1 50 v1 (gL s1 40 0)) (by decide +kernel) rfl rfl ?_
    obtain ⟨c27, h⟩ := ok_g h
    refine g_last hx (by decide +kernel) (i := 51) (n := 3) rfl c27 ?_
    refine g_run hx [(.aload_n 0, 0, 0), (.getfield 22, 0, 0), (.iload_n 1, 0, 0), (.aload_n 2, 0, 0), (.getfield 45, 0, 0)] (pc' := 37) (lo' := [some (.ref 49), some (.int v1), some (.ref 40)]) (st' := [.int (gI (sM (sM s1 50 v1 (gL s1 40 0)) 51 v1 (gL (sM s1 50 v1 (gL s1 40 0)) 40 1)) 40 2), .int v1, .ref 52]) (σ' := sM (sM s1 50 v1 (gL s1 40 0)) 51 v1 (gL (sM s1 50 v1 (gL s1 40 0)) 40 1)) (by decide +kernel) rfl rfl ?_
    obtain ⟨c37, h⟩ := ok_g h
    refine g_iast hx (by decide +kernel) (i := 52) (n := 3) rfl c37 ?_
    refine g_run hx [(.aload_n 0, 0, 0), (.getfield 26, 0, 0), (.iload_n 1, 0, 0), (.aload_n 2, 0, 0), (.getfield 49, 0, 0)] (pc' := 47) (lo' := [some (.ref 49), some (.int v1), some (.ref 40)]) (st' := [.int (gI (sA (sM (sM s1 50 v1 (gL s1 40 0)) 51 v1 (gL (sM s1 50 v1 (gL s1 40 0)) 40 1)) 52 v1 (gI (sM (sM s1 50 v1 (gL s1 40 0)) 51 v1 (gL (sM s1 50 v1 (gL s1 40 0)) 40 1)) 40 2)) 40 3), .int v1, .ref 53]) (σ' := sA (sM (sM s1 50 v1 (gL s1 40 0)) 51 v1 (gL (sM s1 50 v1 (gL s1 40 0)) 40 1)) 52 v1 (gI (sM (sM s1 50 v1 (gL s1 40 0)) 51 v1 (gL (sM s1 50 v1 (gL s1 40 0)) 40 1)) 40 2)) (by decide +kernel) rfl rfl ?_
    obtain ⟨c47, h⟩ := ok_g h
    refine g_iast hx (by decide +kernel) (i := 53) (n := 3) rfl c47 ?_
    refine g_run hx [(.aload_n 0, 0, 0), (.getfield 29, 0, 0), (.iload_n 1, 0, 0), (.aload_n 2, 0, 0), (.getfield 52, 0, 0)] (pc' := 57) (lo' := [some (.ref 49), some (.int v1), some (.ref 40)]) (st' := [.int (gI (sA (sA (sM (sM s1 50 v1 (gL s1 40 0)) 51 v1 (gL (sM s1 50 v1 (gL s1 40 0)) 40 1)) 52 v1 (gI (sM (sM s1 50 v1 (gL s1 40 0)) 51 v1 (gL (sM s1 50 v1 (gL s1 40 0)) 40 1)) 40 2)) 53 v1 (gI (sA (sM (sM s1 50 v1 (gL s1 40 0)) 51 v1 (gL (sM s1 50 v1 (gL s1 40 0)) 40 1)) 52 v1 (gI (sM (sM s1 50 v1 (gL s1 40 0)) 51 v1 (gL (sM s1 50 v1 (gL s1 40 0)) 40 1)) 40 2)) 40 3)) 40 4), .int v1, .ref 54]) (σ' := sA (sA (sM (sM s1 50 v1 (gL s1 40 0)) 51 v1 (gL (sM s1 50 v1 (gL s1 40 0)) 40 1)) 52 v1 (gI (sM (sM s1 50 v1 (gL s1 40 0)) 51 v1 (gL (sM s1 50 v1 (gL s1 40 0)) 40 1)) 40 2)) 53 v1 (gI (sA (sM (sM s1 50 v1 (gL s1 40 0)) 51 v1 (gL (sM s1 50 v1 (gL s1 40 0)) 40 1)) 52 v1 (gI (sM (sM s1 50 v1 (gL s1 40 0)) 51 v1 (gL (sM s1 50 v1 (gL s1 40 0)) 40 1)) 40 2)) 40 3)) (by decide +kernel) rfl rfl ?_
    obtain ⟨c57, h⟩ := ok_g h
    refine g_iast hx (by decide +kernel) (i := 54) (n := 3) rfl c57 ?_
    exact g_vret hx hr rfl () rfl (by decide +kernel) (ok_some h)
