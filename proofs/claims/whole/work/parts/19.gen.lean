def f_x_widest (N : Nat) (σ : Sg) : Option (Int32 × Sg) :=
  (f_x_landTrouble N σ).bind fun q1 =>
  (f_x_granted N q1.1 q1.2).bind fun q2 =>
  if q2.1 = true then
    (f_state_goneCells N 40 q2.2).bind fun q3 =>
    (f_x_longestRun N q3.1 q3.2).bind fun q4 =>
    if q4.1 = (-2) then
      some (0, q4.2)
    else
      (f_state_goneCells N 40 q4.2).bind fun q5 =>
      (f_x_runFrom N q5.1 q4.1 q5.2).bind fun q6 =>
      some (q6.1, q6.2)
  else
    some ((-1), q2.2)
set_option maxRecDepth 100000 in
theorem s_x_widest {y : EX} {N : Nat} {σ : Sg} {P : Int32 × Sg → Prop} (h : ok (f_x_widest N σ) P) : Ev y M_x_widest 3 [.ref 0] σ rvI P := by
  refine Ev.of mk_x_widest (Nat.le_of_ble_eq_true rfl) (fun x hx hc hr => ?_)
  have hx : Cx 9 prog_1_method_15_code x := hx
  have hc : Cc y 2 3 x := hc
  show G x 0 [some (.ref 0), none] [] σ
  unfold f_x_widest at h
  refine g_run hx [(.aload_n 0, 0, 0), (.aload_n 0, 0, 0)] (pc' := 2) (lo' := [some (.ref 0), none]) (st' := [.ref 0, .ref 0]) (σ' := σ) (by decide +kernel) rfl rfl ?_
  refine g_callV (rest := [.ref 0]) [] hx hc mk_x_landTrouble ln_9_158 rfl (by decide +kernel) (by decide) (Nat.le_of_ble_eq_true rfl) (s_x_landTrouble (ok_b h)) (fun r1 s1 h => ?_)
  refine g_callV (rest := []) [.int r1] hx hc mk_x_granted ln_9_83 rfl (by decide +kernel) (by decide) (Nat.le_of_ble_eq_true rfl) (s_x_granted (ok_b h)) (fun r2 s2 h => ?_)
  refine g_ifb_ne hx (off := 5) (tgt := 13) (by decide +kernel) (by decide) (fun c8 => ?_) (fun c8 => ?_)
  · have h := ok_t h c8
    refine g_run hx [(.aload_n 0, 0, 0), (.getfield 26, 0, 0)] (pc' := 17) (lo' := [some (.ref 0), none]) (st' := [.ref 40]) (σ' := s2) (by decide +kernel) rfl rfl ?_
    refine g_callV (rest := []) [] hx hc mk_state_goneCells ln_9_144 rfl (by decide +kernel) (by decide) (Nat.le_of_ble_eq_true rfl) (s_state_goneCells_40 (ok_b h)) (fun r3 s3 h => ?_)
    refine g_callS (rest := []) [.long r3] hx hc mk_x_longestRun ln_9_176 (by decide +kernel) (by decide) (Nat.le_of_ble_eq_true rfl) (s_x_longestRun (ok_b h)) (fun r4 s4 h => ?_)
    refine g_run hx [(.istore_n 1, 0, 0), (.iload_n 1, 0, 0), (.bipush (-2), (-2), 0)] (pc' := 27) (lo' := [some (.ref 0), some (.int r4)]) (st' := [.int (-2), .int r4]) (σ' := s4) (by decide +kernel) rfl rfl ?_
    refine g_ic_ne hx (off := 7) (tgt := 34) (by decide +kernel) (by decide) (fun c27 => ?_) (fun c27 => ?_)
    · have h := ok_f h c27
      refine g_run hx [(.aload_n 0, 0, 0), (.getfield 26, 0, 0)] (pc' := 38) (lo' := [some (.ref 0), some (.int r4)]) (st' := [.ref 40]) (σ' := s4) (by decide +kernel) rfl rfl ?_
      refine g_callV (rest := []) [] hx hc mk_state_goneCells ln_9_144 rfl (by decide +kernel) (by decide) (Nat.le_of_ble_eq_true rfl) (s_state_goneCells_40 (ok_b h)) (fun r5 s5 h => ?_)
      refine g_run hx [(.iload_n 1, 0, 0)] (pc' := 42) (lo' := [some (.ref 0), some (.int r4)]) (st' := [.int r4, .long r5]) (σ' := s5) (by decide +kernel) rfl rfl ?_
      refine g_callS (rest := []) [.long r5, .int r4] hx hc mk_x_runFrom ln_9_179 (by decide +kernel) (by decide) (Nat.le_of_ble_eq_true rfl) (s_x_runFrom (ok_b h)) (fun r6 s6 h => ?_)
      exact g_iret hx hr rfl _ rfl (by decide +kernel) (ok_some h)
    · have h := ok_t h c27
      refine g_run hx [(.iconst 0, 0, 0)] (pc' := 31) (lo' := [some (.ref 0), some (.int r4)]) (st' := [.int 0]) (σ' := s4) (by decide +kernel) rfl rfl ?_
      refine g_goto hx (off := 14) (tgt := 45) (by decide +kernel) (by decide) ?_
      exact g_iret hx hr rfl _ rfl (by decide +kernel) (ok_some h)
  · have h := ok_f h c8
    refine g_run hx [(.iconst (-1), (-1), 0)] (pc' := 12) (lo' := [some (.ref 0), none]) (st' := [.int (-1)]) (σ' := s2) (by decide +kernel) rfl rfl ?_
    exact g_iret hx hr rfl _ rfl (by decide +kernel) (ok_some h)
set_option maxRecDepth 100000 in
theorem s_state_healing_40_10 {y : EX} {N : Nat} {σ : Sg} {P : Int64 × Sg → Prop} (h : ok (f_state_healing N 40 σ) P) : Ev y M_state_healing 2 [.ref 40, .ref 10] σ rvL P := by
  refine Ev.of mk_state_healing (Nat.le_of_ble_eq_true rfl) (fun x hx hc hr => ?_)
  have hx : Cx 7 prog_9_method_9_code x := hx
  have hc : Cc y 4 2 x := hc
  show G x 0 [some (.ref 40), some (.ref 10), none, none] [] σ
  unfold f_state_healing at h
  refine g_run hx [(.aload_n 1, 0, 0)] (pc' := 1) (lo' := [some (.ref 40), some (.ref 10), none, none]) (st' := [.ref 10]) (σ' := σ) (by decide +kernel) rfl rfl ?_
  refine g_callV (rest := []) [] hx hc mk_country_allCells ln_7_77 rfl (by decide +kernel) (by decide) (Nat.le_of_ble_eq_true rfl) (s_country_allCells (ok_b h)) (fun r1 s1 h => ?_)
  refine g_run hx [(.aload_n 0, 0, 0)] (pc' := 5) (lo' := [some (.ref 40), some (.ref 10), none, none]) (st' := [.ref 40, .long r1]) (σ' := s1) (by decide +kernel) rfl rfl ?_
  refine g_callV (rest := [.long r1]) [] hx hc mk_state_goneCells ln_7_56 rfl (by decide +kernel) (by decide) (Nat.le_of_ble_eq_true rfl) (s_state_goneCells_40 (ok_b h)) (fun r2 s2 h => ?_)
  refine g_run hx [(.ldc2_w 68, 0, (-1)), (.lxor, 0, 0), (.land, 0, 0), (.lstore_n 2, 0, 0), (.aload_n 1, 0, 0), (.aload_n 0, 0, 0)] (pc' := 16) (lo' := [some (.ref 40), some (.ref 10), some (.long (r1 &&& (r2 ^^^ (-1)))), none]) (st' := [.ref 40, .ref 10]) (σ' := s2) (by decide +kernel) rfl rfl ?_
  refine g_callV (rest := [.ref 10]) [] hx hc mk_state_goneCells ln_7_56 rfl (by decide +kernel) (by decide) (Nat.le_of_ble_eq_true rfl) (s_state_goneCells_40 (ok_b h)) (fun r3 s3 h => ?_)
  refine g_run hx [(.lload_n 2, 0, 0), (.iconst 1, 1, 0), (.lshl, 0, 0), (.lload_n 2, 0, 0), (.iconst 1, 1, 0), (.lushr, 0, 0), (.lor, 0, 0), (.land, 0, 0)] (pc' := 27) (lo' := [some (.ref 40), some (.ref 10), some (.long (r1 &&& (r2 ^^^ (-1)))), none]) (st' := [.long (r3 &&& (((r1 &&& (r2 ^^^ (-1))) <<< (Int32.toInt64 1 &&& 63)) ||| (UInt64.toInt64 (Int64.toUInt64 (r1 &&& (r2 ^^^ (-1))) >>> (Int64.toUInt64 (Int32.toInt64 1) &&& Int64.toUInt64 63))))), .ref 10]) (σ' := s3) (by decide +kernel) rfl rfl ?_
  refine g_callV (rest := []) [.long (r3 &&& (((r1 &&& (r2 ^^^ (-1))) <<< (Int32.toInt64 1 &&& 63)) ||| (UInt64.toInt64 (Int64.toUInt64 (r1 &&& (r2 ^^^ (-1))) >>> (Int64.toUInt64 (Int32.toInt64 1) &&& Int64.toUInt64 63)))))] hx hc mk_country_healable ln_7_80 rfl (by decide +kernel) (by decide) (Nat.le_of_ble_eq_true rfl) (s_country_healable (ok_b h)) (fun r4 s4 h => ?_)
  exact g_lret hx hr rfl _ rfl (by decide +kernel) (ok_some h)
set_option maxRecDepth 100000 in
theorem s_state_passYear_40_10 {y : EX} {N : Nat} {σ : Sg} {P : Unit × Sg → Prop} (h : ok (f_state_passYear N 40 σ) P) : Ev y M_state_passYear 3 [.ref 40, .ref 10] σ rvN P := by
  refine Ev.of mk_state_passYear (Nat.le_of_ble_eq_true rfl) (fun x hx hc hr => ?_)
  have hx : Cx 7 prog_9_method_10_code x := hx
  have hc : Cc y 2 3 x := hc
  show G x 0 [some (.ref 40), some (.ref 10)] [] σ
  unfold f_state_passYear at h
  refine g_run hx [(.aload_n 0, 0, 0), (.aload_n 0, 0, 0), (.aload_n 1, 0, 0)] (pc' := 3) (lo' := [some (.ref 40), some (.ref 10)]) (st' := [.ref 10, .ref 40, .ref 40]) (σ' := σ) (by decide +kernel) rfl rfl ?_
  refine g_callV (rest := [.ref 40]) [.ref 10] hx hc mk_state_healing ln_7_83 rfl (by decide +kernel) (by decide) (Nat.le_of_ble_eq_true rfl) (s_state_healing_40_10 (ok_b h)) (fun r1 s1 h => ?_)
  refine g_callV (rest := []) [.long r1] hx hc mk_state_lessen ln_7_73 rfl (by decide +kernel) (by decide) (Nat.le_of_ble_eq_true rfl) (s_state_lessen_40 (ok_b h)) (fun r2 s2 h => ?_)
  exact g_vret hx hr rfl () rfl (by decide +kernel) (ok_some h)
def f_x_year (N : Nat) (σ : Sg) : Option (Int32 × Sg) :=
  (f_x_landTrouble N σ).bind fun q1 =>
  (f_x_granted N q1.1 q1.2).bind fun q2 =>
  if q2.1 = true then
    if (gI q2.2 40 4) < 999 then
      (f_x_granted N 0 q2.2).bind fun q3 =>
      if q3.1 = true then
        (f_history_keep N q3.2).bind fun q4 =>
        (f_state_goneCells N 40 q4.2).bind fun q5 =>
        (f_jl_bitCount N q5.1 q5.2).bind fun q6 =>
        (f_state_passYear N 40 q6.2).bind fun q7 =>
        (f_state_goneCells N 40 (sI q7.2 40 4 ((gI q7.2 40 4) + 1))).bind fun q8 =>
        (f_jl_bitCount N q8.1 q8.2).bind fun q9 =>
        some ((q6.1 - q9.1), q9.2)
      else
        some ((-1), q3.2)
    else
      (f_x_granted N 3 q2.2).bind fun q10 =>
      if q10.1 = true then
        (f_history_keep N q10.2).bind fun q11 =>
        (f_state_goneCells N 40 q11.2).bind fun q12 =>
        (f_jl_bitCount N q12.1 q12.2).bind fun q13 =>
        (f_state_passYear N 40 q13.2).bind fun q14 =>
        (f_state_goneCells N 40 (sI q14.2 40 4 ((gI q14.2 40 4) + 1))).bind fun q15 =>
        (f_jl_bitCount N q15.1 q15.2).bind fun q16 =>
        some ((q13.1 - q16.1), q16.2)
      else
        some ((-1), q10.2)
  else
    some ((-1), q2.2)
set_option maxRecDepth 100000 in
theorem s_x_year {y : EX} {N : Nat} {σ : Sg} {P : Int32 × Sg → Prop} (h : ok (f_x_year N σ) P) : Ev y M_x_year 4 [.ref 0] σ rvI P := by
  refine Ev.of mk_x_year (Nat.le_of_ble_eq_true rfl) (fun x hx hc hr => ?_)
  have hx : Cx 9 prog_1_method_55_code x := hx
  have hc : Cc y 2 4 x := hc
  show G x 0 [some (.ref 0), none] [] σ
  unfold f_x_year at h
  refine g_run hx [(.aload_n 0, 0, 0), (.aload_n 0, 0, 0)] (pc' := 2) (lo' := [some (.ref 0), none]) (st' := [.ref 0, .ref 0]) (σ' := σ) (by decide +kernel) rfl rfl ?_
  refine g_callV (rest := [.ref 0]) [] hx hc mk_x_landTrouble ln_9_158 rfl (by decide +kernel) (by decide) (Nat.le_of_ble_eq_true rfl) (s_x_landTrouble (ok_b h)) (fun r1 s1 h => ?_)
  refine g_callV (rest := []) [.int r1] hx hc mk_x_granted ln_9_83 rfl (by decide +kernel) (by decide) (Nat.le_of_ble_eq_true rfl) (s_x_granted (ok_b h)) (fun r2 s2 h => ?_)
  refine g_ifb_ne hx (off := 5) (tgt := 13) (by decide +kernel) (by decide) (fun c8 => ?_) (fun c8 => ?_)
  · have h := ok_t h c8
    refine g_run hx [(.aload_n 0, 0, 0), (.aload_n 0, 0, 0), (.getfield 26, 0, 0), (.getfield 356, 0, 0), (.sipush 999, 999, 0)] (pc' := 24) (lo' := [some (.ref 0), none]) (st' := [.int 999, .int (gI s2 40 4), .ref 0]) (σ' := s2) (by decide +kernel) rfl rfl ?_
    refine g_ic_lt hx (off := 7) (tgt := 31) (by decide +kernel) (by decide) (fun c24 => ?_) (fun c24 => ?_)
    · have h := ok_t h c24
      refine g_run hx [(.iconst 0, 0, 0)] (pc' := 32) (lo' := [some (.ref 0), none]) (st' := [.int 0, .ref 0]) (σ' := s2) (by decide +kernel) rfl rfl ?_
      refine g_callV (rest := []) [.int 0] hx hc mk_x_granted ln_9_83 rfl (by decide +kernel) (by decide) (Nat.le_of_ble_eq_true rfl) (s_x_granted (ok_b h)) (fun r3 s3 h => ?_)
      refine g_ifb_ne hx (off := 5) (tgt := 40) (by decide +kernel) (by decide) (fun c35 => ?_) (fun c35 => ?_)
      · have h := ok_t h c35
        refine g_run hx [(.aload_n 0, 0, 0), (.getfield 36, 0, 0), (.aload_n 0, 0, 0), (.getfield 26, 0, 0)] (pc' := 48) (lo' := [some (.ref 0), none]) (st' := [.ref 40, .ref 42]) (σ' := s3) (by decide +kernel) rfl rfl ?_
        refine g_callV (rest := []) [.ref 40] hx hc mk_history_keep ln_9_344 rfl (by decide +kernel) (by decide) (Nat.le_of_ble_eq_true rfl) (s_history_keep (ok_b h)) (fun r4 s4 h => ?_)
        refine g_run hx [(.aload_n 0, 0, 0), (.getfield 26, 0, 0)] (pc' := 55) (lo' := [some (.ref 0), none]) (st' := [.ref 40]) (σ' := s4) (by decide +kernel) rfl rfl ?_
        refine g_callV (rest := []) [] hx hc mk_state_goneCells ln_9_144 rfl (by decide +kernel) (by decide) (Nat.le_of_ble_eq_true rfl) (s_state_goneCells_40 (ok_b h)) (fun r5 s5 h => ?_)
        refine g_callS (rest := []) [.long r5] hx hc mk_jl_bitCount ln_9_162 (by decide +kernel) (by decide) (Nat.le_of_ble_eq_true rfl) (s_jl_bitCount (ok_b h)) (fun r6 s6 h => ?_)
        refine g_run hx [(.istore_n 1, 0, 0), (.aload_n 0, 0, 0), (.getfield 26, 0, 0), (.aload_n 0, 0, 0), (.getfield 19, 0, 0)] (pc' := 70) (lo' := [some (.ref 0), some (.int r6)]) (st' := [.ref 10, .ref 40]) (σ' := s6) (by decide +kernel) rfl rfl ?_
        refine g_callV (rest := []) [.ref 10] hx hc mk_state_passYear ln_9_208 rfl (by decide +kernel) (by decide) (Nat.le_of_ble_eq_true rfl) (s_state_passYear_40_10 (ok_b h)) (fun r7 s7 h => ?_)
        refine g_run hx [(.aload_n 0, 0, 0), (.getfield 26, 0, 0), (.dup, 0, 0), (.getfield 356, 0, 0), (.iconst 1, 1, 0), (.iadd, 0, 0), (.putfield 356, 0, 0), (.iload_n 1, 0, 0), (.aload_n 0, 0, 0), (.getfield 26, 0, 0)] (pc' := 91) (lo' := [some (.ref 0), some (.int r6)]) (st' := [.ref 40, .int r6]) (σ' := sI s7 40 4 ((gI s7 40 4) + 1)) (by decide +kernel) rfl rfl ?_
        refine g_callV (rest := [.int r6]) [] hx hc mk_state_goneCells ln_9_144 rfl (by decide +kernel) (by decide) (Nat.le_of_ble_eq_true rfl) (s_state_goneCells_40 (ok_b h)) (fun r8 s8 h => ?_)
        refine g_callS (rest := [.int r6]) [.long r8] hx hc mk_jl_bitCount ln_9_162 (by decide +kernel) (by decide) (Nat.le_of_ble_eq_true rfl) (s_jl_bitCount (ok_b h)) (fun r9 s9 h => ?_)
        refine g_run hx [(.isub, 0, 0)] (pc' := 98) (lo' := [some (.ref 0), some (.int r6)]) (st' := [.int (r6 - r9)]) (σ' := s9) (by decide +kernel) rfl rfl ?_
        exact g_iret hx hr rfl _ rfl (by decide +kernel) (ok_some h)
      · have h := ok_f h c35
        refine g_run hx [(.iconst (-1), (-1), 0)] (pc' := 39) (lo' := [some (.ref 0), none]) (st' := [.int (-1)]) (σ' := s3) (by decide +kernel) rfl rfl ?_
        exact g_iret hx hr rfl _ rfl (by decide +kernel) (ok_some h)
    · have h := ok_f h c24
      refine g_run hx [(.iconst 3, 3, 0)] (pc' := 28) (lo' := [some (.ref 0), none]) (st' := [.int 3, .ref 0]) (σ' := s2) (by decide +kernel) rfl rfl ?_
      refine g_goto hx (off := 4) (tgt := 32) (by decide +kernel) (by decide) ?_
      refine g_callV (rest := []) [.int 3] hx hc mk_x_granted ln_9_83 rfl (by decide +kernel) (by decide) (Nat.le_of_ble_eq_true rfl) (s_x_granted (ok_b h)) (fun r10 s10 h => ?_)
      refine g_ifb_ne hx (off := 5) (tgt := 40) (by decide +kernel) (by decide) (fun c35 => ?_) (fun c35 => ?_)
      · have h := ok_t h c35
        refine g_run hx [(.aload_n 0, 0, 0), (.getfield 36, 0, 0), (.aload_n 0, 0, 0), (.getfield 26, 0, 0)] (pc' := 48) (lo' := [some (.ref 0), none]) (st' := [.ref 40, .ref 42]) (σ' := s10) (by decide +kernel) rfl rfl ?_
        refine g_callV (rest := []) [.ref 40] hx hc mk_history_keep ln_9_344 rfl (by decide +kernel) (by decide) (Nat.le_of_ble_eq_true rfl) (s_history_keep (ok_b h)) (fun r11 s11 h => ?_)
        refine g_run hx [(.aload_n 0, 0, 0), (.getfield 26, 0, 0)] (pc' := 55) (lo' := [some (.ref 0), none]) (st' := [.ref 40]) (σ' := s11) (by decide +kernel) rfl rfl ?_
        refine g_callV (rest := []) [] hx hc mk_state_goneCells ln_9_144 rfl (by decide +kernel) (by decide) (Nat.le_of_ble_eq_true rfl) (s_state_goneCells_40 (ok_b h)) (fun r12 s12 h => ?_)
        refine g_callS (rest := []) [.long r12] hx hc mk_jl_bitCount ln_9_162 (by decide +kernel) (by decide) (Nat.le_of_ble_eq_true rfl) (s_jl_bitCount (ok_b h)) (fun r13 s13 h => ?_)
        refine g_run hx [(.istore_n 1, 0, 0), (.aload_n 0, 0, 0), (.getfield 26, 0, 0), (.aload_n 0, 0, 0), (.getfield 19, 0, 0)] (pc' := 70) (lo' := [some (.ref 0), some (.int r13)]) (st' := [.ref 10, .ref 40]) (σ' := s13) (by decide +kernel) rfl rfl ?_
        refine g_callV (rest := []) [.ref 10] hx hc mk_state_passYear ln_9_208 rfl (by decide +kernel) (by decide) (Nat.le_of_ble_eq_true rfl) (s_state_passYear_40_10 (ok_b h)) (fun r14 s14 h => ?_)
        refine g_run hx [(.aload_n 0, 0, 0), (.getfield 26, 0, 0), (.dup, 0, 0), (.getfield 356, 0, 0), (.iconst 1, 1, 0), (.iadd, 0, 0), (.putfield 356, 0, 0), (.iload_n 1, 0, 0), (.aload_n 0, 0, 0), (.getfield 26, 0, 0)] (pc' := 91) (lo' := [some (.ref 0), some (.int r13)]) (st' := [.ref 40, .int r13]) (σ' := sI s14 40 4 ((gI s14 40 4) + 1)) (by decide +kernel) rfl rfl ?_
        refine g_callV (rest := [.int r13]) [] hx hc mk_state_goneCells ln_9_144 rfl (by decide +kernel) (by decide) (Nat.le_of_ble_eq_true rfl) (s_state_goneCells_40 (ok_b h)) (fun r15 s15 h => ?_)
        refine g_callS (rest := [.int r13]) [.long r15] hx hc mk_jl_bitCount ln_9_162 (by decide +kernel) (by decide) (Nat.le_of_ble_eq_true rfl) (s_jl_bitCount (ok_b h)) (fun r16 s16 h => ?_)
        refine g_run hx [(.isub, 0, 0)] (pc' := 98) (lo' := [some (.ref 0), some (.int r13)]) (st' := [.int (r13 - r16)]) (σ' := s16) (by decide +kernel) rfl rfl ?_
        exact g_iret hx hr rfl _ rfl (by decide +kernel) (ok_some h)
      · have h := ok_f h c35
        refine g_run hx [(.iconst (-1), (-1), 0)] (pc' := 39) (lo' := [some (.ref 0), none]) (st' := [.int (-1)]) (σ' := s10) (by decide +kernel) rfl rfl ?_
        exact g_iret hx hr rfl _ rfl (by decide +kernel) (ok_some h)
  · have h := ok_f h c8
    refine g_run hx [(.iconst (-1), (-1), 0)] (pc' := 12) (lo' := [some (.ref 0), none]) (st' := [.int (-1)]) (σ' := s2) (by decide +kernel) rfl rfl ?_
    exact g_iret hx hr rfl _ rfl (by decide +kernel) (ok_some h)
def f_m_anew (N : Nat) (σ : Sg) : Option (Unit × Sg) :=
  some ((), sI (sI σ 66 0 0) 66 11 0)
set_option maxRecDepth 100000 in
theorem s_m_anew {y : EX} {N : Nat} {σ : Sg} {P : Unit × Sg → Prop} (h : ok (f_m_anew N σ) P) : Ev y M_m_anew 0 [.ref 66] σ rvN P := by
  refine Ev.of mk_m_anew (Nat.le_of_ble_eq_true rfl) (fun x hx hc hr => ?_)
  have hx : Cx 10 prog_12_method_3_code x := hx
  have hc : Cc y 1 0 x := hc
  show G x 0 [some (.ref 66)] [] σ
  unfold f_m_anew at h
  refine g_run hx [(.aload_n 0, 0, 0), (.iconst 0, 0, 0), (.putfield 68, 0, 0), (.aload_n 0, 0, 0), (.iconst 0, 0, 0), (.putfield 71, 0, 0)] (pc' := 10) (lo' := [some (.ref 66)]) (st' := []) (σ' := sI (sI σ 66 0 0) 66 11 0) (by decide +kernel) rfl rfl ?_
  exact g_vret hx hr rfl () rfl (by decide +kernel) (ok_some h)
def f_m_no (N : Nat) (v1 : Int32) (σ : Sg) : Option (Int32 × Sg) :=
  some ((-1), sI σ 66 11 v1)
set_option maxRecDepth 100000 in
theorem s_m_no {y : EX} {N : Nat} {v1 : Int32} {σ : Sg} {P : Int32 × Sg → Prop} (h : ok (f_m_no N v1 σ) P) : Ev y M_m_no 0 [.ref 66, .int v1] σ rvI P := by
  refine Ev.of mk_m_no (Nat.le_of_ble_eq_true rfl) (fun x hx hc hr => ?_)
  have hx : Cx 10 prog_12_method_4_code x := hx
  have hc : Cc y 2 0 x := hc
  show G x 0 [some (.ref 66), some (.int v1)] [] σ
  unfold f_m_no at h
  refine g_run hx [(.aload_n 0, 0, 0), (.iload_n 1, 0, 0), (.putfield 71, 0, 0), (.iconst (-1), (-1), 0)] (pc' := 6) (lo' := [some (.ref 66), some (.int v1)]) (st' := [.int (-1)]) (σ' := sI σ 66 11 v1) (by decide +kernel) rfl rfl ?_
  exact g_iret hx hr rfl _ rfl (by decide +kernel) (ok_some h)
def f_m_copy_L3 (N : Nat) (a0 : Nat) (a1 : Nat) (a2 : Nat) (a3 : Nat) : Nat → Int32 → Int32 → Int32 → Int32 → Sg → Option (Unit × Sg)
  | 0, _, _, _, _, _ => none
  | n + 1, v1, v3, v4, v5, σ =>
    if v4 ≤ v5 then
      some ((), σ)
    else
      if vin (v1 + v5) a0 then
      if vin (v3 + v5) a1 then
      f_m_copy_L3 N a0 a1 a2 a3 n v1 v3 v4 (v5 + 1) (sA σ a2 (v3 + v5) (gA σ a3 (v1 + v5)))
      else none
      else none
def f_m_copy (N : Nat) (a0 : Nat) (a1 : Nat) (a2 : Nat) (a3 : Nat) (v1 : Int32) (v3 : Int32) (v4 : Int32) (σ : Sg) : Option (Unit × Sg) :=
  f_m_copy_L3 N a0 a1 a2 a3 N v1 v3 v4 0 σ
set_option maxRecDepth 100000 in
theorem s_m_copy_71_75_L3 {y : EX} {N : Nat} {x : CX} {P : Unit × Sg → Prop} (hx : Cx 10 prog_12_method_8_code x) (hc : Cc y 6 0 x) (hr : Cr M_m_copy rvN P x) : ∀ (n : Nat) (v1 : Int32) (v3 : Int32) (v4 : Int32) (v5 : Int32) (σ : Sg), ok (f_m_copy_L3 N 63 63 75 71 n v1 v3 v4 v5 σ) P → G x 3 [some (.ref 71), some (.int v1), some (.ref 75), some (.int v3), some (.int v4), some (.int v5)] [] σ := by
  intro n
  induction n with
  | zero => intro v1 v3 v4 v5 σ h; exact ok_none h
  | succ n ih =>
    intro v1 v3 v4 v5 σ h
    rw [f_m_copy_L3] at h
    refine g_run hx [(.iload 5, 0, 0), (.iload 4, 0, 0)] (pc' := 7) (lo' := [some (.ref 71), some (.int v1), some (.ref 75), some (.int v3), some (.int v4), some (.int v5)]) (st' := [.int v4, .int v5]) (σ' := σ) (by decide +kernel) rfl rfl ?_
    refine g_ic_ge hx (off := 21) (tgt := 28) (by decide +kernel) (by decide) (fun c7 => ?_) (fun c7 => ?_)
    · have h := ok_t h c7
      exact g_vret hx hr rfl () rfl (by decide +kernel) (ok_some h)
    · have h := ok_f h c7
      refine g_run hx [(.aload_n 2, 0, 0), (.iload_n 3, 0, 0), (.iload 5, 0, 0), (.iadd, 0, 0), (.aload_n 0, 0, 0), (.iload_n 1, 0, 0), (.iload 5, 0, 0), (.iadd, 0, 0)] (pc' := 20) (lo' := [some (.ref 71), some (.int v1), some (.ref 75), some (.int v3), some (.int v4), some (.int v5)]) (st' := [.int (v1 + v5), .ref 71, .int (v3 + v5), .ref 75]) (σ' := σ) (by decide +kernel) rfl rfl ?_
      obtain ⟨c20, h⟩ := ok_g h
      refine g_iald hx (by decide +kernel) (i := 71) (n := 63) rfl c20 ?_
      obtain ⟨c21, h⟩ := ok_g h
      refine g_iast hx (by decide +kernel) (i := 75) (n := 63) rfl c21 ?_
      refine g_run hx [(.iinc 5 1, 1, 0)] (pc' := 25) (lo' := [some (.ref 71), some (.int v1), some (.ref 75), some (.int v3), some (.int v4), some (.int (v5 + 1))]) (st' := []) (σ' := sA σ 75 (v3 + v5) (gA σ 71 (v1 + v5))) (by decide +kernel) rfl rfl ?_
      refine g_goto hx (off := (-22)) (tgt := 3) (by decide +kernel) (by decide) ?_
      exact ih _ _ _ _ _ h
set_option maxRecDepth 100000 in
theorem s_m_copy_71_75 {y : EX} {N : Nat} {v1 : Int32} {v3 : Int32} {v4 : Int32} {σ : Sg} {P : Unit × Sg → Prop} (h : ok (f_m_copy N 63 63 75 71 v1 v3 v4 σ) P) : Ev y M_m_copy 0 [.ref 71, .int v1, .ref 75, .int v3, .int v4] σ rvN P := by
  refine Ev.of mk_m_copy (Nat.le_of_ble_eq_true rfl) (fun x hx hc hr => ?_)
  have hx : Cx 10 prog_12_method_8_code x := hx
  have hc : Cc y 6 0 x := hc
  show G x 0 [some (.ref 71), some (.int v1), some (.ref 75), some (.int v3), some (.int v4), none] [] σ
  unfold f_m_copy at h
  refine g_run hx [(.iconst 0, 0, 0), (.istore 5, 0, 0)] (pc' := 3) (lo' := [some (.ref 71), some (.int v1), some (.ref 75), some (.int v3), some (.int v4), some (.int 0)]) (st' := []) (σ' := σ) (by decide +kernel) rfl rfl ?_
  refine s_m_copy_71_75_L3 hx hc hr N _ _ _ _ _ h
def f_m_hasBit (N : Nat) (v0 : Int32) (v1 : Int32) (σ : Sg) : Option (Bool × Sg) :=
  if ((v0 >>> (v1 &&& 31)) &&& 1) = 1 then
    some (true, σ)
  else
    some (false, σ)
set_option maxRecDepth 100000 in
theorem s_m_hasBit {y : EX} {N : Nat} {v0 : Int32} {v1 : Int32} {σ : Sg} {P : Bool × Sg → Prop} (h : ok (f_m_hasBit N v0 v1 σ) P) : Ev y M_m_hasBit 0 [.int v0, .int v1] σ rvB P := by
  refine Ev.of mk_m_hasBit (Nat.le_of_ble_eq_true rfl) (fun x hx hc hr => ?_)
  have hx : Cx 10 prog_12_method_7_code x := hx
  have hc : Cc y 2 0 x := hc
  show G x 0 [some (.int v0), some (.int v1)] [] σ
  unfold f_m_hasBit at h
  refine g_run hx [(.iload_n 0, 0, 0), (.iload_n 1, 0, 0), (.ishr, 0, 0), (.iconst 1, 1, 0), (.iand, 0, 0), (.iconst 1, 1, 0)] (pc' := 6) (lo' := [some (.int v0), some (.int v1)]) (st' := [.int 1, .int ((v0 >>> (v1 &&& 31)) &&& 1)]) (σ' := σ) (by decide +kernel) rfl rfl ?_
  refine g_ic_ne hx (off := 7) (tgt := 13) (by decide +kernel) (by decide) (fun c6 => ?_) (fun c6 => ?_)
  · have h := ok_f h c6
    refine g_run hx [(.iconst 0, 0, 0)] (pc' := 14) (lo' := [some (.int v0), some (.int v1)]) (st' := [.int 0]) (σ' := σ) (by decide +kernel) rfl rfl ?_
    exact g_zret (b := false) hx hr rfl false rfl (by decide +kernel) (ok_some h)
  · have h := ok_t h c6
    refine g_run hx [(.iconst 1, 1, 0)] (pc' := 10) (lo' := [some (.int v0), some (.int v1)]) (st' := [.int 1]) (σ' := σ) (by decide +kernel) rfl rfl ?_
    refine g_goto hx (off := 4) (tgt := 14) (by decide +kernel) (by decide) ?_
    exact g_zret (b := true) hx hr rfl true rfl (by decide +kernel) (ok_some h)
def f_m_in (N : Nat) (v0 : Int32) (v1 : Int32) (v2 : Int32) (σ : Sg) : Option (Bool × Sg) :=
  if v0 < v1 then
    some (false, σ)
  else
    if v2 < v0 then
      some (false, σ)
    else
      some (true, σ)
set_option maxRecDepth 100000 in
theorem s_m_in {y : EX} {N : Nat} {v0 : Int32} {v1 : Int32} {v2 : Int32} {σ : Sg} {P : Bool × Sg → Prop} (h : ok (f_m_in N v0 v1 v2 σ) P) : Ev y M_m_in 0 [.int v0, .int v1, .int v2] σ rvB P := by
  refine Ev.of mk_m_in (Nat.le_of_ble_eq_true rfl) (fun x hx hc hr => ?_)
  have hx : Cx 10 prog_12_method_6_code x := hx
  have hc : Cc y 3 0 x := hc
  show G x 0 [some (.int v0), some (.int v1), some (.int v2)] [] σ
  unfold f_m_in at h
  refine g_run hx [(.iload_n 0, 0, 0), (.iload_n 1, 0, 0)] (pc' := 2) (lo' := [some (.int v0), some (.int v1), some (.int v2)]) (st' := [.int v1, .int v0]) (σ' := σ) (by decide +kernel) rfl rfl ?_
  refine g_ic_lt hx (off := 12) (tgt := 14) (by decide +kernel) (by decide) (fun c2 => ?_) (fun c2 => ?_)
  · have h := ok_t h c2
    refine g_run hx [(.iconst 0, 0, 0)] (pc' := 15) (lo' := [some (.int v0), some (.int v1), some (.int v2)]) (st' := [.int 0]) (σ' := σ) (by decide +kernel) rfl rfl ?_
    exact g_zret (b := false) hx hr rfl false rfl (by decide +kernel) (ok_some h)
  · have h := ok_f h c2
    refine g_run hx [(.iload_n 0, 0, 0), (.iload_n 2, 0, 0)] (pc' := 7) (lo' := [some (.int v0), some (.int v1), some (.int v2)]) (st' := [.int v2, .int v0]) (σ' := σ) (by decide +kernel) rfl rfl ?_
    refine g_ic_gt hx (off := 7) (tgt := 14) (by decide +kernel) (by decide) (fun c7 => ?_) (fun c7 => ?_)
    · have h := ok_t h c7
      refine g_run hx [(.iconst 0, 0, 0)] (pc' := 15) (lo' := [some (.int v0), some (.int v1), some (.int v2)]) (st' := [.int 0]) (σ' := σ) (by decide +kernel) rfl rfl ?_
      exact g_zret (b := false) hx hr rfl false rfl (by decide +kernel) (ok_some h)
    · have h := ok_f h c7
      refine g_run hx [(.iconst 1, 1, 0)] (pc' := 11) (lo' := [some (.int v0), some (.int v1), some (.int v2)]) (st' := [.int 1]) (σ' := σ) (by decide +kernel) rfl rfl ?_
      refine g_goto hx (off := 4) (tgt := 15) (by decide +kernel) (by decide) ?_
      exact g_zret (b := true) hx hr rfl true rfl (by decide +kernel) (ok_some h)
def f_m_leadOf (N : Nat) (a0 : Nat) (a1 : Nat) (a2 : Nat) (a3 : Nat) (v2 : Int32) (v3 : Int32) (σ : Sg) : Option (Int32 × Sg) :=
  if v3 = 0 then
    if vin (9 + v2) a0 then
    (f_m_in N ((gA σ a1 60) + (gA σ a2 (9 + v2))) 0 ((gA σ a2 0) - 1) σ).bind fun q2 =>
    if q2.1 = true then
      if vin ((gA σ a1 60) + (gA σ a2 (9 + v2))) a3 then
      if (gA q2.2 a1 ((gA σ a1 60) + (gA σ a2 (9 + v2)))) = 0 then
        some (((gA σ a1 60) + (gA σ a2 (9 + v2))), q2.2)
      else
        some ((-2), q2.2)
      else none
    else
      some ((-2), q2.2)
    else none
  else
    if vin (9 + v2) a0 then
    (f_m_in N ((gA σ a1 60) + (-(gA σ a2 (9 + v2)))) 0 ((gA σ a2 0) - 1) σ).bind fun q1 =>
    if q1.1 = true then
      if vin ((gA σ a1 60) + (-(gA σ a2 (9 + v2)))) a3 then
      if (gA q1.2 a1 ((gA σ a1 60) + (-(gA σ a2 (9 + v2))))) = 0 then
        some (((gA σ a1 60) + (-(gA σ a2 (9 + v2)))), q1.2)
      else
        some ((-2), q1.2)
      else none
    else
      some ((-2), q1.2)
    else none
set_option maxRecDepth 100000 in
theorem s_m_leadOf_69_75 {y : EX} {N : Nat} {v2 : Int32} {v3 : Int32} {σ : Sg} {P : Int32 × Sg → Prop} (h : ok (f_m_leadOf N 189 75 69 63 v2 v3 σ) P) : Ev y M_m_leadOf 1 [.ref 69, .ref 75, .int v2, .int v3] σ rvI P := by
  refine Ev.of mk_m_leadOf (Nat.le_of_ble_eq_true rfl) (fun x hx hc hr => ?_)
  have hx : Cx 10 prog_12_method_44_code x := hx
  have hc : Cc y 5 1 x := hc
  show G x 0 [some (.ref 69), some (.ref 75), some (.int v2), some (.int v3), none] [] σ
  unfold f_m_leadOf at h
  refine g_run hx [(.aload_n 1, 0, 0), (.bipush 60, 60, 0), (.iaload, 0, 0), (.iload_n 3, 0, 0)] (pc' := 5) (lo' := [some (.ref 69), some (.ref 75), some (.int v2), some (.int v3), none]) (st' := [.int v3, .int (gA σ 75 60)]) (σ' := σ) (by decide +kernel) rfl rfl ?_
  refine g_if_ne hx (off := 12) (tgt := 17) (by decide +kernel) (by decide) (fun c5 => ?_) (fun c5 => ?_)
  · have h := ok_f h c5
    refine g_run hx [(.aload_n 0, 0, 0), (.bipush 9, 9, 0), (.iload_n 2, 0, 0), (.iadd, 0, 0)] (pc' := 22) (lo' := [some (.ref 69), some (.ref 75), some (.int v2), some (.int v3), none]) (st' := [.int (9 + v2), .ref 69, .int (gA σ 75 60)]) (σ' := σ) (by decide +kernel) rfl rfl ?_
    obtain ⟨c22, h⟩ := ok_g h
    refine g_iald hx (by decide +kernel) (i := 69) (n := 189) rfl c22 ?_
    refine g_run hx [(.ineg, 0, 0), (.iadd, 0, 0), (.istore 4, 0, 0), (.iload 4, 0, 0), (.iconst 0, 0, 0), (.aload_n 0, 0, 0), (.iconst 0, 0, 0), (.iaload, 0, 0), (.iconst 1, 1, 0), (.isub, 0, 0)] (pc' := 35) (lo' := [some (.ref 69), some (.ref 75), some (.int v2), some (.int v3), some (.int ((gA σ 75 60) + (-(gA σ 69 (9 + v2)))))]) (st' := [.int ((gA σ 69 0) - 1), .int 0, .int ((gA σ 75 60) + (-(gA σ 69 (9 + v2))))]) (σ' := σ) (by decide +kernel) rfl rfl ?_
    refine g_callS (rest := []) [.int ((gA σ 75 60) + (-(gA σ 69 (9 + v2)))), .int 0, .int ((gA σ 69 0) - 1)] hx hc mk_m_in ln_10_156 (by decide +kernel) (by decide) (Nat.le_of_ble_eq_true rfl) (s_m_in (ok_b h)) (fun r1 s1 h => ?_)
    refine g_ifb_eq hx (off := 15) (tgt := 53) (by decide +kernel) (by decide) (fun c38 => ?_) (fun c38 => ?_)
    · have h := ok_f h c38
      refine g_run hx [(.bipush (-2), (-2), 0)] (pc' := 55) (lo' := [some (.ref 69), some (.ref 75), some (.int v2), some (.int v3), some (.int ((gA σ 75 60) + (-(gA σ 69 (9 + v2)))))]) (st' := [.int (-2)]) (σ' := s1) (by decide +kernel) rfl rfl ?_
      exact g_iret hx hr rfl _ rfl (by decide +kernel) (ok_some h)
    · have h := ok_t h c38
      refine g_run hx [(.aload_n 1, 0, 0), (.iload 4, 0, 0)] (pc' := 44) (lo' := [some (.ref 69), some (.ref 75), some (.int v2), some (.int v3), some (.int ((gA σ 75 60) + (-(gA σ 69 (9 + v2)))))]) (st' := [.int ((gA σ 75 60) + (-(gA σ 69 (9 + v2)))), .ref 75]) (σ' := s1) (by decide +kernel) rfl rfl ?_
      obtain ⟨c44, h⟩ := ok_g h
      refine g_iald hx (by decide +kernel) (i := 75) (n := 63) rfl c44 ?_
      refine g_if_ne hx (off := 8) (tgt := 53) (by decide +kernel) (by decide) (fun c45 => ?_) (fun c45 => ?_)
      · have h := ok_f h c45
        refine g_run hx [(.bipush (-2), (-2), 0)] (pc' := 55) (lo' := [some (.ref 69), some (.ref 75), some (.int v2), some (.int v3), some (.int ((gA σ 75 60) + (-(gA σ 69 (9 + v2)))))]) (st' := [.int (-2)]) (σ' := s1) (by decide +kernel) rfl rfl ?_
        exact g_iret hx hr rfl _ rfl (by decide +kernel) (ok_some h)
      · have h := ok_t h c45
        refine g_run hx [(.iload 4, 0, 0)] (pc' := 50) (lo' := [some (.ref 69), some (.ref 75), some (.int v2), some (.int v3), some (.int ((gA σ 75 60) + (-(gA σ 69 (9 + v2)))))]) (st' := [.int ((gA σ 75 60) + (-(gA σ 69 (9 + v2))))]) (σ' := s1) (by decide +kernel) rfl rfl ?_
        refine g_goto hx (off := 5) (tgt := 55) (by decide +kernel) (by decide) ?_
        exact g_iret hx hr rfl _ rfl (by decide +kernel) (ok_some h)
  · have h := ok_t h c5
    refine g_run hx [(.aload_n 0, 0, 0), (.bipush 9, 9, 0), (.iload_n 2, 0, 0), (.iadd, 0, 0)] (pc' := 13) (lo' := [some (.ref 69), some (.ref 75), some (.int v2), some (.int v3), none]) (st' := [.int (9 + v2), .ref 69, .int (gA σ 75 60)]) (σ' := σ) (by decide +kernel) rfl rfl ?_
    obtain ⟨c13, h⟩ := ok_g h
    refine g_iald hx (by decide +kernel) (i := 69) (n := 189) rfl c13 ?_
    refine g_goto hx (off := 10) (tgt := 24) (by decide +kernel) (by decide) ?_
    refine g_run hx [(.iadd, 0, 0), (.istore 4, 0, 0), (.iload 4, 0, 0), (.iconst 0, 0, 0), (.aload_n 0, 0, 0), (.iconst 0, 0, 0), (.iaload, 0, 0), (.iconst 1, 1, 0), (.isub, 0, 0)] (pc' := 35) (lo' := [some (.ref 69), some (.ref 75), some (.int v2), some (.int v3), some (.int ((gA σ 75 60) + (gA σ 69 (9 + v2))))]) (st' := [.int ((gA σ 69 0) - 1), .int 0, .int ((gA σ 75 60) + (gA σ 69 (9 + v2)))]) (σ' := σ) (by decide +kernel) rfl rfl ?_
    refine g_callS (rest := []) [.int ((gA σ 75 60) + (gA σ 69 (9 + v2))), .int 0, .int ((gA σ 69 0) - 1)] hx hc mk_m_in ln_10_156 (by decide +kernel) (by decide) (Nat.le_of_ble_eq_true rfl) (s_m_in (ok_b h)) (fun r2 s2 h => ?_)
    refine g_ifb_eq hx (off := 15) (tgt := 53) (by decide +kernel) (by decide) (fun c38 => ?_) (fun c38 => ?_)
    · have h := ok_f h c38
      refine g_run hx [(.bipush (-2), (-2), 0)] (pc' := 55) (lo' := [some (.ref 69), some (.ref 75), some (.int v2), some (.int v3), some (.int ((gA σ 75 60) + (gA σ 69 (9 + v2))))]) (st' := [.int (-2)]) (σ' := s2) (by decide +kernel) rfl rfl ?_
      exact g_iret hx hr rfl _ rfl (by decide +kernel) (ok_some h)
    · have h := ok_t h c38
      refine g_run hx [(.aload_n 1, 0, 0), (.iload 4, 0, 0)] (pc' := 44) (lo' := [some (.ref 69), some (.ref 75), some (.int v2), some (.int v3), some (.int ((gA σ 75 60) + (gA σ 69 (9 + v2))))]) (st' := [.int ((gA σ 75 60) + (gA σ 69 (9 + v2))), .ref 75]) (σ' := s2) (by decide +kernel) rfl rfl ?_
      obtain ⟨c44, h⟩ := ok_g h
      refine g_iald hx (by decide +kernel) (i := 75) (n := 63) rfl c44 ?_
      refine g_if_ne hx (off := 8) (tgt := 53) (by decide +kernel) (by decide) (fun c45 => ?_) (fun c45 => ?_)
      · have h := ok_f h c45
        refine g_run hx [(.bipush (-2), (-2), 0)] (pc' := 55) (lo' := [some (.ref 69), some (.ref 75), some (.int v2), some (.int v3), some (.int ((gA σ 75 60) + (gA σ 69 (9 + v2))))]) (st' := [.int (-2)]) (σ' := s2) (by decide +kernel) rfl rfl ?_
        exact g_iret hx hr rfl _ rfl (by decide +kernel) (ok_some h)
      · have h := ok_t h c45
        refine g_run hx [(.iload 4, 0, 0)] (pc' := 50) (lo' := [some (.ref 69), some (.ref 75), some (.int v2), some (.int v3), some (.int ((gA σ 75 60) + (gA σ 69 (9 + v2))))]) (st' := [.int ((gA σ 75 60) + (gA σ 69 (9 + v2)))]) (σ' := s2) (by decide +kernel) rfl rfl ?_
        refine g_goto hx (off := 5) (tgt := 55) (by decide +kernel) (by decide) ?_
        exact g_iret hx hr rfl _ rfl (by decide +kernel) (ok_some h)
def f_m_strideOn_L62 (N : Nat) (a0 : Nat) (a1 : Nat) (a2 : Nat) (a3 : Nat) : Nat → Int32 → Int32 → Int32 → Sg → Option (Bool × Sg)
  | 0, _, _, _, _ => none
  | n + 1, v4, v6, v7, σ =>
    if v6 ≤ v7 then
      some (true, sA σ a0 60 v4)
    else
      if vin v7 a1 then
      if (gA σ a0 v7) = 0 then
        if vin (129 + v7) a2 then
        if vin v7 a1 then
        f_m_strideOn_L62 N a0 a1 a2 a3 n v4 v6 (v7 + 1) (sA σ a0 v7 ((gA σ a3 (129 + v7)) + 1))
        else none
        else none
      else
        f_m_strideOn_L62 N a0 a1 a2 a3 n v4 v6 (v7 + 1) σ
      else none
def f_m_strideOn (N : Nat) (a0 : Nat) (a1 : Nat) (a2 : Nat) (a3 : Nat) (v2 : Int32) (v3 : Int32) (σ : Sg) : Option (Bool × Sg) :=
  (f_m_leadOf N a2 a0 a3 a1 v2 v3 σ).bind fun q1 =>
  if 0 ≤ q1.1 then
    if (gA q1.2 a0 60) ≤ q1.1 then
      if (gA q1.2 a0 60) ≤ q1.1 then
        f_m_strideOn_L62 N a0 a1 a2 a3 N q1.1 q1.1 ((gA q1.2 a0 60) + 1) q1.2
      else
        f_m_strideOn_L62 N a0 a1 a2 a3 N q1.1 (gA q1.2 a0 60) ((gA q1.2 a0 60) + 1) q1.2
    else
      if (gA q1.2 a0 60) ≤ q1.1 then
        f_m_strideOn_L62 N a0 a1 a2 a3 N q1.1 q1.1 (q1.1 + 1) q1.2
      else
        f_m_strideOn_L62 N a0 a1 a2 a3 N q1.1 (gA q1.2 a0 60) (q1.1 + 1) q1.2
  else
    some (false, q1.2)
set_option maxRecDepth 100000 in
theorem s_m_strideOn_69_75_L62 {y : EX} {N : Nat} {x : CX} {P : Bool × Sg → Prop} (hx : Cx 10 prog_12_method_45_code x) (hc : Cc y 8 2 x) (hr : Cr M_m_strideOn rvB P x) : ∀ (n : Nat) (v4 : Int32) (v6 : Int32) (v7 : Int32) (σ : Sg), ok (f_m_strideOn_L62 N 75 63 189 69 n v4 v6 v7 σ) P → G x 62 [some (.ref 69), some (.ref 75), none, none, some (.int v4), none, some (.int v6), some (.int v7)] [] σ := by
  intro n
  induction n with
  | zero => intro v4 v6 v7 σ h; exact ok_none h
  | succ n ih =>
    intro v4 v6 v7 σ h
    rw [f_m_strideOn_L62] at h
    refine g_run hx [(.iload 7, 0, 0), (.iload 6, 0, 0)] (pc' := 66) (lo' := [some (.ref 69), some (.ref 75), none, none, some (.int v4), none, some (.int v6), some (.int v7)]) (st' := [.int v6, .int v7]) (σ' := σ) (by decide +kernel) rfl rfl ?_
    refine g_ic_ge hx (off := 30) (tgt := 96) (by decide +kernel) (by decide) (fun c66 => ?_) (fun c66 => ?_)
    · have h := ok_t h c66
      refine g_run hx [(.aload_n 1, 0, 0), (.bipush 60, 60, 0), (.iload 4, 0, 0), (.iastore, 0, 0), (.iconst 1, 1, 0)] (pc' := 103) (lo' := [some (.ref 69), some (.ref 75), none, none, some (.int v4), none, some (.int v6), some (.int v7)]) (st' := [.int 1]) (σ' := sA σ 75 60 v4) (by decide +kernel) rfl rfl ?_
      exact g_zret (b := true) hx hr rfl true rfl (by decide +kernel) (ok_some h)
    · have h := ok_f h c66
      refine g_run hx [(.aload_n 1, 0, 0), (.iload 7, 0, 0)] (pc' := 72) (lo' := [some (.ref 69), some (.ref 75), none, none, some (.int v4), none, some (.int v6), some (.int v7)]) (st' := [.int v7, .ref 75]) (σ' := σ) (by decide +kernel) rfl rfl ?_
      obtain ⟨c72, h⟩ := ok_g h
      refine g_iald hx (by decide +kernel) (i := 75) (n := 63) rfl c72 ?_
      refine g_if_ne hx (off := 17) (tgt := 90) (by decide +kernel) (by decide) (fun c73 => ?_) (fun c73 => ?_)
      · have h := ok_f h c73
        refine g_run hx [(.iinc 7 1, 1, 0)] (pc' := 93) (lo' := [some (.ref 69), some (.ref 75), none, none, some (.int v4), none, some (.int v6), some (.int (v7 + 1))]) (st' := []) (σ' := σ) (by decide +kernel) rfl rfl ?_
        refine g_goto hx (off := (-31)) (tgt := 62) (by decide +kernel) (by decide) ?_
        exact ih _ _ _ _ h
      · have h := ok_t h c73
        refine g_run hx [(.aload_n 1, 0, 0), (.iload 7, 0, 0), (.aload_n 0, 0, 0), (.sipush 129, 129, 0), (.iload 7, 0, 0), (.iadd, 0, 0)] (pc' := 86) (lo' := [some (.ref 69), some (.ref 75), none, none, some (.int v4), none, some (.int v6), some (.int v7)]) (st' := [.int (129 + v7), .ref 69, .int v7, .ref 75]) (σ' := σ) (by decide +kernel) rfl rfl ?_
        obtain ⟨c86, h⟩ := ok_g h
        refine g_iald hx (by decide +kernel) (i := 69) (n := 189) rfl c86 ?_
        refine g_run hx [(.iconst 1, 1, 0), (.iadd, 0, 0)] (pc' := 89) (lo' := [some (.ref 69), some (.ref 75), none, none, some (.int v4), none, some (.int v6), some (.int v7)]) (st' := [.int ((gA σ 69 (129 + v7)) + 1), .int v7, .ref 75]) (σ' := σ) (by decide +kernel) rfl rfl ?_
        obtain ⟨c89, h⟩ := ok_g h
        refine g_iast hx (by decide +kernel) (i := 75) (n := 63) rfl c89 ?_
        refine g_run hx [(.iinc 7 1, 1, 0)] (pc' := 93) (lo' := [some (.ref 69), some (.ref 75), none, none, some (.int v4), none, some (.int v6), some (.int (v7 + 1))]) (st' := []) (σ' := sA σ 75 v7 ((gA σ 69 (129 + v7)) + 1)) (by decide +kernel) rfl rfl ?_
        refine g_goto hx (off := (-31)) (tgt := 62) (by decide +kernel) (by decide) ?_
        exact ih _ _ _ _ h
set_option maxRecDepth 100000 in
theorem s_m_strideOn_69_75 {y : EX} {N : Nat} {v2 : Int32} {v3 : Int32} {σ : Sg} {P : Bool × Sg → Prop} (h : ok (f_m_strideOn N 75 63 189 69 v2 v3 σ) P) : Ev y M_m_strideOn 2 [.ref 69, .ref 75, .int v2, .int v3] σ rvB P := by
  refine Ev.of mk_m_strideOn (Nat.le_of_ble_eq_true rfl) (fun x hx hc hr => ?_)
  have hx : Cx 10 prog_12_method_45_code x := hx
  have hc : Cc y 8 2 x := hc
  show G x 0 [some (.ref 69), some (.ref 75), some (.int v2), some (.int v3), none, none, none, none] [] σ
  unfold f_m_strideOn at h
  refine g_run hx [(.aload_n 0, 0, 0), (.aload_n 1, 0, 0), (.iload_n 2, 0, 0), (.iload_n 3, 0, 0)] (pc' := 4) (lo' := [some (.ref 69), some (.ref 75), some (.int v2), some (.int v3), none, none, none, none]) (st' := [.int v3, .int v2, .ref 75, .ref 69]) (σ' := σ) (by decide +kernel) rfl rfl ?_
  refine g_callS (rest := []) [.ref 69, .ref 75, .int v2, .int v3] hx hc mk_m_leadOf ln_10_265 (by decide +kernel) (by decide) (Nat.le_of_ble_eq_true rfl) (s_m_leadOf_69_75 (ok_b h)) (fun r1 s1 h => ?_)
  refine g_run hx [(.istore 4, 0, 0), (.iload 4, 0, 0)] (pc' := 11) (lo' := [some (.ref 69), some (.ref 75), some (.int v2), some (.int v3), some (.int r1), none, none, none]) (st' := [.int r1]) (σ' := s1) (by decide +kernel) rfl rfl ?_
  refine g_if_ge hx (off := 5) (tgt := 16) (by decide +kernel) (by decide) (fun c11 => ?_) (fun c11 => ?_)
  · have h := ok_t h c11
    refine g_run hx [(.iload 4, 0, 0), (.aload_n 1, 0, 0), (.bipush 60, 60, 0), (.iaload, 0, 0)] (pc' := 22) (lo' := [some (.ref 69), some (.ref 75), some (.int v2), some (.int v3), some (.int r1), none, none, none]) (st' := [.int (gA s1 75 60), .int r1]) (σ' := s1) (by decide +kernel) rfl rfl ?_
    refine g_ic_ge hx (off := 8) (tgt := 30) (by decide +kernel) (by decide) (fun c22 => ?_) (fun c22 => ?_)
    · have h := ok_t h c22
      refine g_run hx [(.aload_n 1, 0, 0), (.bipush 60, 60, 0), (.iaload, 0, 0), (.istore 5, 0, 0), (.iload 4, 0, 0), (.aload_n 1, 0, 0), (.bipush 60, 60, 0), (.iaload, 0, 0)] (pc' := 42) (lo' := [some (.ref 69), some (.ref 75), some (.int v2), some (.int v3), some (.int r1), some (.int (gA s1 75 60)), none, none]) (st' := [.int (gA s1 75 60), .int r1]) (σ' := s1) (by decide +kernel) rfl rfl ?_
      refine g_ic_ge hx (off := 10) (tgt := 52) (by decide +kernel) (by decide) (fun c42 => ?_) (fun c42 => ?_)
      · have h := ok_t h c42
        refine g_run hx [(.iload 4, 0, 0), (.istore 6, 0, 0), (.iload 5, 0, 0), (.iconst 1, 1, 0), (.iadd, 0, 0), (.istore 7, 0, 0)] (pc' := 62) (lo' := [some (.ref 69), some (.ref 75), some (.int v2), some (.int v3), some (.int r1), some (.int (gA s1 75 60)), some (.int r1), some (.int ((gA s1 75 60) + 1))]) (st' := []) (σ' := s1) (by decide +kernel) rfl rfl ?_
        refine g_wk (lo' := [some (.ref 69), some (.ref 75), none, none, some (.int r1), none, some (.int r1), some (.int ((gA s1 75 60) + 1))]) ⟨rfl, ⟨rfl, ⟨rfl, ⟨rfl, ⟨rfl, trivial⟩⟩⟩⟩⟩ ?_
        refine s_m_strideOn_69_75_L62 hx hc hr N _ _ _ _ h
      · have h := ok_f h c42
        refine g_run hx [(.aload_n 1, 0, 0), (.bipush 60, 60, 0), (.iaload, 0, 0)] (pc' := 49) (lo' := [some (.ref 69), some (.ref 75), some (.int v2), some (.int v3), some (.int r1), some (.int (gA s1 75 60)), none, none]) (st' := [.int (gA s1 75 60)]) (σ' := s1) (by decide +kernel) rfl rfl ?_
        refine g_goto hx (off := 5) (tgt := 54) (by decide +kernel) (by decide) ?_
        refine g_run hx [(.istore 6, 0, 0), (.iload 5, 0, 0), (.iconst 1, 1, 0), (.iadd, 0, 0), (.istore 7, 0, 0)] (pc' := 62) (lo' := [some (.ref 69), some (.ref 75), some (.int v2), some (.int v3), some (.int r1), some (.int (gA s1 75 60)), some (.int (gA s1 75 60)), some (.int ((gA s1 75 60) + 1))]) (st' := []) (σ' := s1) (by decide +kernel) rfl rfl ?_
        refine g_wk (lo' := [some (.ref 69), some (.ref 75), none, none, some (.int r1), none, some (.int (gA s1 75 60)), some (.int ((gA s1 75 60) + 1))]) ⟨rfl, ⟨rfl, ⟨rfl, ⟨rfl, ⟨rfl, trivial⟩⟩⟩⟩⟩ ?_
        refine s_m_strideOn_69_75_L62 hx hc hr N _ _ _ _ h
    · have h := ok_f h c22
      refine g_run hx [(.iload 4, 0, 0)] (pc' := 27) (lo' := [some (.ref 69), some (.ref 75), some (.int v2), some (.int v3), some (.int r1), none, none, none]) (st' := [.int r1]) (σ' := s1) (by decide +kernel) rfl rfl ?_
      refine g_goto hx (off := 7) (tgt := 34) (by decide +kernel) (by decide) ?_
      refine g_run hx [(.istore 5, 0, 0), (.iload 4, 0, 0), (.aload_n 1, 0, 0), (.bipush 60, 60, 0), (.iaload, 0, 0)] (pc' := 42) (lo' := [some (.ref 69), some (.ref 75), some (.int v2), some (.int v3), some (.int r1), some (.int r1), none, none]) (st' := [.int (gA s1 75 60), .int r1]) (σ' := s1) (by decide +kernel) rfl rfl ?_
      refine g_ic_ge hx (off := 10) (tgt := 52) (by decide +kernel) (by decide) (fun c42 => ?_) (fun c42 => ?_)
      · have h := ok_t h c42
        refine g_run hx [(.iload 4, 0, 0), (.istore 6, 0, 0), (.iload 5, 0, 0), (.iconst 1, 1, 0), (.iadd, 0, 0), (.istore 7, 0, 0)] (pc' := 62) (lo' := [some (.ref 69), some (.ref 75), some (.int v2), some (.int v3), some (.int r1), some (.int r1), some (.int r1), some (.int (r1 + 1))]) (st' := []) (σ' := s1) (by decide +kernel) rfl rfl ?_
        refine g_wk (lo' := [some (.ref 69), some (.ref 75), none, none, some (.int r1), none, some (.int r1), some (.int (r1 + 1))]) ⟨rfl, ⟨rfl, ⟨rfl, ⟨rfl, ⟨rfl, trivial⟩⟩⟩⟩⟩ ?_
        refine s_m_strideOn_69_75_L62 hx hc hr N _ _ _ _ h
      · have h := ok_f h c42
        refine g_run hx [(.aload_n 1, 0, 0), (.bipush 60, 60, 0), (.iaload, 0, 0)] (pc' := 49) (lo' := [some (.ref 69), some (.ref 75), some (.int v2), some (.int v3), some (.int r1), some (.int r1), none, none]) (st' := [.int (gA s1 75 60)]) (σ' := s1) (by decide +kernel) rfl rfl ?_
        refine g_goto hx (off := 5) (tgt := 54) (by decide +kernel) (by decide) ?_
        refine g_run hx [(.istore 6, 0, 0), (.iload 5, 0, 0), (.iconst 1, 1, 0), (.iadd, 0, 0), (.istore 7, 0, 0)] (pc' := 62) (lo' := [some (.ref 69), some (.ref 75), some (.int v2), some (.int v3), some (.int r1), some (.int r1), some (.int (gA s1 75 60)), some (.int (r1 + 1))]) (st' := []) (σ' := s1) (by decide +kernel) rfl rfl ?_
        refine g_wk (lo' := [some (.ref 69), some (.ref 75), none, none, some (.int r1), none, some (.int (gA s1 75 60)), some (.int (r1 + 1))]) ⟨rfl, ⟨rfl, ⟨rfl, ⟨rfl, ⟨rfl, trivial⟩⟩⟩⟩⟩ ?_
        refine s_m_strideOn_69_75_L62 hx hc hr N _ _ _ _ h
  · have h := ok_f h c11
    refine g_run hx [(.iconst 0, 0, 0)] (pc' := 15) (lo' := [some (.ref 69), some (.ref 75), some (.int v2), some (.int v3), some (.int r1), none, none, none]) (st' := [.int 0]) (σ' := s1) (by decide +kernel) rfl rfl ?_
    exact g_zret (b := false) hx hr rfl false rfl (by decide +kernel) (ok_some h)
def f_m_wrongBy_L40 (N : Nat) : Nat → Int32 → Int32 → Int32 → Int32 → Sg → (Int32 → Int32 → Int32 → Sg → Option (Int32 × Sg)) → Option (Int32 × Sg)
  | 0, _, _, _, _, _, _ => none
  | n + 1, v1, v2, v3, v4, σ, k86 =>
    if (gA σ 69 5) ≤ v4 then
      k86 v1 v2 v3 σ
    else
      (f_m_hasBit N v1 v4 σ).bind fun q2 =>
      if q2.1 = true then
        if vin (32 + v4) 189 then
        if (gA q2.2 69 (32 + v4)) = (v2 + 1) then
          f_m_wrongBy_L40 N n v1 v2 (v3 ^^^ 1) (v4 + 1) q2.2 k86
        else
          f_m_wrongBy_L40 N n v1 v2 v3 (v4 + 1) q2.2 k86
        else none
      else
        f_m_wrongBy_L40 N n v1 v2 v3 (v4 + 1) q2.2 k86
def f_m_wrongBy_L17 (N : Nat) : Nat → Int32 → Int32 → Sg → (Sg → Option (Int32 × Sg)) → Option (Int32 × Sg)
  | 0, _, _, _, _ => none
  | n + 1, v1, v2, σ, k116 =>
    if (gA σ 69 4) ≤ v2 then
      k116 σ
    else
      if vin (24 + v2) 189 then
      f_m_wrongBy_L40 N N v1 v2 (gA σ 69 (24 + v2)) 0 σ
        (fun (w1 : Int32) (w2 : Int32) (w3 : Int32) (t3 : Sg) =>
          (f_m_strideOn N 75 63 189 69 (w3 / 2) (w3 - w3 / 2 * 2) t3).bind fun q4 =>
          if q4.1 = true then
            f_m_wrongBy_L17 N n w1 (w2 + 1) q4.2 k116
          else
            some (100000000, q4.2))
      else none
def f_m_wrongBy_L118 (N : Nat) : Nat → Int32 → Sg → Option (Int32 × Sg)
  | 0, _, _ => none
  | n + 1, v2, σ =>
    if (gA σ 69 6) ≤ v2 then
      some ((-2), σ)
    else
      if vin (36 + (2 * v2)) 189 then
      if vin (gA σ 69 (36 + (2 * v2))) 63 then
      if (gA σ 75 (gA σ 69 (36 + (2 * v2)))) ≤ 0 then
        if vin ((36 + (2 * v2)) + 1) 189 then
        if 0 = (gA σ 69 ((36 + (2 * v2)) + 1)) then
          f_m_wrongBy_L118 N n (v2 + 1) σ
        else
          some (v2, σ)
        else none
      else
        if vin ((36 + (2 * v2)) + 1) 189 then
        if 1 = (gA σ 69 ((36 + (2 * v2)) + 1)) then
          f_m_wrongBy_L118 N n (v2 + 1) σ
        else
          some (v2, σ)
        else none
      else none
      else none
def f_m_wrongBy (N : Nat) (v1 : Int32) (σ : Sg) : Option (Int32 × Sg) :=
  (f_m_copy N 63 63 75 71 0 0 63 σ).bind fun q1 =>
  f_m_wrongBy_L17 N N v1 0 q1.2
    (fun (t5 : Sg) =>
      f_m_wrongBy_L118 N N 0 t5)
set_option maxRecDepth 100000 in
theorem s_m_wrongBy_L40 {y : EX} {N : Nat} {x : CX} {P : Int32 × Sg → Prop} (hx : Cx 10 prog_12_method_100_code x) (hc : Cc y 5 3 x) (hr : Cr M_m_wrongBy rvI P x) : ∀ (n : Nat) (v1 : Int32) (v2 : Int32) (v3 : Int32) (v4 : Int32) (σ : Sg) (k86 : Int32 → Int32 → Int32 → Sg → Option (Int32 × Sg)) (hk86 : ∀ (w1 : Int32) (w2 : Int32) (w3 : Int32) (t : Sg), ok (k86 w1 w2 w3 t) P → G x 86 [some (.ref 66), some (.int w1), some (.int w2), some (.int w3), none] [] t), ok (f_m_wrongBy_L40 N n v1 v2 v3 v4 σ k86) P → G x 40 [some (.ref 66), some (.int v1), some (.int v2), some (.int v3), some (.int v4)] [] σ := by
  intro n
  induction n with
  | zero => intro v1 v2 v3 v4 σ k86 hk86 h; exact ok_none h
  | succ n ih =>
    intro v1 v2 v3 v4 σ k86 hk86 h
    rw [f_m_wrongBy_L40] at h
    refine g_run hx [(.iload 4, 0, 0), (.aload_n 0, 0, 0), (.getfield 20, 0, 0), (.iconst 5, 5, 0), (.iaload, 0, 0)] (pc' := 48) (lo' := [some (.ref 66), some (.int v1), some (.int v2), some (.int v3), some (.int v4)]) (st' := [.int (gA σ 69 5), .int v4]) (σ' := σ) (by decide +kernel) rfl rfl ?_
    refine g_ic_ge hx (off := 38) (tgt := 86) (by decide +kernel) (by decide) (fun c48 => ?_) (fun c48 => ?_)
    · have h := ok_t h c48
      refine g_wk (lo' := [some (.ref 66), some (.int v1), some (.int v2), some (.int v3), none]) ⟨rfl, ⟨rfl, ⟨rfl, ⟨rfl, trivial⟩⟩⟩⟩ ?_
      exact hk86 _ _ _ _ h
    · have h := ok_f h c48
      refine g_run hx [(.iload_n 1, 0, 0), (.iload 4, 0, 0)] (pc' := 54) (lo' := [some (.ref 66), some (.int v1), some (.int v2), some (.int v3), some (.int v4)]) (st' := [.int v4, .int v1]) (σ' := σ) (by decide +kernel) rfl rfl ?_
      refine g_callS (rest := []) [.int v1, .int v4] hx hc mk_m_hasBit ln_10_384 (by decide +kernel) (by decide) (Nat.le_of_ble_eq_true rfl) (s_m_hasBit (ok_b h)) (fun r2 s2 h => ?_)
      refine g_ifb_eq hx (off := 23) (tgt := 80) (by decide +kernel) (by decide) (fun c57 => ?_) (fun c57 => ?_)
      · have h := ok_f h c57
        refine g_run hx [(.iinc 4 1, 1, 0)] (pc' := 83) (lo' := [some (.ref 66), some (.int v1), some (.int v2), some (.int v3), some (.int (v4 + 1))]) (st' := []) (σ' := s2) (by decide +kernel) rfl rfl ?_
        refine g_goto hx (off := (-43)) (tgt := 40) (by decide +kernel) (by decide) ?_
        exact ih _ _ _ _ _ _ hk86 h
      · have h := ok_t h c57
        refine g_run hx [(.aload_n 0, 0, 0), (.getfield 20, 0, 0), (.bipush 32, 32, 0), (.iload 4, 0, 0), (.iadd, 0, 0)] (pc' := 69) (lo' := [some (.ref 66), some (.int v1), some (.int v2), some (.int v3), some (.int v4)]) (st' := [.int (32 + v4), .ref 69]) (σ' := s2) (by decide +kernel) rfl rfl ?_
        obtain ⟨c69, h⟩ := ok_g h
        refine g_iald hx (by decide +kernel) (i := 69) (n := 189) rfl c69 ?_
        refine g_run hx [(.iload_n 2, 0, 0), (.iconst 1, 1, 0), (.iadd, 0, 0)] (pc' := 73) (lo' := [some (.ref 66), some (.int v1), some (.int v2), some (.int v3), some (.int v4)]) (st' := [.int (v2 + 1), .int (gA s2 69 (32 + v4))]) (σ' := s2) (by decide +kernel) rfl rfl ?_
        refine g_ic_ne hx (off := 7) (tgt := 80) (by decide +kernel) (by decide) (fun c73 => ?_) (fun c73 => ?_)
        · have h := ok_f h c73
          refine g_run hx [(.iinc 4 1, 1, 0)] (pc' := 83) (lo' := [some (.ref 66), some (.int v1), some (.int v2), some (.int v3), some (.int (v4 + 1))]) (st' := []) (σ' := s2) (by decide +kernel) rfl rfl ?_
          refine g_goto hx (off := (-43)) (tgt := 40) (by decide +kernel) (by decide) ?_
          exact ih _ _ _ _ _ _ hk86 h
        · have h := ok_t h c73
          refine g_run hx [(.iload_n 3, 0, 0), (.iconst 1, 1, 0), (.ixor, 0, 0), (.istore_n 3, 0, 0), (.iinc 4 1, 1, 0)] (pc' := 83) (lo' := [some (.ref 66), some (.int v1), some (.int v2), some (.int (v3 ^^^ 1)), some (.int (v4 + 1))]) (st' := []) (σ' := s2) (by decide +kernel) rfl rfl ?_
          refine g_goto hx (off := (-43)) (tgt := 40) (by decide +kernel) (by decide) ?_
          exact ih _ _ _ _ _ _ hk86 h
set_option maxRecDepth 100000 in
theorem s_m_wrongBy_L17 {y : EX} {N : Nat} {x : CX} {P : Int32 × Sg → Prop} (hx : Cx 10 prog_12_method_100_code x) (hc : Cc y 5 3 x) (hr : Cr M_m_wrongBy rvI P x) : ∀ (n : Nat) (v1 : Int32) (v2 : Int32) (σ : Sg) (k116 : Sg → Option (Int32 × Sg)) (hk116 : ∀ (t : Sg), ok (k116 t) P → G x 116 [some (.ref 66), none, none, none, none] [] t), ok (f_m_wrongBy_L17 N n v1 v2 σ k116) P → G x 17 [some (.ref 66), some (.int v1), some (.int v2), none, none] [] σ := by
  intro n
  induction n with
  | zero => intro v1 v2 σ k116 hk116 h; exact ok_none h
  | succ n ih =>
    intro v1 v2 σ k116 hk116 h
    rw [f_m_wrongBy_L17] at h
    refine g_run hx [(.iload_n 2, 0, 0), (.aload_n 0, 0, 0), (.getfield 20, 0, 0), (.iconst 4, 4, 0), (.iaload, 0, 0)] (pc' := 24) (lo' := [some (.ref 66), some (.int v1), some (.int v2), none, none]) (st' := [.int (gA σ 69 4), .int v2]) (σ' := σ) (by decide +kernel) rfl rfl ?_
    refine g_ic_ge hx (off := 92) (tgt := 116) (by decide +kernel) (by decide) (fun c24 => ?_) (fun c24 => ?_)
    · have h := ok_t h c24
      refine g_wk (lo' := [some (.ref 66), none, none, none, none]) ⟨rfl, trivial⟩ ?_
      exact hk116 _ h
    · have h := ok_f h c24
      refine g_run hx [(.aload_n 0, 0, 0), (.getfield 20, 0, 0), (.bipush 24, 24, 0), (.iload_n 2, 0, 0), (.iadd, 0, 0)] (pc' := 35) (lo' := [some (.ref 66), some (.int v1), some (.int v2), none, none]) (st' := [.int (24 + v2), .ref 69]) (σ' := σ) (by decide +kernel) rfl rfl ?_
      obtain ⟨c35, h⟩ := ok_g h
      refine g_iald hx (by decide +kernel) (i := 69) (n := 189) rfl c35 ?_
      refine g_run hx [(.istore_n 3, 0, 0), (.iconst 0, 0, 0), (.istore 4, 0, 0)] (pc' := 40) (lo' := [some (.ref 66), some (.int v1), some (.int v2), some (.int (gA σ 69 (24 + v2))), some (.int 0)]) (st' := []) (σ' := σ) (by decide +kernel) rfl rfl ?_
      refine s_m_wrongBy_L40 hx hc hr N _ _ _ _ _ _ (fun w1 w2 w3 t3 h => ?_) h
      refine g_run hx [(.aload_n 0, 0, 0), (.getfield 20, 0, 0), (.aload_n 0, 0, 0), (.getfield 38, 0, 0), (.iload_n 3, 0, 0), (.iconst 2, 2, 0), (.idiv, 0, 0), (.iload_n 3, 0, 0), (.iconst 2, 2, 0), (.irem, 0, 0)] (pc' := 100) (lo' := [some (.ref 66), some (.int w1), some (.int w2), some (.int w3), none]) (st' := [.int (w3 - w3 / 2 * 2), .int (w3 / 2), .ref 75, .ref 69]) (σ' := t3) (by decide +kernel) rfl rfl ?_
      refine g_callS (rest := []) [.ref 69, .ref 75, .int (w3 / 2), .int (w3 - w3 / 2 * 2)] hx hc mk_m_strideOn ln_10_253 (by decide +kernel) (by decide) (Nat.le_of_ble_eq_true rfl) (s_m_strideOn_69_75 (ok_b h)) (fun r4 s4 h => ?_)
      refine g_ifb_ne hx (off := 7) (tgt := 110) (by decide +kernel) (by decide) (fun c103 => ?_) (fun c103 => ?_)
      · have h := ok_t h c103
        refine g_run hx [(.iinc 2 1, 1, 0)] (pc' := 113) (lo' := [some (.ref 66), some (.int w1), some (.int (w2 + 1)), some (.int w3), none]) (st' := []) (σ' := s4) (by decide +kernel) rfl rfl ?_
        refine g_goto hx (off := (-96)) (tgt := 17) (by decide +kernel) (by decide) ?_
        refine g_wk (lo' := [some (.ref 66), some (.int w1), some (.int (w2 + 1)), none, none]) ⟨rfl, ⟨rfl, ⟨rfl, trivial⟩⟩⟩ ?_
        exact ih _ _ _ _ hk116 h
      · have h := ok_f h c103
        refine g_run hx [(.ldc_w 313, 100000000, 0)] (pc' := 109) (lo' := [some (.ref 66), some (.int w1), some (.int w2), some (.int w3), none]) (st' := [.int 100000000]) (σ' := s4) (by decide +kernel) rfl rfl ?_
        exact g_iret hx hr rfl _ rfl (by decide +kernel) (ok_some h)
set_option maxRecDepth 100000 in
theorem s_m_wrongBy_L118 {y : EX} {N : Nat} {x : CX} {P : Int32 × Sg → Prop} (hx : Cx 10 prog_12_method_100_code x) (hc : Cc y 5 3 x) (hr : Cr M_m_wrongBy rvI P x) : ∀ (n : Nat) (v2 : Int32) (σ : Sg), ok (f_m_wrongBy_L118 N n v2 σ) P → G x 118 [some (.ref 66), none, some (.int v2), none, none] [] σ := by
  intro n
  induction n with
  | zero => intro v2 σ h; exact ok_none h
  | succ n ih =>
    intro v2 σ h
    rw [f_m_wrongBy_L118] at h
    refine g_run hx [(.iload_n 2, 0, 0), (.aload_n 0, 0, 0), (.getfield 20, 0, 0), (.bipush 6, 6, 0), (.iaload, 0, 0)] (pc' := 126) (lo' := [some (.ref 66), none, some (.int v2), none, none]) (st' := [.int (gA σ 69 6), .int v2]) (σ' := σ) (by decide +kernel) rfl rfl ?_
    refine g_ic_ge hx (off := 51) (tgt := 177) (by decide +kernel) (by decide) (fun c126 => ?_) (fun c126 => ?_)
    · have h := ok_t h c126
      refine g_run hx [(.bipush (-2), (-2), 0)] (pc' := 179) (lo' := [some (.ref 66), none, some (.int v2), none, none]) (st' := [.int (-2)]) (σ' := σ) (by decide +kernel) rfl rfl ?_
      exact g_iret hx hr rfl _ rfl (by decide +kernel) (ok_some h)
    · have h := ok_f h c126
      refine g_run hx [(.aload_n 0, 0, 0), (.getfield 38, 0, 0), (.aload_n 0, 0, 0), (.getfield 20, 0, 0), (.bipush 36, 36, 0), (.iconst 2, 2, 0), (.iload_n 2, 0, 0), (.imul, 0, 0), (.iadd, 0, 0)] (pc' := 143) (lo' := [some (.ref 66), none, some (.int v2), none, none]) (st' := [.int (36 + (2 * v2)), .ref 69, .ref 75]) (σ' := σ) (by decide +kernel) rfl rfl ?_
      obtain ⟨c143, h⟩ := ok_g h
      refine g_iald hx (by decide +kernel) (i := 69) (n := 189) rfl c143 ?_
      obtain ⟨c144, h⟩ := ok_g h
      refine g_iald hx (by decide +kernel) (i := 75) (n := 63) rfl c144 ?_
      refine g_if_le hx (off := 7) (tgt := 152) (by decide +kernel) (by decide) (fun c145 => ?_) (fun c145 => ?_)
      · have h := ok_t h c145
        refine g_run hx [(.iconst 0, 0, 0), (.aload_n 0, 0, 0), (.getfield 20, 0, 0), (.bipush 36, 36, 0), (.iconst 2, 2, 0), (.iload_n 2, 0, 0), (.imul, 0, 0), (.iadd, 0, 0), (.iconst 1, 1, 0), (.iadd, 0, 0)] (pc' := 165) (lo' := [some (.ref 66), none, some (.int v2), none, none]) (st' := [.int ((36 + (2 * v2)) + 1), .ref 69, .int 0]) (σ' := σ) (by decide +kernel) rfl rfl ?_
        obtain ⟨c165, h⟩ := ok_g h
        refine g_iald hx (by decide +kernel) (i := 69) (n := 189) rfl c165 ?_
        refine g_ic_eq hx (off := 5) (tgt := 171) (by decide +kernel) (by decide) (fun c166 => ?_) (fun c166 => ?_)
        · have h := ok_t h c166
          refine g_run hx [(.iinc 2 1, 1, 0)] (pc' := 174) (lo' := [some (.ref 66), none, some (.int (v2 + 1)), none, none]) (st' := []) (σ' := σ) (by decide +kernel) rfl rfl ?_
          refine g_goto hx (off := (-56)) (tgt := 118) (by decide +kernel) (by decide) ?_
          exact ih _ _ h
        · have h := ok_f h c166
          refine g_run hx [(.iload_n 2, 0, 0)] (pc' := 170) (lo' := [some (.ref 66), none, some (.int v2), none, none]) (st' := [.int v2]) (σ' := σ) (by decide +kernel) rfl rfl ?_
          exact g_iret hx hr rfl _ rfl (by decide +kernel) (ok_some h)
      · have h := ok_f h c145
        refine g_run hx [(.iconst 1, 1, 0)] (pc' := 149) (lo' := [some (.ref 66), none, some (.int v2), none, none]) (st' := [.int 1]) (σ' := σ) (by decide +kernel) rfl rfl ?_
        refine g_goto hx (off := 4) (tgt := 153) (by decide +kernel) (by decide) ?_
        refine g_run hx [(.aload_n 0, 0, 0), (.getfield 20, 0, 0), (.bipush 36, 36, 0), (.iconst 2, 2, 0), (.iload_n 2, 0, 0), (.imul, 0, 0), (.iadd, 0, 0), (.iconst 1, 1, 0), (.iadd, 0, 0)] (pc' := 165) (lo' := [some (.ref 66), none, some (.int v2), none, none]) (st' := [.int ((36 + (2 * v2)) + 1), .ref 69, .int 1]) (σ' := σ) (by decide +kernel) rfl rfl ?_
        obtain ⟨c165, h⟩ := ok_g h
        refine g_iald hx (by decide +kernel) (i := 69) (n := 189) rfl c165 ?_
        refine g_ic_eq hx (off := 5) (tgt := 171) (by decide +kernel) (by decide) (fun c166 => ?_) (fun c166 => ?_)
        · have h := ok_t h c166
          refine g_run hx [(.iinc 2 1, 1, 0)] (pc' := 174) (lo' := [some (.ref 66), none, some (.int (v2 + 1)), none, none]) (st' := []) (σ' := σ) (by decide +kernel) rfl rfl ?_
          refine g_goto hx (off := (-56)) (tgt := 118) (by decide +kernel) (by decide) ?_
          exact ih _ _ h
        · have h := ok_f h c166
          refine g_run hx [(.iload_n 2, 0, 0)] (pc' := 170) (lo' := [some (.ref 66), none, some (.int v2), none, none]) (st' := [.int v2]) (σ' := σ) (by decide +kernel) rfl rfl ?_
          exact g_iret hx hr rfl _ rfl (by decide +kernel) (ok_some h)
set_option maxRecDepth 100000 in
theorem s_m_wrongBy {y : EX} {N : Nat} {v1 : Int32} {σ : Sg} {P : Int32 × Sg → Prop} (h : ok (f_m_wrongBy N v1 σ) P) : Ev y M_m_wrongBy 3 [.ref 66, .int v1] σ rvI P := by
  refine Ev.of mk_m_wrongBy (Nat.le_of_ble_eq_true rfl) (fun x hx hc hr => ?_)
  have hx : Cx 10 prog_12_method_100_code x := hx
  have hc : Cc y 5 3 x := hc
  show G x 0 [some (.ref 66), some (.int v1), none, none, none] [] σ
  unfold f_m_wrongBy at h
  refine g_run hx [(.aload_n 0, 0, 0), (.getfield 26, 0, 0), (.iconst 0, 0, 0), (.aload_n 0, 0, 0), (.getfield 38, 0, 0), (.iconst 0, 0, 0), (.bipush 63, 63, 0)] (pc' := 12) (lo' := [some (.ref 66), some (.int v1), none, none, none]) (st' := [.int 63, .int 0, .ref 75, .int 0, .ref 71]) (σ' := σ) (by decide +kernel) rfl rfl ?_
  refine g_callS (rest := []) [.ref 71, .int 0, .ref 75, .int 0, .int 63] hx hc mk_m_copy ln_10_183 (by decide +kernel) (by decide) (Nat.le_of_ble_eq_true rfl) (s_m_copy_71_75 (ok_b h)) (fun r1 s1 h => ?_)
  refine g_run hx [(.iconst 0, 0, 0), (.istore_n 2, 0, 0)] (pc' := 17) (lo' := [some (.ref 66), some (.int v1), some (.int 0), none, none]) (st' := []) (σ' := s1) (by decide +kernel) rfl rfl ?_
  refine s_m_wrongBy_L17 hx hc hr N _ _ _ _ (fun t5 h => ?_) h
  refine g_run hx [(.iconst 0, 0, 0), (.istore_n 2, 0, 0)] (pc' := 118) (lo' := [some (.ref 66), none, some (.int 0), none, none]) (st' := []) (σ' := t5) (by decide +kernel) rfl rfl ?_
  refine s_m_wrongBy_L118 hx hc hr N _ _ h
def f_m_seekSets_L28 (N : Nat) : Nat → Int32 → Int32 → Int32 → Sg → (Int32 → Int32 → Sg → Option (Int32 × Sg)) → Option (Int32 × Sg)
  | 0, _, _, _, _, _ => none
  | n + 1, v1, v2, v3, σ, k46 =>
    if 4 ≤ v3 then
      k46 v1 v2 σ
    else
      if vin v3 4 then
      f_m_seekSets_L28 N n v1 v2 (v3 + 1) (sA σ 84 v3 0) k46
      else none
def f_m_seekSets_L116 (N : Nat) : Nat → Int32 → Int32 → Int32 → Int32 → Sg → (Int32 → Int32 → Int32 → Sg → Option (Int32 × Sg)) → Option (Int32 × Sg)
  | 0, _, _, _, _, _, _ => none
  | n + 1, v1, v2, v3, v4, σ, k149 =>
    if (gA σ 69 5) ≤ v4 then
      k149 v1 v2 v3 σ
    else
      if vin v4 4 then
      if vin v4 4 then
      f_m_seekSets_L116 N n v1 v2 v3 (v4 + 1) (sA σ 84 v4 ((gA σ 84 v4) + ((v3 >>> (v4 &&& 31)) &&& 1))) k149
      else none
      else none
def f_m_seekSets_L48 (N : Nat) : Nat → Int32 → Int32 → Int32 → Sg → Option (Int32 × Sg)
  | 0, _, _, _, _ => none
  | n + 1, v1, v2, v3, σ =>
    if (1 <<< ((gA σ 69 5) &&& 31)) ≤ v3 then
      if (gI σ 66 45) = 0 then
        some (v2, sI σ 66 47 0)
      else
        some (v2, σ)
    else
      (f_m_wrongBy N v3 σ).bind fun q2 =>
      if q2.1 = (-2) then
        if (gI q2.2 66 45) = v1 then
          f_m_seekSets_L116 N N v1 v3 v3 0 (sI (sI (sI q2.2 66 45 ((gI q2.2 66 45) + 1)) 66 46 ((gI (sI q2.2 66 45 ((gI q2.2 66 45) + 1)) 66 46) ||| v3)) 66 47 ((gI (sI (sI q2.2 66 45 ((gI q2.2 66 45) + 1)) 66 46 ((gI (sI q2.2 66 45 ((gI q2.2 66 45) + 1)) 66 46) ||| v3)) 66 47) &&& v3))
            (fun (w1 : Int32) (w2 : Int32) (w3 : Int32) (t4 : Sg) =>
              f_m_seekSets_L48 N n w1 w2 (w3 + 1) t4)
        else
          f_m_seekSets_L116 N N v1 v2 v3 0 (sI (sI (sI q2.2 66 45 ((gI q2.2 66 45) + 1)) 66 46 ((gI (sI q2.2 66 45 ((gI q2.2 66 45) + 1)) 66 46) ||| v3)) 66 47 ((gI (sI (sI q2.2 66 45 ((gI q2.2 66 45) + 1)) 66 46 ((gI (sI q2.2 66 45 ((gI q2.2 66 45) + 1)) 66 46) ||| v3)) 66 47) &&& v3))
            (fun (w1 : Int32) (w2 : Int32) (w3 : Int32) (t3 : Sg) =>
              f_m_seekSets_L48 N n w1 w2 (w3 + 1) t3)
      else
        f_m_seekSets_L48 N n v1 v2 (v3 + 1) q2.2
def f_m_seekSets (N : Nat) (v1 : Int32) (σ : Sg) : Option (Int32 × Sg) :=
  f_m_seekSets_L28 N N v1 (-1) 0 (sI (sI (sI σ 66 45 0) 66 46 0) 66 47 ((1 <<< ((gA (sI (sI σ 66 45 0) 66 46 0) 69 5) &&& 31)) - 1))
    (fun (w1 : Int32) (w2 : Int32) (t1 : Sg) =>
      f_m_seekSets_L48 N N w1 w2 0 t1)
set_option maxRecDepth 100000 in
theorem s_m_seekSets_L28 {y : EX} {N : Nat} {x : CX} {P : Int32 × Sg → Prop} (hx : Cx 10 prog_12_method_101_code x) (hc : Cc y 5 4 x) (hr : Cr M_m_seekSets rvI P x) : ∀ (n : Nat) (v1 : Int32) (v2 : Int32) (v3 : Int32) (σ : Sg) (k46 : Int32 → Int32 → Sg → Option (Int32 × Sg)) (hk46 : ∀ (w1 : Int32) (w2 : Int32) (t : Sg), ok (k46 w1 w2 t) P → G x 46 [some (.ref 66), some (.int w1), some (.int w2), none, none] [] t), ok (f_m_seekSets_L28 N n v1 v2 v3 σ k46) P → G x 28 [some (.ref 66), some (.int v1), some (.int v2), some (.int v3), none] [] σ := by
  intro n
  induction n with
  | zero => intro v1 v2 v3 σ k46 hk46 h; exact ok_none h
  | succ n ih =>
    intro v1 v2 v3 σ k46 hk46 h
    rw [f_m_seekSets_L28] at h
    refine g_run hx [(.iload_n 3, 0, 0), (.iconst 4, 4, 0)] (pc' := 30) (lo' := [some (.ref 66), some (.int v1), some (.int v2), some (.int v3), none]) (st' := [.int 4, .int v3]) (σ' := σ) (by decide +kernel) rfl rfl ?_
    refine g_ic_ge hx (off := 16) (tgt := 46) (by decide +kernel) (by decide) (fun c30 => ?_) (fun c30 => ?_)
    · have h := ok_t h c30
      refine g_wk (lo' := [some (.ref 66), some (.int v1), some (.int v2), none, none]) ⟨rfl, ⟨rfl, ⟨rfl, trivial⟩⟩⟩ ?_
      exact hk46 _ _ _ h
    · have h := ok_f h c30
      refine g_run hx [(.aload_n 0, 0, 0), (.getfield 65, 0, 0), (.iload_n 3, 0, 0), (.iconst 0, 0, 0)] (pc' := 39) (lo' := [some (.ref 66), some (.int v1), some (.int v2), some (.int v3), none]) (st' := [.int 0, .int v3, .ref 84]) (σ' := σ) (by decide +kernel) rfl rfl ?_
      obtain ⟨c39, h⟩ := ok_g h
      refine g_iast hx (by decide +kernel) (i := 84) (n := 4) rfl c39 ?_
      refine g_run hx [(.iinc 3 1, 1, 0)] (pc' := 43) (lo' := [some (.ref 66), some (.int v1), some (.int v2), some (.int (v3 + 1)), none]) (st' := []) (σ' := sA σ 84 v3 0) (by decide +kernel) rfl rfl ?_
      refine g_goto hx (off := (-15)) (tgt := 28) (by decide +kernel) (by decide) ?_
      exact ih _ _ _ _ _ hk46 h
set_option maxRecDepth 100000 in
theorem s_m_seekSets_L116 {y : EX} {N : Nat} {x : CX} {P : Int32 × Sg → Prop} (hx : Cx 10 prog_12_method_101_code x) (hc : Cc y 5 4 x) (hr : Cr M_m_seekSets rvI P x) : ∀ (n : Nat) (v1 : Int32) (v2 : Int32) (v3 : Int32) (v4 : Int32) (σ : Sg) (k149 : Int32 → Int32 → Int32 → Sg → Option (Int32 × Sg)) (hk149 : ∀ (w1 : Int32) (w2 : Int32) (w3 : Int32) (t : Sg), ok (k149 w1 w2 w3 t) P → G x 149 [some (.ref 66), some (.int w1), some (.int w2), some (.int w3), none] [] t), ok (f_m_seekSets_L116 N n v1 v2 v3 v4 σ k149) P → G x 116 [some (.ref 66), some (.int v1), some (.int v2), some (.int v3), some (.int v4)] [] σ := by
  intro n
  induction n with
  | zero => intro v1 v2 v3 v4 σ k149 hk149 h; exact ok_none h
  | succ n ih =>
    intro v1 v2 v3 v4 σ k149 hk149 h
    rw [f_m_seekSets_L116] at h
    refine g_run hx [(.iload 4, 0, 0), (.aload_n 0, 0, 0), (.getfield 20, 0, 0), (.iconst 5, 5, 0), (.iaload, 0, 0)] (pc' := 124) (lo' := [some (.ref 66), some (.int v1), some (.int v2), some (.int v3), some (.int v4)]) (st' := [.int (gA σ 69 5), .int v4]) (σ' := σ) (by decide +kernel) rfl rfl ?_
    refine g_ic_ge hx (off := 25) (tgt := 149) (by decide +kernel) (by decide) (fun c124 => ?_) (fun c124 => ?_)
    · have h := ok_t h c124
      refine g_wk (lo' := [some (.ref 66), some (.int v1), some (.int v2), some (.int v3), none]) ⟨rfl, ⟨rfl, ⟨rfl, ⟨rfl, trivial⟩⟩⟩⟩ ?_
      exact hk149 _ _ _ _ h
    · have h := ok_f h c124
      refine g_run hx [(.aload_n 0, 0, 0), (.getfield 65, 0, 0), (.iload 4, 0, 0), (.dup2, 0, 0)] (pc' := 134) (lo' := [some (.ref 66), some (.int v1), some (.int v2), some (.int v3), some (.int v4)]) (st' := [.int v4, .ref 84, .int v4, .ref 84]) (σ' := σ) (by decide +kernel) rfl rfl ?_
      obtain ⟨c134, h⟩ := ok_g h
      refine g_iald hx (by decide +kernel) (i := 84) (n := 4) rfl c134 ?_
      refine g_run hx [(.iload_n 3, 0, 0), (.iload 4, 0, 0), (.ishr, 0, 0), (.iconst 1, 1, 0), (.iand, 0, 0), (.iadd, 0, 0)] (pc' := 142) (lo' := [some (.ref 66), some (.int v1), some (.int v2), some (.int v3), some (.int v4)]) (st' := [.int ((gA σ 84 v4) + ((v3 >>> (v4 &&& 31)) &&& 1)), .int v4, .ref 84]) (σ' := σ) (by decide +kernel) rfl rfl ?_
      obtain ⟨c142, h⟩ := ok_g h
      refine g_iast hx (by decide +kernel) (i := 84) (n := 4) rfl c142 ?_
      refine g_run hx [(.iinc 4 1, 1, 0)] (pc' := 146) (lo' := [some (.ref 66), some (.int v1), some (.int v2), some (.int v3), some (.int (v4 + 1))]) (st' := []) (σ' := sA σ 84 v4 ((gA σ 84 v4) + ((v3 >>> (v4 &&& 31)) &&& 1))) (by decide +kernel) rfl rfl ?_
      refine g_goto hx (off := (-30)) (tgt := 116) (by decide +kernel) (by decide) ?_
      exact ih _ _ _ _ _ _ hk149 h
set_option maxRecDepth 100000 in
theorem s_m_seekSets_L48 {y : EX} {N : Nat} {x : CX} {P : Int32 × Sg → Prop} (hx : Cx 10 prog_12_method_101_code x) (hc : Cc y 5 4 x) (hr : Cr M_m_seekSets rvI P x) : ∀ (n : Nat) (v1 : Int32) (v2 : Int32) (v3 : Int32) (σ : Sg), ok (f_m_seekSets_L48 N n v1 v2 v3 σ) P → G x 48 [some (.ref 66), some (.int v1), some (.int v2), some (.int v3), none] [] σ := by
  intro n
  induction n with
  | zero => intro v1 v2 v3 σ h; exact ok_none h
  | succ n ih =>
    intro v1 v2 v3 σ h
    rw [f_m_seekSets_L48] at h
    refine g_run hx [(.iload_n 3, 0, 0), (.iconst 1, 1, 0), (.aload_n 0, 0, 0), (.getfield 20, 0, 0), (.iconst 5, 5, 0), (.iaload, 0, 0), (.ishl, 0, 0)] (pc' := 57) (lo' := [some (.ref 66), some (.int v1), some (.int v2), some (.int v3), none]) (st' := [.int (1 <<< ((gA σ 69 5) &&& 31)), .int v3]) (σ' := σ) (by decide +kernel) rfl rfl ?_
    refine g_ic_ge hx (off := 98) (tgt := 155) (by decide +kernel) (by decide) (fun c57 => ?_) (fun c57 => ?_)
    · have h := ok_t h c57
      refine g_run hx [(.aload_n 0, 0, 0), (.getfield 387, 0, 0)] (pc' := 159) (lo' := [some (.ref 66), some (.int v1), some (.int v2), some (.int v3), none]) (st' := [.int (gI σ 66 45)]) (σ' := σ) (by decide +kernel) rfl rfl ?_
      refine g_if_ne hx (off := 8) (tgt := 167) (by decide +kernel) (by decide) (fun c159 => ?_) (fun c159 => ?_)
      · have h := ok_f h c159
        refine g_run hx [(.iload_n 2, 0, 0)] (pc' := 168) (lo' := [some (.ref 66), some (.int v1), some (.int v2), some (.int v3), none]) (st' := [.int v2]) (σ' := σ) (by decide +kernel) rfl rfl ?_
        exact g_iret hx hr rfl _ rfl (by decide +kernel) (ok_some h)
      · have h := ok_t h c159
        refine g_run hx [(.aload_n 0, 0, 0), (.iconst 0, 0, 0), (.putfield 393, 0, 0), (.iload_n 2, 0, 0)] (pc' := 168) (lo' := [some (.ref 66), some (.int v1), some (.int v2), some (.int v3), none]) (st' := [.int v2]) (σ' := sI σ 66 47 0) (by decide +kernel) rfl rfl ?_
        exact g_iret hx hr rfl _ rfl (by decide +kernel) (ok_some h)
    · have h := ok_f h c57
      refine g_run hx [(.aload_n 0, 0, 0), (.iload_n 3, 0, 0)] (pc' := 62) (lo' := [some (.ref 66), some (.int v1), some (.int v2), some (.int v3), none]) (st' := [.int v3, .ref 66]) (σ' := σ) (by decide +kernel) rfl rfl ?_
      refine g_callV (rest := []) [.int v3] hx hc mk_m_wrongBy ln_10_396 rfl (by decide +kernel) (by decide) (Nat.le_of_ble_eq_true rfl) (s_m_wrongBy (ok_b h)) (fun r2 s2 h => ?_)
      refine g_run hx [(.bipush (-2), (-2), 0)] (pc' := 67) (lo' := [some (.ref 66), some (.int v1), some (.int v2), some (.int v3), none]) (st' := [.int (-2), .int r2]) (σ' := s2) (by decide +kernel) rfl rfl ?_
      refine g_ic_eq hx (off := 6) (tgt := 73) (by decide +kernel) (by decide) (fun c67 => ?_) (fun c67 => ?_)
      · have h := ok_t h c67
        refine g_run hx [(.aload_n 0, 0, 0), (.getfield 387, 0, 0), (.iload_n 1, 0, 0)] (pc' := 78) (lo' := [some (.ref 66), some (.int v1), some (.int v2), some (.int v3), none]) (st' := [.int v1, .int (gI s2 66 45)]) (σ' := s2) (by decide +kernel) rfl rfl ?_
        refine g_ic_ne hx (off := 5) (tgt := 83) (by decide +kernel) (by decide) (fun c78 => ?_) (fun c78 => ?_)
        · have h := ok_f h c78
          refine g_run hx [(.aload_n 0, 0, 0), (.dup, 0, 0), (.getfield 387, 0, 0), (.iconst 1, 1, 0), (.iadd, 0, 0), (.putfield 387, 0, 0), (.aload_n 0, 0, 0), (.dup, 0, 0), (.getfield 390, 0, 0), (.iload_n 3, 0, 0), (.ior, 0, 0), (.putfield 390, 0, 0), (.aload_n 0, 0, 0), (.dup, 0, 0), (.getfield 393, 0, 0), (.iload_n 3, 0, 0), (.iand, 0, 0), (.putfield 393, 0, 0), (.iconst 0, 0, 0), (.istore 4, 0, 0)] (pc' := 116) (lo' := [some (.ref 66), some (.int v1), some (.int v2), some (.int v3), some (.int 0)]) (st' := []) (σ' := sI (sI (sI s2 66 45 ((gI s2 66 45) + 1)) 66 46 ((gI (sI s2 66 45 ((gI s2 66 45) + 1)) 66 46) ||| v3)) 66 47 ((gI (sI (sI s2 66 45 ((gI s2 66 45) + 1)) 66 46 ((gI (sI s2 66 45 ((gI s2 66 45) + 1)) 66 46) ||| v3)) 66 47) &&& v3)) (by decide +kernel) rfl rfl ?_
          refine s_m_seekSets_L116 hx hc hr N _ _ _ _ _ _ (fun w1 w2 w3 t3 h => ?_) h
          refine g_run hx [(.iinc 3 1, 1, 0)] (pc' := 152) (lo' := [some (.ref 66), some (.int w1), some (.int w2), some (.int (w3 + 1)), none]) (st' := []) (σ' := t3) (by decide +kernel) rfl rfl ?_
          refine g_goto hx (off := (-104)) (tgt := 48) (by decide +kernel) (by decide) ?_
          exact ih _ _ _ _ h
        · have h := ok_t h c78
          refine g_run hx [(.iload_n 3, 0, 0), (.istore_n 2, 0, 0), (.aload_n 0, 0, 0), (.dup, 0, 0), (.getfield 387, 0, 0), (.iconst 1, 1, 0), (.iadd, 0, 0), (.putfield 387, 0, 0), (.aload_n 0, 0, 0), (.dup, 0, 0), (.getfield 390, 0, 0), (.iload_n 3, 0, 0), (.ior, 0, 0), (.putfield 390, 0, 0), (.aload_n 0, 0, 0), (.dup, 0, 0), (.getfield 393, 0, 0), (.iload_n 3, 0, 0), (.iand, 0, 0), (.putfield 393, 0, 0), (.iconst 0, 0, 0), (.istore 4, 0, 0)] (pc' := 116) (lo' := [some (.ref 66), some (.int v1), some (.int v3), some (.int v3), some (.int 0)]) (st' := []) (σ' := sI (sI (sI s2 66 45 ((gI s2 66 45) + 1)) 66 46 ((gI (sI s2 66 45 ((gI s2 66 45) + 1)) 66 46) ||| v3)) 66 47 ((gI (sI (sI s2 66 45 ((gI s2 66 45) + 1)) 66 46 ((gI (sI s2 66 45 ((gI s2 66 45) + 1)) 66 46) ||| v3)) 66 47) &&& v3)) (by decide +kernel) rfl rfl ?_
          refine s_m_seekSets_L116 hx hc hr N _ _ _ _ _ _ (fun w1 w2 w3 t4 h => ?_) h
          refine g_run hx [(.iinc 3 1, 1, 0)] (pc' := 152) (lo' := [some (.ref 66), some (.int w1), some (.int w2), some (.int (w3 + 1)), none]) (st' := []) (σ' := t4) (by decide +kernel) rfl rfl ?_
          refine g_goto hx (off := (-104)) (tgt := 48) (by decide +kernel) (by decide) ?_
          exact ih _ _ _ _ h
      · have h := ok_f h c67
        refine g_goto hx (off := 79) (tgt := 149) (by decide +kernel) (by decide) ?_
        refine g_run hx [(.iinc 3 1, 1, 0)] (pc' := 152) (lo' := [some (.ref 66), some (.int v1), some (.int v2), some (.int (v3 + 1)), none]) (st' := []) (σ' := s2) (by decide +kernel) rfl rfl ?_
        refine g_goto hx (off := (-104)) (tgt := 48) (by decide +kernel) (by decide) ?_
        exact ih _ _ _ _ h
set_option maxRecDepth 100000 in
theorem s_m_seekSets {y : EX} {N : Nat} {v1 : Int32} {σ : Sg} {P : Int32 × Sg → Prop} (h : ok (f_m_seekSets N v1 σ) P) : Ev y M_m_seekSets 4 [.ref 66, .int v1] σ rvI P := by
  refine Ev.of mk_m_seekSets (Nat.le_of_ble_eq_true rfl) (fun x hx hc hr => ?_)
  have hx : Cx 10 prog_12_method_101_code x := hx
  have hc : Cc y 5 4 x := hc
  show G x 0 [some (.ref 66), some (.int v1), none, none, none] [] σ
  unfold f_m_seekSets at h
  refine g_run hx [(.iconst (-1), (-1), 0), (.istore_n 2, 0, 0), (.aload_n 0, 0, 0), (.iconst 0, 0, 0), (.putfield 387, 0, 0), (.aload_n 0, 0, 0), (.iconst 0, 0, 0), (.putfield 390, 0, 0), (.aload_n 0, 0, 0), (.iconst 1, 1, 0), (.aload_n 0, 0, 0), (.getfield 20, 0, 0), (.iconst 5, 5, 0), (.iaload, 0, 0), (.ishl, 0, 0), (.iconst 1, 1, 0), (.isub, 0, 0), (.putfield 393, 0, 0), (.iconst 0, 0, 0), (.istore_n 3, 0, 0)] (pc' := 28) (lo' := [some (.ref 66), some (.int v1), some (.int (-1)), some (.int 0), none]) (st' := []) (σ' := sI (sI (sI σ 66 45 0) 66 46 0) 66 47 ((1 <<< ((gA (sI (sI σ 66 45 0) 66 46 0) 69 5) &&& 31)) - 1)) (by decide +kernel) rfl rfl ?_
  refine s_m_seekSets_L28 hx hc hr N _ _ _ _ _ (fun w1 w2 t1 h => ?_) h
  refine g_run hx [(.iconst 0, 0, 0), (.istore_n 3, 0, 0)] (pc' := 48) (lo' := [some (.ref 66), some (.int w1), some (.int w2), some (.int 0), none]) (st' := []) (σ' := t1) (by decide +kernel) rfl rfl ?_
  refine s_m_seekSets_L48 hx hc hr N _ _ _ _ h
def f_m_leavesOf (N : Nat) (v1 : Int32) (σ : Sg) : Option (Int32 × Sg) :=
  if vin v1 4 then
  if vin v1 4 then
  if (gA σ 84 v1) ≤ ((gI σ 66 45) - (gA σ 84 v1)) then
    if vin v1 4 then
    some (((gI σ 66 45) - (gA σ 84 v1)), σ)
    else none
  else
    if vin v1 4 then
    some ((gA σ 84 v1), σ)
    else none
  else none
  else none
set_option maxRecDepth 100000 in
theorem s_m_leavesOf {y : EX} {N : Nat} {v1 : Int32} {σ : Sg} {P : Int32 × Sg → Prop} (h : ok (f_m_leavesOf N v1 σ) P) : Ev y M_m_leavesOf 0 [.ref 66, .int v1] σ rvI P := by
  refine Ev.of mk_m_leavesOf (Nat.le_of_ble_eq_true rfl) (fun x hx hc hr => ?_)
  have hx : Cx 10 prog_12_method_106_code x := hx
  have hc : Cc y 2 0 x := hc
  show G x 0 [some (.ref 66), some (.int v1)] [] σ
  unfold f_m_leavesOf at h
  refine g_run hx [(.aload_n 0, 0, 0), (.getfield 65, 0, 0), (.iload_n 1, 0, 0)] (pc' := 5) (lo' := [some (.ref 66), some (.int v1)]) (st' := [.int v1, .ref 84]) (σ' := σ) (by decide +kernel) rfl rfl ?_
  obtain ⟨c5, h⟩ := ok_g h
  refine g_iald hx (by decide +kernel) (i := 84) (n := 4) rfl c5 ?_
  refine g_run hx [(.aload_n 0, 0, 0), (.getfield 387, 0, 0), (.aload_n 0, 0, 0), (.getfield 65, 0, 0), (.iload_n 1, 0, 0)] (pc' := 15) (lo' := [some (.ref 66), some (.int v1)]) (st' := [.int v1, .ref 84, .int (gI σ 66 45), .int (gA σ 84 v1)]) (σ' := σ) (by decide +kernel) rfl rfl ?_
  obtain ⟨c15, h⟩ := ok_g h
  refine g_iald hx (by decide +kernel) (i := 84) (n := 4) rfl c15 ?_
  refine g_run hx [(.isub, 0, 0)] (pc' := 17) (lo' := [some (.ref 66), some (.int v1)]) (st' := [.int ((gI σ 66 45) - (gA σ 84 v1)), .int (gA σ 84 v1)]) (σ' := σ) (by decide +kernel) rfl rfl ?_
  refine g_ic_le hx (off := 12) (tgt := 29) (by decide +kernel) (by decide) (fun c17 => ?_) (fun c17 => ?_)
  · have h := ok_t h c17
    refine g_run hx [(.aload_n 0, 0, 0), (.getfield 387, 0, 0), (.aload_n 0, 0, 0), (.getfield 65, 0, 0), (.iload_n 1, 0, 0)] (pc' := 38) (lo' := [some (.ref 66), some (.int v1)]) (st' := [.int v1, .ref 84, .int (gI σ 66 45)]) (σ' := σ) (by decide +kernel) rfl rfl ?_
    obtain ⟨c38, h⟩ := ok_g h
    refine g_iald hx (by decide +kernel) (i := 84) (n := 4) rfl c38 ?_
    refine g_run hx [(.isub, 0, 0)] (pc' := 40) (lo' := [some (.ref 66), some (.int v1)]) (st' := [.int ((gI σ 66 45) - (gA σ 84 v1))]) (σ' := σ) (by decide +kernel) rfl rfl ?_
    exact g_iret hx hr rfl _ rfl (by decide +kernel) (ok_some h)
  · have h := ok_f h c17
    refine g_run hx [(.aload_n 0, 0, 0), (.getfield 65, 0, 0), (.iload_n 1, 0, 0)] (pc' := 25) (lo' := [some (.ref 66), some (.int v1)]) (st' := [.int v1, .ref 84]) (σ' := σ) (by decide +kernel) rfl rfl ?_
    obtain ⟨c25, h⟩ := ok_g h
    refine g_iald hx (by decide +kernel) (i := 84) (n := 4) rfl c25 ?_
    refine g_goto hx (off := 14) (tgt := 40) (by decide +kernel) (by decide) ?_
    exact g_iret hx hr rfl _ rfl (by decide +kernel) (ok_some h)
def f_m_askOf_L11 (N : Nat) : Nat → Int32 → Int32 → Sg → Option (Int32 × Sg)
  | 0, _, _, _ => none
  | n + 1, v1, v2, σ =>
    if (gA σ 69 5) ≤ v2 then
      some (v1, σ)
    else
      if (gI σ 66 45) ≤ 0 then
        some (v1, σ)
      else
        if v1 < 0 then
          f_m_askOf_L11 N n v2 (v2 + 1) σ
        else
          (f_m_leavesOf N v2 σ).bind fun q2 =>
          (f_m_leavesOf N v1 q2.2).bind fun q3 =>
          if q3.1 ≤ q2.1 then
            f_m_askOf_L11 N n v1 (v2 + 1) q3.2
          else
            f_m_askOf_L11 N n v2 (v2 + 1) q3.2
def f_m_askOf (N : Nat) (σ : Sg) : Option (Int32 × Sg) :=
  (f_m_seekSets N (-1) σ).bind fun q1 =>
  f_m_askOf_L11 N N (-2) 0 q1.2
set_option maxRecDepth 100000 in
theorem s_m_askOf_L11 {y : EX} {N : Nat} {x : CX} {P : Int32 × Sg → Prop} (hx : Cx 10 prog_12_method_107_code x) (hc : Cc y 3 5 x) (hr : Cr M_m_askOf rvI P x) : ∀ (n : Nat) (v1 : Int32) (v2 : Int32) (σ : Sg), ok (f_m_askOf_L11 N n v1 v2 σ) P → G x 11 [some (.ref 66), some (.int v1), some (.int v2)] [] σ := by
  intro n
  induction n with
  | zero => intro v1 v2 σ h; exact ok_none h
  | succ n ih =>
    intro v1 v2 σ h
    rw [f_m_askOf_L11] at h
    refine g_run hx [(.iload_n 2, 0, 0), (.aload_n 0, 0, 0), (.getfield 20, 0, 0), (.iconst 5, 5, 0), (.iaload, 0, 0)] (pc' := 18) (lo' := [some (.ref 66), some (.int v1), some (.int v2)]) (st' := [.int (gA σ 69 5), .int v2]) (σ' := σ) (by decide +kernel) rfl rfl ?_
    refine g_ic_ge hx (off := 35) (tgt := 53) (by decide +kernel) (by decide) (fun c18 => ?_) (fun c18 => ?_)
    · have h := ok_t h c18
      refine g_run hx [(.iload_n 1, 0, 0)] (pc' := 54) (lo' := [some (.ref 66), some (.int v1), some (.int v2)]) (st' := [.int v1]) (σ' := σ) (by decide +kernel) rfl rfl ?_
      exact g_iret hx hr rfl _ rfl (by decide +kernel) (ok_some h)
    · have h := ok_f h c18
      refine g_run hx [(.aload_n 0, 0, 0), (.getfield 387, 0, 0)] (pc' := 25) (lo' := [some (.ref 66), some (.int v1), some (.int v2)]) (st' := [.int (gI σ 66 45)]) (σ' := σ) (by decide +kernel) rfl rfl ?_
      refine g_if_le hx (off := 28) (tgt := 53) (by decide +kernel) (by decide) (fun c25 => ?_) (fun c25 => ?_)
      · have h := ok_t h c25
        refine g_run hx [(.iload_n 1, 0, 0)] (pc' := 54) (lo' := [some (.ref 66), some (.int v1), some (.int v2)]) (st' := [.int v1]) (σ' := σ) (by decide +kernel) rfl rfl ?_
        exact g_iret hx hr rfl _ rfl (by decide +kernel) (ok_some h)
      · have h := ok_f h c25
        refine g_run hx [(.iload_n 1, 0, 0)] (pc' := 29) (lo' := [some (.ref 66), some (.int v1), some (.int v2)]) (st' := [.int v1]) (σ' := σ) (by decide +kernel) rfl rfl ?_
        refine g_if_lt hx (off := 16) (tgt := 45) (by decide +kernel) (by decide) (fun c29 => ?_) (fun c29 => ?_)
        · have h := ok_t h c29
          refine g_run hx [(.iload_n 2, 0, 0), (.istore_n 1, 0, 0), (.iinc 2 1, 1, 0)] (pc' := 50) (lo' := [some (.ref 66), some (.int v2), some (.int (v2 + 1))]) (st' := []) (σ' := σ) (by decide +kernel) rfl rfl ?_
          refine g_goto hx (off := (-39)) (tgt := 11) (by decide +kernel) (by decide) ?_
          exact ih _ _ _ h
        · have h := ok_f h c29
          refine g_run hx [(.aload_n 0, 0, 0), (.iload_n 2, 0, 0)] (pc' := 34) (lo' := [some (.ref 66), some (.int v1), some (.int v2)]) (st' := [.int v2, .ref 66]) (σ' := σ) (by decide +kernel) rfl rfl ?_
          refine g_callV (rest := []) [.int v2] hx hc mk_m_leavesOf ln_10_402 rfl (by decide +kernel) (by decide) (Nat.le_of_ble_eq_true rfl) (s_m_leavesOf (ok_b h)) (fun r2 s2 h => ?_)
          refine g_run hx [(.aload_n 0, 0, 0), (.iload_n 1, 0, 0)] (pc' := 39) (lo' := [some (.ref 66), some (.int v1), some (.int v2)]) (st' := [.int v1, .ref 66, .int r2]) (σ' := s2) (by decide +kernel) rfl rfl ?_
          refine g_callV (rest := [.int r2]) [.int v1] hx hc mk_m_leavesOf ln_10_402 rfl (by decide +kernel) (by decide) (Nat.le_of_ble_eq_true rfl) (s_m_leavesOf (ok_b h)) (fun r3 s3 h => ?_)
          refine g_ic_ge hx (off := 5) (tgt := 47) (by decide +kernel) (by decide) (fun c42 => ?_) (fun c42 => ?_)
          · have h := ok_t h c42
            refine g_run hx [(.iinc 2 1, 1, 0)] (pc' := 50) (lo' := [some (.ref 66), some (.int v1), some (.int (v2 + 1))]) (st' := []) (σ' := s3) (by decide +kernel) rfl rfl ?_
            refine g_goto hx (off := (-39)) (tgt := 11) (by decide +kernel) (by decide) ?_
            exact ih _ _ _ h
          · have h := ok_f h c42
            refine g_run hx [(.iload_n 2, 0, 0), (.istore_n 1, 0, 0), (.iinc 2 1, 1, 0)] (pc' := 50) (lo' := [some (.ref 66), some (.int v2), some (.int (v2 + 1))]) (st' := []) (σ' := s3) (by decide +kernel) rfl rfl ?_
            refine g_goto hx (off := (-39)) (tgt := 11) (by decide +kernel) (by decide) ?_
            exact ih _ _ _ h
set_option maxRecDepth 100000 in
theorem s_m_askOf {y : EX} {N : Nat} {σ : Sg} {P : Int32 × Sg → Prop} (h : ok (f_m_askOf N σ) P) : Ev y M_m_askOf 5 [.ref 66] σ rvI P := by
  refine Ev.of mk_m_askOf (Nat.le_of_ble_eq_true rfl) (fun x hx hc hr => ?_)
  have hx : Cx 10 prog_12_method_107_code x := hx
  have hc : Cc y 3 5 x := hc
  show G x 0 [some (.ref 66), none, none] [] σ
  unfold f_m_askOf at h
  refine g_run hx [(.aload_n 0, 0, 0), (.iconst (-1), (-1), 0)] (pc' := 2) (lo' := [some (.ref 66), none, none]) (st' := [.int (-1), .ref 66]) (σ' := σ) (by decide +kernel) rfl rfl ?_
  refine g_callV (rest := []) [.int (-1)] hx hc mk_m_seekSets ln_10_399 rfl (by decide +kernel) (by decide) (Nat.le_of_ble_eq_true rfl) (s_m_seekSets (ok_b h)) (fun r1 s1 h => ?_)
  refine g_run hx [(.pop, 0, 0), (.bipush (-2), (-2), 0), (.istore_n 1, 0, 0), (.iconst 0, 0, 0), (.istore_n 2, 0, 0)] (pc' := 11) (lo' := [some (.ref 66), some (.int (-2)), some (.int 0)]) (st' := []) (σ' := s1) (by decide +kernel) rfl rfl ?_
  refine s_m_askOf_L11 hx hc hr N _ _ _ h
