def f_x_rowLeads (N : Nat) (v1 : Int32) (v2 : Int32) (σ : Sg) : Option (Int32 × Sg) :=
  (f_x_rowTrouble N v1 v2 σ).bind fun q1 =>
  (f_x_granted N q1.1 q1.2).bind fun q2 =>
  if q2.1 = true then
    (f_x_makeRow N v1 v2 q2.2).bind fun q3 =>
    if q3.1 = true then
      some ((gI q3.2 41 2), q3.2)
    else
      some ((-2), q3.2)
  else
    some ((-1), q2.2)
set_option maxRecDepth 100000 in
theorem s_x_rowLeads {y : EX} {N : Nat} {v1 : Int32} {v2 : Int32} {σ : Sg} {P : Int32 × Sg → Prop} (h : ok (f_x_rowLeads N v1 v2 σ) P) : Ev y M_x_rowLeads 4 [.ref 0, .int v1, .int v2] σ rvI P := by
  refine Ev.of mk_x_rowLeads (Nat.le_of_ble_eq_true rfl) (fun x hx hc hr => ?_)
  have hx : Cx 9 prog_1_method_26_code x := hx
  have hc : Cc y 3 4 x := hc
  show G x 0 [some (.ref 0), some (.int v1), some (.int v2)] [] σ
  unfold f_x_rowLeads at h
  refine g_run hx [(.aload_n 0, 0, 0), (.aload_n 0, 0, 0), (.iload_n 1, 0, 0), (.iload_n 2, 0, 0)] (pc' := 4) (lo' := [some (.ref 0), some (.int v1), some (.int v2)]) (st' := [.int v2, .int v1, .ref 0, .ref 0]) (σ' := σ) (by decide +kernel) rfl rfl ?_
  refine g_callV (rest := [.ref 0]) [.int v1, .int v2] hx hc mk_x_rowTrouble ln_9_224 rfl (by decide +kernel) (by decide) (Nat.le_of_ble_eq_true rfl) (s_x_rowTrouble (ok_b h)) (fun r1 s1 h => ?_)
  refine g_callV (rest := []) [.int r1] hx hc mk_x_granted ln_9_83 rfl (by decide +kernel) (by decide) (Nat.le_of_ble_eq_true rfl) (s_x_granted (ok_b h)) (fun r2 s2 h => ?_)
  refine g_ifb_ne hx (off := 5) (tgt := 15) (by decide +kernel) (by decide) (fun c10 => ?_) (fun c10 => ?_)
  · have h := ok_t h c10
    refine g_run hx [(.aload_n 0, 0, 0), (.iload_n 1, 0, 0), (.iload_n 2, 0, 0)] (pc' := 18) (lo' := [some (.ref 0), some (.int v1), some (.int v2)]) (st' := [.int v2, .int v1, .ref 0]) (σ' := s2) (by decide +kernel) rfl rfl ?_
    refine g_callV (rest := []) [.int v1, .int v2] hx hc mk_x_makeRow ln_9_227 rfl (by decide +kernel) (by decide) (Nat.le_of_ble_eq_true rfl) (s_x_makeRow (ok_b h)) (fun r3 s3 h => ?_)
    refine g_ifb_eq hx (off := 13) (tgt := 34) (by decide +kernel) (by decide) (fun c21 => ?_) (fun c21 => ?_)
    · have h := ok_f h c21
      refine g_run hx [(.bipush (-2), (-2), 0)] (pc' := 36) (lo' := [some (.ref 0), some (.int v1), some (.int v2)]) (st' := [.int (-2)]) (σ' := s3) (by decide +kernel) rfl rfl ?_
      exact g_iret hx hr rfl _ rfl (by decide +kernel) (ok_some h)
    · have h := ok_t h c21
      refine g_run hx [(.aload_n 0, 0, 0), (.getfield 30, 0, 0), (.getfield 123, 0, 0)] (pc' := 31) (lo' := [some (.ref 0), some (.int v1), some (.int v2)]) (st' := [.int (gI s3 41 2)]) (σ' := s3) (by decide +kernel) rfl rfl ?_
      refine g_goto hx (off := 5) (tgt := 36) (by decide +kernel) (by decide) ?_
      exact g_iret hx hr rfl _ rfl (by decide +kernel) (ok_some h)
  · have h := ok_f h c10
    refine g_run hx [(.iconst (-1), (-1), 0)] (pc' := 14) (lo' := [some (.ref 0), some (.int v1), some (.int v2)]) (st' := [.int (-1)]) (σ' := s2) (by decide +kernel) rfl rfl ?_
    exact g_iret hx hr rfl _ rfl (by decide +kernel) (ok_some h)
def f_x_rowLost (N : Nat) (v1 : Int32) (v2 : Int32) (σ : Sg) : Option (Int32 × Sg) :=
  (f_x_rowTrouble N v1 v2 σ).bind fun q1 =>
  (f_x_granted N q1.1 q1.2).bind fun q2 =>
  if q2.1 = true then
    (f_x_makeRow N v1 v2 q2.2).bind fun q3 =>
    if q3.1 = true then
      (f_state_goneCells N 41 q3.2).bind fun q4 =>
      (f_country_lostFolk N q4.1 q4.2).bind fun q5 =>
      some (q5.1, q5.2)
    else
      some ((-2), q3.2)
  else
    some ((-1), q2.2)
set_option maxRecDepth 100000 in
theorem s_x_rowLost {y : EX} {N : Nat} {v1 : Int32} {v2 : Int32} {σ : Sg} {P : Int32 × Sg → Prop} (h : ok (f_x_rowLost N v1 v2 σ) P) : Ev y M_x_rowLost 4 [.ref 0, .int v1, .int v2] σ rvI P := by
  refine Ev.of mk_x_rowLost (Nat.le_of_ble_eq_true rfl) (fun x hx hc hr => ?_)
  have hx : Cx 9 prog_1_method_27_code x := hx
  have hc : Cc y 3 4 x := hc
  show G x 0 [some (.ref 0), some (.int v1), some (.int v2)] [] σ
  unfold f_x_rowLost at h
  refine g_run hx [(.aload_n 0, 0, 0), (.aload_n 0, 0, 0), (.iload_n 1, 0, 0), (.iload_n 2, 0, 0)] (pc' := 4) (lo' := [some (.ref 0), some (.int v1), some (.int v2)]) (st' := [.int v2, .int v1, .ref 0, .ref 0]) (σ' := σ) (by decide +kernel) rfl rfl ?_
  refine g_callV (rest := [.ref 0]) [.int v1, .int v2] hx hc mk_x_rowTrouble ln_9_224 rfl (by decide +kernel) (by decide) (Nat.le_of_ble_eq_true rfl) (s_x_rowTrouble (ok_b h)) (fun r1 s1 h => ?_)
  refine g_callV (rest := []) [.int r1] hx hc mk_x_granted ln_9_83 rfl (by decide +kernel) (by decide) (Nat.le_of_ble_eq_true rfl) (s_x_granted (ok_b h)) (fun r2 s2 h => ?_)
  refine g_ifb_ne hx (off := 5) (tgt := 15) (by decide +kernel) (by decide) (fun c10 => ?_) (fun c10 => ?_)
  · have h := ok_t h c10
    refine g_run hx [(.aload_n 0, 0, 0), (.iload_n 1, 0, 0), (.iload_n 2, 0, 0)] (pc' := 18) (lo' := [some (.ref 0), some (.int v1), some (.int v2)]) (st' := [.int v2, .int v1, .ref 0]) (σ' := s2) (by decide +kernel) rfl rfl ?_
    refine g_callV (rest := []) [.int v1, .int v2] hx hc mk_x_makeRow ln_9_227 rfl (by decide +kernel) (by decide) (Nat.le_of_ble_eq_true rfl) (s_x_makeRow (ok_b h)) (fun r3 s3 h => ?_)
    refine g_ifb_eq hx (off := 20) (tgt := 41) (by decide +kernel) (by decide) (fun c21 => ?_) (fun c21 => ?_)
    · have h := ok_f h c21
      refine g_run hx [(.bipush (-2), (-2), 0)] (pc' := 43) (lo' := [some (.ref 0), some (.int v1), some (.int v2)]) (st' := [.int (-2)]) (σ' := s3) (by decide +kernel) rfl rfl ?_
      exact g_iret hx hr rfl _ rfl (by decide +kernel) (ok_some h)
    · have h := ok_t h c21
      refine g_run hx [(.aload_n 0, 0, 0), (.getfield 19, 0, 0), (.aload_n 0, 0, 0), (.getfield 30, 0, 0)] (pc' := 32) (lo' := [some (.ref 0), some (.int v1), some (.int v2)]) (st' := [.ref 41, .ref 10]) (σ' := s3) (by decide +kernel) rfl rfl ?_
      refine g_callV (rest := [.ref 10]) [] hx hc mk_state_goneCells ln_9_144 rfl (by decide +kernel) (by decide) (Nat.le_of_ble_eq_true rfl) (s_state_goneCells_41 (ok_b h)) (fun r4 s4 h => ?_)
      refine g_callV (rest := []) [.long r4] hx hc mk_country_lostFolk ln_9_168 rfl (by decide +kernel) (by decide) (Nat.le_of_ble_eq_true rfl) (s_country_lostFolk (ok_b h)) (fun r5 s5 h => ?_)
      refine g_goto hx (off := 5) (tgt := 43) (by decide +kernel) (by decide) ?_
      exact g_iret hx hr rfl _ rfl (by decide +kernel) (ok_some h)
  · have h := ok_f h c10
    refine g_run hx [(.iconst (-1), (-1), 0)] (pc' := 14) (lo' := [some (.ref 0), some (.int v1), some (.int v2)]) (st' := [.int (-1)]) (σ' := s2) (by decide +kernel) rfl rfl ?_
    exact g_iret hx hr rfl _ rfl (by decide +kernel) (ok_some h)
def f_x_size (N : Nat) (v1 : Int32) (σ : Sg) : Option (Int32 × Sg) :=
  if v1 = 0 then
    some ((gI σ 10 0), σ)
  else if v1 = 1 then
    some ((gI σ 10 1), σ)
  else if v1 = 2 then
    some ((gI σ 11 1), σ)
  else if v1 = 3 then
    some ((gI σ 13 1), σ)
  else if v1 = 4 then
    some ((gI σ 17 1), σ)
  else if v1 = 5 then
    some ((gI σ 19 1), σ)
  else if v1 = 6 then
    some ((gI σ 21 1), σ)
  else if v1 = 7 then
    some ((gI σ 40 4), σ)
  else if v1 = 8 then
    some ((gI σ 42 2), σ)
  else if v1 = 9 then
    some ((gI σ 0 6), σ)
  else if v1 = 10 then
    some ((gI σ 1 1), σ)
  else 
    some ((-1), σ)
set_option maxRecDepth 100000 in
theorem s_x_size {y : EX} {N : Nat} {v1 : Int32} {σ : Sg} {P : Int32 × Sg → Prop} (h : ok (f_x_size N v1 σ) P) : Ev y M_x_size 0 [.ref 0, .int v1] σ rvI P := by
  refine Ev.of mk_x_size (Nat.le_of_ble_eq_true rfl) (fun x hx hc hr => ?_)
  have hx : Cx 9 prog_1_method_61_code x := hx
  have hc : Cc y 2 0 x := hc
  show G x 0 [some (.ref 0), some (.int v1)] [] σ
  unfold f_x_size at h
  refine g_run hx [(.iload_n 1, 0, 0)] (pc' := 1) (lo' := [some (.ref 0), some (.int v1)]) (st' := [.int v1]) (σ' := σ) (by decide +kernel) rfl rfl ?_
  by_cases c1_0 : v1 = 0
  · have h := ok_t h c1_0
    refine g_tin hx (dflt := 159) (lo := 0) (hi := 10) (offs := #[59, 67, 75, 86, 97, 108, 119, 130, 138, 146, 151]) (len := 59) (off := 59) (tgt := 60) (v := 0) (by decide +kernel) c1_0 (by decide +kernel) (by decide +kernel) (by decide +kernel) (by decide) ?_
    refine g_run hx [(.aload_n 0, 0, 0), (.getfield 19, 0, 0), (.getfield 104, 0, 0)] (pc' := 67) (lo' := [some (.ref 0), some (.int v1)]) (st' := [.int (gI σ 10 0)]) (σ' := σ) (by decide +kernel) rfl rfl ?_
    exact g_iret hx hr rfl _ rfl (by decide +kernel) (ok_some h)
  have h := ok_f h c1_0
  by_cases c1_1 : v1 = 1
  · have h := ok_t h c1_1
    refine g_tin hx (dflt := 159) (lo := 0) (hi := 10) (offs := #[59, 67, 75, 86, 97, 108, 119, 130, 138, 146, 151]) (len := 59) (off := 67) (tgt := 68) (v := 1) (by decide +kernel) c1_1 (by decide +kernel) (by decide +kernel) (by decide +kernel) (by decide) ?_
    refine g_run hx [(.aload_n 0, 0, 0), (.getfield 19, 0, 0), (.getfield 337, 0, 0)] (pc' := 75) (lo' := [some (.ref 0), some (.int v1)]) (st' := [.int (gI σ 10 1)]) (σ' := σ) (by decide +kernel) rfl rfl ?_
    exact g_iret hx hr rfl _ rfl (by decide +kernel) (ok_some h)
  have h := ok_f h c1_1
  by_cases c1_2 : v1 = 2
  · have h := ok_t h c1_2
    refine g_tin hx (dflt := 159) (lo := 0) (hi := 10) (offs := #[59, 67, 75, 86, 97, 108, 119, 130, 138, 146, 151]) (len := 59) (off := 75) (tgt := 76) (v := 2) (by decide +kernel) c1_2 (by decide +kernel) (by decide +kernel) (by decide +kernel) (by decide) ?_
    refine g_run hx [(.aload_n 0, 0, 0), (.getfield 19, 0, 0), (.getfield 155, 0, 0), (.getfield 133, 0, 0)] (pc' := 86) (lo' := [some (.ref 0), some (.int v1)]) (st' := [.int (gI σ 11 1)]) (σ' := σ) (by decide +kernel) rfl rfl ?_
    exact g_iret hx hr rfl _ rfl (by decide +kernel) (ok_some h)
  have h := ok_f h c1_2
  by_cases c1_3 : v1 = 3
  · have h := ok_t h c1_3
    refine g_tin hx (dflt := 159) (lo := 0) (hi := 10) (offs := #[59, 67, 75, 86, 97, 108, 119, 130, 138, 146, 151]) (len := 59) (off := 86) (tgt := 87) (v := 3) (by decide +kernel) c1_3 (by decide +kernel) (by decide +kernel) (by decide +kernel) (by decide) ?_
    refine g_run hx [(.aload_n 0, 0, 0), (.getfield 19, 0, 0), (.getfield 129, 0, 0), (.getfield 133, 0, 0)] (pc' := 97) (lo' := [some (.ref 0), some (.int v1)]) (st' := [.int (gI σ 13 1)]) (σ' := σ) (by decide +kernel) rfl rfl ?_
    exact g_iret hx hr rfl _ rfl (by decide +kernel) (ok_some h)
  have h := ok_f h c1_3
  by_cases c1_4 : v1 = 4
  · have h := ok_t h c1_4
    refine g_tin hx (dflt := 159) (lo := 0) (hi := 10) (offs := #[59, 67, 75, 86, 97, 108, 119, 130, 138, 146, 151]) (len := 59) (off := 97) (tgt := 98) (v := 4) (by decide +kernel) c1_4 (by decide +kernel) (by decide +kernel) (by decide +kernel) (by decide) ?_
    refine g_run hx [(.aload_n 0, 0, 0), (.getfield 19, 0, 0), (.getfield 375, 0, 0), (.getfield 133, 0, 0)] (pc' := 108) (lo' := [some (.ref 0), some (.int v1)]) (st' := [.int (gI σ 17 1)]) (σ' := σ) (by decide +kernel) rfl rfl ?_
    exact g_iret hx hr rfl _ rfl (by decide +kernel) (ok_some h)
  have h := ok_f h c1_4
  by_cases c1_5 : v1 = 5
  · have h := ok_t h c1_5
    refine g_tin hx (dflt := 159) (lo := 0) (hi := 10) (offs := #[59, 67, 75, 86, 97, 108, 119, 130, 138, 146, 151]) (len := 59) (off := 108) (tgt := 109) (v := 5) (by decide +kernel) c1_5 (by decide +kernel) (by decide +kernel) (by decide +kernel) (by decide) ?_
    refine g_run hx [(.aload_n 0, 0, 0), (.getfield 19, 0, 0), (.getfield 378, 0, 0), (.getfield 133, 0, 0)] (pc' := 119) (lo' := [some (.ref 0), some (.int v1)]) (st' := [.int (gI σ 19 1)]) (σ' := σ) (by decide +kernel) rfl rfl ?_
    exact g_iret hx hr rfl _ rfl (by decide +kernel) (ok_some h)
  have h := ok_f h c1_5
  by_cases c1_6 : v1 = 6
  · have h := ok_t h c1_6
    refine g_tin hx (dflt := 159) (lo := 0) (hi := 10) (offs := #[59, 67, 75, 86, 97, 108, 119, 130, 138, 146, 151]) (len := 59) (off := 119) (tgt := 120) (v := 6) (by decide +kernel) c1_6 (by decide +kernel) (by decide +kernel) (by decide +kernel) (by decide) ?_
    refine g_run hx [(.aload_n 0, 0, 0), (.getfield 19, 0, 0), (.getfield 381, 0, 0), (.getfield 133, 0, 0)] (pc' := 130) (lo' := [some (.ref 0), some (.int v1)]) (st' := [.int (gI σ 21 1)]) (σ' := σ) (by decide +kernel) rfl rfl ?_
    exact g_iret hx hr rfl _ rfl (by decide +kernel) (ok_some h)
  have h := ok_f h c1_6
  by_cases c1_7 : v1 = 7
  · have h := ok_t h c1_7
    refine g_tin hx (dflt := 159) (lo := 0) (hi := 10) (offs := #[59, 67, 75, 86, 97, 108, 119, 130, 138, 146, 151]) (len := 59) (off := 130) (tgt := 131) (v := 7) (by decide +kernel) c1_7 (by decide +kernel) (by decide +kernel) (by decide +kernel) (by decide) ?_
    refine g_run hx [(.aload_n 0, 0, 0), (.getfield 26, 0, 0), (.getfield 356, 0, 0)] (pc' := 138) (lo' := [some (.ref 0), some (.int v1)]) (st' := [.int (gI σ 40 4)]) (σ' := σ) (by decide +kernel) rfl rfl ?_
    exact g_iret hx hr rfl _ rfl (by decide +kernel) (ok_some h)
  have h := ok_f h c1_7
  by_cases c1_8 : v1 = 8
  · have h := ok_t h c1_8
    refine g_tin hx (dflt := 159) (lo := 0) (hi := 10) (offs := #[59, 67, 75, 86, 97, 108, 119, 130, 138, 146, 151]) (len := 59) (off := 138) (tgt := 139) (v := 8) (by decide +kernel) c1_8 (by decide +kernel) (by decide +kernel) (by decide +kernel) (by decide) ?_
    refine g_run hx [(.aload_n 0, 0, 0), (.getfield 36, 0, 0), (.getfield 384, 0, 0)] (pc' := 146) (lo' := [some (.ref 0), some (.int v1)]) (st' := [.int (gI σ 42 2)]) (σ' := σ) (by decide +kernel) rfl rfl ?_
    exact g_iret hx hr rfl _ rfl (by decide +kernel) (ok_some h)
  have h := ok_f h c1_8
  by_cases c1_9 : v1 = 9
  · have h := ok_t h c1_9
    refine g_tin hx (dflt := 159) (lo := 0) (hi := 10) (offs := #[59, 67, 75, 86, 97, 108, 119, 130, 138, 146, 151]) (len := 59) (off := 146) (tgt := 147) (v := 9) (by decide +kernel) c1_9 (by decide +kernel) (by decide +kernel) (by decide +kernel) (by decide) ?_
    refine g_run hx [(.aload_n 0, 0, 0), (.getfield 49, 0, 0)] (pc' := 151) (lo' := [some (.ref 0), some (.int v1)]) (st' := [.int (gI σ 0 6)]) (σ' := σ) (by decide +kernel) rfl rfl ?_
    exact g_iret hx hr rfl _ rfl (by decide +kernel) (ok_some h)
  have h := ok_f h c1_9
  by_cases c1_10 : v1 = 10
  · have h := ok_t h c1_10
    refine g_tin hx (dflt := 159) (lo := 0) (hi := 10) (offs := #[59, 67, 75, 86, 97, 108, 119, 130, 138, 146, 151]) (len := 59) (off := 151) (tgt := 152) (v := 10) (by decide +kernel) c1_10 (by decide +kernel) (by decide +kernel) (by decide +kernel) (by decide) ?_
    refine g_run hx [(.aload_n 0, 0, 0), (.getfield 10, 0, 0), (.getfield 77, 0, 0)] (pc' := 159) (lo' := [some (.ref 0), some (.int v1)]) (st' := [.int (gI σ 1 1)]) (σ' := σ) (by decide +kernel) rfl rfl ?_
    exact g_iret hx hr rfl _ rfl (by decide +kernel) (ok_some h)
  have h := ok_f h c1_10
  refine g_tout hx (dflt := 159) (n := 11) (offs := #[59, 67, 75, 86, 97, 108, 119, 130, 138, 146, 151]) (len := 59) (tgt := 160) (by decide +kernel) (by decide) (sw_ne ⟨c1_0, c1_1, c1_2, c1_3, c1_4, c1_5, c1_6, c1_7, c1_8, c1_9, c1_10, trivial⟩) (by decide) ?_
  refine g_run hx [(.iconst (-1), (-1), 0)] (pc' := 161) (lo' := [some (.ref 0), some (.int v1)]) (st' := [.int (-1)]) (σ' := σ) (by decide +kernel) rfl rfl ?_
  exact g_iret hx hr rfl _ rfl (by decide +kernel) (ok_some h)
def f_x_son (N : Nat) (σ : Sg) : Option (Int32 × Sg) :=
  (f_x_landTrouble N σ).bind fun q1 =>
  (f_x_granted N q1.1 q1.2).bind fun q2 =>
  if q2.1 = true then
    some ((gI q2.2 40 2), q2.2)
  else
    some ((-1), q2.2)
set_option maxRecDepth 100000 in
theorem s_x_son {y : EX} {N : Nat} {σ : Sg} {P : Int32 × Sg → Prop} (h : ok (f_x_son N σ) P) : Ev y M_x_son 1 [.ref 0] σ rvI P := by
  refine Ev.of mk_x_son (Nat.le_of_ble_eq_true rfl) (fun x hx hc hr => ?_)
  have hx : Cx 9 prog_1_method_9_code x := hx
  have hc : Cc y 1 1 x := hc
  show G x 0 [some (.ref 0)] [] σ
  unfold f_x_son at h
  refine g_run hx [(.aload_n 0, 0, 0), (.aload_n 0, 0, 0)] (pc' := 2) (lo' := [some (.ref 0)]) (st' := [.ref 0, .ref 0]) (σ' := σ) (by decide +kernel) rfl rfl ?_
  refine g_callV (rest := [.ref 0]) [] hx hc mk_x_landTrouble ln_9_158 rfl (by decide +kernel) (by decide) (Nat.le_of_ble_eq_true rfl) (s_x_landTrouble (ok_b h)) (fun r1 s1 h => ?_)
  refine g_callV (rest := []) [.int r1] hx hc mk_x_granted ln_9_83 rfl (by decide +kernel) (by decide) (Nat.le_of_ble_eq_true rfl) (s_x_granted (ok_b h)) (fun r2 s2 h => ?_)
  refine g_ifb_eq hx (off := 13) (tgt := 21) (by decide +kernel) (by decide) (fun c8 => ?_) (fun c8 => ?_)
  · have h := ok_f h c8
    refine g_run hx [(.iconst (-1), (-1), 0)] (pc' := 22) (lo' := [some (.ref 0)]) (st' := [.int (-1)]) (σ' := s2) (by decide +kernel) rfl rfl ?_
    exact g_iret hx hr rfl _ rfl (by decide +kernel) (ok_some h)
  · have h := ok_t h c8
    refine g_run hx [(.aload_n 0, 0, 0), (.getfield 26, 0, 0), (.getfield 123, 0, 0)] (pc' := 18) (lo' := [some (.ref 0)]) (st' := [.int (gI s2 40 2)]) (σ' := s2) (by decide +kernel) rfl rfl ?_
    refine g_goto hx (off := 4) (tgt := 22) (by decide +kernel) (by decide) ?_
    exact g_iret hx hr rfl _ rfl (by decide +kernel) (ok_some h)
def f_paths_spareLost (N : Nat) (v1 : Int32) (σ : Sg) : Option (Int32 × Sg) :=
  (f_paths_get N 60 58 v1 σ).bind fun q1 =>
  some (q1.1, q1.2)
set_option maxRecDepth 100000 in
theorem s_paths_spareLost {y : EX} {N : Nat} {v1 : Int32} {σ : Sg} {P : Int32 × Sg → Prop} (h : ok (f_paths_spareLost N v1 σ) P) : Ev y M_paths_spareLost 1 [.ref 55, .int v1] σ rvI P := by
  refine Ev.of mk_paths_spareLost (Nat.le_of_ble_eq_true rfl) (fun x hx hc hr => ?_)
  have hx : Cx 4 prog_6_method_8_code x := hx
  have hc : Cc y 2 1 x := hc
  show G x 0 [some (.ref 55), some (.int v1)] [] σ
  unfold f_paths_spareLost at h
  refine g_run hx [(.aload_n 0, 0, 0), (.getfield 18, 0, 0), (.iload_n 1, 0, 0)] (pc' := 5) (lo' := [some (.ref 55), some (.int v1)]) (st' := [.int v1, .ref 58]) (σ' := σ) (by decide +kernel) rfl rfl ?_
  refine g_callS (rest := []) [.ref 58, .int v1] hx hc mk_paths_get ln_4_108 (by decide +kernel) (by decide) (Nat.le_of_ble_eq_true rfl) (s_paths_get_58 (ok_b h)) (fun r1 s1 h => ?_)
  exact g_iret hx hr rfl _ rfl (by decide +kernel) (ok_some h)
def f_x_spare (N : Nat) (v1 : Int32) (σ : Sg) : Option (Int32 × Sg) :=
  (f_x_cellTrouble N v1 σ).bind fun q1 =>
  (f_x_granted N q1.1 q1.2).bind fun q2 =>
  if q2.1 = true then
    (f_x_knownPaths N q2.2).bind fun q3 =>
    (f_paths_spareLost N v1 q3.2).bind fun q4 =>
    some (q4.1, q4.2)
  else
    some ((-1), q2.2)
set_option maxRecDepth 100000 in
theorem s_x_spare {y : EX} {N : Nat} {v1 : Int32} {σ : Sg} {P : Int32 × Sg → Prop} (h : ok (f_x_spare N v1 σ) P) : Ev y M_x_spare 18 [.ref 0, .int v1] σ rvI P := by
  refine Ev.of mk_x_spare (Nat.le_of_ble_eq_true rfl) (fun x hx hc hr => ?_)
  have hx : Cx 9 prog_1_method_30_code x := hx
  have hc : Cc y 2 18 x := hc
  show G x 0 [some (.ref 0), some (.int v1)] [] σ
  unfold f_x_spare at h
  refine g_run hx [(.aload_n 0, 0, 0), (.aload_n 0, 0, 0), (.iload_n 1, 0, 0)] (pc' := 3) (lo' := [some (.ref 0), some (.int v1)]) (st' := [.int v1, .ref 0, .ref 0]) (σ' := σ) (by decide +kernel) rfl rfl ?_
  refine g_callV (rest := [.ref 0]) [.int v1] hx hc mk_x_cellTrouble ln_9_110 rfl (by decide +kernel) (by decide) (Nat.le_of_ble_eq_true rfl) (s_x_cellTrouble (ok_b h)) (fun r1 s1 h => ?_)
  refine g_callV (rest := []) [.int r1] hx hc mk_x_granted ln_9_83 rfl (by decide +kernel) (by decide) (Nat.le_of_ble_eq_true rfl) (s_x_granted (ok_b h)) (fun r2 s2 h => ?_)
  refine g_ifb_eq hx (off := 14) (tgt := 23) (by decide +kernel) (by decide) (fun c9 => ?_) (fun c9 => ?_)
  · have h := ok_f h c9
    refine g_run hx [(.iconst (-1), (-1), 0)] (pc' := 24) (lo' := [some (.ref 0), some (.int v1)]) (st' := [.int (-1)]) (σ' := s2) (by decide +kernel) rfl rfl ?_
    exact g_iret hx hr rfl _ rfl (by decide +kernel) (ok_some h)
  · have h := ok_t h c9
    refine g_run hx [(.aload_n 0, 0, 0)] (pc' := 13) (lo' := [some (.ref 0), some (.int v1)]) (st' := [.ref 0]) (σ' := s2) (by decide +kernel) rfl rfl ?_
    refine g_callV (rest := []) [] hx hc mk_x_knownPaths ln_9_231 rfl (by decide +kernel) (by decide) (Nat.le_of_ble_eq_true rfl) (s_x_knownPaths (ok_b h)) (fun r3 s3 h => ?_)
    refine g_run hx [(.iload_n 1, 0, 0)] (pc' := 17) (lo' := [some (.ref 0), some (.int v1)]) (st' := [.int v1, .ref 55]) (σ' := s3) (by decide +kernel) rfl rfl ?_
    refine g_callV (rest := []) [.int v1] hx hc mk_paths_spareLost ln_9_245 rfl (by decide +kernel) (by decide) (Nat.le_of_ble_eq_true rfl) (s_paths_spareLost (ok_b h)) (fun r4 s4 h => ?_)
    refine g_goto hx (off := 4) (tgt := 24) (by decide +kernel) (by decide) ?_
    exact g_iret hx hr rfl _ rfl (by decide +kernel) (ok_some h)
set_option maxRecDepth 100000 in
theorem s_paths_get_60 {y : EX} {N : Nat} {v1 : Int32} {σ : Sg} {P : Int32 × Sg → Prop} (h : ok (f_paths_get N 60 60 v1 σ) P) : Ev y M_paths_get 0 [.ref 60, .int v1] σ rvI P := by
  refine Ev.of mk_paths_get (Nat.le_of_ble_eq_true rfl) (fun x hx hc hr => ?_)
  have hx : Cx 4 prog_6_method_13_code x := hx
  have hc : Cc y 2 0 x := hc
  show G x 0 [some (.ref 60), some (.int v1)] [] σ
  unfold f_paths_get at h
  refine g_run hx [(.iload_n 1, 0, 0)] (pc' := 1) (lo' := [some (.ref 60), some (.int v1)]) (st' := [.int v1]) (σ' := σ) (by decide +kernel) rfl rfl ?_
  refine g_if_lt hx (off := 15) (tgt := 16) (by decide +kernel) (by decide) (fun c1 => ?_) (fun c1 => ?_)
  · have h := ok_t h c1
    refine g_run hx [(.bipush (-2), (-2), 0)] (pc' := 18) (lo' := [some (.ref 60), some (.int v1)]) (st' := [.int (-2)]) (σ' := σ) (by decide +kernel) rfl rfl ?_
    exact g_iret hx hr rfl _ rfl (by decide +kernel) (ok_some h)
  · have h := ok_f h c1
    refine g_run hx [(.iload_n 1, 0, 0), (.aload_n 0, 0, 0), (.arraylength, 0, 0)] (pc' := 7) (lo' := [some (.ref 60), some (.int v1)]) (st' := [.int (nI 60), .int v1]) (σ' := σ) (by decide +kernel) rfl rfl ?_
    refine g_ic_ge hx (off := 9) (tgt := 16) (by decide +kernel) (by decide) (fun c7 => ?_) (fun c7 => ?_)
    · have h := ok_t h c7
      refine g_run hx [(.bipush (-2), (-2), 0)] (pc' := 18) (lo' := [some (.ref 60), some (.int v1)]) (st' := [.int (-2)]) (σ' := σ) (by decide +kernel) rfl rfl ?_
      exact g_iret hx hr rfl _ rfl (by decide +kernel) (ok_some h)
    · have h := ok_f h c7
      refine g_run hx [(.aload_n 0, 0, 0), (.iload_n 1, 0, 0)] (pc' := 12) (lo' := [some (.ref 60), some (.int v1)]) (st' := [.int v1, .ref 60]) (σ' := σ) (by decide +kernel) rfl rfl ?_
      obtain ⟨c12, h⟩ := ok_g h
      refine g_iald hx (by decide +kernel) (i := 60) (n := 60) rfl c12 ?_
      refine g_goto hx (off := 5) (tgt := 18) (by decide +kernel) (by decide) ?_
      exact g_iret hx hr rfl _ rfl (by decide +kernel) (ok_some h)
def f_paths_sparingRow (N : Nat) (v1 : Int32) (σ : Sg) : Option (Int32 × Sg) :=
  (f_paths_get N 60 60 v1 σ).bind fun q1 =>
  some (q1.1, q1.2)
set_option maxRecDepth 100000 in
theorem s_paths_sparingRow {y : EX} {N : Nat} {v1 : Int32} {σ : Sg} {P : Int32 × Sg → Prop} (h : ok (f_paths_sparingRow N v1 σ) P) : Ev y M_paths_sparingRow 1 [.ref 55, .int v1] σ rvI P := by
  refine Ev.of mk_paths_sparingRow (Nat.le_of_ble_eq_true rfl) (fun x hx hc hr => ?_)
  have hx : Cx 4 prog_6_method_9_code x := hx
  have hc : Cc y 2 1 x := hc
  show G x 0 [some (.ref 55), some (.int v1)] [] σ
  unfold f_paths_sparingRow at h
  refine g_run hx [(.aload_n 0, 0, 0), (.getfield 24, 0, 0), (.iload_n 1, 0, 0)] (pc' := 5) (lo' := [some (.ref 55), some (.int v1)]) (st' := [.int v1, .ref 60]) (σ' := σ) (by decide +kernel) rfl rfl ?_
  refine g_callS (rest := []) [.ref 60, .int v1] hx hc mk_paths_get ln_4_108 (by decide +kernel) (by decide) (Nat.le_of_ble_eq_true rfl) (s_paths_get_60 (ok_b h)) (fun r1 s1 h => ?_)
  exact g_iret hx hr rfl _ rfl (by decide +kernel) (ok_some h)
def f_x_spareRow (N : Nat) (v1 : Int32) (σ : Sg) : Option (Int32 × Sg) :=
  (f_x_cellTrouble N v1 σ).bind fun q1 =>
  (f_x_granted N q1.1 q1.2).bind fun q2 =>
  if q2.1 = true then
    (f_x_knownPaths N q2.2).bind fun q3 =>
    (f_paths_sparingRow N v1 q3.2).bind fun q4 =>
    some (q4.1, q4.2)
  else
    some ((-1), q2.2)
set_option maxRecDepth 100000 in
theorem s_x_spareRow {y : EX} {N : Nat} {v1 : Int32} {σ : Sg} {P : Int32 × Sg → Prop} (h : ok (f_x_spareRow N v1 σ) P) : Ev y M_x_spareRow 18 [.ref 0, .int v1] σ rvI P := by
  refine Ev.of mk_x_spareRow (Nat.le_of_ble_eq_true rfl) (fun x hx hc hr => ?_)
  have hx : Cx 9 prog_1_method_31_code x := hx
  have hc : Cc y 2 18 x := hc
  show G x 0 [some (.ref 0), some (.int v1)] [] σ
  unfold f_x_spareRow at h
  refine g_run hx [(.aload_n 0, 0, 0), (.aload_n 0, 0, 0), (.iload_n 1, 0, 0)] (pc' := 3) (lo' := [some (.ref 0), some (.int v1)]) (st' := [.int v1, .ref 0, .ref 0]) (σ' := σ) (by decide +kernel) rfl rfl ?_
  refine g_callV (rest := [.ref 0]) [.int v1] hx hc mk_x_cellTrouble ln_9_110 rfl (by decide +kernel) (by decide) (Nat.le_of_ble_eq_true rfl) (s_x_cellTrouble (ok_b h)) (fun r1 s1 h => ?_)
  refine g_callV (rest := []) [.int r1] hx hc mk_x_granted ln_9_83 rfl (by decide +kernel) (by decide) (Nat.le_of_ble_eq_true rfl) (s_x_granted (ok_b h)) (fun r2 s2 h => ?_)
  refine g_ifb_eq hx (off := 14) (tgt := 23) (by decide +kernel) (by decide) (fun c9 => ?_) (fun c9 => ?_)
  · have h := ok_f h c9
    refine g_run hx [(.iconst (-1), (-1), 0)] (pc' := 24) (lo' := [some (.ref 0), some (.int v1)]) (st' := [.int (-1)]) (σ' := s2) (by decide +kernel) rfl rfl ?_
    exact g_iret hx hr rfl _ rfl (by decide +kernel) (ok_some h)
  · have h := ok_t h c9
    refine g_run hx [(.aload_n 0, 0, 0)] (pc' := 13) (lo' := [some (.ref 0), some (.int v1)]) (st' := [.ref 0]) (σ' := s2) (by decide +kernel) rfl rfl ?_
    refine g_callV (rest := []) [] hx hc mk_x_knownPaths ln_9_231 rfl (by decide +kernel) (by decide) (Nat.le_of_ble_eq_true rfl) (s_x_knownPaths (ok_b h)) (fun r3 s3 h => ?_)
    refine g_run hx [(.iload_n 1, 0, 0)] (pc' := 17) (lo' := [some (.ref 0), some (.int v1)]) (st' := [.int v1, .ref 55]) (σ' := s3) (by decide +kernel) rfl rfl ?_
    refine g_callV (rest := []) [.int v1] hx hc mk_paths_sparingRow ln_9_248 rfl (by decide +kernel) (by decide) (Nat.le_of_ble_eq_true rfl) (s_paths_sparingRow (ok_b h)) (fun r4 s4 h => ?_)
    refine g_goto hx (off := 4) (tgt := 24) (by decide +kernel) (by decide) ?_
    exact g_iret hx hr rfl _ rfl (by decide +kernel) (ok_some h)
set_option maxRecDepth 100000 in
theorem s_state_lessen_40 {y : EX} {N : Nat} {v1 : Int64} {σ : Sg} {P : Unit × Sg → Prop} (h : ok (f_state_lessen N 40 v1 σ) P) : Ev y M_state_lessen 0 [.ref 40, .long v1] σ rvN P := by
  refine Ev.of mk_state_lessen (Nat.le_of_ble_eq_true rfl) (fun x hx hc hr => ?_)
  have hx : Cx 7 prog_9_method_12_code x := hx
  have hc : Cc y 5 0 x := hc
  show G x 0 [some (.ref 40), some (.long v1), none, none, none] [] σ
  unfold f_state_lessen at h
  refine g_run hx [(.lload_n 1, 0, 0), (.aload_n 0, 0, 0), (.getfield 9, 0, 0), (.ldc2_w 68, 0, (-1)), (.lxor, 0, 0), (.land, 0, 0), (.lstore_n 3, 0, 0), (.aload_n 0, 0, 0), (.dup, 0, 0), (.getfield 9, 0, 0), (.lload_n 1, 0, 0), (.lxor, 0, 0), (.putfield 9, 0, 0), (.aload_n 0, 0, 0), (.dup, 0, 0), (.getfield 15, 0, 0), (.lload_n 3, 0, 0), (.lxor, 0, 0), (.putfield 15, 0, 0)] (pc' := 31) (lo' := [some (.ref 40), some (.long v1), none, some (.long (v1 &&& ((gL σ 40 0) ^^^ (-1)))), none]) (st' := []) (σ' := sL (sL σ 40 0 ((gL σ 40 0) ^^^ v1)) 40 1 ((gL (sL σ 40 0 ((gL σ 40 0) ^^^ v1)) 40 1) ^^^ (v1 &&& ((gL σ 40 0) ^^^ (-1))))) (by decide +kernel) rfl rfl ?_
  exact g_vret hx hr rfl () rfl (by decide +kernel) (ok_some h)
def f_state_stepTo (N : Nat) (a0 : Nat) (v1 : Int32) (σ : Sg) : Option (Unit × Sg) :=
  (f_state_goneCells N a0 (sI σ a0 3 v1)).bind fun q1 =>
  (f_x_span N v1 v1 q1.2).bind fun q2 =>
  (f_state_lessen N a0 (q1.1 &&& q2.1) q2.2).bind fun q3 =>
  some ((), q3.2)
set_option maxRecDepth 100000 in
theorem s_state_stepTo_40 {y : EX} {N : Nat} {v1 : Int32} {σ : Sg} {P : Unit × Sg → Prop} (h : ok (f_state_stepTo N 40 v1 σ) P) : Ev y M_state_stepTo 2 [.ref 40, .int v1] σ rvN P := by
  refine Ev.of mk_state_stepTo (Nat.le_of_ble_eq_true rfl) (fun x hx hc hr => ?_)
  have hx : Cx 7 prog_9_method_8_code x := hx
  have hc : Cc y 2 2 x := hc
  show G x 0 [some (.ref 40), some (.int v1)] [] σ
  unfold f_state_stepTo at h
  refine g_run hx [(.aload_n 0, 0, 0), (.iload_n 1, 0, 0), (.putfield 22, 0, 0), (.aload_n 0, 0, 0), (.aload_n 0, 0, 0)] (pc' := 7) (lo' := [some (.ref 40), some (.int v1)]) (st' := [.ref 40, .ref 40]) (σ' := sI σ 40 3 v1) (by decide +kernel) rfl rfl ?_
  refine g_callV (rest := [.ref 40]) [] hx hc mk_state_goneCells ln_7_56 rfl (by decide +kernel) (by decide) (Nat.le_of_ble_eq_true rfl) (s_state_goneCells_40 (ok_b h)) (fun r1 s1 h => ?_)
  refine g_run hx [(.iload_n 1, 0, 0), (.iload_n 1, 0, 0)] (pc' := 12) (lo' := [some (.ref 40), some (.int v1)]) (st' := [.int v1, .int v1, .long r1, .ref 40]) (σ' := s1) (by decide +kernel) rfl rfl ?_
  refine g_callN (rest := [.long r1, .ref 40]) [.int v1, .int v1] hx hc mk_x_span ln_7_70 (by decide +kernel) (by decide) (Nat.le_of_ble_eq_true rfl) (s_x_span (ok_b h)) (fun r2 s2 h => ?_)
  refine g_run hx [(.land, 0, 0)] (pc' := 16) (lo' := [some (.ref 40), some (.int v1)]) (st' := [.long (r1 &&& r2), .ref 40]) (σ' := s2) (by decide +kernel) rfl rfl ?_
  refine g_callV (rest := []) [.long (r1 &&& r2)] hx hc mk_state_lessen ln_7_73 rfl (by decide +kernel) (by decide) (Nat.le_of_ble_eq_true rfl) (s_state_lessen_40 (ok_b h)) (fun r3 s3 h => ?_)
  exact g_vret hx hr rfl () rfl (by decide +kernel) (ok_some h)
def f_x_step (N : Nat) (v1 : Int32) (σ : Sg) : Option (Int32 × Sg) :=
  (f_x_landTrouble N σ).bind fun q1 =>
  if q1.1 = 0 then
    (f_x_wayTrouble N v1 q1.2).bind fun q2 =>
    (f_x_granted N q2.1 q2.2).bind fun q3 =>
    if q3.1 = true then
      if v1 = 0 then
        if ((gI q3.2 40 3) + 1) < 0 then
          (f_x_granted N 5 q3.2).bind fun q13 =>
          if q13.1 = true then
            (f_history_keep N q13.2).bind fun q14 =>
            (f_state_stepTo N 40 ((gI q3.2 40 3) + 1) q14.2).bind fun q15 =>
            some ((gI q15.2 40 3), q15.2)
          else
            some ((-1), q13.2)
        else
          if ((gI q3.2 40 3) + 1) < (gI q3.2 10 0) then
            (f_x_granted N 0 q3.2).bind fun q16 =>
            if q16.1 = true then
              (f_history_keep N q16.2).bind fun q17 =>
              (f_state_stepTo N 40 ((gI q3.2 40 3) + 1) q17.2).bind fun q18 =>
              some ((gI q18.2 40 3), q18.2)
            else
              some ((-1), q16.2)
          else
            (f_x_granted N 5 q3.2).bind fun q19 =>
            if q19.1 = true then
              (f_history_keep N q19.2).bind fun q20 =>
              (f_state_stepTo N 40 ((gI q3.2 40 3) + 1) q20.2).bind fun q21 =>
              some ((gI q21.2 40 3), q21.2)
            else
              some ((-1), q19.2)
      else
        if ((gI q3.2 40 3) + (-1)) < 0 then
          (f_x_granted N 5 q3.2).bind fun q4 =>
          if q4.1 = true then
            (f_history_keep N q4.2).bind fun q5 =>
            (f_state_stepTo N 40 ((gI q3.2 40 3) + (-1)) q5.2).bind fun q6 =>
            some ((gI q6.2 40 3), q6.2)
          else
            some ((-1), q4.2)
        else
          if ((gI q3.2 40 3) + (-1)) < (gI q3.2 10 0) then
            (f_x_granted N 0 q3.2).bind fun q7 =>
            if q7.1 = true then
              (f_history_keep N q7.2).bind fun q8 =>
              (f_state_stepTo N 40 ((gI q3.2 40 3) + (-1)) q8.2).bind fun q9 =>
              some ((gI q9.2 40 3), q9.2)
            else
              some ((-1), q7.2)
          else
            (f_x_granted N 5 q3.2).bind fun q10 =>
            if q10.1 = true then
              (f_history_keep N q10.2).bind fun q11 =>
              (f_state_stepTo N 40 ((gI q3.2 40 3) + (-1)) q11.2).bind fun q12 =>
              some ((gI q12.2 40 3), q12.2)
            else
              some ((-1), q10.2)
    else
      some ((-1), q3.2)
  else
    (f_x_granted N 1 q1.2).bind fun q22 =>
    if q22.1 = true then
      if v1 = 0 then
        if ((gI q22.2 40 3) + 1) < 0 then
          (f_x_granted N 5 q22.2).bind fun q32 =>
          if q32.1 = true then
            (f_history_keep N q32.2).bind fun q33 =>
            (f_state_stepTo N 40 ((gI q22.2 40 3) + 1) q33.2).bind fun q34 =>
            some ((gI q34.2 40 3), q34.2)
          else
            some ((-1), q32.2)
        else
          if ((gI q22.2 40 3) + 1) < (gI q22.2 10 0) then
            (f_x_granted N 0 q22.2).bind fun q35 =>
            if q35.1 = true then
              (f_history_keep N q35.2).bind fun q36 =>
              (f_state_stepTo N 40 ((gI q22.2 40 3) + 1) q36.2).bind fun q37 =>
              some ((gI q37.2 40 3), q37.2)
            else
              some ((-1), q35.2)
          else
            (f_x_granted N 5 q22.2).bind fun q38 =>
            if q38.1 = true then
              (f_history_keep N q38.2).bind fun q39 =>
              (f_state_stepTo N 40 ((gI q22.2 40 3) + 1) q39.2).bind fun q40 =>
              some ((gI q40.2 40 3), q40.2)
            else
              some ((-1), q38.2)
      else
        if ((gI q22.2 40 3) + (-1)) < 0 then
          (f_x_granted N 5 q22.2).bind fun q23 =>
          if q23.1 = true then
            (f_history_keep N q23.2).bind fun q24 =>
            (f_state_stepTo N 40 ((gI q22.2 40 3) + (-1)) q24.2).bind fun q25 =>
            some ((gI q25.2 40 3), q25.2)
          else
            some ((-1), q23.2)
        else
          if ((gI q22.2 40 3) + (-1)) < (gI q22.2 10 0) then
            (f_x_granted N 0 q22.2).bind fun q26 =>
            if q26.1 = true then
              (f_history_keep N q26.2).bind fun q27 =>
              (f_state_stepTo N 40 ((gI q22.2 40 3) + (-1)) q27.2).bind fun q28 =>
              some ((gI q28.2 40 3), q28.2)
            else
              some ((-1), q26.2)
          else
            (f_x_granted N 5 q22.2).bind fun q29 =>
            if q29.1 = true then
              (f_history_keep N q29.2).bind fun q30 =>
              (f_state_stepTo N 40 ((gI q22.2 40 3) + (-1)) q30.2).bind fun q31 =>
              some ((gI q31.2 40 3), q31.2)
            else
              some ((-1), q29.2)
    else
      some ((-1), q22.2)
set_option maxRecDepth 100000 in
theorem s_x_step {y : EX} {N : Nat} {v1 : Int32} {σ : Sg} {P : Int32 × Sg → Prop} (h : ok (f_x_step N v1 σ) P) : Ev y M_x_step 3 [.ref 0, .int v1] σ rvI P := by
  refine Ev.of mk_x_step (Nat.le_of_ble_eq_true rfl) (fun x hx hc hr => ?_)
  have hx : Cx 9 prog_1_method_54_code x := hx
  have hc : Cc y 3 3 x := hc
  show G x 0 [some (.ref 0), some (.int v1), none] [] σ
  unfold f_x_step at h
  refine g_run hx [(.aload_n 0, 0, 0), (.aload_n 0, 0, 0)] (pc' := 2) (lo' := [some (.ref 0), some (.int v1), none]) (st' := [.ref 0, .ref 0]) (σ' := σ) (by decide +kernel) rfl rfl ?_
  refine g_callV (rest := [.ref 0]) [] hx hc mk_x_landTrouble ln_9_158 rfl (by decide +kernel) (by decide) (Nat.le_of_ble_eq_true rfl) (s_x_landTrouble (ok_b h)) (fun r1 s1 h => ?_)
  refine g_if_eq hx (off := 7) (tgt := 12) (by decide +kernel) (by decide) (fun c5 => ?_) (fun c5 => ?_)
  · have h := ok_t h c5
    refine g_run hx [(.iload_n 1, 0, 0)] (pc' := 13) (lo' := [some (.ref 0), some (.int v1), none]) (st' := [.int v1, .ref 0]) (σ' := s1) (by decide +kernel) rfl rfl ?_
    refine g_callS (rest := [.ref 0]) [.int v1] hx hc mk_x_wayTrouble ln_9_350 (by decide +kernel) (by decide) (Nat.le_of_ble_eq_true rfl) (s_x_wayTrouble (ok_b h)) (fun r2 s2 h => ?_)
    refine g_callV (rest := []) [.int r2] hx hc mk_x_granted ln_9_83 rfl (by decide +kernel) (by decide) (Nat.le_of_ble_eq_true rfl) (s_x_granted (ok_b h)) (fun r3 s3 h => ?_)
    refine g_ifb_ne hx (off := 5) (tgt := 24) (by decide +kernel) (by decide) (fun c19 => ?_) (fun c19 => ?_)
    · have h := ok_t h c19
      refine g_run hx [(.aload_n 0, 0, 0), (.getfield 26, 0, 0), (.getfield 126, 0, 0), (.iload_n 1, 0, 0)] (pc' := 32) (lo' := [some (.ref 0), some (.int v1), none]) (st' := [.int v1, .int (gI s3 40 3)]) (σ' := s3) (by decide +kernel) rfl rfl ?_
      refine g_if_ne hx (off := 7) (tgt := 39) (by decide +kernel) (by decide) (fun c32 => ?_) (fun c32 => ?_)
      · have h := ok_f h c32
        refine g_run hx [(.iconst (-1), (-1), 0), (.iadd, 0, 0), (.istore_n 2, 0, 0), (.aload_n 0, 0, 0), (.iload_n 2, 0, 0)] (pc' := 44) (lo' := [some (.ref 0), some (.int v1), some (.int ((gI s3 40 3) + (-1)))]) (st' := [.int ((gI s3 40 3) + (-1)), .ref 0]) (σ' := s3) (by decide +kernel) rfl rfl ?_
        refine g_if_lt hx (off := 14) (tgt := 58) (by decide +kernel) (by decide) (fun c44 => ?_) (fun c44 => ?_)
        · have h := ok_t h c44
          refine g_run hx [(.iconst 5, 5, 0)] (pc' := 59) (lo' := [some (.ref 0), some (.int v1), some (.int ((gI s3 40 3) + (-1)))]) (st' := [.int 5, .ref 0]) (σ' := s3) (by decide +kernel) rfl rfl ?_
          refine g_goto hx (off := 4) (tgt := 63) (by decide +kernel) (by decide) ?_
          refine g_callV (rest := []) [.int 5] hx hc mk_x_granted ln_9_83 rfl (by decide +kernel) (by decide) (Nat.le_of_ble_eq_true rfl) (s_x_granted (ok_b h)) (fun r4 s4 h => ?_)
          refine g_ifb_ne hx (off := 5) (tgt := 71) (by decide +kernel) (by decide) (fun c66 => ?_) (fun c66 => ?_)
          · have h := ok_t h c66
            refine g_run hx [(.aload_n 0, 0, 0), (.getfield 36, 0, 0), (.aload_n 0, 0, 0), (.getfield 26, 0, 0)] (pc' := 79) (lo' := [some (.ref 0), some (.int v1), some (.int ((gI s3 40 3) + (-1)))]) (st' := [.ref 40, .ref 42]) (σ' := s4) (by decide +kernel) rfl rfl ?_
            refine g_callV (rest := []) [.ref 40] hx hc mk_history_keep ln_9_344 rfl (by decide +kernel) (by decide) (Nat.le_of_ble_eq_true rfl) (s_history_keep (ok_b h)) (fun r5 s5 h => ?_)
            refine g_run hx [(.aload_n 0, 0, 0), (.getfield 26, 0, 0), (.iload_n 2, 0, 0)] (pc' := 87) (lo' := [some (.ref 0), some (.int v1), some (.int ((gI s3 40 3) + (-1)))]) (st' := [.int ((gI s3 40 3) + (-1)), .ref 40]) (σ' := s5) (by decide +kernel) rfl rfl ?_
            refine g_callV (rest := []) [.int ((gI s3 40 3) + (-1))] hx hc mk_state_stepTo ln_9_353 rfl (by decide +kernel) (by decide) (Nat.le_of_ble_eq_true rfl) (s_state_stepTo_40 (ok_b h)) (fun r6 s6 h => ?_)
            refine g_run hx [(.aload_n 0, 0, 0), (.getfield 26, 0, 0), (.getfield 126, 0, 0)] (pc' := 97) (lo' := [some (.ref 0), some (.int v1), some (.int ((gI s3 40 3) + (-1)))]) (st' := [.int (gI s6 40 3)]) (σ' := s6) (by decide +kernel) rfl rfl ?_
            exact g_iret hx hr rfl _ rfl (by decide +kernel) (ok_some h)
          · have h := ok_f h c66
            refine g_run hx [(.iconst (-1), (-1), 0)] (pc' := 70) (lo' := [some (.ref 0), some (.int v1), some (.int ((gI s3 40 3) + (-1)))]) (st' := [.int (-1)]) (σ' := s4) (by decide +kernel) rfl rfl ?_
            exact g_iret hx hr rfl _ rfl (by decide +kernel) (ok_some h)
        · have h := ok_f h c44
          refine g_run hx [(.iload_n 2, 0, 0), (.aload_n 0, 0, 0), (.getfield 19, 0, 0), (.getfield 104, 0, 0)] (pc' := 55) (lo' := [some (.ref 0), some (.int v1), some (.int ((gI s3 40 3) + (-1)))]) (st' := [.int (gI s3 10 0), .int ((gI s3 40 3) + (-1)), .ref 0]) (σ' := s3) (by decide +kernel) rfl rfl ?_
          refine g_ic_lt hx (off := 7) (tgt := 62) (by decide +kernel) (by decide) (fun c55 => ?_) (fun c55 => ?_)
          · have h := ok_t h c55
            refine g_run hx [(.iconst 0, 0, 0)] (pc' := 63) (lo' := [some (.ref 0), some (.int v1), some (.int ((gI s3 40 3) + (-1)))]) (st' := [.int 0, .ref 0]) (σ' := s3) (by decide +kernel) rfl rfl ?_
            refine g_callV (rest := []) [.int 0] hx hc mk_x_granted ln_9_83 rfl (by decide +kernel) (by decide) (Nat.le_of_ble_eq_true rfl) (s_x_granted (ok_b h)) (fun r7 s7 h => ?_)
            refine g_ifb_ne hx (off := 5) (tgt := 71) (by decide +kernel) (by decide) (fun c66 => ?_) (fun c66 => ?_)
            · have h := ok_t h c66
              refine g_run hx [(.aload_n 0, 0, 0), (.getfield 36, 0, 0), (.aload_n 0, 0, 0), (.getfield 26, 0, 0)] (pc' := 79) (lo' := [some (.ref 0), some (.int v1), some (.int ((gI s3 40 3) + (-1)))]) (st' := [.ref 40, .ref 42]) (σ' := s7) (by decide +kernel) rfl rfl ?_
              refine g_callV (rest := []) [.ref 40] hx hc mk_history_keep ln_9_344 rfl (by decide +kernel) (by decide) (Nat.le_of_ble_eq_true rfl) (s_history_keep (ok_b h)) (fun r8 s8 h => ?_)
              refine g_run hx [(.aload_n 0, 0, 0), (.getfield 26, 0, 0), (.iload_n 2, 0, 0)] (pc' := 87) (lo' := [some (.ref 0), some (.int v1), some (.int ((gI s3 40 3) + (-1)))]) (st' := [.int ((gI s3 40 3) + (-1)), .ref 40]) (σ' := s8) (by decide +kernel) rfl rfl ?_
              refine g_callV (rest := []) [.int ((gI s3 40 3) + (-1))] hx hc mk_state_stepTo ln_9_353 rfl (by decide +kernel) (by decide) (Nat.le_of_ble_eq_true rfl) (s_state_stepTo_40 (ok_b h)) (fun r9 s9 h => ?_)
              refine g_run hx [(.aload_n 0, 0, 0), (.getfield 26, 0, 0), (.getfield 126, 0, 0)] (pc' := 97) (lo' := [some (.ref 0), some (.int v1), some (.int ((gI s3 40 3) + (-1)))]) (st' := [.int (gI s9 40 3)]) (σ' := s9) (by decide +kernel) rfl rfl ?_
              exact g_iret hx hr rfl _ rfl (by decide +kernel) (ok_some h)
            · have h := ok_f h c66
              refine g_run hx [(.iconst (-1), (-1), 0)] (pc' := 70) (lo' := [some (.ref 0), some (.int v1), some (.int ((gI s3 40 3) + (-1)))]) (st' := [.int (-1)]) (σ' := s7) (by decide +kernel) rfl rfl ?_
              exact g_iret hx hr rfl _ rfl (by decide +kernel) (ok_some h)
          · have h := ok_f h c55
            refine g_run hx [(.iconst 5, 5, 0)] (pc' := 59) (lo' := [some (.ref 0), some (.int v1), some (.int ((gI s3 40 3) + (-1)))]) (st' := [.int 5, .ref 0]) (σ' := s3) (by decide +kernel) rfl rfl ?_
            refine g_goto hx (off := 4) (tgt := 63) (by decide +kernel) (by decide) ?_
            refine g_callV (rest := []) [.int 5] hx hc mk_x_granted ln_9_83 rfl (by decide +kernel) (by decide) (Nat.le_of_ble_eq_true rfl) (s_x_granted (ok_b h)) (fun r10 s10 h => ?_)
            refine g_ifb_ne hx (off := 5) (tgt := 71) (by decide +kernel) (by decide) (fun c66 => ?_) (fun c66 => ?_)
            · have h := ok_t h c66
              refine g_run hx [(.aload_n 0, 0, 0), (.getfield 36, 0, 0), (.aload_n 0, 0, 0), (.getfield 26, 0, 0)] (pc' := 79) (lo' := [some (.ref 0), some (.int v1), some (.int ((gI s3 40 3) + (-1)))]) (st' := [.ref 40, .ref 42]) (σ' := s10) (by decide +kernel) rfl rfl ?_
              refine g_callV (rest := []) [.ref 40] hx hc mk_history_keep ln_9_344 rfl (by decide +kernel) (by decide) (Nat.le_of_ble_eq_true rfl) (s_history_keep (ok_b h)) (fun r11 s11 h => ?_)
              refine g_run hx [(.aload_n 0, 0, 0), (.getfield 26, 0, 0), (.iload_n 2, 0, 0)] (pc' := 87) (lo' := [some (.ref 0), some (.int v1), some (.int ((gI s3 40 3) + (-1)))]) (st' := [.int ((gI s3 40 3) + (-1)), .ref 40]) (σ' := s11) (by decide +kernel) rfl rfl ?_
              refine g_callV (rest := []) [.int ((gI s3 40 3) + (-1))] hx hc mk_state_stepTo ln_9_353 rfl (by decide +kernel) (by decide) (Nat.le_of_ble_eq_true rfl) (s_state_stepTo_40 (ok_b h)) (fun r12 s12 h => ?_)
              refine g_run hx [(.aload_n 0, 0, 0), (.getfield 26, 0, 0), (.getfield 126, 0, 0)] (pc' := 97) (lo' := [some (.ref 0), some (.int v1), some (.int ((gI s3 40 3) + (-1)))]) (st' := [.int (gI s12 40 3)]) (σ' := s12) (by decide +kernel) rfl rfl ?_
              exact g_iret hx hr rfl _ rfl (by decide +kernel) (ok_some h)
            · have h := ok_f h c66
              refine g_run hx [(.iconst (-1), (-1), 0)] (pc' := 70) (lo' := [some (.ref 0), some (.int v1), some (.int ((gI s3 40 3) + (-1)))]) (st' := [.int (-1)]) (σ' := s10) (by decide +kernel) rfl rfl ?_
              exact g_iret hx hr rfl _ rfl (by decide +kernel) (ok_some h)
      · have h := ok_t h c32
        refine g_run hx [(.iconst 1, 1, 0)] (pc' := 36) (lo' := [some (.ref 0), some (.int v1), none]) (st' := [.int 1, .int (gI s3 40 3)]) (σ' := s3) (by decide +kernel) rfl rfl ?_
        refine g_goto hx (off := 4) (tgt := 40) (by decide +kernel) (by decide) ?_
        refine g_run hx [(.iadd, 0, 0), (.istore_n 2, 0, 0), (.aload_n 0, 0, 0), (.iload_n 2, 0, 0)] (pc' := 44) (lo' := [some (.ref 0), some (.int v1), some (.int ((gI s3 40 3) + 1))]) (st' := [.int ((gI s3 40 3) + 1), .ref 0]) (σ' := s3) (by decide +kernel) rfl rfl ?_
        refine g_if_lt hx (off := 14) (tgt := 58) (by decide +kernel) (by decide) (fun c44 => ?_) (fun c44 => ?_)
        · have h := ok_t h c44
          refine g_run hx [(.iconst 5, 5, 0)] (pc' := 59) (lo' := [some (.ref 0), some (.int v1), some (.int ((gI s3 40 3) + 1))]) (st' := [.int 5, .ref 0]) (σ' := s3) (by decide +kernel) rfl rfl ?_
          refine g_goto hx (off := 4) (tgt := 63) (by decide +kernel) (by decide) ?_
          refine g_callV (rest := []) [.int 5] hx hc mk_x_granted ln_9_83 rfl (by decide +kernel) (by decide) (Nat.le_of_ble_eq_true rfl) (s_x_granted (ok_b h)) (fun r13 s13 h => ?_)
          refine g_ifb_ne hx (off := 5) (tgt := 71) (by decide +kernel) (by decide) (fun c66 => ?_) (fun c66 => ?_)
          · have h := ok_t h c66
            refine g_run hx [(.aload_n 0, 0, 0), (.getfield 36, 0, 0), (.aload_n 0, 0, 0), (.getfield 26, 0, 0)] (pc' := 79) (lo' := [some (.ref 0), some (.int v1), some (.int ((gI s3 40 3) + 1))]) (st' := [.ref 40, .ref 42]) (σ' := s13) (by decide +kernel) rfl rfl ?_
            refine g_callV (rest := []) [.ref 40] hx hc mk_history_keep ln_9_344 rfl (by decide +kernel) (by decide) (Nat.le_of_ble_eq_true rfl) (s_history_keep (ok_b h)) (fun r14 s14 h => ?_)
            refine g_run hx [(.aload_n 0, 0, 0), (.getfield 26, 0, 0), (.iload_n 2, 0, 0)] (pc' := 87) (lo' := [some (.ref 0), some (.int v1), some (.int ((gI s3 40 3) + 1))]) (st' := [.int ((gI s3 40 3) + 1), .ref 40]) (σ' := s14) (by decide +kernel) rfl rfl ?_
            refine g_callV (rest := []) [.int ((gI s3 40 3) + 1)] hx hc mk_state_stepTo ln_9_353 rfl (by decide +kernel) (by decide) (Nat.le_of_ble_eq_true rfl) (s_state_stepTo_40 (ok_b h)) (fun r15 s15 h => ?_)
            refine g_run hx [(.aload_n 0, 0, 0), (.getfield 26, 0, 0), (.getfield 126, 0, 0)] (pc' := 97) (lo' := [some (.ref 0), some (.int v1), some (.int ((gI s3 40 3) + 1))]) (st' := [.int (gI s15 40 3)]) (σ' := s15) (by decide +kernel) rfl rfl ?_
            exact g_iret hx hr rfl _ rfl (by decide +kernel) (ok_some h)
          · have h := ok_f h c66
            refine g_run hx [(.iconst (-1), (-1), 0)] (pc' := 70) (lo' := [some (.ref 0), some (.int v1), some (.int ((gI s3 40 3) + 1))]) (st' := [.int (-1)]) (σ' := s13) (by decide +kernel) rfl rfl ?_
            exact g_iret hx hr rfl _ rfl (by decide +kernel) (ok_some h)
        · have h := ok_f h c44
          refine g_run hx [(.iload_n 2, 0, 0), (.aload_n 0, 0, 0), (.getfield 19, 0, 0), (.getfield 104, 0, 0)] (pc' := 55) (lo' := [some (.ref 0), some (.int v1), some (.int ((gI s3 40 3) + 1))]) (st' := [.int (gI s3 10 0), .int ((gI s3 40 3) + 1), .ref 0]) (σ' := s3) (by decide +kernel) rfl rfl ?_
          refine g_ic_lt hx (off := 7) (tgt := 62) (by decide +kernel) (by decide) (fun c55 => ?_) (fun c55 => ?_)
          · have h := ok_t h c55
            refine g_run hx [(.iconst 0, 0, 0)] (pc' := 63) (lo' := [some (.ref 0), some (.int v1), some (.int ((gI s3 40 3) + 1))]) (st' := [.int 0, .ref 0]) (σ' := s3) (by decide +kernel) rfl rfl ?_
            refine g_callV (rest := []) [.int 0] hx hc mk_x_granted ln_9_83 rfl (by decide +kernel) (by decide) (Nat.le_of_ble_eq_true rfl) (s_x_granted (ok_b h)) (fun r16 s16 h => ?_)
            refine g_ifb_ne hx (off := 5) (tgt := 71) (by decide +kernel) (by decide) (fun c66 => ?_) (fun c66 => ?_)
            · have h := ok_t h c66
              refine g_run hx [(.aload_n 0, 0, 0), (.getfield 36, 0, 0), (.aload_n 0, 0, 0), (.getfield 26, 0, 0)] (pc' := 79) (lo' := [some (.ref 0), some (.int v1), some (.int ((gI s3 40 3) + 1))]) (st' := [.ref 40, .ref 42]) (σ' := s16) (by decide +kernel) rfl rfl ?_
              refine g_callV (rest := []) [.ref 40] hx hc mk_history_keep ln_9_344 rfl (by decide +kernel) (by decide) (Nat.le_of_ble_eq_true rfl) (s_history_keep (ok_b h)) (fun r17 s17 h => ?_)
              refine g_run hx [(.aload_n 0, 0, 0), (.getfield 26, 0, 0), (.iload_n 2, 0, 0)] (pc' := 87) (lo' := [some (.ref 0), some (.int v1), some (.int ((gI s3 40 3) + 1))]) (st' := [.int ((gI s3 40 3) + 1), .ref 40]) (σ' := s17) (by decide +kernel) rfl rfl ?_
              refine g_callV (rest := []) [.int ((gI s3 40 3) + 1)] hx hc mk_state_stepTo ln_9_353 rfl (by decide +kernel) (by decide) (Nat.le_of_ble_eq_true rfl) (s_state_stepTo_40 (ok_b h)) (fun r18 s18 h => ?_)
              refine g_run hx [(.aload_n 0, 0, 0), (.getfield 26, 0, 0), (.getfield 126, 0, 0)] (pc' := 97) (lo' := [some (.ref 0), some (.int v1), some (.int ((gI s3 40 3) + 1))]) (st' := [.int (gI s18 40 3)]) (σ' := s18) (by decide +kernel) rfl rfl ?_
              exact g_iret hx hr rfl _ rfl (by decide +kernel) (ok_some h)
            · have h := ok_f h c66
              refine g_run hx [(.iconst (-1), (-1), 0)] (pc' := 70) (lo' := [some (.ref 0), some (.int v1), some (.int ((gI s3 40 3) + 1))]) (st' := [.int (-1)]) (σ' := s16) (by decide +kernel) rfl rfl ?_
              exact g_iret hx hr rfl _ rfl (by decide +kernel) (ok_some h)
          · have h := ok_f h c55
            refine g_run hx [(.iconst 5, 5, 0)] (pc' := 59) (lo' := [some (.ref 0), some (.int v1), some (.int ((gI s3 40 3) + 1))]) (st' := [.int 5, .ref 0]) (σ' := s3) (by decide +kernel) rfl rfl ?_
            refine g_goto hx (off := 4) (tgt := 63) (by decide +kernel) (by decide) ?_
            refine g_callV (rest := []) [.int 5] hx hc mk_x_granted ln_9_83 rfl (by decide +kernel) (by decide) (Nat.le_of_ble_eq_true rfl) (s_x_granted (ok_b h)) (fun r19 s19 h => ?_)
            refine g_ifb_ne hx (off := 5) (tgt := 71) (by decide +kernel) (by decide) (fun c66 => ?_) (fun c66 => ?_)
            · have h := ok_t h c66
              refine g_run hx [(.aload_n 0, 0, 0), (.getfield 36, 0, 0), (.aload_n 0, 0, 0), (.getfield 26, 0, 0)] (pc' := 79) (lo' := [some (.ref 0), some (.int v1), some (.int ((gI s3 40 3) + 1))]) (st' := [.ref 40, .ref 42]) (σ' := s19) (by decide +kernel) rfl rfl ?_
              refine g_callV (rest := []) [.ref 40] hx hc mk_history_keep ln_9_344 rfl (by decide +kernel) (by decide) (Nat.le_of_ble_eq_true rfl) (s_history_keep (ok_b h)) (fun r20 s20 h => ?_)
              refine g_run hx [(.aload_n 0, 0, 0), (.getfield 26, 0, 0), (.iload_n 2, 0, 0)] (pc' := 87) (lo' := [some (.ref 0), some (.int v1), some (.int ((gI s3 40 3) + 1))]) (st' := [.int ((gI s3 40 3) + 1), .ref 40]) (σ' := s20) (by decide +kernel) rfl rfl ?_
              refine g_callV (rest := []) [.int ((gI s3 40 3) + 1)] hx hc mk_state_stepTo ln_9_353 rfl (by decide +kernel) (by decide) (Nat.le_of_ble_eq_true rfl) (s_state_stepTo_40 (ok_b h)) (fun r21 s21 h => ?_)
              refine g_run hx [(.aload_n 0, 0, 0), (.getfield 26, 0, 0), (.getfield 126, 0, 0)] (pc' := 97) (lo' := [some (.ref 0), some (.int v1), some (.int ((gI s3 40 3) + 1))]) (st' := [.int (gI s21 40 3)]) (σ' := s21) (by decide +kernel) rfl rfl ?_
              exact g_iret hx hr rfl _ rfl (by decide +kernel) (ok_some h)
            · have h := ok_f h c66
              refine g_run hx [(.iconst (-1), (-1), 0)] (pc' := 70) (lo' := [some (.ref 0), some (.int v1), some (.int ((gI s3 40 3) + 1))]) (st' := [.int (-1)]) (σ' := s19) (by decide +kernel) rfl rfl ?_
              exact g_iret hx hr rfl _ rfl (by decide +kernel) (ok_some h)
    · have h := ok_f h c19
      refine g_run hx [(.iconst (-1), (-1), 0)] (pc' := 23) (lo' := [some (.ref 0), some (.int v1), none]) (st' := [.int (-1)]) (σ' := s3) (by decide +kernel) rfl rfl ?_
      exact g_iret hx hr rfl _ rfl (by decide +kernel) (ok_some h)
  · have h := ok_f h c5
    refine g_run hx [(.iconst 1, 1, 0)] (pc' := 9) (lo' := [some (.ref 0), some (.int v1), none]) (st' := [.int 1, .ref 0]) (σ' := s1) (by decide +kernel) rfl rfl ?_
    refine g_goto hx (off := 7) (tgt := 16) (by decide +kernel) (by decide) ?_
    refine g_callV (rest := []) [.int 1] hx hc mk_x_granted ln_9_83 rfl (by decide +kernel) (by decide) (Nat.le_of_ble_eq_true rfl) (s_x_granted (ok_b h)) (fun r22 s22 h => ?_)
    refine g_ifb_ne hx (off := 5) (tgt := 24) (by decide +kernel) (by decide) (fun c19 => ?_) (fun c19 => ?_)
    · have h := ok_t h c19
      refine g_run hx [(.aload_n 0, 0, 0), (.getfield 26, 0, 0), (.getfield 126, 0, 0), (.iload_n 1, 0, 0)] (pc' := 32) (lo' := [some (.ref 0), some (.int v1), none]) (st' := [.int v1, .int (gI s22 40 3)]) (σ' := s22) (by decide +kernel) rfl rfl ?_
      refine g_if_ne hx (off := 7) (tgt := 39) (by decide +kernel) (by decide) (fun c32 => ?_) (fun c32 => ?_)
      · have h := ok_f h c32
        refine g_run hx [(.iconst (-1), (-1), 0), (.iadd, 0, 0), (.istore_n 2, 0, 0), (.aload_n 0, 0, 0), (.iload_n 2, 0, 0)] (pc' := 44) (lo' := [some (.ref 0), some (.int v1), some (.int ((gI s22 40 3) + (-1)))]) (st' := [.int ((gI s22 40 3) + (-1)), .ref 0]) (σ' := s22) (by decide +kernel) rfl rfl ?_
        refine g_if_lt hx (off := 14) (tgt := 58) (by decide +kernel) (by decide) (fun c44 => ?_) (fun c44 => ?_)
        · have h := ok_t h c44
          refine g_run hx [(.iconst 5, 5, 0)] (pc' := 59) (lo' := [some (.ref 0), some (.int v1), some (.int ((gI s22 40 3) + (-1)))]) (st' := [.int 5, .ref 0]) (σ' := s22) (by decide +kernel) rfl rfl ?_
          refine g_goto hx (off := 4) (tgt := 63) (by decide +kernel) (by decide) ?_
          refine g_callV (rest := []) [.int 5] hx hc mk_x_granted ln_9_83 rfl (by decide +kernel) (by decide) (Nat.le_of_ble_eq_true rfl) (s_x_granted (ok_b h)) (fun r23 s23 h => ?_)
          refine g_ifb_ne hx (off := 5) (tgt := 71) (by decide +kernel) (by decide) (fun c66 => ?_) (fun c66 => ?_)
          · have h := ok_t h c66
            refine g_run hx [(.aload_n 0, 0, 0), (.getfield 36, 0, 0), (.aload_n 0, 0, 0), (.getfield 26, 0, 0)] (pc' := 79) (lo' := [some (.ref 0), some (.int v1), some (.int ((gI s22 40 3) + (-1)))]) (st' := [.ref 40, .ref 42]) (σ' := s23) (by decide +kernel) rfl rfl ?_
            refine g_callV (rest := []) [.ref 40] hx hc mk_history_keep ln_9_344 rfl (by decide +kernel) (by decide) (Nat.le_of_ble_eq_true rfl) (s_history_keep (ok_b h)) (fun r24 s24 h => ?_)
            refine g_run hx [(.aload_n 0, 0, 0), (.getfield 26, 0, 0), (.iload_n 2, 0, 0)] (pc' := 87) (lo' := [some (.ref 0), some (.int v1), some (.int ((gI s22 40 3) + (-1)))]) (st' := [.int ((gI s22 40 3) + (-1)), .ref 40]) (σ' := s24) (by decide +kernel) rfl rfl ?_
            refine g_callV (rest := []) [.int ((gI s22 40 3) + (-1))] hx hc mk_state_stepTo ln_9_353 rfl (by decide +kernel) (by decide) (Nat.le_of_ble_eq_true rfl) (s_state_stepTo_40 (ok_b h)) (fun r25 s25 h => ?_)
            refine g_run hx [(.aload_n 0, 0, 0), (.getfield 26, 0, 0), (.getfield 126, 0, 0)] (pc' := 97) (lo' := [some (.ref 0), some (.int v1), some (.int ((gI s22 40 3) + (-1)))]) (st' := [.int (gI s25 40 3)]) (σ' := s25) (by decide +kernel) rfl rfl ?_
            exact g_iret hx hr rfl _ rfl (by decide +kernel) (ok_some h)
          · have h := ok_f h c66
            refine g_run hx [(.iconst (-1), (-1), 0)] (pc' := 70) (lo' := [some (.ref 0), some (.int v1), some (.int ((gI s22 40 3) + (-1)))]) (st' := [.int (-1)]) (σ' := s23) (by decide +kernel) rfl rfl ?_
            exact g_iret hx hr rfl _ rfl (by decide +kernel) (ok_some h)
        · have h := ok_f h c44
          refine g_run hx [(.iload_n 2, 0, 0), (.aload_n 0, 0, 0), (.getfield 19, 0, 0), (.getfield 104, 0, 0)] (pc' := 55) (lo' := [some (.ref 0), some (.int v1), some (.int ((gI s22 40 3) + (-1)))]) (st' := [.int (gI s22 10 0), .int ((gI s22 40 3) + (-1)), .ref 0]) (σ' := s22) (by decide +kernel) rfl rfl ?_
          refine g_ic_lt hx (off := 7) (tgt := 62) (by decide +kernel) (by decide) (fun c55 => ?_) (fun c55 => ?_)
          · have h := ok_t h c55
            refine g_run hx [(.iconst 0, 0, 0)] (pc' := 63) (lo' := [some (.ref 0), some (.int v1), some (.int ((gI s22 40 3) + (-1)))]) (st' := [.int 0, .ref 0]) (σ' := s22) (by decide +kernel) rfl rfl ?_
            refine g_callV (rest := []) [.int 0] hx hc mk_x_granted ln_9_83 rfl (by decide +kernel) (by decide) (Nat.le_of_ble_eq_true rfl) (s_x_granted (ok_b h)) (fun r26 s26 h => ?_)
            refine g_ifb_ne hx (off := 5) (tgt := 71) (by decide +kernel) (by decide) (fun c66 => ?_) (fun c66 => ?_)
            · have h := ok_t h c66
              refine g_run hx [(.aload_n 0, 0, 0), (.getfield 36, 0, 0), (.aload_n 0, 0, 0), (.getfield 26, 0, 0)] (pc' := 79) (lo' := [some (.ref 0), some (.int v1), some (.int ((gI s22 40 3) + (-1)))]) (st' := [.ref 40, .ref 42]) (σ' := s26) (by decide +kernel) rfl rfl ?_
              refine g_callV (rest := []) [.ref 40] hx hc mk_history_keep ln_9_344 rfl (by decide +kernel) (by decide) (Nat.le_of_ble_eq_true rfl) (s_history_keep (ok_b h)) (fun r27 s27 h => ?_)
              refine g_run hx [(.aload_n 0, 0, 0), (.getfield 26, 0, 0), (.iload_n 2, 0, 0)] (pc' := 87) (lo' := [some (.ref 0), some (.int v1), some (.int ((gI s22 40 3) + (-1)))]) (st' := [.int ((gI s22 40 3) + (-1)), .ref 40]) (σ' := s27) (by decide +kernel) rfl rfl ?_
              refine g_callV (rest := []) [.int ((gI s22 40 3) + (-1))] hx hc mk_state_stepTo ln_9_353 rfl (by decide +kernel) (by decide) (Nat.le_of_ble_eq_true rfl) (s_state_stepTo_40 (ok_b h)) (fun r28 s28 h => ?_)
              refine g_run hx [(.aload_n 0, 0, 0), (.getfield 26, 0, 0), (.getfield 126, 0, 0)] (pc' := 97) (lo' := [some (.ref 0), some (.int v1), some (.int ((gI s22 40 3) + (-1)))]) (st' := [.int (gI s28 40 3)]) (σ' := s28) (by decide +kernel) rfl rfl ?_
              exact g_iret hx hr rfl _ rfl (by decide +kernel) (ok_some h)
            · have h := ok_f h c66
              refine g_run hx [(.iconst (-1), (-1), 0)] (pc' := 70) (lo' := [some (.ref 0), some (.int v1), some (.int ((gI s22 40 3) + (-1)))]) (st' := [.int (-1)]) (σ' := s26) (by decide +kernel) rfl rfl ?_
              exact g_iret hx hr rfl _ rfl (by decide +kernel) (ok_some h)
          · have h := ok_f h c55
            refine g_run hx [(.iconst 5, 5, 0)] (pc' := 59) (lo' := [some (.ref 0), some (.int v1), some (.int ((gI s22 40 3) + (-1)))]) (st' := [.int 5, .ref 0]) (σ' := s22) (by decide +kernel) rfl rfl ?_
            refine g_goto hx (off := 4) (tgt := 63) (by decide +kernel) (by decide) ?_
            refine g_callV (rest := []) [.int 5] hx hc mk_x_granted ln_9_83 rfl (by decide +kernel) (by decide) (Nat.le_of_ble_eq_true rfl) (s_x_granted (ok_b h)) (fun r29 s29 h => ?_)
            refine g_ifb_ne hx (off := 5) (tgt := 71) (by decide +kernel) (by decide) (fun c66 => ?_) (fun c66 => ?_)
            · have h := ok_t h c66
              refine g_run hx [(.aload_n 0, 0, 0), (.getfield 36, 0, 0), (.aload_n 0, 0, 0), (.getfield 26, 0, 0)] (pc' := 79) (lo' := [some (.ref 0), some (.int v1), some (.int ((gI s22 40 3) + (-1)))]) (st' := [.ref 40, .ref 42]) (σ' := s29) (by decide +kernel) rfl rfl ?_
              refine g_callV (rest := []) [.ref 40] hx hc mk_history_keep ln_9_344 rfl (by decide +kernel) (by decide) (Nat.le_of_ble_eq_true rfl) (s_history_keep (ok_b h)) (fun r30 s30 h => ?_)
              refine g_run hx [(.aload_n 0, 0, 0), (.getfield 26, 0, 0), (.iload_n 2, 0, 0)] (pc' := 87) (lo' := [some (.ref 0), some (.int v1), some (.int ((gI s22 40 3) + (-1)))]) (st' := [.int ((gI s22 40 3) + (-1)), .ref 40]) (σ' := s30) (by decide +kernel) rfl rfl ?_
              refine g_callV (rest := []) [.int ((gI s22 40 3) + (-1))] hx hc mk_state_stepTo ln_9_353 rfl (by decide +kernel) (by decide) (Nat.le_of_ble_eq_true rfl) (s_state_stepTo_40 (ok_b h)) (fun r31 s31 h => ?_)
              refine g_run hx [(.aload_n 0, 0, 0), (.getfield 26, 0, 0), (.getfield 126, 0, 0)] (pc' := 97) (lo' := [some (.ref 0), some (.int v1), some (.int ((gI s22 40 3) + (-1)))]) (st' := [.int (gI s31 40 3)]) (σ' := s31) (by decide +kernel) rfl rfl ?_
              exact g_iret hx hr rfl _ rfl (by decide +kernel) (ok_some h)
            · have h := ok_f h c66
              refine g_run hx [(.iconst (-1), (-1), 0)] (pc' := 70) (lo' := [some (.ref 0), some (.int v1), some (.int ((gI s22 40 3) + (-1)))]) (st' := [.int (-1)]) (σ' := s29) (by decide +kernel) rfl rfl ?_
              exact g_iret hx hr rfl _ rfl (by decide +kernel) (ok_some h)
      · have h := ok_t h c32
        refine g_run hx [(.iconst 1, 1, 0)] (pc' := 36) (lo' := [some (.ref 0), some (.int v1), none]) (st' := [.int 1, .int (gI s22 40 3)]) (σ' := s22) (by decide +kernel) rfl rfl ?_
        refine g_goto hx (off := 4) (tgt := 40) (by decide +kernel) (by decide) ?_
        refine g_run hx [(.iadd, 0, 0), (.istore_n 2, 0, 0), (.aload_n 0, 0, 0), (.iload_n 2, 0, 0)] (pc' := 44) (lo' := [some (.ref 0), some (.int v1), some (.int ((gI s22 40 3) + 1))]) (st' := [.int ((gI s22 40 3) + 1), .ref 0]) (σ' := s22) (by decide +kernel) rfl rfl ?_
        refine g_if_lt hx (off := 14) (tgt := 58) (by decide +kernel) (by decide) (fun c44 => ?_) (fun c44 => ?_)
        · have h := ok_t h c44
          refine g_run hx [(.iconst 5, 5, 0)] (pc' := 59) (lo' := [some (.ref 0), some (.int v1), some (.int ((gI s22 40 3) + 1))]) (st' := [.int 5, .ref 0]) (σ' := s22) (by decide +kernel) rfl rfl ?_
          refine g_goto hx (off := 4) (tgt := 63) (by decide +kernel) (by decide) ?_
          refine g_callV (rest := []) [.int 5] hx hc mk_x_granted ln_9_83 rfl (by decide +kernel) (by decide) (Nat.le_of_ble_eq_true rfl) (s_x_granted (ok_b h)) (fun r32 s32 h => ?_)
          refine g_ifb_ne hx (off := 5) (tgt := 71) (by decide +kernel) (by decide) (fun c66 => ?_) (fun c66 => ?_)
          · have h := ok_t h c66
            refine g_run hx [(.aload_n 0, 0, 0), (.getfield 36, 0, 0), (.aload_n 0, 0, 0), (.getfield 26, 0, 0)] (pc' := 79) (lo' := [some (.ref 0), some (.int v1), some (.int ((gI s22 40 3) + 1))]) (st' := [.ref 40, .ref 42]) (σ' := s32) (by decide +kernel) rfl rfl ?_
            refine g_callV (rest := []) [.ref 40] hx hc mk_history_keep ln_9_344 rfl (by decide +kernel) (by decide) (Nat.le_of_ble_eq_true rfl) (s_history_keep (ok_b h)) (fun r33 s33 h => ?_)
            refine g_run hx [(.aload_n 0, 0, 0), (.getfield 26, 0, 0), (.iload_n 2, 0, 0)] (pc' := 87) (lo' := [some (.ref 0), some (.int v1), some (.int ((gI s22 40 3) + 1))]) (st' := [.int ((gI s22 40 3) + 1), .ref 40]) (σ' := s33) (by decide +kernel) rfl rfl ?_
            refine g_callV (rest := []) [.int ((gI s22 40 3) + 1)] hx hc mk_state_stepTo ln_9_353 rfl (by decide +kernel) (by decide) (Nat.le_of_ble_eq_true rfl) (s_state_stepTo_40 (ok_b h)) (fun r34 s34 h => ?_)
            refine g_run hx [(.aload_n 0, 0, 0), (.getfield 26, 0, 0), (.getfield 126, 0, 0)] (pc' := 97) (lo' := [some (.ref 0), some (.int v1), some (.int ((gI s22 40 3) + 1))]) (st' := [.int (gI s34 40 3)]) (σ' := s34) (by decide +kernel) rfl rfl ?_
            exact g_iret hx hr rfl _ rfl (by decide +kernel) (ok_some h)
          · have h := ok_f h c66
            refine g_run hx [(.iconst (-1), (-1), 0)] (pc' := 70) (lo' := [some (.ref 0), some (.int v1), some (.int ((gI s22 40 3) + 1))]) (st' := [.int (-1)]) (σ' := s32) (by decide +kernel) rfl rfl ?_
            exact g_iret hx hr rfl _ rfl (by decide +kernel) (ok_some h)
        · have h := ok_f h c44
          refine g_run hx [(.iload_n 2, 0, 0), (.aload_n 0, 0, 0), (.getfield 19, 0, 0), (.getfield 104, 0, 0)] (pc' := 55) (lo' := [some (.ref 0), some (.int v1), some (.int ((gI s22 40 3) + 1))]) (st' := [.int (gI s22 10 0), .int ((gI s22 40 3) + 1), .ref 0]) (σ' := s22) (by decide +kernel) rfl rfl ?_
          refine g_ic_lt hx (off := 7) (tgt := 62) (by decide +kernel) (by decide) (fun c55 => ?_) (fun c55 => ?_)
          · have h := ok_t h c55
            refine g_run hx [(.iconst 0, 0, 0)] (pc' := 63) (lo' := [some (.ref 0), some (.int v1), some (.int ((gI s22 40 3) + 1))]) (st' := [.int 0, .ref 0]) (σ' := s22) (by decide +kernel) rfl rfl ?_
            refine g_callV (rest := []) [.int 0] hx hc mk_x_granted ln_9_83 rfl (by decide +kernel) (by decide) (Nat.le_of_ble_eq_true rfl) (s_x_granted (ok_b h)) (fun r35 s35 h => ?_)
            refine g_ifb_ne hx (off := 5) (tgt := 71) (by decide +kernel) (by decide) (fun c66 => ?_) (fun c66 => ?_)
            · have h := ok_t h c66
              refine g_run hx [(.aload_n 0, 0, 0), (.getfield 36, 0, 0), (.aload_n 0, 0, 0), (.getfield 26, 0, 0)] (pc' := 79) (lo' := [some (.ref 0), some (.int v1), some (.int ((gI s22 40 3) + 1))]) (st' := [.ref 40, .ref 42]) (σ' := s35) (by decide +kernel) rfl rfl ?_
              refine g_callV (rest := []) [.ref 40] hx hc mk_history_keep ln_9_344 rfl (by decide +kernel) (by decide) (Nat.le_of_ble_eq_true rfl) (s_history_keep (ok_b h)) (fun r36 s36 h => ?_)
              refine g_run hx [(.aload_n 0, 0, 0), (.getfield 26, 0, 0), (.iload_n 2, 0, 0)] (pc' := 87) (lo' := [some (.ref 0), some (.int v1), some (.int ((gI s22 40 3) + 1))]) (st' := [.int ((gI s22 40 3) + 1), .ref 40]) (σ' := s36) (by decide +kernel) rfl rfl ?_
              refine g_callV (rest := []) [.int ((gI s22 40 3) + 1)] hx hc mk_state_stepTo ln_9_353 rfl (by decide +kernel) (by decide) (Nat.le_of_ble_eq_true rfl) (s_state_stepTo_40 (ok_b h)) (fun r37 s37 h => ?_)
              refine g_run hx [(.aload_n 0, 0, 0), (.getfield 26, 0, 0), (.getfield 126, 0, 0)] (pc' := 97) (lo' := [some (.ref 0), some (.int v1), some (.int ((gI s22 40 3) + 1))]) (st' := [.int (gI s37 40 3)]) (σ' := s37) (by decide +kernel) rfl rfl ?_
              exact g_iret hx hr rfl _ rfl (by decide +kernel) (ok_some h)
            · have h := ok_f h c66
              refine g_run hx [(.iconst (-1), (-1), 0)] (pc' := 70) (lo' := [some (.ref 0), some (.int v1), some (.int ((gI s22 40 3) + 1))]) (st' := [.int (-1)]) (σ' := s35) (by decide +kernel) rfl rfl ?_
              exact g_iret hx hr rfl _ rfl (by decide +kernel) (ok_some h)
          · have h := ok_f h c55
            refine g_run hx [(.iconst 5, 5, 0)] (pc' := 59) (lo' := [some (.ref 0), some (.int v1), some (.int ((gI s22 40 3) + 1))]) (st' := [.int 5, .ref 0]) (σ' := s22) (by decide +kernel) rfl rfl ?_
            refine g_goto hx (off := 4) (tgt := 63) (by decide +kernel) (by decide) ?_
            refine g_callV (rest := []) [.int 5] hx hc mk_x_granted ln_9_83 rfl (by decide +kernel) (by decide) (Nat.le_of_ble_eq_true rfl) (s_x_granted (ok_b h)) (fun r38 s38 h => ?_)
            refine g_ifb_ne hx (off := 5) (tgt := 71) (by decide +kernel) (by decide) (fun c66 => ?_) (fun c66 => ?_)
            · have h := ok_t h c66
              refine g_run hx [(.aload_n 0, 0, 0), (.getfield 36, 0, 0), (.aload_n 0, 0, 0), (.getfield 26, 0, 0)] (pc' := 79) (lo' := [some (.ref 0), some (.int v1), some (.int ((gI s22 40 3) + 1))]) (st' := [.ref 40, .ref 42]) (σ' := s38) (by decide +kernel) rfl rfl ?_
              refine g_callV (rest := []) [.ref 40] hx hc mk_history_keep ln_9_344 rfl (by decide +kernel) (by decide) (Nat.le_of_ble_eq_true rfl) (s_history_keep (ok_b h)) (fun r39 s39 h => ?_)
              refine g_run hx [(.aload_n 0, 0, 0), (.getfield 26, 0, 0), (.iload_n 2, 0, 0)] (pc' := 87) (lo' := [some (.ref 0), some (.int v1), some (.int ((gI s22 40 3) + 1))]) (st' := [.int ((gI s22 40 3) + 1), .ref 40]) (σ' := s39) (by decide +kernel) rfl rfl ?_
              refine g_callV (rest := []) [.int ((gI s22 40 3) + 1)] hx hc mk_state_stepTo ln_9_353 rfl (by decide +kernel) (by decide) (Nat.le_of_ble_eq_true rfl) (s_state_stepTo_40 (ok_b h)) (fun r40 s40 h => ?_)
              refine g_run hx [(.aload_n 0, 0, 0), (.getfield 26, 0, 0), (.getfield 126, 0, 0)] (pc' := 97) (lo' := [some (.ref 0), some (.int v1), some (.int ((gI s22 40 3) + 1))]) (st' := [.int (gI s40 40 3)]) (σ' := s40) (by decide +kernel) rfl rfl ?_
              exact g_iret hx hr rfl _ rfl (by decide +kernel) (ok_some h)
            · have h := ok_f h c66
              refine g_run hx [(.iconst (-1), (-1), 0)] (pc' := 70) (lo' := [some (.ref 0), some (.int v1), some (.int ((gI s22 40 3) + 1))]) (st' := [.int (-1)]) (σ' := s38) (by decide +kernel) rfl rfl ?_
              exact g_iret hx hr rfl _ rfl (by decide +kernel) (ok_some h)
    · have h := ok_f h c19
      refine g_run hx [(.iconst (-1), (-1), 0)] (pc' := 23) (lo' := [some (.ref 0), some (.int v1), none]) (st' := [.int (-1)]) (σ' := s22) (by decide +kernel) rfl rfl ?_
      exact g_iret hx hr rfl _ rfl (by decide +kernel) (ok_some h)
def f_x_steps (N : Nat) (v1 : Int32) (σ : Sg) : Option (Int32 × Sg) :=
  (f_x_cellTrouble N v1 σ).bind fun q1 =>
  (f_x_granted N q1.1 q1.2).bind fun q2 =>
  if q2.1 = true then
    (f_state_depthAt N 40 v1 q2.2).bind fun q3 =>
    if q3.1 = 0 then
      some (0, q3.2)
    else
      if (jabs (v1 - (gI q3.2 40 3))) = 0 then
        some ((2 * q3.1), q3.2)
      else
        some (((jabs (v1 - (gI q3.2 40 3))) + (2 * (q3.1 - 1))), q3.2)
  else
    some ((-1), q2.2)
set_option maxRecDepth 100000 in
theorem s_x_steps {y : EX} {N : Nat} {v1 : Int32} {σ : Sg} {P : Int32 × Sg → Prop} (h : ok (f_x_steps N v1 σ) P) : Ev y M_x_steps 2 [.ref 0, .int v1] σ rvI P := by
  refine Ev.of mk_x_steps (Nat.le_of_ble_eq_true rfl) (fun x hx hc hr => ?_)
  have hx : Cx 9 prog_1_method_39_code x := hx
  have hc : Cc y 4 2 x := hc
  show G x 0 [some (.ref 0), some (.int v1), none, none] [] σ
  unfold f_x_steps at h
  refine g_run hx [(.aload_n 0, 0, 0), (.aload_n 0, 0, 0), (.iload_n 1, 0, 0)] (pc' := 3) (lo' := [some (.ref 0), some (.int v1), none, none]) (st' := [.int v1, .ref 0, .ref 0]) (σ' := σ) (by decide +kernel) rfl rfl ?_
  refine g_callV (rest := [.ref 0]) [.int v1] hx hc mk_x_cellTrouble ln_9_110 rfl (by decide +kernel) (by decide) (Nat.le_of_ble_eq_true rfl) (s_x_cellTrouble (ok_b h)) (fun r1 s1 h => ?_)
  refine g_callV (rest := []) [.int r1] hx hc mk_x_granted ln_9_83 rfl (by decide +kernel) (by decide) (Nat.le_of_ble_eq_true rfl) (s_x_granted (ok_b h)) (fun r2 s2 h => ?_)
  refine g_ifb_ne hx (off := 5) (tgt := 14) (by decide +kernel) (by decide) (fun c9 => ?_) (fun c9 => ?_)
  · have h := ok_t h c9
    refine g_run hx [(.aload_n 0, 0, 0), (.getfield 26, 0, 0), (.iload_n 1, 0, 0)] (pc' := 19) (lo' := [some (.ref 0), some (.int v1), none, none]) (st' := [.int v1, .ref 40]) (σ' := s2) (by decide +kernel) rfl rfl ?_
    refine g_callV (rest := []) [.int v1] hx hc mk_state_depthAt ln_9_117 rfl (by decide +kernel) (by decide) (Nat.le_of_ble_eq_true rfl) (s_state_depthAt_40 (ok_b h)) (fun r3 s3 h => ?_)
    refine g_run hx [(.istore_n 2, 0, 0), (.iload_n 1, 0, 0), (.aload_n 0, 0, 0), (.getfield 26, 0, 0), (.getfield 126, 0, 0), (.isub, 0, 0)] (pc' := 32) (lo' := [some (.ref 0), some (.int v1), some (.int r3), none]) (st' := [.int (v1 - (gI s3 40 3))]) (σ' := s3) (by decide +kernel) rfl rfl ?_
    refine g_mabs hx hc (by decide) ln_9_263 (by decide +kernel) (Nat.le_of_ble_eq_true rfl) ?_
    refine g_run hx [(.istore_n 3, 0, 0), (.iload_n 2, 0, 0)] (pc' := 37) (lo' := [some (.ref 0), some (.int v1), some (.int r3), some (.int (jabs (v1 - (gI s3 40 3))))]) (st' := [.int r3]) (σ' := s3) (by decide +kernel) rfl rfl ?_
    refine g_if_ne hx (off := 5) (tgt := 42) (by decide +kernel) (by decide) (fun c37 => ?_) (fun c37 => ?_)
    · have h := ok_f h c37
      refine g_run hx [(.iload_n 3, 0, 0)] (pc' := 43) (lo' := [some (.ref 0), some (.int v1), some (.int r3), some (.int (jabs (v1 - (gI s3 40 3))))]) (st' := [.int (jabs (v1 - (gI s3 40 3)))]) (σ' := s3) (by decide +kernel) rfl rfl ?_
      refine g_if_ne hx (off := 9) (tgt := 52) (by decide +kernel) (by decide) (fun c43 => ?_) (fun c43 => ?_)
      · have h := ok_f h c43
        refine g_run hx [(.iload_n 3, 0, 0), (.iconst 2, 2, 0), (.iload_n 2, 0, 0), (.iconst 1, 1, 0), (.isub, 0, 0), (.imul, 0, 0), (.iadd, 0, 0)] (pc' := 59) (lo' := [some (.ref 0), some (.int v1), some (.int r3), some (.int (jabs (v1 - (gI s3 40 3))))]) (st' := [.int ((jabs (v1 - (gI s3 40 3))) + (2 * (r3 - 1)))]) (σ' := s3) (by decide +kernel) rfl rfl ?_
        exact g_iret hx hr rfl _ rfl (by decide +kernel) (ok_some h)
      · have h := ok_t h c43
        refine g_run hx [(.iconst 2, 2, 0), (.iload_n 2, 0, 0), (.imul, 0, 0)] (pc' := 49) (lo' := [some (.ref 0), some (.int v1), some (.int r3), some (.int (jabs (v1 - (gI s3 40 3))))]) (st' := [.int (2 * r3)]) (σ' := s3) (by decide +kernel) rfl rfl ?_
        refine g_goto hx (off := 10) (tgt := 59) (by decide +kernel) (by decide) ?_
        exact g_iret hx hr rfl _ rfl (by decide +kernel) (ok_some h)
    · have h := ok_t h c37
      refine g_run hx [(.iconst 0, 0, 0)] (pc' := 41) (lo' := [some (.ref 0), some (.int v1), some (.int r3), some (.int (jabs (v1 - (gI s3 40 3))))]) (st' := [.int 0]) (σ' := s3) (by decide +kernel) rfl rfl ?_
      exact g_iret hx hr rfl _ rfl (by decide +kernel) (ok_some h)
  · have h := ok_f h c9
    refine g_run hx [(.iconst (-1), (-1), 0)] (pc' := 13) (lo' := [some (.ref 0), some (.int v1), none, none]) (st' := [.int (-1)]) (σ' := s2) (by decide +kernel) rfl rfl ?_
    exact g_iret hx hr rfl _ rfl (by decide +kernel) (ok_some h)
def f_x_stillIn_L26 (N : Nat) : Nat → Int32 → Sg → Option (Int32 × Sg)
  | 0, _, _ => none
  | n + 1, v1, σ =>
    if 60 < v1 then
      some ((-2), σ)
    else
      (f_state_healing N 41 σ).bind fun q4 =>
      if (lg_cmp q4.1 0) = 0 then
        some (v1, q4.2)
      else
        (f_state_passYear N 41 q4.2).bind fun q5 =>
        f_x_stillIn_L26 N n (v1 + 1) q5.2
def f_x_stillIn (N : Nat) (σ : Sg) : Option (Int32 × Sg) :=
  (f_x_landTrouble N σ).bind fun q1 =>
  (f_x_granted N q1.1 q1.2).bind fun q2 =>
  if q2.1 = true then
    (f_state_copy N q2.2).bind fun q3 =>
    f_x_stillIn_L26 N N 0 q3.2
  else
    some ((-1), q2.2)
set_option maxRecDepth 100000 in
theorem s_x_stillIn_L26 {y : EX} {N : Nat} {x : CX} {P : Int32 × Sg → Prop} (hx : Cx 9 prog_1_method_22_code x) (hc : Cc y 2 4 x) (hr : Cr M_x_stillIn rvI P x) : ∀ (n : Nat) (v1 : Int32) (σ : Sg), ok (f_x_stillIn_L26 N n v1 σ) P → G x 26 [some (.ref 0), some (.int v1)] [] σ := by
  intro n
  induction n with
  | zero => intro v1 σ h; exact ok_none h
  | succ n ih =>
    intro v1 σ h
    rw [f_x_stillIn_L26] at h
    refine g_run hx [(.iload_n 1, 0, 0), (.bipush 60, 60, 0)] (pc' := 29) (lo' := [some (.ref 0), some (.int v1)]) (st' := [.int 60, .int v1]) (σ' := σ) (by decide +kernel) rfl rfl ?_
    refine g_ic_gt hx (off := 38) (tgt := 67) (by decide +kernel) (by decide) (fun c29 => ?_) (fun c29 => ?_)
    · have h := ok_t h c29
      refine g_run hx [(.bipush (-2), (-2), 0)] (pc' := 69) (lo' := [some (.ref 0), some (.int v1)]) (st' := [.int (-2)]) (σ' := σ) (by decide +kernel) rfl rfl ?_
      exact g_iret hx hr rfl _ rfl (by decide +kernel) (ok_some h)
    · have h := ok_f h c29
      refine g_run hx [(.aload_n 0, 0, 0), (.getfield 30, 0, 0), (.aload_n 0, 0, 0), (.getfield 19, 0, 0)] (pc' := 40) (lo' := [some (.ref 0), some (.int v1)]) (st' := [.ref 10, .ref 41]) (σ' := σ) (by decide +kernel) rfl rfl ?_
      refine g_callV (rest := []) [.ref 10] hx hc mk_state_healing ln_9_211 rfl (by decide +kernel) (by decide) (Nat.le_of_ble_eq_true rfl) (s_state_healing_41_10 (ok_b h)) (fun r4 s4 h => ?_)
      refine g_run hx [(.lconst 0, 0, 0), (.lcmp, 0, 0)] (pc' := 45) (lo' := [some (.ref 0), some (.int v1)]) (st' := [.int (lg_cmp r4 0)]) (σ' := s4) (by decide +kernel) rfl rfl ?_
      refine g_if_ne hx (off := 5) (tgt := 50) (by decide +kernel) (by decide) (fun c45 => ?_) (fun c45 => ?_)
      · have h := ok_f h c45
        refine g_run hx [(.aload_n 0, 0, 0), (.getfield 30, 0, 0), (.aload_n 0, 0, 0), (.getfield 19, 0, 0)] (pc' := 58) (lo' := [some (.ref 0), some (.int v1)]) (st' := [.ref 10, .ref 41]) (σ' := s4) (by decide +kernel) rfl rfl ?_
        refine g_callV (rest := []) [.ref 10] hx hc mk_state_passYear ln_9_208 rfl (by decide +kernel) (by decide) (Nat.le_of_ble_eq_true rfl) (s_state_passYear_41_10 (ok_b h)) (fun r5 s5 h => ?_)
        refine g_run hx [(.iinc 1 1, 1, 0)] (pc' := 64) (lo' := [some (.ref 0), some (.int (v1 + 1))]) (st' := []) (σ' := s5) (by decide +kernel) rfl rfl ?_
        refine g_goto hx (off := (-38)) (tgt := 26) (by decide +kernel) (by decide) ?_
        exact ih _ _ h
      · have h := ok_t h c45
        refine g_run hx [(.iload_n 1, 0, 0)] (pc' := 49) (lo' := [some (.ref 0), some (.int v1)]) (st' := [.int v1]) (σ' := s4) (by decide +kernel) rfl rfl ?_
        exact g_iret hx hr rfl _ rfl (by decide +kernel) (ok_some h)
set_option maxRecDepth 100000 in
theorem s_x_stillIn {y : EX} {N : Nat} {σ : Sg} {P : Int32 × Sg → Prop} (h : ok (f_x_stillIn N σ) P) : Ev y M_x_stillIn 4 [.ref 0] σ rvI P := by
  refine Ev.of mk_x_stillIn (Nat.le_of_ble_eq_true rfl) (fun x hx hc hr => ?_)
  have hx : Cx 9 prog_1_method_22_code x := hx
  have hc : Cc y 2 4 x := hc
  show G x 0 [some (.ref 0), none] [] σ
  unfold f_x_stillIn at h
  refine g_run hx [(.aload_n 0, 0, 0), (.aload_n 0, 0, 0)] (pc' := 2) (lo' := [some (.ref 0), none]) (st' := [.ref 0, .ref 0]) (σ' := σ) (by decide +kernel) rfl rfl ?_
  refine g_callV (rest := [.ref 0]) [] hx hc mk_x_landTrouble ln_9_158 rfl (by decide +kernel) (by decide) (Nat.le_of_ble_eq_true rfl) (s_x_landTrouble (ok_b h)) (fun r1 s1 h => ?_)
  refine g_callV (rest := []) [.int r1] hx hc mk_x_granted ln_9_83 rfl (by decide +kernel) (by decide) (Nat.le_of_ble_eq_true rfl) (s_x_granted (ok_b h)) (fun r2 s2 h => ?_)
  refine g_ifb_ne hx (off := 5) (tgt := 13) (by decide +kernel) (by decide) (fun c8 => ?_) (fun c8 => ?_)
  · have h := ok_t h c8
    refine g_run hx [(.aload_n 0, 0, 0), (.getfield 30, 0, 0), (.aload_n 0, 0, 0), (.getfield 26, 0, 0)] (pc' := 21) (lo' := [some (.ref 0), none]) (st' := [.ref 40, .ref 41]) (σ' := s2) (by decide +kernel) rfl rfl ?_
    refine g_callV (rest := []) [.ref 40] hx hc mk_state_copy ln_9_204 rfl (by decide +kernel) (by decide) (Nat.le_of_ble_eq_true rfl) (s_state_copy (ok_b h)) (fun r3 s3 h => ?_)
    refine g_run hx [(.iconst 0, 0, 0), (.istore_n 1, 0, 0)] (pc' := 26) (lo' := [some (.ref 0), some (.int 0)]) (st' := []) (σ' := s3) (by decide +kernel) rfl rfl ?_
    refine s_x_stillIn_L26 hx hc hr N _ _ h
  · have h := ok_f h c8
    refine g_run hx [(.iconst (-1), (-1), 0)] (pc' := 12) (lo' := [some (.ref 0), none]) (st' := [.int (-1)]) (σ' := s2) (by decide +kernel) rfl rfl ?_
    exact g_iret hx hr rfl _ rfl (by decide +kernel) (ok_some h)
def f_x_stretches (N : Nat) (σ : Sg) : Option (Int32 × Sg) :=
  (f_x_landTrouble N σ).bind fun q1 =>
  (f_x_granted N q1.1 q1.2).bind fun q2 =>
  if q2.1 = true then
    (f_country_allCells N q2.2).bind fun q3 =>
    (f_state_goneCells N 40 q3.2).bind fun q4 =>
    (f_jl_bitCount N ((q3.1 &&& (q4.1 ^^^ (-1))) &&& (((q3.1 &&& (q4.1 ^^^ (-1))) <<< (Int32.toInt64 1 &&& 63)) ^^^ (-1))) q4.2).bind fun q5 =>
    some (q5.1, q5.2)
  else
    some ((-1), q2.2)
set_option maxRecDepth 100000 in
theorem s_x_stretches {y : EX} {N : Nat} {σ : Sg} {P : Int32 × Sg → Prop} (h : ok (f_x_stretches N σ) P) : Ev y M_x_stretches 2 [.ref 0] σ rvI P := by
  refine Ev.of mk_x_stretches (Nat.le_of_ble_eq_true rfl) (fun x hx hc hr => ?_)
  have hx : Cx 9 prog_1_method_13_code x := hx
  have hc : Cc y 3 2 x := hc
  show G x 0 [some (.ref 0), none, none] [] σ
  unfold f_x_stretches at h
  refine g_run hx [(.aload_n 0, 0, 0), (.aload_n 0, 0, 0)] (pc' := 2) (lo' := [some (.ref 0), none, none]) (st' := [.ref 0, .ref 0]) (σ' := σ) (by decide +kernel) rfl rfl ?_
  refine g_callV (rest := [.ref 0]) [] hx hc mk_x_landTrouble ln_9_158 rfl (by decide +kernel) (by decide) (Nat.le_of_ble_eq_true rfl) (s_x_landTrouble (ok_b h)) (fun r1 s1 h => ?_)
  refine g_callV (rest := []) [.int r1] hx hc mk_x_granted ln_9_83 rfl (by decide +kernel) (by decide) (Nat.le_of_ble_eq_true rfl) (s_x_granted (ok_b h)) (fun r2 s2 h => ?_)
  refine g_ifb_ne hx (off := 5) (tgt := 13) (by decide +kernel) (by decide) (fun c8 => ?_) (fun c8 => ?_)
  · have h := ok_t h c8
    refine g_run hx [(.aload_n 0, 0, 0), (.getfield 19, 0, 0)] (pc' := 17) (lo' := [some (.ref 0), none, none]) (st' := [.ref 10]) (σ' := s2) (by decide +kernel) rfl rfl ?_
    refine g_callV (rest := []) [] hx hc mk_country_allCells ln_9_171 rfl (by decide +kernel) (by decide) (Nat.le_of_ble_eq_true rfl) (s_country_allCells (ok_b h)) (fun r3 s3 h => ?_)
    refine g_run hx [(.aload_n 0, 0, 0), (.getfield 26, 0, 0)] (pc' := 24) (lo' := [some (.ref 0), none, none]) (st' := [.ref 40, .long r3]) (σ' := s3) (by decide +kernel) rfl rfl ?_
    refine g_callV (rest := [.long r3]) [] hx hc mk_state_goneCells ln_9_144 rfl (by decide +kernel) (by decide) (Nat.le_of_ble_eq_true rfl) (s_state_goneCells_40 (ok_b h)) (fun r4 s4 h => ?_)
    refine g_run hx [(.ldc2_w 174, 0, (-1)), (.lxor, 0, 0), (.land, 0, 0), (.lstore_n 1, 0, 0), (.lload_n 1, 0, 0), (.lload_n 1, 0, 0), (.iconst 1, 1, 0), (.lshl, 0, 0), (.ldc2_w 174, 0, (-1)), (.lxor, 0, 0), (.land, 0, 0)] (pc' := 42) (lo' := [some (.ref 0), some (.long (r3 &&& (r4 ^^^ (-1)))), none]) (st' := [.long ((r3 &&& (r4 ^^^ (-1))) &&& (((r3 &&& (r4 ^^^ (-1))) <<< (Int32.toInt64 1 &&& 63)) ^^^ (-1)))]) (σ' := s4) (by decide +kernel) rfl rfl ?_
    refine g_callS (rest := []) [.long ((r3 &&& (r4 ^^^ (-1))) &&& (((r3 &&& (r4 ^^^ (-1))) <<< (Int32.toInt64 1 &&& 63)) ^^^ (-1)))] hx hc mk_jl_bitCount ln_9_162 (by decide +kernel) (by decide) (Nat.le_of_ble_eq_true rfl) (s_jl_bitCount (ok_b h)) (fun r5 s5 h => ?_)
    exact g_iret hx hr rfl _ rfl (by decide +kernel) (ok_some h)
  · have h := ok_f h c8
    refine g_run hx [(.iconst (-1), (-1), 0)] (pc' := 12) (lo' := [some (.ref 0), none, none]) (st' := [.int (-1)]) (σ' := s2) (by decide +kernel) rfl rfl ?_
    exact g_iret hx hr rfl _ rfl (by decide +kernel) (ok_some h)
set_option maxRecDepth 100000 in
theorem s_state_makeStride_40_10 {y : EX} {N : Nat} {v2 : Int32} {σ : Sg} {P : Bool × Sg → Prop} (h : ok (f_state_makeStride N 40 11 3 12 10 v2 σ) P) : Ev y M_state_makeStride 2 [.ref 40, .ref 10, .int v2] σ rvB P := by
  refine Ev.of mk_state_makeStride (Nat.le_of_ble_eq_true rfl) (fun x hx hc hr => ?_)
  have hx : Cx 7 prog_9_method_7_code x := hx
  have hc : Cc y 6 2 x := hc
  show G x 0 [some (.ref 40), some (.ref 10), some (.int v2), none, none, none] [] σ
  unfold f_state_makeStride at h
  refine g_run hx [(.aload_n 1, 0, 0), (.aload_n 0, 0, 0)] (pc' := 2) (lo' := [some (.ref 40), some (.ref 10), some (.int v2), none, none, none]) (st' := [.ref 40, .ref 10]) (σ' := σ) (by decide +kernel) rfl rfl ?_
  refine g_callV (rest := [.ref 10]) [] hx hc mk_state_goneCells ln_7_56 rfl (by decide +kernel) (by decide) (Nat.le_of_ble_eq_true rfl) (s_state_goneCells_40 (ok_b h)) (fun r1 s1 h => ?_)
  refine g_run hx [(.aload_n 0, 0, 0), (.getfield 18, 0, 0), (.iload_n 2, 0, 0)] (pc' := 10) (lo' := [some (.ref 40), some (.ref 10), some (.int v2), none, none, none]) (st' := [.int v2, .int (gI s1 40 2), .long r1, .ref 10]) (σ' := s1) (by decide +kernel) rfl rfl ?_
  refine g_callV (rest := []) [.long r1, .int (gI s1 40 2), .int v2] hx hc mk_country_target ln_7_60 rfl (by decide +kernel) (by decide) (Nat.le_of_ble_eq_true rfl) (s_country_target_10 (ok_b h)) (fun r2 s2 h => ?_)
  refine g_run hx [(.istore_n 3, 0, 0), (.iload_n 3, 0, 0), (.bipush (-2), (-2), 0)] (pc' := 17) (lo' := [some (.ref 40), some (.ref 10), some (.int v2), some (.int r2), none, none]) (st' := [.int (-2), .int r2]) (σ' := s2) (by decide +kernel) rfl rfl ?_
  refine g_ic_ne hx (off := 5) (tgt := 22) (by decide +kernel) (by decide) (fun c17 => ?_) (fun c17 => ?_)
  · have h := ok_f h c17
    refine g_run hx [(.aload_n 0, 0, 0), (.getfield 18, 0, 0), (.iload_n 3, 0, 0)] (pc' := 27) (lo' := [some (.ref 40), some (.ref 10), some (.int v2), some (.int r2), none, none]) (st' := [.int r2, .int (gI s2 40 2)]) (σ' := s2) (by decide +kernel) rfl rfl ?_
    refine g_callN (rest := []) [.int (gI s2 40 2), .int r2] hx hc mk_x_inside ln_7_64 (by decide +kernel) (by decide) (Nat.le_of_ble_eq_true rfl) (s_x_inside (ok_b h)) (fun r3 s3 h => ?_)
    refine g_run hx [(.aload_n 0, 0, 0)] (pc' := 31) (lo' := [some (.ref 40), some (.ref 10), some (.int v2), some (.int r2), none, none]) (st' := [.ref 40, .long r3]) (σ' := s3) (by decide +kernel) rfl rfl ?_
    refine g_callV (rest := [.long r3]) [] hx hc mk_state_goneCells ln_7_56 rfl (by decide +kernel) (by decide) (Nat.le_of_ble_eq_true rfl) (s_state_goneCells_40 (ok_b h)) (fun r4 s4 h => ?_)
    refine g_run hx [(.ldc2_w 68, 0, (-1)), (.lxor, 0, 0), (.land, 0, 0), (.lstore 4, 0, 0), (.aload_n 0, 0, 0), (.dup, 0, 0), (.getfield 9, 0, 0), (.aload_n 1, 0, 0), (.lload 4, 0, 0)] (pc' := 49) (lo' := [some (.ref 40), some (.ref 10), some (.int v2), some (.int r2), some (.long (r3 &&& (r4 ^^^ (-1)))), none]) (st' := [.long (r3 &&& (r4 ^^^ (-1))), .ref 10, .long (gL s4 40 0), .ref 40]) (σ' := s4) (by decide +kernel) rfl rfl ?_
    refine g_callV (rest := [.long (gL s4 40 0), .ref 40]) [.long (r3 &&& (r4 ^^^ (-1)))] hx hc mk_country_lowDepth ln_7_33 rfl (by decide +kernel) (by decide) (Nat.le_of_ble_eq_true rfl) (s_country_lowDepth (ok_b h)) (fun r5 s5 h => ?_)
    refine g_run hx [(.lor, 0, 0), (.putfield 9, 0, 0), (.aload_n 0, 0, 0), (.dup, 0, 0), (.getfield 15, 0, 0), (.aload_n 1, 0, 0), (.lload 4, 0, 0)] (pc' := 64) (lo' := [some (.ref 40), some (.ref 10), some (.int v2), some (.int r2), some (.long (r3 &&& (r4 ^^^ (-1)))), none]) (st' := [.long (r3 &&& (r4 ^^^ (-1))), .ref 10, .long (gL (sL s5 40 0 ((gL s4 40 0) ||| r5)) 40 1), .ref 40]) (σ' := sL s5 40 0 ((gL s4 40 0) ||| r5)) (by decide +kernel) rfl rfl ?_
    refine g_callV (rest := [.long (gL (sL s5 40 0 ((gL s4 40 0) ||| r5)) 40 1), .ref 40]) [.long (r3 &&& (r4 ^^^ (-1)))] hx hc mk_country_highDepth ln_7_37 rfl (by decide +kernel) (by decide) (Nat.le_of_ble_eq_true rfl) (s_country_highDepth (ok_b h)) (fun r6 s6 h => ?_)
    refine g_run hx [(.lor, 0, 0), (.putfield 15, 0, 0), (.aload_n 0, 0, 0), (.iload_n 3, 0, 0), (.putfield 18, 0, 0), (.iconst 1, 1, 0)] (pc' := 77) (lo' := [some (.ref 40), some (.ref 10), some (.int v2), some (.int r2), some (.long (r3 &&& (r4 ^^^ (-1)))), none]) (st' := [.int 1]) (σ' := sI (sL s6 40 1 ((gL (sL s5 40 0 ((gL s4 40 0) ||| r5)) 40 1) ||| r6)) 40 2 r2) (by decide +kernel) rfl rfl ?_
    exact g_zret (b := true) hx hr rfl true rfl (by decide +kernel) (ok_some h)
  · have h := ok_t h c17
    refine g_run hx [(.iconst 0, 0, 0)] (pc' := 21) (lo' := [some (.ref 40), some (.ref 10), some (.int v2), some (.int r2), none, none]) (st' := [.int 0]) (σ' := s2) (by decide +kernel) rfl rfl ?_
    exact g_zret (b := false) hx hr rfl false rfl (by decide +kernel) (ok_some h)
def f_x_stride (N : Nat) (v1 : Int32) (v2 : Int32) (σ : Sg) : Option (Int32 × Sg) :=
  (f_x_strideTrouble N v1 v2 σ).bind fun q1 =>
  (f_x_granted N q1.1 q1.2).bind fun q2 =>
  if q2.1 = true then
    (f_x_targetNow N v1 v2 q2.2).bind fun q3 =>
    if q3.1 = (-2) then
      (f_x_granted N 5 q3.2).bind fun q8 =>
      if q8.1 = true then
        (f_history_keep N q8.2).bind fun q9 =>
        (f_x_digitFor N v1 v2 q9.2).bind fun q10 =>
        (f_state_makeStride N 40 11 3 12 10 q10.1 q10.2).bind fun q11 =>
        some ((gI q11.2 40 2), q11.2)
      else
        some ((-1), q8.2)
    else
      (f_x_granted N 0 q3.2).bind fun q4 =>
      if q4.1 = true then
        (f_history_keep N q4.2).bind fun q5 =>
        (f_x_digitFor N v1 v2 q5.2).bind fun q6 =>
        (f_state_makeStride N 40 11 3 12 10 q6.1 q6.2).bind fun q7 =>
        some ((gI q7.2 40 2), q7.2)
      else
        some ((-1), q4.2)
  else
    some ((-1), q2.2)
set_option maxRecDepth 100000 in
theorem s_x_stride {y : EX} {N : Nat} {v1 : Int32} {v2 : Int32} {σ : Sg} {P : Int32 × Sg → Prop} (h : ok (f_x_stride N v1 v2 σ) P) : Ev y M_x_stride 3 [.ref 0, .int v1, .int v2] σ rvI P := by
  refine Ev.of mk_x_stride (Nat.le_of_ble_eq_true rfl) (fun x hx hc hr => ?_)
  have hx : Cx 9 prog_1_method_53_code x := hx
  have hc : Cc y 3 3 x := hc
  show G x 0 [some (.ref 0), some (.int v1), some (.int v2)] [] σ
  unfold f_x_stride at h
  refine g_run hx [(.aload_n 0, 0, 0), (.aload_n 0, 0, 0), (.iload_n 1, 0, 0), (.iload_n 2, 0, 0)] (pc' := 4) (lo' := [some (.ref 0), some (.int v1), some (.int v2)]) (st' := [.int v2, .int v1, .ref 0, .ref 0]) (σ' := σ) (by decide +kernel) rfl rfl ?_
  refine g_callV (rest := [.ref 0]) [.int v1, .int v2] hx hc mk_x_strideTrouble ln_9_215 rfl (by decide +kernel) (by decide) (Nat.le_of_ble_eq_true rfl) (s_x_strideTrouble (ok_b h)) (fun r1 s1 h => ?_)
  refine g_callV (rest := []) [.int r1] hx hc mk_x_granted ln_9_83 rfl (by decide +kernel) (by decide) (Nat.le_of_ble_eq_true rfl) (s_x_granted (ok_b h)) (fun r2 s2 h => ?_)
  refine g_ifb_ne hx (off := 5) (tgt := 15) (by decide +kernel) (by decide) (fun c10 => ?_) (fun c10 => ?_)
  · have h := ok_t h c10
    refine g_run hx [(.aload_n 0, 0, 0), (.aload_n 0, 0, 0), (.iload_n 1, 0, 0), (.iload_n 2, 0, 0)] (pc' := 19) (lo' := [some (.ref 0), some (.int v1), some (.int v2)]) (st' := [.int v2, .int v1, .ref 0, .ref 0]) (σ' := s2) (by decide +kernel) rfl rfl ?_
    refine g_callV (rest := [.ref 0]) [.int v1, .int v2] hx hc mk_x_targetNow ln_9_218 rfl (by decide +kernel) (by decide) (Nat.le_of_ble_eq_true rfl) (s_x_targetNow (ok_b h)) (fun r3 s3 h => ?_)
    refine g_run hx [(.bipush (-2), (-2), 0)] (pc' := 24) (lo' := [some (.ref 0), some (.int v1), some (.int v2)]) (st' := [.int (-2), .int r3, .ref 0]) (σ' := s3) (by decide +kernel) rfl rfl ?_
    refine g_ic_ne hx (off := 7) (tgt := 31) (by decide +kernel) (by decide) (fun c24 => ?_) (fun c24 => ?_)
    · have h := ok_f h c24
      refine g_run hx [(.iconst 0, 0, 0)] (pc' := 32) (lo' := [some (.ref 0), some (.int v1), some (.int v2)]) (st' := [.int 0, .ref 0]) (σ' := s3) (by decide +kernel) rfl rfl ?_
      refine g_callV (rest := []) [.int 0] hx hc mk_x_granted ln_9_83 rfl (by decide +kernel) (by decide) (Nat.le_of_ble_eq_true rfl) (s_x_granted (ok_b h)) (fun r4 s4 h => ?_)
      refine g_ifb_ne hx (off := 5) (tgt := 40) (by decide +kernel) (by decide) (fun c35 => ?_) (fun c35 => ?_)
      · have h := ok_t h c35
        refine g_run hx [(.aload_n 0, 0, 0), (.getfield 36, 0, 0), (.aload_n 0, 0, 0), (.getfield 26, 0, 0)] (pc' := 48) (lo' := [some (.ref 0), some (.int v1), some (.int v2)]) (st' := [.ref 40, .ref 42]) (σ' := s4) (by decide +kernel) rfl rfl ?_
        refine g_callV (rest := []) [.ref 40] hx hc mk_history_keep ln_9_344 rfl (by decide +kernel) (by decide) (Nat.le_of_ble_eq_true rfl) (s_history_keep (ok_b h)) (fun r5 s5 h => ?_)
        refine g_run hx [(.aload_n 0, 0, 0), (.getfield 26, 0, 0), (.aload_n 0, 0, 0), (.getfield 19, 0, 0), (.iload_n 1, 0, 0), (.iload_n 2, 0, 0)] (pc' := 61) (lo' := [some (.ref 0), some (.int v1), some (.int v2)]) (st' := [.int v2, .int v1, .ref 10, .ref 40]) (σ' := s5) (by decide +kernel) rfl rfl ?_
        refine g_callS (rest := [.ref 10, .ref 40]) [.int v1, .int v2] hx hc mk_x_digitFor ln_9_347 (by decide +kernel) (by decide) (Nat.le_of_ble_eq_true rfl) (s_x_digitFor (ok_b h)) (fun r6 s6 h => ?_)
        refine g_callV (rest := []) [.ref 10, .int r6] hx hc mk_state_makeStride ln_9_340 rfl (by decide +kernel) (by decide) (Nat.le_of_ble_eq_true rfl) (s_state_makeStride_40_10 (ok_b h)) (fun r7 s7 h => ?_)
        refine g_run hx [(.pop, 0, 0), (.aload_n 0, 0, 0), (.getfield 26, 0, 0), (.getfield 123, 0, 0)] (pc' := 75) (lo' := [some (.ref 0), some (.int v1), some (.int v2)]) (st' := [.int (gI s7 40 2)]) (σ' := s7) (by decide +kernel) rfl rfl ?_
        exact g_iret hx hr rfl _ rfl (by decide +kernel) (ok_some h)
      · have h := ok_f h c35
        refine g_run hx [(.iconst (-1), (-1), 0)] (pc' := 39) (lo' := [some (.ref 0), some (.int v1), some (.int v2)]) (st' := [.int (-1)]) (σ' := s4) (by decide +kernel) rfl rfl ?_
        exact g_iret hx hr rfl _ rfl (by decide +kernel) (ok_some h)
    · have h := ok_t h c24
      refine g_run hx [(.iconst 5, 5, 0)] (pc' := 28) (lo' := [some (.ref 0), some (.int v1), some (.int v2)]) (st' := [.int 5, .ref 0]) (σ' := s3) (by decide +kernel) rfl rfl ?_
      refine g_goto hx (off := 4) (tgt := 32) (by decide +kernel) (by decide) ?_
      refine g_callV (rest := []) [.int 5] hx hc mk_x_granted ln_9_83 rfl (by decide +kernel) (by decide) (Nat.le_of_ble_eq_true rfl) (s_x_granted (ok_b h)) (fun r8 s8 h => ?_)
      refine g_ifb_ne hx (off := 5) (tgt := 40) (by decide +kernel) (by decide) (fun c35 => ?_) (fun c35 => ?_)
      · have h := ok_t h c35
        refine g_run hx [(.aload_n 0, 0, 0), (.getfield 36, 0, 0), (.aload_n 0, 0, 0), (.getfield 26, 0, 0)] (pc' := 48) (lo' := [some (.ref 0), some (.int v1), some (.int v2)]) (st' := [.ref 40, .ref 42]) (σ' := s8) (by decide +kernel) rfl rfl ?_
        refine g_callV (rest := []) [.ref 40] hx hc mk_history_keep ln_9_344 rfl (by decide +kernel) (by decide) (Nat.le_of_ble_eq_true rfl) (s_history_keep (ok_b h)) (fun r9 s9 h => ?_)
        refine g_run hx [(.aload_n 0, 0, 0), (.getfield 26, 0, 0), (.aload_n 0, 0, 0), (.getfield 19, 0, 0), (.iload_n 1, 0, 0), (.iload_n 2, 0, 0)] (pc' := 61) (lo' := [some (.ref 0), some (.int v1), some (.int v2)]) (st' := [.int v2, .int v1, .ref 10, .ref 40]) (σ' := s9) (by decide +kernel) rfl rfl ?_
        refine g_callS (rest := [.ref 10, .ref 40]) [.int v1, .int v2] hx hc mk_x_digitFor ln_9_347 (by decide +kernel) (by decide) (Nat.le_of_ble_eq_true rfl) (s_x_digitFor (ok_b h)) (fun r10 s10 h => ?_)
        refine g_callV (rest := []) [.ref 10, .int r10] hx hc mk_state_makeStride ln_9_340 rfl (by decide +kernel) (by decide) (Nat.le_of_ble_eq_true rfl) (s_state_makeStride_40_10 (ok_b h)) (fun r11 s11 h => ?_)
        refine g_run hx [(.pop, 0, 0), (.aload_n 0, 0, 0), (.getfield 26, 0, 0), (.getfield 123, 0, 0)] (pc' := 75) (lo' := [some (.ref 0), some (.int v1), some (.int v2)]) (st' := [.int (gI s11 40 2)]) (σ' := s11) (by decide +kernel) rfl rfl ?_
        exact g_iret hx hr rfl _ rfl (by decide +kernel) (ok_some h)
      · have h := ok_f h c35
        refine g_run hx [(.iconst (-1), (-1), 0)] (pc' := 39) (lo' := [some (.ref 0), some (.int v1), some (.int v2)]) (st' := [.int (-1)]) (σ' := s8) (by decide +kernel) rfl rfl ?_
        exact g_iret hx hr rfl _ rfl (by decide +kernel) (ok_some h)
  · have h := ok_f h c10
    refine g_run hx [(.iconst (-1), (-1), 0)] (pc' := 14) (lo' := [some (.ref 0), some (.int v1), some (.int v2)]) (st' := [.int (-1)]) (σ' := s2) (by decide +kernel) rfl rfl ?_
    exact g_iret hx hr rfl _ rfl (by decide +kernel) (ok_some h)
