set_option maxRecDepth 100000 in
theorem s_shelf_keep_49_40 {y : EX} {N : Nat} {v1 : Int32} {σ : Sg} {P : Unit × Sg → Prop} (h : ok (f_shelf_keep N 3 3 3 3 3 50 40 51 52 53 54 v1 σ) P) : Ev y M_shelf_keep 1 [.ref 49, .int v1, .ref 40] σ rvN P := by
  refine Ev.of mk_shelf_keep (Nat.le_of_ble_eq_true rfl) (fun x hx hc hr => ?_)
  have hx : Cx 6 prog_8_method_3_code x := hx
  have hc : Cc y 3 1 x := hc
  show G x 0 [some (.ref 49), some (.int v1), some (.ref 40)] [] σ
  unfold f_shelf_keep at h
  refine g_run hx [(.aload_n 0, 0, 0), (.iload_n 1, 0, 0)] (pc' := 2) (lo' := [some (.ref 49), some (.int v1), some (.ref 40)]) (st' := [.int v1, .ref 49]) (σ' := σ) (by decide +kernel) rfl rfl ?_
  refine g_callV (rest := []) [.int v1] hx hc mk_shelf_has ln_6_32 rfl (by decide +kernel) (by decide) (Nat.le_of_ble_eq_true rfl) (s_shelf_has_49 (ok_b h)) (fun r1 s1 h => ?_)
  refine g_ifb_eq hx (off := 53) (tgt := 58) (by decide +kernel) (by decide) (fun c5 => ?_) (fun c5 => ?_)
  · have h := ok_f h c5
    exact g_vret hx hr rfl () rfl (by decide +kernel) (ok_some h)
  · have h := ok_t h c5
    refine g_run hx [(.aload_n 0, 0, 0), (.getfield 13, 0, 0), (.iload_n 1, 0, 0), (.aload_n 2, 0, 0), (.getfield 36, 0, 0)] (pc' := 17) (lo' := [some (.ref 49), some (.int v1), some (.ref 40)]) (st' := [.long (gL s1 40 0), .int v1, .ref 50]) (σ' := s1) (by decide +kernel) rfl rfl ?_
    obtain ⟨c17, h⟩ := ok_g h
    refine g_last hx (by decide +kernel) (i := 50) (n := 3) rfl c17 ?_
    refine g_run hx [(.aload_n 0, 0, 0), (.getfield 19, 0, 0), (.iload_n 1, 0, 0), (.aload_n 2, 0, 0), (.getfield 42, 0, 0)] (pc' := 27) (lo' := [some (.ref 49), some (.int v1), some (.ref 40)]) (st' := [.long (gL (sM s1 50 v1 (gL s1 40 0)) 40 1), .int v1, .ref 51]) (σ' := sM s1 50 v1 (gL s1 40 0)) (by decide +kernel) rfl rfl ?_
    obtain ⟨c27, h⟩ := ok_g h
    refine g_last hx (by decide +kernel) (i := 51) (n := 3) rfl c27 ?_
    refine g_run hx [(.aload_n 0, 0, 0), (.getfield 22, 0, 0), (.iload_n 1, 0, 0), (.aload_n 2, 0, 0), (.getfield 45, 0, 0)] (pc' := 37) (lo' := [some (.ref 49), some (.int v1), some (.ref 40)]) (st' := [.int (gI (sM (sM s1 50 v1 (gL s1 40 0)) 51 v1 (gL (sM s1 50 v1 (gL s1 40 0)) 40 1)) 40 2), .int v1, .ref 52]) (σ' := sM (sM s1 50 v1 (gL s1 40 0)) 51 v1 (gL (sM s1 50 v1 (gL s1 40 0)) 40 1)) (by decide +kernel) rfl rfl ?_
    obtain ⟨c37, h⟩ := ok_g h
    refine g_iast hx (by decide +kernel) (i := 52) (n := 3) rfl c37 ?_
    refine g_run hx [(.aload_n 0, 0, 0), (.getfield 26, 0, 0), (.iload_n 1, 0, 0), (.aload_n 2, 0, 0), (.getfield 49, 0, 0)] (pc' := 47) (lo' := [some (.ref 49), some (.int v1), some (.ref 40)]) (st' := [.int (gI (sA (sM (sM s1 50 v1 (gL s1 40 0)) 51 v1 (gL (sM s1 50 v1 (gL s1 40 0)) 40 1)) 52 v1 (gI (sM (sM s1 50 v1 (gL s1 40 0)) 51 v1 (gL (sM s1 50 v1 (gL s1 40 0)) 40 1)) 40 2)) 40 3), .int v1, .ref 53]) (σ' := sA (sM (sM s1 50 v1 (gL s1 40 0)) 51 v1 (gL (sM s1 50 v1 (gL s1 40 0)) 40 1)) 52 v1 (gI (sM (sM s1 50 v1 (gL s1 40 0)) 51 v1 (gL (sM s1 50 v1 (gL s1 40 0)) 40 1)) 40 2)) (by decide +kernel) rfl rfl ?_
    obtain ⟨c47, h⟩ := ok_g h
    refine g_iast hx (by decide +kernel) (i := 53) (n := 3) rfl c47 ?_
    refine g_run hx [(.aload_n 0, 0, 0), (.getfield 29, 0, 0), (.iload_n 1, 0, 0), (.aload_n 2, 0, 0), (.getfield 52, 0, 0)] (pc' := 57) (lo' := [some (.ref 49), some (.int v1), some (.ref 40)]) (st' := [.int (gI (sA (sA (sM (sM s1 50 v1 (gL s1 40 0)) 51 v1 (gL (sM s1 50 v1 (gL s1 40 0)) 40 1)) 52 v1 (gI (sM (sM s1 50 v1 (gL s1 40 0)) 51 v1 (gL (sM s1 50 v1 (gL s1 40 0)) 40 1)) 40 2)) 53 v1 (gI (sA (sM (sM s1 50 v1 (gL s1 40 0)) 51 v1 (gL (sM s1 50 v1 (gL s1 40 0)) 40 1)) 52 v1 (gI (sM (sM s1 50 v1 (gL s1 40 0)) 51 v1 (gL (sM s1 50 v1 (gL s1 40 0)) 40 1)) 40 2)) 40 3)) 40 4), .int v1, .ref 54]) (σ' := sA (sA (sM (sM s1 50 v1 (gL s1 40 0)) 51 v1 (gL (sM s1 50 v1 (gL s1 40 0)) 40 1)) 52 v1 (gI (sM (sM s1 50 v1 (gL s1 40 0)) 51 v1 (gL (sM s1 50 v1 (gL s1 40 0)) 40 1)) 40 2)) 53 v1 (gI (sA (sM (sM s1 50 v1 (gL s1 40 0)) 51 v1 (gL (sM s1 50 v1 (gL s1 40 0)) 40 1)) 52 v1 (gI (sM (sM s1 50 v1 (gL s1 40 0)) 51 v1 (gL (sM s1 50 v1 (gL s1 40 0)) 40 1)) 40 2)) 40 3)) (by decide +kernel) rfl rfl ?_
    obtain ⟨c57, h⟩ := ok_g h
    refine g_iast hx (by decide +kernel) (i := 54) (n := 3) rfl c57 ?_
    exact g_vret hx hr rfl () rfl (by decide +kernel) (ok_some h)
def f_x_image (N : Nat) (σ : Sg) : Option (Int32 × Sg) :=
  (f_x_landTrouble N σ).bind fun q1 =>
  if q1.1 = 0 then
    if (gI q1.2 0 6) < 3 then
      (f_x_granted N 0 q1.2).bind fun q2 =>
      if q2.1 = true then
        (f_shelf_keep N 3 3 3 3 3 50 40 51 52 53 54 (gI q2.2 0 6) q2.2).bind fun q3 =>
        some (((gI (sI q3.2 0 6 ((gI q3.2 0 6) + 1)) 0 6) - 1), sI q3.2 0 6 ((gI q3.2 0 6) + 1))
      else
        some ((-1), q2.2)
    else
      (f_x_granted N 3 q1.2).bind fun q4 =>
      if q4.1 = true then
        (f_shelf_keep N 3 3 3 3 3 50 40 51 52 53 54 (gI q4.2 0 6) q4.2).bind fun q5 =>
        some (((gI (sI q5.2 0 6 ((gI q5.2 0 6) + 1)) 0 6) - 1), sI q5.2 0 6 ((gI q5.2 0 6) + 1))
      else
        some ((-1), q4.2)
  else
    (f_x_granted N 1 q1.2).bind fun q6 =>
    if q6.1 = true then
      (f_shelf_keep N 3 3 3 3 3 50 40 51 52 53 54 (gI q6.2 0 6) q6.2).bind fun q7 =>
      some (((gI (sI q7.2 0 6 ((gI q7.2 0 6) + 1)) 0 6) - 1), sI q7.2 0 6 ((gI q7.2 0 6) + 1))
    else
      some ((-1), q6.2)
set_option maxRecDepth 100000 in
theorem s_x_image {y : EX} {N : Nat} {σ : Sg} {P : Int32 × Sg → Prop} (h : ok (f_x_image N σ) P) : Ev y M_x_image 2 [.ref 0] σ rvI P := by
  refine Ev.of mk_x_image (Nat.le_of_ble_eq_true rfl) (fun x hx hc hr => ?_)
  have hx : Cx 9 prog_1_method_58_code x := hx
  have hc : Cc y 1 2 x := hc
  show G x 0 [some (.ref 0)] [] σ
  unfold f_x_image at h
  refine g_run hx [(.aload_n 0, 0, 0), (.aload_n 0, 0, 0)] (pc' := 2) (lo' := [some (.ref 0)]) (st' := [.ref 0, .ref 0]) (σ' := σ) (by decide +kernel) rfl rfl ?_
  refine g_callV (rest := [.ref 0]) [] hx hc mk_x_landTrouble ln_9_158 rfl (by decide +kernel) (by decide) (Nat.le_of_ble_eq_true rfl) (s_x_landTrouble (ok_b h)) (fun r1 s1 h => ?_)
  refine g_if_eq hx (off := 7) (tgt := 12) (by decide +kernel) (by decide) (fun c5 => ?_) (fun c5 => ?_)
  · have h := ok_t h c5
    refine g_run hx [(.aload_n 0, 0, 0), (.getfield 49, 0, 0), (.iconst 3, 3, 0)] (pc' := 17) (lo' := [some (.ref 0)]) (st' := [.int 3, .int (gI s1 0 6), .ref 0]) (σ' := s1) (by decide +kernel) rfl rfl ?_
    refine g_ic_lt hx (off := 7) (tgt := 24) (by decide +kernel) (by decide) (fun c17 => ?_) (fun c17 => ?_)
    · have h := ok_t h c17
      refine g_run hx [(.iconst 0, 0, 0)] (pc' := 25) (lo' := [some (.ref 0)]) (st' := [.int 0, .ref 0]) (σ' := s1) (by decide +kernel) rfl rfl ?_
      refine g_callV (rest := []) [.int 0] hx hc mk_x_granted ln_9_83 rfl (by decide +kernel) (by decide) (Nat.le_of_ble_eq_true rfl) (s_x_granted (ok_b h)) (fun r2 s2 h => ?_)
      refine g_ifb_ne hx (off := 5) (tgt := 33) (by decide +kernel) (by decide) (fun c28 => ?_) (fun c28 => ?_)
      · have h := ok_t h c28
        refine g_run hx [(.aload_n 0, 0, 0), (.getfield 45, 0, 0), (.aload_n 0, 0, 0), (.getfield 49, 0, 0), (.aload_n 0, 0, 0), (.getfield 26, 0, 0)] (pc' := 45) (lo' := [some (.ref 0)]) (st' := [.ref 40, .int (gI s2 0 6), .ref 49]) (σ' := s2) (by decide +kernel) rfl rfl ?_
        refine g_callV (rest := []) [.int (gI s2 0 6), .ref 40] hx hc mk_shelf_keep ln_9_366 rfl (by decide +kernel) (by decide) (Nat.le_of_ble_eq_true rfl) (s_shelf_keep_49_40 (ok_b h)) (fun r3 s3 h => ?_)
        refine g_run hx [(.aload_n 0, 0, 0), (.dup, 0, 0), (.getfield 49, 0, 0), (.iconst 1, 1, 0), (.iadd, 0, 0), (.putfield 49, 0, 0), (.aload_n 0, 0, 0), (.getfield 49, 0, 0), (.iconst 1, 1, 0), (.isub, 0, 0)] (pc' := 64) (lo' := [some (.ref 0)]) (st' := [.int ((gI (sI s3 0 6 ((gI s3 0 6) + 1)) 0 6) - 1)]) (σ' := sI s3 0 6 ((gI s3 0 6) + 1)) (by decide +kernel) rfl rfl ?_
        exact g_iret hx hr rfl _ rfl (by decide +kernel) (ok_some h)
      · have h := ok_f h c28
        refine g_run hx [(.iconst (-1), (-1), 0)] (pc' := 32) (lo' := [some (.ref 0)]) (st' := [.int (-1)]) (σ' := s2) (by decide +kernel) rfl rfl ?_
        exact g_iret hx hr rfl _ rfl (by decide +kernel) (ok_some h)
    · have h := ok_f h c17
      refine g_run hx [(.iconst 3, 3, 0)] (pc' := 21) (lo' := [some (.ref 0)]) (st' := [.int 3, .ref 0]) (σ' := s1) (by decide +kernel) rfl rfl ?_
      refine g_goto hx (off := 4) (tgt := 25) (by decide +kernel) (by decide) ?_
      refine g_callV (rest := []) [.int 3] hx hc mk_x_granted ln_9_83 rfl (by decide +kernel) (by decide) (Nat.le_of_ble_eq_true rfl) (s_x_granted (ok_b h)) (fun r4 s4 h => ?_)
      refine g_ifb_ne hx (off := 5) (tgt := 33) (by decide +kernel) (by decide) (fun c28 => ?_) (fun c28 => ?_)
      · have h := ok_t h c28
        refine g_run hx [(.aload_n 0, 0, 0), (.getfield 45, 0, 0), (.aload_n 0, 0, 0), (.getfield 49, 0, 0), (.aload_n 0, 0, 0), (.getfield 26, 0, 0)] (pc' := 45) (lo' := [some (.ref 0)]) (st' := [.ref 40, .int (gI s4 0 6), .ref 49]) (σ' := s4) (by decide +kernel) rfl rfl ?_
        refine g_callV (rest := []) [.int (gI s4 0 6), .ref 40] hx hc mk_shelf_keep ln_9_366 rfl (by decide +kernel) (by decide) (Nat.le_of_ble_eq_true rfl) (s_shelf_keep_49_40 (ok_b h)) (fun r5 s5 h => ?_)
        refine g_run hx [(.aload_n 0, 0, 0), (.dup, 0, 0), (.getfield 49, 0, 0), (.iconst 1, 1, 0), (.iadd, 0, 0), (.putfield 49, 0, 0), (.aload_n 0, 0, 0), (.getfield 49, 0, 0), (.iconst 1, 1, 0), (.isub, 0, 0)] (pc' := 64) (lo' := [some (.ref 0)]) (st' := [.int ((gI (sI s5 0 6 ((gI s5 0 6) + 1)) 0 6) - 1)]) (σ' := sI s5 0 6 ((gI s5 0 6) + 1)) (by decide +kernel) rfl rfl ?_
        exact g_iret hx hr rfl _ rfl (by decide +kernel) (ok_some h)
      · have h := ok_f h c28
        refine g_run hx [(.iconst (-1), (-1), 0)] (pc' := 32) (lo' := [some (.ref 0)]) (st' := [.int (-1)]) (σ' := s4) (by decide +kernel) rfl rfl ?_
        exact g_iret hx hr rfl _ rfl (by decide +kernel) (ok_some h)
  · have h := ok_f h c5
    refine g_run hx [(.iconst 1, 1, 0)] (pc' := 9) (lo' := [some (.ref 0)]) (st' := [.int 1, .ref 0]) (σ' := s1) (by decide +kernel) rfl rfl ?_
    refine g_goto hx (off := 16) (tgt := 25) (by decide +kernel) (by decide) ?_
    refine g_callV (rest := []) [.int 1] hx hc mk_x_granted ln_9_83 rfl (by decide +kernel) (by decide) (Nat.le_of_ble_eq_true rfl) (s_x_granted (ok_b h)) (fun r6 s6 h => ?_)
    refine g_ifb_ne hx (off := 5) (tgt := 33) (by decide +kernel) (by decide) (fun c28 => ?_) (fun c28 => ?_)
    · have h := ok_t h c28
      refine g_run hx [(.aload_n 0, 0, 0), (.getfield 45, 0, 0), (.aload_n 0, 0, 0), (.getfield 49, 0, 0), (.aload_n 0, 0, 0), (.getfield 26, 0, 0)] (pc' := 45) (lo' := [some (.ref 0)]) (st' := [.ref 40, .int (gI s6 0 6), .ref 49]) (σ' := s6) (by decide +kernel) rfl rfl ?_
      refine g_callV (rest := []) [.int (gI s6 0 6), .ref 40] hx hc mk_shelf_keep ln_9_366 rfl (by decide +kernel) (by decide) (Nat.le_of_ble_eq_true rfl) (s_shelf_keep_49_40 (ok_b h)) (fun r7 s7 h => ?_)
      refine g_run hx [(.aload_n 0, 0, 0), (.dup, 0, 0), (.getfield 49, 0, 0), (.iconst 1, 1, 0), (.iadd, 0, 0), (.putfield 49, 0, 0), (.aload_n 0, 0, 0), (.getfield 49, 0, 0), (.iconst 1, 1, 0), (.isub, 0, 0)] (pc' := 64) (lo' := [some (.ref 0)]) (st' := [.int ((gI (sI s7 0 6 ((gI s7 0 6) + 1)) 0 6) - 1)]) (σ' := sI s7 0 6 ((gI s7 0 6) + 1)) (by decide +kernel) rfl rfl ?_
      exact g_iret hx hr rfl _ rfl (by decide +kernel) (ok_some h)
    · have h := ok_f h c28
      refine g_run hx [(.iconst (-1), (-1), 0)] (pc' := 32) (lo' := [some (.ref 0)]) (st' := [.int (-1)]) (σ' := s6) (by decide +kernel) rfl rfl ?_
      exact g_iret hx hr rfl _ rfl (by decide +kernel) (ok_some h)
def f_country_firstUnlike (N : Nat) (σ : Sg) : Option (Int32 × Sg) :=
  (f_country_unlikeSeen N (gL σ 10 14) σ).bind fun q1 =>
  some (q1.1, q1.2)
set_option maxRecDepth 100000 in
theorem s_country_firstUnlike {y : EX} {N : Nat} {σ : Sg} {P : Int32 × Sg → Prop} (h : ok (f_country_firstUnlike N σ) P) : Ev y M_country_firstUnlike 2 [.ref 10] σ rvI P := by
  refine Ev.of mk_country_firstUnlike (Nat.le_of_ble_eq_true rfl) (fun x hx hc hr => ?_)
  have hx : Cx 1 prog_3_method_21_code x := hx
  have hc : Cc y 1 2 x := hc
  show G x 0 [some (.ref 10)] [] σ
  unfold f_country_firstUnlike at h
  refine g_run hx [(.aload_n 0, 0, 0), (.aload_n 0, 0, 0), (.getfield 61, 0, 0)] (pc' := 5) (lo' := [some (.ref 10)]) (st' := [.long (gL σ 10 14), .ref 10]) (σ' := σ) (by decide +kernel) rfl rfl ?_
  refine g_callV (rest := []) [.long (gL σ 10 14)] hx hc mk_country_unlikeSeen ln_1_113 rfl (by decide +kernel) (by decide) (Nat.le_of_ble_eq_true rfl) (s_country_unlikeSeen (ok_b h)) (fun r1 s1 h => ?_)
  exact g_iret hx hr rfl _ rfl (by decide +kernel) (ok_some h)
def f_x_judge (N : Nat) (σ : Sg) : Option (Int32 × Sg) :=
  (f_x_landTrouble N σ).bind fun q1 =>
  (f_x_granted N q1.1 q1.2).bind fun q2 =>
  if q2.1 = true then
    (f_country_firstUnlike N q2.2).bind fun q3 =>
    some (q3.1, q3.2)
  else
    some ((-1), q2.2)
set_option maxRecDepth 100000 in
theorem s_x_judge {y : EX} {N : Nat} {σ : Sg} {P : Int32 × Sg → Prop} (h : ok (f_x_judge N σ) P) : Ev y M_x_judge 3 [.ref 0] σ rvI P := by
  refine Ev.of mk_x_judge (Nat.le_of_ble_eq_true rfl) (fun x hx hc hr => ?_)
  have hx : Cx 9 prog_1_method_46_code x := hx
  have hc : Cc y 1 3 x := hc
  show G x 0 [some (.ref 0)] [] σ
  unfold f_x_judge at h
  refine g_run hx [(.aload_n 0, 0, 0), (.aload_n 0, 0, 0)] (pc' := 2) (lo' := [some (.ref 0)]) (st' := [.ref 0, .ref 0]) (σ' := σ) (by decide +kernel) rfl rfl ?_
  refine g_callV (rest := [.ref 0]) [] hx hc mk_x_landTrouble ln_9_158 rfl (by decide +kernel) (by decide) (Nat.le_of_ble_eq_true rfl) (s_x_landTrouble (ok_b h)) (fun r1 s1 h => ?_)
  refine g_callV (rest := []) [.int r1] hx hc mk_x_granted ln_9_83 rfl (by decide +kernel) (by decide) (Nat.le_of_ble_eq_true rfl) (s_x_granted (ok_b h)) (fun r2 s2 h => ?_)
  refine g_ifb_eq hx (off := 13) (tgt := 21) (by decide +kernel) (by decide) (fun c8 => ?_) (fun c8 => ?_)
  · have h := ok_f h c8
    refine g_run hx [(.iconst (-1), (-1), 0)] (pc' := 22) (lo' := [some (.ref 0)]) (st' := [.int (-1)]) (σ' := s2) (by decide +kernel) rfl rfl ?_
    exact g_iret hx hr rfl _ rfl (by decide +kernel) (ok_some h)
  · have h := ok_t h c8
    refine g_run hx [(.aload_n 0, 0, 0), (.getfield 19, 0, 0)] (pc' := 15) (lo' := [some (.ref 0)]) (st' := [.ref 10]) (σ' := s2) (by decide +kernel) rfl rfl ?_
    refine g_callV (rest := []) [] hx hc mk_country_firstUnlike ln_9_307 rfl (by decide +kernel) (by decide) (Nat.le_of_ble_eq_true rfl) (s_country_firstUnlike (ok_b h)) (fun r3 s3 h => ?_)
    refine g_goto hx (off := 4) (tgt := 22) (by decide +kernel) (by decide) ?_
    exact g_iret hx hr rfl _ rfl (by decide +kernel) (ok_some h)
def f_country_clear (N : Nat) (σ : Sg) : Option (Unit × Sg) :=
  some ((), sL (sI (sI (sI (sI (sI (sI (sI (sI (sL (sL (sI (sI (sI (sI σ 25 0 0) 25 1 0) 25 2 0) 25 3 0) 25 4 0) 25 5 0) 26 1 0) 28 1 0) 30 1 0) 32 1 0) 34 1 0) 36 1 0) 38 1 0) 25 13 0) 25 14 0)
set_option maxRecDepth 100000 in
theorem s_country_clear {y : EX} {N : Nat} {σ : Sg} {P : Unit × Sg → Prop} (h : ok (f_country_clear N σ) P) : Ev y M_country_clear 0 [.ref 25] σ rvN P := by
  refine Ev.of mk_country_clear (Nat.le_of_ble_eq_true rfl) (fun x hx hc hr => ?_)
  have hx : Cx 1 prog_3_method_2_code x := hx
  have hc : Cc y 1 0 x := hc
  show G x 0 [some (.ref 25)] [] σ
  unfold f_country_clear at h
  refine g_run hx [(.aload_n 0, 0, 0), (.iconst 0, 0, 0), (.putfield 9, 0, 0), (.aload_n 0, 0, 0), (.iconst 0, 0, 0), (.putfield 15, 0, 0), (.aload_n 0, 0, 0), (.iconst 0, 0, 0), (.putfield 18, 0, 0), (.aload_n 0, 0, 0), (.iconst 0, 0, 0), (.putfield 21, 0, 0), (.aload_n 0, 0, 0), (.lconst 0, 0, 0), (.putfield 24, 0, 0), (.aload_n 0, 0, 0), (.lconst 0, 0, 0), (.putfield 28, 0, 0), (.aload_n 0, 0, 0), (.getfield 36, 0, 0), (.iconst 0, 0, 0), (.putfield 64, 0, 0), (.aload_n 0, 0, 0), (.getfield 40, 0, 0), (.iconst 0, 0, 0), (.putfield 64, 0, 0), (.aload_n 0, 0, 0), (.getfield 43, 0, 0), (.iconst 0, 0, 0), (.putfield 64, 0, 0), (.aload_n 0, 0, 0), (.getfield 46, 0, 0), (.iconst 0, 0, 0), (.putfield 64, 0, 0), (.aload_n 0, 0, 0), (.getfield 49, 0, 0), (.iconst 0, 0, 0), (.putfield 64, 0, 0), (.aload_n 0, 0, 0), (.getfield 52, 0, 0), (.iconst 0, 0, 0), (.putfield 64, 0, 0), (.aload_n 0, 0, 0), (.getfield 55, 0, 0), (.iconst 0, 0, 0), (.putfield 64, 0, 0), (.aload_n 0, 0, 0), (.iconst 0, 0, 0), (.putfield 58, 0, 0), (.aload_n 0, 0, 0), (.lconst 0, 0, 0), (.putfield 61, 0, 0)] (pc' := 96) (lo' := [some (.ref 25)]) (st' := []) (σ' := sL (sI (sI (sI (sI (sI (sI (sI (sI (sL (sL (sI (sI (sI (sI σ 25 0 0) 25 1 0) 25 2 0) 25 3 0) 25 4 0) 25 5 0) 26 1 0) 28 1 0) 30 1 0) 32 1 0) 34 1 0) 36 1 0) 38 1 0) 25 13 0) 25 14 0) (by decide +kernel) rfl rfl ?_
  exact g_vret hx hr rfl () rfl (by decide +kernel) (ok_some h)
def f_reader_begin_L41 (N : Nat) : Nat → Int32 → Sg → Option (Unit × Sg)
  | 0, _, _ => none
  | n + 1, v2, σ =>
    if (nI 7) ≤ v2 then
      some ((), sI (sI (sI σ 4 1 0) 6 1 0) 8 1 0)
    else
      if vin v2 7 then
      f_reader_begin_L41 N n (v2 + 1) (sA σ 3 v2 0)
      else none
def f_reader_begin (N : Nat) (v1 : Int32) (σ : Sg) : Option (Unit × Sg) :=
  (f_country_clear N (sI (sI (sI (sI (sI σ 1 2 (jmin v1 (gI σ 1 1))) 1 1 0) 1 5 0) 1 12 0) 1 13 0)).bind fun q1 =>
  f_reader_begin_L41 N N 0 q1.2
set_option maxRecDepth 100000 in
theorem s_reader_begin_L41 {y : EX} {N : Nat} {x : CX} {P : Unit × Sg → Prop} (hx : Cx 5 prog_7_method_4_code x) (hc : Cc y 3 1 x) (hr : Cr M_reader_begin rvN P x) : ∀ (n : Nat) (v2 : Int32) (σ : Sg), ok (f_reader_begin_L41 N n v2 σ) P → G x 41 [some (.ref 1), none, some (.int v2)] [] σ := by
  intro n
  induction n with
  | zero => intro v2 σ h; exact ok_none h
  | succ n ih =>
    intro v2 σ h
    rw [f_reader_begin_L41] at h
    refine g_run hx [(.iload_n 2, 0, 0), (.aload_n 0, 0, 0), (.getfield 41, 0, 0), (.arraylength, 0, 0)] (pc' := 47) (lo' := [some (.ref 1), none, some (.int v2)]) (st' := [.int (nI 7), .int v2]) (σ' := σ) (by decide +kernel) rfl rfl ?_
    refine g_ic_ge hx (off := 16) (tgt := 63) (by decide +kernel) (by decide) (fun c47 => ?_) (fun c47 => ?_)
    · have h := ok_t h c47
      refine g_run hx [(.aload_n 0, 0, 0), (.getfield 50, 0, 0), (.iconst 0, 0, 0), (.putfield 88, 0, 0), (.aload_n 0, 0, 0), (.getfield 54, 0, 0), (.iconst 0, 0, 0), (.putfield 88, 0, 0), (.aload_n 0, 0, 0), (.getfield 57, 0, 0), (.iconst 0, 0, 0), (.putfield 88, 0, 0)] (pc' := 87) (lo' := [some (.ref 1), none, some (.int v2)]) (st' := []) (σ' := sI (sI (sI σ 4 1 0) 6 1 0) 8 1 0) (by decide +kernel) rfl rfl ?_
      exact g_vret hx hr rfl () rfl (by decide +kernel) (ok_some h)
    · have h := ok_f h c47
      refine g_run hx [(.aload_n 0, 0, 0), (.getfield 41, 0, 0), (.iload_n 2, 0, 0), (.iconst 0, 0, 0)] (pc' := 56) (lo' := [some (.ref 1), none, some (.int v2)]) (st' := [.int 0, .int v2, .ref 3]) (σ' := σ) (by decide +kernel) rfl rfl ?_
      obtain ⟨c56, h⟩ := ok_g h
      refine g_iast hx (by decide +kernel) (i := 3) (n := 7) rfl c56 ?_
      refine g_run hx [(.iinc 2 1, 1, 0)] (pc' := 60) (lo' := [some (.ref 1), none, some (.int (v2 + 1))]) (st' := []) (σ' := sA σ 3 v2 0) (by decide +kernel) rfl rfl ?_
      refine g_goto hx (off := (-19)) (tgt := 41) (by decide +kernel) (by decide) ?_
      exact ih _ _ h
set_option maxRecDepth 100000 in
theorem s_reader_begin {y : EX} {N : Nat} {v1 : Int32} {σ : Sg} {P : Unit × Sg → Prop} (h : ok (f_reader_begin N v1 σ) P) : Ev y M_reader_begin 1 [.ref 1, .int v1] σ rvN P := by
  refine Ev.of mk_reader_begin (Nat.le_of_ble_eq_true rfl) (fun x hx hc hr => ?_)
  have hx : Cx 5 prog_7_method_4_code x := hx
  have hc : Cc y 3 1 x := hc
  show G x 0 [some (.ref 1), some (.int v1), none] [] σ
  unfold f_reader_begin at h
  refine g_run hx [(.aload_n 0, 0, 0), (.iload_n 1, 0, 0), (.aload_n 0, 0, 0), (.getfield 15, 0, 0)] (pc' := 6) (lo' := [some (.ref 1), some (.int v1), none]) (st' := [.int (gI σ 1 1), .int v1, .ref 1]) (σ' := σ) (by decide +kernel) rfl rfl ?_
  refine g_mmin hx hc (by decide) ln_5_79 (by decide +kernel) (Nat.le_of_ble_eq_true rfl) ?_
  refine g_run hx [(.putfield 19, 0, 0), (.aload_n 0, 0, 0), (.iconst 0, 0, 0), (.putfield 15, 0, 0), (.aload_n 0, 0, 0), (.iconst 0, 0, 0), (.putfield 28, 0, 0), (.aload_n 0, 0, 0), (.iconst 0, 0, 0), (.putfield 60, 0, 0), (.aload_n 0, 0, 0), (.iconst 0, 0, 0), (.putfield 63, 0, 0), (.aload_n 0, 0, 0), (.getfield 37, 0, 0)] (pc' := 36) (lo' := [some (.ref 1), some (.int v1), none]) (st' := [.ref 25]) (σ' := sI (sI (sI (sI (sI σ 1 2 (jmin v1 (gI σ 1 1))) 1 1 0) 1 5 0) 1 12 0) 1 13 0) (by decide +kernel) rfl rfl ?_
  refine g_callV (rest := []) [] hx hc mk_country_clear ln_5_85 rfl (by decide +kernel) (by decide) (Nat.le_of_ble_eq_true rfl) (s_country_clear (ok_b h)) (fun r1 s1 h => ?_)
  refine g_run hx [(.iconst 0, 0, 0), (.istore_n 2, 0, 0)] (pc' := 41) (lo' := [some (.ref 1), some (.int v1), some (.int 0)]) (st' := []) (σ' := s1) (by decide +kernel) rfl rfl ?_
  refine g_wk (lo' := [some (.ref 1), none, some (.int 0)]) ⟨rfl, ⟨rfl, trivial⟩⟩ ?_
  refine s_reader_begin_L41 hx hc hr N _ _ h
def f_reader_byteAt (N : Nat) (v1 : Int32) (σ : Sg) : Option (Int32 × Sg) :=
  if v1 < 0 then
    some ((-1), σ)
  else
    if (gI σ 1 2) ≤ v1 then
      some ((-1), σ)
    else
      if (nI 900) ≤ v1 then
        some ((-1), σ)
      else
        if vin v1 900 then
        some ((gA σ 2 v1), σ)
        else none
set_option maxRecDepth 100000 in
theorem s_reader_byteAt {y : EX} {N : Nat} {v1 : Int32} {σ : Sg} {P : Int32 × Sg → Prop} (h : ok (f_reader_byteAt N v1 σ) P) : Ev y M_reader_byteAt 0 [.ref 1, .int v1] σ rvI P := by
  refine Ev.of mk_reader_byteAt (Nat.le_of_ble_eq_true rfl) (fun x hx hc hr => ?_)
  have hx : Cx 5 prog_7_method_27_code x := hx
  have hc : Cc y 2 0 x := hc
  show G x 0 [some (.ref 1), some (.int v1)] [] σ
  unfold f_reader_byteAt at h
  refine g_run hx [(.iload_n 1, 0, 0)] (pc' := 1) (lo' := [some (.ref 1), some (.int v1)]) (st' := [.int v1]) (σ' := σ) (by decide +kernel) rfl rfl ?_
  refine g_if_lt hx (off := 29) (tgt := 30) (by decide +kernel) (by decide) (fun c1 => ?_) (fun c1 => ?_)
  · have h := ok_t h c1
    refine g_run hx [(.iconst (-1), (-1), 0)] (pc' := 31) (lo' := [some (.ref 1), some (.int v1)]) (st' := [.int (-1)]) (σ' := σ) (by decide +kernel) rfl rfl ?_
    exact g_iret hx hr rfl _ rfl (by decide +kernel) (ok_some h)
  · have h := ok_f h c1
    refine g_run hx [(.iload_n 1, 0, 0), (.aload_n 0, 0, 0), (.getfield 19, 0, 0)] (pc' := 9) (lo' := [some (.ref 1), some (.int v1)]) (st' := [.int (gI σ 1 2), .int v1]) (σ' := σ) (by decide +kernel) rfl rfl ?_
    refine g_ic_ge hx (off := 21) (tgt := 30) (by decide +kernel) (by decide) (fun c9 => ?_) (fun c9 => ?_)
    · have h := ok_t h c9
      refine g_run hx [(.iconst (-1), (-1), 0)] (pc' := 31) (lo' := [some (.ref 1), some (.int v1)]) (st' := [.int (-1)]) (σ' := σ) (by decide +kernel) rfl rfl ?_
      exact g_iret hx hr rfl _ rfl (by decide +kernel) (ok_some h)
    · have h := ok_f h c9
      refine g_run hx [(.iload_n 1, 0, 0), (.aload_n 0, 0, 0), (.getfield 9, 0, 0), (.arraylength, 0, 0)] (pc' := 18) (lo' := [some (.ref 1), some (.int v1)]) (st' := [.int (nI 900), .int v1]) (σ' := σ) (by decide +kernel) rfl rfl ?_
      refine g_ic_ge hx (off := 12) (tgt := 30) (by decide +kernel) (by decide) (fun c18 => ?_) (fun c18 => ?_)
      · have h := ok_t h c18
        refine g_run hx [(.iconst (-1), (-1), 0)] (pc' := 31) (lo' := [some (.ref 1), some (.int v1)]) (st' := [.int (-1)]) (σ' := σ) (by decide +kernel) rfl rfl ?_
        exact g_iret hx hr rfl _ rfl (by decide +kernel) (ok_some h)
      · have h := ok_f h c18
        refine g_run hx [(.aload_n 0, 0, 0), (.getfield 9, 0, 0), (.iload_n 1, 0, 0)] (pc' := 26) (lo' := [some (.ref 1), some (.int v1)]) (st' := [.int v1, .ref 2]) (σ' := σ) (by decide +kernel) rfl rfl ?_
        obtain ⟨c26, h⟩ := ok_g h
        refine g_bald hx (by decide +kernel) (i := 2) (n := 900) rfl c26 ?_
        refine g_goto hx (off := 4) (tgt := 31) (by decide +kernel) (by decide) ?_
        exact g_iret hx hr rfl _ rfl (by decide +kernel) (ok_some h)
def f_reader_isLetter (N : Nat) (v0 : Int32) (σ : Sg) : Option (Bool × Sg) :=
  if v0 < 97 then
    some (false, σ)
  else
    if 122 < v0 then
      some (false, σ)
    else
      some (true, σ)
set_option maxRecDepth 100000 in
theorem s_reader_isLetter {y : EX} {N : Nat} {v0 : Int32} {σ : Sg} {P : Bool × Sg → Prop} (h : ok (f_reader_isLetter N v0 σ) P) : Ev y M_reader_isLetter 0 [.int v0] σ rvB P := by
  refine Ev.of mk_reader_isLetter (Nat.le_of_ble_eq_true rfl) (fun x hx hc hr => ?_)
  have hx : Cx 5 prog_7_method_25_code x := hx
  have hc : Cc y 1 0 x := hc
  show G x 0 [some (.int v0)] [] σ
  unfold f_reader_isLetter at h
  refine g_run hx [(.iload_n 0, 0, 0), (.bipush 97, 97, 0)] (pc' := 3) (lo' := [some (.int v0)]) (st' := [.int 97, .int v0]) (σ' := σ) (by decide +kernel) rfl rfl ?_
  refine g_ic_lt hx (off := 13) (tgt := 16) (by decide +kernel) (by decide) (fun c3 => ?_) (fun c3 => ?_)
  · have h := ok_t h c3
    refine g_run hx [(.iconst 0, 0, 0)] (pc' := 17) (lo' := [some (.int v0)]) (st' := [.int 0]) (σ' := σ) (by decide +kernel) rfl rfl ?_
    exact g_zret (b := false) hx hr rfl false rfl (by decide +kernel) (ok_some h)
  · have h := ok_f h c3
    refine g_run hx [(.iload_n 0, 0, 0), (.bipush 122, 122, 0)] (pc' := 9) (lo' := [some (.int v0)]) (st' := [.int 122, .int v0]) (σ' := σ) (by decide +kernel) rfl rfl ?_
    refine g_ic_gt hx (off := 7) (tgt := 16) (by decide +kernel) (by decide) (fun c9 => ?_) (fun c9 => ?_)
    · have h := ok_t h c9
      refine g_run hx [(.iconst 0, 0, 0)] (pc' := 17) (lo' := [some (.int v0)]) (st' := [.int 0]) (σ' := σ) (by decide +kernel) rfl rfl ?_
      exact g_zret (b := false) hx hr rfl false rfl (by decide +kernel) (ok_some h)
    · have h := ok_f h c9
      refine g_run hx [(.iconst 1, 1, 0)] (pc' := 13) (lo' := [some (.int v0)]) (st' := [.int 1]) (σ' := σ) (by decide +kernel) rfl rfl ?_
      refine g_goto hx (off := 4) (tgt := 17) (by decide +kernel) (by decide) ?_
      exact g_zret (b := true) hx hr rfl true rfl (by decide +kernel) (ok_some h)
def f_reader_isDigit (N : Nat) (v0 : Int32) (σ : Sg) : Option (Bool × Sg) :=
  if v0 < 48 then
    some (false, σ)
  else
    if 57 < v0 then
      some (false, σ)
    else
      some (true, σ)
set_option maxRecDepth 100000 in
theorem s_reader_isDigit {y : EX} {N : Nat} {v0 : Int32} {σ : Sg} {P : Bool × Sg → Prop} (h : ok (f_reader_isDigit N v0 σ) P) : Ev y M_reader_isDigit 0 [.int v0] σ rvB P := by
  refine Ev.of mk_reader_isDigit (Nat.le_of_ble_eq_true rfl) (fun x hx hc hr => ?_)
  have hx : Cx 5 prog_7_method_26_code x := hx
  have hc : Cc y 1 0 x := hc
  show G x 0 [some (.int v0)] [] σ
  unfold f_reader_isDigit at h
  refine g_run hx [(.iload_n 0, 0, 0), (.bipush 48, 48, 0)] (pc' := 3) (lo' := [some (.int v0)]) (st' := [.int 48, .int v0]) (σ' := σ) (by decide +kernel) rfl rfl ?_
  refine g_ic_lt hx (off := 13) (tgt := 16) (by decide +kernel) (by decide) (fun c3 => ?_) (fun c3 => ?_)
  · have h := ok_t h c3
    refine g_run hx [(.iconst 0, 0, 0)] (pc' := 17) (lo' := [some (.int v0)]) (st' := [.int 0]) (σ' := σ) (by decide +kernel) rfl rfl ?_
    exact g_zret (b := false) hx hr rfl false rfl (by decide +kernel) (ok_some h)
  · have h := ok_f h c3
    refine g_run hx [(.iload_n 0, 0, 0), (.bipush 57, 57, 0)] (pc' := 9) (lo' := [some (.int v0)]) (st' := [.int 57, .int v0]) (σ' := σ) (by decide +kernel) rfl rfl ?_
    refine g_ic_gt hx (off := 7) (tgt := 16) (by decide +kernel) (by decide) (fun c9 => ?_) (fun c9 => ?_)
    · have h := ok_t h c9
      refine g_run hx [(.iconst 0, 0, 0)] (pc' := 17) (lo' := [some (.int v0)]) (st' := [.int 0]) (σ' := σ) (by decide +kernel) rfl rfl ?_
      exact g_zret (b := false) hx hr rfl false rfl (by decide +kernel) (ok_some h)
    · have h := ok_f h c9
      refine g_run hx [(.iconst 1, 1, 0)] (pc' := 13) (lo' := [some (.int v0)]) (st' := [.int 1]) (σ' := σ) (by decide +kernel) rfl rfl ?_
      refine g_goto hx (off := 4) (tgt := 17) (by decide +kernel) (by decide) ?_
      exact g_zret (b := true) hx hr rfl true rfl (by decide +kernel) (ok_some h)
def f_reader_nextToken_L8 (N : Nat) : Nat → Sg → (Sg → Option (Unit × Sg)) → Option (Unit × Sg)
  | 0, _, _ => none
  | n + 1, σ, k45 =>
    if (gI σ 1 2) ≤ (gI σ 1 4) then
      k45 σ
    else
      (f_reader_byteAt N (gI σ 1 4) σ).bind fun q1 =>
      if q1.1 = 32 then
        f_reader_nextToken_L8 N n (sI q1.2 1 4 ((gI q1.2 1 4) + 1)) k45
      else
        k45 q1.2
def f_reader_nextToken_L169 (N : Nat) : Nat → Sg → Option (Unit × Sg)
  | 0, _ => none
  | n + 1, σ =>
    if (gI σ 1 2) ≤ (gI σ 1 5) then
      if 3 < ((gI σ 1 5) - (gI σ 1 4)) then
        some ((), sI σ 1 3 4)
      else
        some ((), sI σ 1 3 2)
    else
      (f_reader_byteAt N (gI σ 1 5) σ).bind fun q8 =>
      (f_reader_isDigit N q8.1 q8.2).bind fun q9 =>
      if q9.1 = true then
        if 3 ≤ ((gI q9.2 1 5) - (gI q9.2 1 4)) then
          f_reader_nextToken_L169 N n (sI (sI q9.2 1 6 (gI q9.2 1 6)) 1 5 ((gI (sI q9.2 1 6 (gI q9.2 1 6)) 1 5) + 1))
        else
          (f_reader_byteAt N (gI q9.2 1 5) q9.2).bind fun q10 =>
          f_reader_nextToken_L169 N n (sI (sI q10.2 1 6 ((((gI q9.2 1 6) * 10) + q10.1) - 48)) 1 5 ((gI (sI q10.2 1 6 ((((gI q9.2 1 6) * 10) + q10.1) - 48)) 1 5) + 1))
      else
        if 3 < ((gI q9.2 1 5) - (gI q9.2 1 4)) then
          some ((), sI q9.2 1 3 4)
        else
          some ((), sI q9.2 1 3 2)
def f_reader_nextToken_L86 (N : Nat) : Nat → Sg → Option (Unit × Sg)
  | 0, _ => none
  | n + 1, σ =>
    if (gI σ 1 2) ≤ (gI σ 1 5) then
      if 8 < ((gI σ 1 5) - (gI σ 1 4)) then
        some ((), sI σ 1 3 4)
      else
        some ((), sI σ 1 3 1)
    else
      (f_reader_byteAt N (gI σ 1 5) σ).bind fun q11 =>
      (f_reader_isLetter N q11.1 q11.2).bind fun q12 =>
      if q12.1 = true then
        f_reader_nextToken_L86 N n (sI q12.2 1 5 ((gI q12.2 1 5) + 1))
      else
        if 8 < ((gI q12.2 1 5) - (gI q12.2 1 4)) then
          some ((), sI q12.2 1 3 4)
        else
          some ((), sI q12.2 1 3 1)
def f_reader_nextToken (N : Nat) (σ : Sg) : Option (Unit × Sg) :=
  f_reader_nextToken_L8 N N (sI σ 1 4 (gI σ 1 5))
    (fun (t2 : Sg) =>
      if (gI (sI t2 1 5 (gI t2 1 4)) 1 4) < (gI (sI t2 1 5 (gI t2 1 4)) 1 2) then
        (f_reader_byteAt N (gI (sI t2 1 5 (gI t2 1 4)) 1 4) (sI t2 1 5 (gI t2 1 4))).bind fun q3 =>
        (f_reader_isLetter N q3.1 q3.2).bind fun q4 =>
        if q4.1 = true then
          f_reader_nextToken_L86 N N q4.2
        else
          (f_reader_byteAt N (gI q4.2 1 4) q4.2).bind fun q5 =>
          (f_reader_isDigit N q5.1 q5.2).bind fun q6 =>
          if q6.1 = true then
            f_reader_nextToken_L169 N N (sI q6.2 1 6 0)
          else
            (f_reader_byteAt N (gI q6.2 1 4) q6.2).bind fun q7 =>
            if q7.1 = 59 then
              some ((), sI (sI q7.2 1 3 3) 1 5 ((gI (sI q7.2 1 3 3) 1 5) + 1))
            else
              some ((), sI (sI q7.2 1 3 4) 1 5 ((gI (sI q7.2 1 3 4) 1 5) + 1))
      else
        some ((), sI (sI t2 1 5 (gI t2 1 4)) 1 3 0))
set_option maxRecDepth 100000 in
theorem s_reader_nextToken_L8 {y : EX} {N : Nat} {x : CX} {P : Unit × Sg → Prop} (hx : Cx 5 prog_7_method_24_code x) (hc : Cc y 1 1 x) (hr : Cr M_reader_nextToken rvN P x) : ∀ (n : Nat) (σ : Sg) (k45 : Sg → Option (Unit × Sg)) (hk45 : ∀ (t : Sg), ok (k45 t) P → G x 45 [some (.ref 1)] [] t), ok (f_reader_nextToken_L8 N n σ k45) P → G x 8 [some (.ref 1)] [] σ := by
  intro n
  induction n with
  | zero => intro σ k45 hk45 h; exact ok_none h
  | succ n ih =>
    intro σ k45 hk45 h
    rw [f_reader_nextToken_L8] at h
    refine g_run hx [(.aload_n 0, 0, 0), (.getfield 25, 0, 0), (.aload_n 0, 0, 0), (.getfield 19, 0, 0)] (pc' := 16) (lo' := [some (.ref 1)]) (st' := [.int (gI σ 1 2), .int (gI σ 1 4)]) (σ' := σ) (by decide +kernel) rfl rfl ?_
    refine g_ic_ge hx (off := 29) (tgt := 45) (by decide +kernel) (by decide) (fun c16 => ?_) (fun c16 => ?_)
    · have h := ok_t h c16
      exact hk45 _ h
    · have h := ok_f h c16
      refine g_run hx [(.aload_n 0, 0, 0), (.aload_n 0, 0, 0), (.getfield 25, 0, 0)] (pc' := 24) (lo' := [some (.ref 1)]) (st' := [.int (gI σ 1 4), .ref 1]) (σ' := σ) (by decide +kernel) rfl rfl ?_
      refine g_callV (rest := []) [.int (gI σ 1 4)] hx hc mk_reader_byteAt ln_5_242 rfl (by decide +kernel) (by decide) (Nat.le_of_ble_eq_true rfl) (s_reader_byteAt (ok_b h)) (fun r1 s1 h => ?_)
      refine g_run hx [(.bipush 32, 32, 0)] (pc' := 29) (lo' := [some (.ref 1)]) (st' := [.int 32, .int r1]) (σ' := s1) (by decide +kernel) rfl rfl ?_
      refine g_ic_ne hx (off := 16) (tgt := 45) (by decide +kernel) (by decide) (fun c29 => ?_) (fun c29 => ?_)
      · have h := ok_f h c29
        exact hk45 _ h
      · have h := ok_t h c29
        refine g_run hx [(.aload_n 0, 0, 0), (.dup, 0, 0), (.getfield 25, 0, 0), (.iconst 1, 1, 0), (.iadd, 0, 0), (.putfield 25, 0, 0)] (pc' := 42) (lo' := [some (.ref 1)]) (st' := []) (σ' := sI s1 1 4 ((gI s1 1 4) + 1)) (by decide +kernel) rfl rfl ?_
        refine g_goto hx (off := (-34)) (tgt := 8) (by decide +kernel) (by decide) ?_
        exact ih _ _ hk45 h
set_option maxRecDepth 100000 in
theorem s_reader_nextToken_L169 {y : EX} {N : Nat} {x : CX} {P : Unit × Sg → Prop} (hx : Cx 5 prog_7_method_24_code x) (hc : Cc y 1 1 x) (hr : Cr M_reader_nextToken rvN P x) : ∀ (n : Nat) (σ : Sg), ok (f_reader_nextToken_L169 N n σ) P → G x 169 [some (.ref 1)] [] σ := by
  intro n
  induction n with
  | zero => intro σ h; exact ok_none h
  | succ n ih =>
    intro σ h
    rw [f_reader_nextToken_L169] at h
    refine g_run hx [(.aload_n 0, 0, 0), (.getfield 28, 0, 0), (.aload_n 0, 0, 0), (.getfield 19, 0, 0)] (pc' := 177) (lo' := [some (.ref 1)]) (st' := [.int (gI σ 1 2), .int (gI σ 1 5)]) (σ' := σ) (by decide +kernel) rfl rfl ?_
    refine g_ic_ge hx (off := 73) (tgt := 250) (by decide +kernel) (by decide) (fun c177 => ?_) (fun c177 => ?_)
    · have h := ok_t h c177
      refine g_run hx [(.aload_n 0, 0, 0), (.aload_n 0, 0, 0), (.getfield 28, 0, 0), (.aload_n 0, 0, 0), (.getfield 25, 0, 0), (.isub, 0, 0), (.iconst 3, 3, 0)] (pc' := 261) (lo' := [some (.ref 1)]) (st' := [.int 3, .int ((gI σ 1 5) - (gI σ 1 4)), .ref 1]) (σ' := σ) (by decide +kernel) rfl rfl ?_
      refine g_ic_gt hx (off := 7) (tgt := 268) (by decide +kernel) (by decide) (fun c261 => ?_) (fun c261 => ?_)
      · have h := ok_t h c261
        refine g_run hx [(.iconst 4, 4, 0), (.putfield 22, 0, 0)] (pc' := 272) (lo' := [some (.ref 1)]) (st' := []) (σ' := sI σ 1 3 4) (by decide +kernel) rfl rfl ?_
        refine g_goto hx (off := 35) (tgt := 307) (by decide +kernel) (by decide) ?_
        exact g_vret hx hr rfl () rfl (by decide +kernel) (ok_some h)
      · have h := ok_f h c261
        refine g_run hx [(.iconst 2, 2, 0)] (pc' := 265) (lo' := [some (.ref 1)]) (st' := [.int 2, .ref 1]) (σ' := σ) (by decide +kernel) rfl rfl ?_
        refine g_goto hx (off := 4) (tgt := 269) (by decide +kernel) (by decide) ?_
        refine g_run hx [(.putfield 22, 0, 0)] (pc' := 272) (lo' := [some (.ref 1)]) (st' := []) (σ' := sI σ 1 3 2) (by decide +kernel) rfl rfl ?_
        refine g_goto hx (off := 35) (tgt := 307) (by decide +kernel) (by decide) ?_
        exact g_vret hx hr rfl () rfl (by decide +kernel) (ok_some h)
    · have h := ok_f h c177
      refine g_run hx [(.aload_n 0, 0, 0), (.aload_n 0, 0, 0), (.getfield 28, 0, 0)] (pc' := 185) (lo' := [some (.ref 1)]) (st' := [.int (gI σ 1 5), .ref 1]) (σ' := σ) (by decide +kernel) rfl rfl ?_
      refine g_callV (rest := []) [.int (gI σ 1 5)] hx hc mk_reader_byteAt ln_5_242 rfl (by decide +kernel) (by decide) (Nat.le_of_ble_eq_true rfl) (s_reader_byteAt (ok_b h)) (fun r8 s8 h => ?_)
      refine g_callS (rest := []) [.int r8] hx hc mk_reader_isDigit ln_5_269 (by decide +kernel) (by decide) (Nat.le_of_ble_eq_true rfl) (s_reader_isDigit (ok_b h)) (fun r9 s9 h => ?_)
      refine g_ifb_eq hx (off := 59) (tgt := 250) (by decide +kernel) (by decide) (fun c191 => ?_) (fun c191 => ?_)
      · have h := ok_f h c191
        refine g_run hx [(.aload_n 0, 0, 0), (.aload_n 0, 0, 0), (.getfield 28, 0, 0), (.aload_n 0, 0, 0), (.getfield 25, 0, 0), (.isub, 0, 0), (.iconst 3, 3, 0)] (pc' := 261) (lo' := [some (.ref 1)]) (st' := [.int 3, .int ((gI s9 1 5) - (gI s9 1 4)), .ref 1]) (σ' := s9) (by decide +kernel) rfl rfl ?_
        refine g_ic_gt hx (off := 7) (tgt := 268) (by decide +kernel) (by decide) (fun c261 => ?_) (fun c261 => ?_)
        · have h := ok_t h c261
          refine g_run hx [(.iconst 4, 4, 0), (.putfield 22, 0, 0)] (pc' := 272) (lo' := [some (.ref 1)]) (st' := []) (σ' := sI s9 1 3 4) (by decide +kernel) rfl rfl ?_
          refine g_goto hx (off := 35) (tgt := 307) (by decide +kernel) (by decide) ?_
          exact g_vret hx hr rfl () rfl (by decide +kernel) (ok_some h)
        · have h := ok_f h c261
          refine g_run hx [(.iconst 2, 2, 0)] (pc' := 265) (lo' := [some (.ref 1)]) (st' := [.int 2, .ref 1]) (σ' := s9) (by decide +kernel) rfl rfl ?_
          refine g_goto hx (off := 4) (tgt := 269) (by decide +kernel) (by decide) ?_
          refine g_run hx [(.putfield 22, 0, 0)] (pc' := 272) (lo' := [some (.ref 1)]) (st' := []) (σ' := sI s9 1 3 2) (by decide +kernel) rfl rfl ?_
          refine g_goto hx (off := 35) (tgt := 307) (by decide +kernel) (by decide) ?_
          exact g_vret hx hr rfl () rfl (by decide +kernel) (ok_some h)
      · have h := ok_t h c191
        refine g_run hx [(.aload_n 0, 0, 0), (.aload_n 0, 0, 0), (.getfield 28, 0, 0), (.aload_n 0, 0, 0), (.getfield 25, 0, 0), (.isub, 0, 0), (.iconst 3, 3, 0)] (pc' := 205) (lo' := [some (.ref 1)]) (st' := [.int 3, .int ((gI s9 1 5) - (gI s9 1 4)), .ref 1]) (σ' := s9) (by decide +kernel) rfl rfl ?_
        refine g_ic_ge hx (off := 25) (tgt := 230) (by decide +kernel) (by decide) (fun c205 => ?_) (fun c205 => ?_)
        · have h := ok_t h c205
          refine g_run hx [(.aload_n 0, 0, 0), (.getfield 31, 0, 0), (.putfield 31, 0, 0), (.aload_n 0, 0, 0), (.dup, 0, 0), (.getfield 28, 0, 0), (.iconst 1, 1, 0), (.iadd, 0, 0), (.putfield 28, 0, 0)] (pc' := 247) (lo' := [some (.ref 1)]) (st' := []) (σ' := sI (sI s9 1 6 (gI s9 1 6)) 1 5 ((gI (sI s9 1 6 (gI s9 1 6)) 1 5) + 1)) (by decide +kernel) rfl rfl ?_
          refine g_goto hx (off := (-78)) (tgt := 169) (by decide +kernel) (by decide) ?_
          exact ih _ h
        · have h := ok_f h c205
          refine g_run hx [(.aload_n 0, 0, 0), (.getfield 31, 0, 0), (.bipush 10, 10, 0), (.imul, 0, 0), (.aload_n 0, 0, 0), (.aload_n 0, 0, 0), (.getfield 28, 0, 0)] (pc' := 220) (lo' := [some (.ref 1)]) (st' := [.int (gI s9 1 5), .ref 1, .int ((gI s9 1 6) * 10), .ref 1]) (σ' := s9) (by decide +kernel) rfl rfl ?_
          refine g_callV (rest := [.int ((gI s9 1 6) * 10), .ref 1]) [.int (gI s9 1 5)] hx hc mk_reader_byteAt ln_5_242 rfl (by decide +kernel) (by decide) (Nat.le_of_ble_eq_true rfl) (s_reader_byteAt (ok_b h)) (fun r10 s10 h => ?_)
          refine g_run hx [(.iadd, 0, 0), (.bipush 48, 48, 0), (.isub, 0, 0)] (pc' := 227) (lo' := [some (.ref 1)]) (st' := [.int ((((gI s9 1 6) * 10) + r10) - 48), .ref 1]) (σ' := s10) (by decide +kernel) rfl rfl ?_
          refine g_goto hx (off := 7) (tgt := 234) (by decide +kernel) (by decide) ?_
          refine g_run hx [(.putfield 31, 0, 0), (.aload_n 0, 0, 0), (.dup, 0, 0), (.getfield 28, 0, 0), (.iconst 1, 1, 0), (.iadd, 0, 0), (.putfield 28, 0, 0)] (pc' := 247) (lo' := [some (.ref 1)]) (st' := []) (σ' := sI (sI s10 1 6 ((((gI s9 1 6) * 10) + r10) - 48)) 1 5 ((gI (sI s10 1 6 ((((gI s9 1 6) * 10) + r10) - 48)) 1 5) + 1)) (by decide +kernel) rfl rfl ?_
          refine g_goto hx (off := (-78)) (tgt := 169) (by decide +kernel) (by decide) ?_
          exact ih _ h
set_option maxRecDepth 100000 in
theorem s_reader_nextToken_L86 {y : EX} {N : Nat} {x : CX} {P : Unit × Sg → Prop} (hx : Cx 5 prog_7_method_24_code x) (hc : Cc y 1 1 x) (hr : Cr M_reader_nextToken rvN P x) : ∀ (n : Nat) (σ : Sg), ok (f_reader_nextToken_L86 N n σ) P → G x 86 [some (.ref 1)] [] σ := by
  intro n
  induction n with
  | zero => intro σ h; exact ok_none h
  | succ n ih =>
    intro σ h
    rw [f_reader_nextToken_L86] at h
    refine g_run hx [(.aload_n 0, 0, 0), (.getfield 28, 0, 0), (.aload_n 0, 0, 0), (.getfield 19, 0, 0)] (pc' := 94) (lo' := [some (.ref 1)]) (st' := [.int (gI σ 1 2), .int (gI σ 1 5)]) (σ' := σ) (by decide +kernel) rfl rfl ?_
    refine g_ic_ge hx (off := 30) (tgt := 124) (by decide +kernel) (by decide) (fun c94 => ?_) (fun c94 => ?_)
    · have h := ok_t h c94
      refine g_run hx [(.aload_n 0, 0, 0), (.aload_n 0, 0, 0), (.getfield 28, 0, 0), (.aload_n 0, 0, 0), (.getfield 25, 0, 0), (.isub, 0, 0), (.bipush 8, 8, 0)] (pc' := 136) (lo' := [some (.ref 1)]) (st' := [.int 8, .int ((gI σ 1 5) - (gI σ 1 4)), .ref 1]) (σ' := σ) (by decide +kernel) rfl rfl ?_
      refine g_ic_gt hx (off := 7) (tgt := 143) (by decide +kernel) (by decide) (fun c136 => ?_) (fun c136 => ?_)
      · have h := ok_t h c136
        refine g_run hx [(.iconst 4, 4, 0), (.putfield 22, 0, 0)] (pc' := 147) (lo' := [some (.ref 1)]) (st' := []) (σ' := sI σ 1 3 4) (by decide +kernel) rfl rfl ?_
        refine g_goto hx (off := 160) (tgt := 307) (by decide +kernel) (by decide) ?_
        exact g_vret hx hr rfl () rfl (by decide +kernel) (ok_some h)
      · have h := ok_f h c136
        refine g_run hx [(.iconst 1, 1, 0)] (pc' := 140) (lo' := [some (.ref 1)]) (st' := [.int 1, .ref 1]) (σ' := σ) (by decide +kernel) rfl rfl ?_
        refine g_goto hx (off := 4) (tgt := 144) (by decide +kernel) (by decide) ?_
        refine g_run hx [(.putfield 22, 0, 0)] (pc' := 147) (lo' := [some (.ref 1)]) (st' := []) (σ' := sI σ 1 3 1) (by decide +kernel) rfl rfl ?_
        refine g_goto hx (off := 160) (tgt := 307) (by decide +kernel) (by decide) ?_
        exact g_vret hx hr rfl () rfl (by decide +kernel) (ok_some h)
    · have h := ok_f h c94
      refine g_run hx [(.aload_n 0, 0, 0), (.aload_n 0, 0, 0), (.getfield 28, 0, 0)] (pc' := 102) (lo' := [some (.ref 1)]) (st' := [.int (gI σ 1 5), .ref 1]) (σ' := σ) (by decide +kernel) rfl rfl ?_
      refine g_callV (rest := []) [.int (gI σ 1 5)] hx hc mk_reader_byteAt ln_5_242 rfl (by decide +kernel) (by decide) (Nat.le_of_ble_eq_true rfl) (s_reader_byteAt (ok_b h)) (fun r11 s11 h => ?_)
      refine g_callS (rest := []) [.int r11] hx hc mk_reader_isLetter ln_5_266 (by decide +kernel) (by decide) (Nat.le_of_ble_eq_true rfl) (s_reader_isLetter (ok_b h)) (fun r12 s12 h => ?_)
      refine g_ifb_eq hx (off := 16) (tgt := 124) (by decide +kernel) (by decide) (fun c108 => ?_) (fun c108 => ?_)
      · have h := ok_f h c108
        refine g_run hx [(.aload_n 0, 0, 0), (.aload_n 0, 0, 0), (.getfield 28, 0, 0), (.aload_n 0, 0, 0), (.getfield 25, 0, 0), (.isub, 0, 0), (.bipush 8, 8, 0)] (pc' := 136) (lo' := [some (.ref 1)]) (st' := [.int 8, .int ((gI s12 1 5) - (gI s12 1 4)), .ref 1]) (σ' := s12) (by decide +kernel) rfl rfl ?_
        refine g_ic_gt hx (off := 7) (tgt := 143) (by decide +kernel) (by decide) (fun c136 => ?_) (fun c136 => ?_)
        · have h := ok_t h c136
          refine g_run hx [(.iconst 4, 4, 0), (.putfield 22, 0, 0)] (pc' := 147) (lo' := [some (.ref 1)]) (st' := []) (σ' := sI s12 1 3 4) (by decide +kernel) rfl rfl ?_
          refine g_goto hx (off := 160) (tgt := 307) (by decide +kernel) (by decide) ?_
          exact g_vret hx hr rfl () rfl (by decide +kernel) (ok_some h)
        · have h := ok_f h c136
          refine g_run hx [(.iconst 1, 1, 0)] (pc' := 140) (lo' := [some (.ref 1)]) (st' := [.int 1, .ref 1]) (σ' := s12) (by decide +kernel) rfl rfl ?_
          refine g_goto hx (off := 4) (tgt := 144) (by decide +kernel) (by decide) ?_
          refine g_run hx [(.putfield 22, 0, 0)] (pc' := 147) (lo' := [some (.ref 1)]) (st' := []) (σ' := sI s12 1 3 1) (by decide +kernel) rfl rfl ?_
          refine g_goto hx (off := 160) (tgt := 307) (by decide +kernel) (by decide) ?_
          exact g_vret hx hr rfl () rfl (by decide +kernel) (ok_some h)
      · have h := ok_t h c108
        refine g_run hx [(.aload_n 0, 0, 0), (.dup, 0, 0), (.getfield 28, 0, 0), (.iconst 1, 1, 0), (.iadd, 0, 0), (.putfield 28, 0, 0)] (pc' := 121) (lo' := [some (.ref 1)]) (st' := []) (σ' := sI s12 1 5 ((gI s12 1 5) + 1)) (by decide +kernel) rfl rfl ?_
        refine g_goto hx (off := (-35)) (tgt := 86) (by decide +kernel) (by decide) ?_
        exact ih _ h
set_option maxRecDepth 100000 in
theorem s_reader_nextToken {y : EX} {N : Nat} {σ : Sg} {P : Unit × Sg → Prop} (h : ok (f_reader_nextToken N σ) P) : Ev y M_reader_nextToken 1 [.ref 1] σ rvN P := by
  refine Ev.of mk_reader_nextToken (Nat.le_of_ble_eq_true rfl) (fun x hx hc hr => ?_)
  have hx : Cx 5 prog_7_method_24_code x := hx
  have hc : Cc y 1 1 x := hc
  show G x 0 [some (.ref 1)] [] σ
  unfold f_reader_nextToken at h
  refine g_run hx [(.aload_n 0, 0, 0), (.aload_n 0, 0, 0), (.getfield 28, 0, 0), (.putfield 25, 0, 0)] (pc' := 8) (lo' := [some (.ref 1)]) (st' := []) (σ' := sI σ 1 4 (gI σ 1 5)) (by decide +kernel) rfl rfl ?_
  refine s_reader_nextToken_L8 hx hc hr N _ _ (fun t2 h => ?_) h
  refine g_run hx [(.aload_n 0, 0, 0), (.aload_n 0, 0, 0), (.getfield 25, 0, 0), (.putfield 28, 0, 0), (.aload_n 0, 0, 0), (.getfield 25, 0, 0), (.aload_n 0, 0, 0), (.getfield 19, 0, 0)] (pc' := 61) (lo' := [some (.ref 1)]) (st' := [.int (gI (sI t2 1 5 (gI t2 1 4)) 1 2), .int (gI (sI t2 1 5 (gI t2 1 4)) 1 4)]) (σ' := sI t2 1 5 (gI t2 1 4)) (by decide +kernel) rfl rfl ?_
  refine g_ic_lt hx (off := 11) (tgt := 72) (by decide +kernel) (by decide) (fun c61 => ?_) (fun c61 => ?_)
  · have h := ok_t h c61
    refine g_run hx [(.aload_n 0, 0, 0), (.aload_n 0, 0, 0), (.getfield 25, 0, 0)] (pc' := 77) (lo' := [some (.ref 1)]) (st' := [.int (gI (sI t2 1 5 (gI t2 1 4)) 1 4), .ref 1]) (σ' := sI t2 1 5 (gI t2 1 4)) (by decide +kernel) rfl rfl ?_
    refine g_callV (rest := []) [.int (gI (sI t2 1 5 (gI t2 1 4)) 1 4)] hx hc mk_reader_byteAt ln_5_242 rfl (by decide +kernel) (by decide) (Nat.le_of_ble_eq_true rfl) (s_reader_byteAt (ok_b h)) (fun r3 s3 h => ?_)
    refine g_callS (rest := []) [.int r3] hx hc mk_reader_isLetter ln_5_266 (by decide +kernel) (by decide) (Nat.le_of_ble_eq_true rfl) (s_reader_isLetter (ok_b h)) (fun r4 s4 h => ?_)
    refine g_ifb_eq hx (off := 67) (tgt := 150) (by decide +kernel) (by decide) (fun c83 => ?_) (fun c83 => ?_)
    · have h := ok_f h c83
      refine g_run hx [(.aload_n 0, 0, 0), (.aload_n 0, 0, 0), (.getfield 25, 0, 0)] (pc' := 155) (lo' := [some (.ref 1)]) (st' := [.int (gI s4 1 4), .ref 1]) (σ' := s4) (by decide +kernel) rfl rfl ?_
      refine g_callV (rest := []) [.int (gI s4 1 4)] hx hc mk_reader_byteAt ln_5_242 rfl (by decide +kernel) (by decide) (Nat.le_of_ble_eq_true rfl) (s_reader_byteAt (ok_b h)) (fun r5 s5 h => ?_)
      refine g_callS (rest := []) [.int r5] hx hc mk_reader_isDigit ln_5_269 (by decide +kernel) (by decide) (Nat.le_of_ble_eq_true rfl) (s_reader_isDigit (ok_b h)) (fun r6 s6 h => ?_)
      refine g_ifb_eq hx (off := 114) (tgt := 275) (by decide +kernel) (by decide) (fun c161 => ?_) (fun c161 => ?_)
      · have h := ok_f h c161
        refine g_run hx [(.aload_n 0, 0, 0), (.aload_n 0, 0, 0), (.aload_n 0, 0, 0), (.getfield 25, 0, 0)] (pc' := 281) (lo' := [some (.ref 1)]) (st' := [.int (gI s6 1 4), .ref 1, .ref 1]) (σ' := s6) (by decide +kernel) rfl rfl ?_
        refine g_callV (rest := [.ref 1]) [.int (gI s6 1 4)] hx hc mk_reader_byteAt ln_5_242 rfl (by decide +kernel) (by decide) (Nat.le_of_ble_eq_true rfl) (s_reader_byteAt (ok_b h)) (fun r7 s7 h => ?_)
        refine g_run hx [(.bipush 59, 59, 0)] (pc' := 286) (lo' := [some (.ref 1)]) (st' := [.int 59, .int r7, .ref 1]) (σ' := s7) (by decide +kernel) rfl rfl ?_
        refine g_ic_ne hx (off := 7) (tgt := 293) (by decide +kernel) (by decide) (fun c286 => ?_) (fun c286 => ?_)
        · have h := ok_f h c286
          refine g_run hx [(.iconst 4, 4, 0), (.putfield 22, 0, 0), (.aload_n 0, 0, 0), (.dup, 0, 0), (.getfield 28, 0, 0), (.iconst 1, 1, 0), (.iadd, 0, 0), (.putfield 28, 0, 0)] (pc' := 307) (lo' := [some (.ref 1)]) (st' := []) (σ' := sI (sI s7 1 3 4) 1 5 ((gI (sI s7 1 3 4) 1 5) + 1)) (by decide +kernel) rfl rfl ?_
          exact g_vret hx hr rfl () rfl (by decide +kernel) (ok_some h)
        · have h := ok_t h c286
          refine g_run hx [(.iconst 3, 3, 0)] (pc' := 290) (lo' := [some (.ref 1)]) (st' := [.int 3, .ref 1]) (σ' := s7) (by decide +kernel) rfl rfl ?_
          refine g_goto hx (off := 4) (tgt := 294) (by decide +kernel) (by decide) ?_
          refine g_run hx [(.putfield 22, 0, 0), (.aload_n 0, 0, 0), (.dup, 0, 0), (.getfield 28, 0, 0), (.iconst 1, 1, 0), (.iadd, 0, 0), (.putfield 28, 0, 0)] (pc' := 307) (lo' := [some (.ref 1)]) (st' := []) (σ' := sI (sI s7 1 3 3) 1 5 ((gI (sI s7 1 3 3) 1 5) + 1)) (by decide +kernel) rfl rfl ?_
          exact g_vret hx hr rfl () rfl (by decide +kernel) (ok_some h)
      · have h := ok_t h c161
        refine g_run hx [(.aload_n 0, 0, 0), (.iconst 0, 0, 0), (.putfield 31, 0, 0)] (pc' := 169) (lo' := [some (.ref 1)]) (st' := []) (σ' := sI s6 1 6 0) (by decide +kernel) rfl rfl ?_
        refine s_reader_nextToken_L169 hx hc hr N _ h
    · have h := ok_t h c83
      refine s_reader_nextToken_L86 hx hc hr N _ h
  · have h := ok_f h c61
    refine g_run hx [(.aload_n 0, 0, 0), (.iconst 0, 0, 0), (.putfield 22, 0, 0)] (pc' := 69) (lo' := [some (.ref 1)]) (st' := []) (σ' := sI (sI t2 1 5 (gI t2 1 4)) 1 3 0) (by decide +kernel) rfl rfl ?_
    refine g_goto hx (off := 238) (tgt := 307) (by decide +kernel) (by decide) ?_
    exact g_vret hx hr rfl () rfl (by decide +kernel) (ok_some h)
def f_x_leads (N : Nat) (v1 : Int32) (v2 : Int32) (σ : Sg) : Option (Int32 × Sg) :=
  (f_x_strideTrouble N v1 v2 σ).bind fun q1 =>
  (f_x_granted N q1.1 q1.2).bind fun q2 =>
  if q2.1 = true then
    (f_x_targetNow N v1 v2 q2.2).bind fun q3 =>
    some (q3.1, q3.2)
  else
    some ((-1), q2.2)
set_option maxRecDepth 100000 in
theorem s_x_leads {y : EX} {N : Nat} {v1 : Int32} {v2 : Int32} {σ : Sg} {P : Int32 × Sg → Prop} (h : ok (f_x_leads N v1 v2 σ) P) : Ev y M_x_leads 3 [.ref 0, .int v1, .int v2] σ rvI P := by
  refine Ev.of mk_x_leads (Nat.le_of_ble_eq_true rfl) (fun x hx hc hr => ?_)
  have hx : Cx 9 prog_1_method_23_code x := hx
  have hc : Cc y 3 3 x := hc
  show G x 0 [some (.ref 0), some (.int v1), some (.int v2)] [] σ
  unfold f_x_leads at h
  refine g_run hx [(.aload_n 0, 0, 0), (.aload_n 0, 0, 0), (.iload_n 1, 0, 0), (.iload_n 2, 0, 0)] (pc' := 4) (lo' := [some (.ref 0), some (.int v1), some (.int v2)]) (st' := [.int v2, .int v1, .ref 0, .ref 0]) (σ' := σ) (by decide +kernel) rfl rfl ?_
  refine g_callV (rest := [.ref 0]) [.int v1, .int v2] hx hc mk_x_strideTrouble ln_9_215 rfl (by decide +kernel) (by decide) (Nat.le_of_ble_eq_true rfl) (s_x_strideTrouble (ok_b h)) (fun r1 s1 h => ?_)
  refine g_callV (rest := []) [.int r1] hx hc mk_x_granted ln_9_83 rfl (by decide +kernel) (by decide) (Nat.le_of_ble_eq_true rfl) (s_x_granted (ok_b h)) (fun r2 s2 h => ?_)
  refine g_ifb_eq hx (off := 12) (tgt := 22) (by decide +kernel) (by decide) (fun c10 => ?_) (fun c10 => ?_)
  · have h := ok_f h c10
    refine g_run hx [(.iconst (-1), (-1), 0)] (pc' := 23) (lo' := [some (.ref 0), some (.int v1), some (.int v2)]) (st' := [.int (-1)]) (σ' := s2) (by decide +kernel) rfl rfl ?_
    exact g_iret hx hr rfl _ rfl (by decide +kernel) (ok_some h)
  · have h := ok_t h c10
    refine g_run hx [(.aload_n 0, 0, 0), (.iload_n 1, 0, 0), (.iload_n 2, 0, 0)] (pc' := 16) (lo' := [some (.ref 0), some (.int v1), some (.int v2)]) (st' := [.int v2, .int v1, .ref 0]) (σ' := s2) (by decide +kernel) rfl rfl ?_
    refine g_callV (rest := []) [.int v1, .int v2] hx hc mk_x_targetNow ln_9_218 rfl (by decide +kernel) (by decide) (Nat.le_of_ble_eq_true rfl) (s_x_targetNow (ok_b h)) (fun r3 s3 h => ?_)
    refine g_goto hx (off := 4) (tgt := 23) (by decide +kernel) (by decide) ?_
    exact g_iret hx hr rfl _ rfl (by decide +kernel) (ok_some h)
def f_x_runFrom_L5 (N : Nat) : Nat → Int64 → Int32 → Int32 → Sg → Option (Int32 × Sg)
  | 0, _, _, _, _ => none
  | n + 1, v0, v3, v4, σ =>
    if 60 ≤ v4 then
      some (v3, σ)
    else
      (f_x_bit N v0 v4 σ).bind fun q1 =>
      if q1.1 = true then
        f_x_runFrom_L5 N n v0 (v3 + 1) (v4 + 1) q1.2
      else
        some (v3, q1.2)
def f_x_runFrom (N : Nat) (v0 : Int64) (v2 : Int32) (σ : Sg) : Option (Int32 × Sg) :=
  f_x_runFrom_L5 N N v0 0 v2 σ
set_option maxRecDepth 100000 in
theorem s_x_runFrom_L5 {y : EX} {N : Nat} {x : CX} {P : Int32 × Sg → Prop} (hx : Cx 9 prog_1_method_86_code x) (hc : Cc y 5 1 x) (hr : Cr M_x_runFrom rvI P x) : ∀ (n : Nat) (v0 : Int64) (v3 : Int32) (v4 : Int32) (σ : Sg), ok (f_x_runFrom_L5 N n v0 v3 v4 σ) P → G x 5 [some (.long v0), none, none, some (.int v3), some (.int v4)] [] σ := by
  intro n
  induction n with
  | zero => intro v0 v3 v4 σ h; exact ok_none h
  | succ n ih =>
    intro v0 v3 v4 σ h
    rw [f_x_runFrom_L5] at h
    refine g_run hx [(.iload 4, 0, 0), (.bipush 60, 60, 0)] (pc' := 9) (lo' := [some (.long v0), none, none, some (.int v3), some (.int v4)]) (st' := [.int 60, .int v4]) (σ' := σ) (by decide +kernel) rfl rfl ?_
    refine g_ic_ge hx (off := 21) (tgt := 30) (by decide +kernel) (by decide) (fun c9 => ?_) (fun c9 => ?_)
    · have h := ok_t h c9
      refine g_run hx [(.iload_n 3, 0, 0)] (pc' := 31) (lo' := [some (.long v0), none, none, some (.int v3), some (.int v4)]) (st' := [.int v3]) (σ' := σ) (by decide +kernel) rfl rfl ?_
      exact g_iret hx hr rfl _ rfl (by decide +kernel) (ok_some h)
    · have h := ok_f h c9
      refine g_run hx [(.lload_n 0, 0, 0), (.iload 4, 0, 0)] (pc' := 15) (lo' := [some (.long v0), none, none, some (.int v3), some (.int v4)]) (st' := [.int v4, .long v0]) (σ' := σ) (by decide +kernel) rfl rfl ?_
      refine g_callS (rest := []) [.long v0, .int v4] hx hc mk_x_bit ln_9_411 (by decide +kernel) (by decide) (Nat.le_of_ble_eq_true rfl) (s_x_bit (ok_b h)) (fun r1 s1 h => ?_)
      refine g_ifb_eq hx (off := 12) (tgt := 30) (by decide +kernel) (by decide) (fun c18 => ?_) (fun c18 => ?_)
      · have h := ok_f h c18
        refine g_run hx [(.iload_n 3, 0, 0)] (pc' := 31) (lo' := [some (.long v0), none, none, some (.int v3), some (.int v4)]) (st' := [.int v3]) (σ' := s1) (by decide +kernel) rfl rfl ?_
        exact g_iret hx hr rfl _ rfl (by decide +kernel) (ok_some h)
      · have h := ok_t h c18
        refine g_run hx [(.iinc 3 1, 1, 0), (.iinc 4 1, 1, 0)] (pc' := 27) (lo' := [some (.long v0), none, none, some (.int (v3 + 1)), some (.int (v4 + 1))]) (st' := []) (σ' := s1) (by decide +kernel) rfl rfl ?_
        refine g_goto hx (off := (-22)) (tgt := 5) (by decide +kernel) (by decide) ?_
        exact ih _ _ _ _ h
set_option maxRecDepth 100000 in
theorem s_x_runFrom {y : EX} {N : Nat} {v0 : Int64} {v2 : Int32} {σ : Sg} {P : Int32 × Sg → Prop} (h : ok (f_x_runFrom N v0 v2 σ) P) : Ev y M_x_runFrom 1 [.long v0, .int v2] σ rvI P := by
  refine Ev.of mk_x_runFrom (Nat.le_of_ble_eq_true rfl) (fun x hx hc hr => ?_)
  have hx : Cx 9 prog_1_method_86_code x := hx
  have hc : Cc y 5 1 x := hc
  show G x 0 [some (.long v0), none, some (.int v2), none, none] [] σ
  unfold f_x_runFrom at h
  refine g_run hx [(.iconst 0, 0, 0), (.istore_n 3, 0, 0), (.iload_n 2, 0, 0), (.istore 4, 0, 0)] (pc' := 5) (lo' := [some (.long v0), none, some (.int v2), some (.int 0), some (.int v2)]) (st' := []) (σ' := σ) (by decide +kernel) rfl rfl ?_
  refine g_wk (lo' := [some (.long v0), none, none, some (.int 0), some (.int v2)]) ⟨rfl, ⟨rfl, ⟨rfl, trivial⟩⟩⟩ ?_
  refine s_x_runFrom_L5 hx hc hr N _ _ _ _ h
def f_x_longestRun_L8 (N : Nat) : Nat → Int64 → Int32 → Int32 → Int32 → Sg → Option (Int32 × Sg)
  | 0, _, _, _, _, _ => none
  | n + 1, v0, v2, v3, v4, σ =>
    if 60 ≤ v4 then
      some (v2, σ)
    else
      (f_x_runFrom N v0 v4 σ).bind fun q1 =>
      if q1.1 ≤ v3 then
        f_x_longestRun_L8 N n v0 v2 v3 (v4 + (q1.1 + 1)) q1.2
      else
        f_x_longestRun_L8 N n v0 v4 q1.1 (v4 + (q1.1 + 1)) q1.2
def f_x_longestRun (N : Nat) (v0 : Int64) (σ : Sg) : Option (Int32 × Sg) :=
  f_x_longestRun_L8 N N v0 (-2) 0 0 σ
set_option maxRecDepth 100000 in
theorem s_x_longestRun_L8 {y : EX} {N : Nat} {x : CX} {P : Int32 × Sg → Prop} (hx : Cx 9 prog_1_method_87_code x) (hc : Cc y 6 2 x) (hr : Cr M_x_longestRun rvI P x) : ∀ (n : Nat) (v0 : Int64) (v2 : Int32) (v3 : Int32) (v4 : Int32) (σ : Sg), ok (f_x_longestRun_L8 N n v0 v2 v3 v4 σ) P → G x 8 [some (.long v0), none, some (.int v2), some (.int v3), some (.int v4), none] [] σ := by
  intro n
  induction n with
  | zero => intro v0 v2 v3 v4 σ h; exact ok_none h
  | succ n ih =>
    intro v0 v2 v3 v4 σ h
    rw [f_x_longestRun_L8] at h
    refine g_run hx [(.iload 4, 0, 0), (.bipush 60, 60, 0)] (pc' := 12) (lo' := [some (.long v0), none, some (.int v2), some (.int v3), some (.int v4), none]) (st' := [.int 60, .int v4]) (σ' := σ) (by decide +kernel) rfl rfl ?_
    refine g_ic_ge hx (off := 35) (tgt := 47) (by decide +kernel) (by decide) (fun c12 => ?_) (fun c12 => ?_)
    · have h := ok_t h c12
      refine g_run hx [(.iload_n 2, 0, 0)] (pc' := 48) (lo' := [some (.long v0), none, some (.int v2), some (.int v3), some (.int v4), none]) (st' := [.int v2]) (σ' := σ) (by decide +kernel) rfl rfl ?_
      exact g_iret hx hr rfl _ rfl (by decide +kernel) (ok_some h)
    · have h := ok_f h c12
      refine g_run hx [(.lload_n 0, 0, 0), (.iload 4, 0, 0)] (pc' := 18) (lo' := [some (.long v0), none, some (.int v2), some (.int v3), some (.int v4), none]) (st' := [.int v4, .long v0]) (σ' := σ) (by decide +kernel) rfl rfl ?_
      refine g_callS (rest := []) [.long v0, .int v4] hx hc mk_x_runFrom ln_9_179 (by decide +kernel) (by decide) (Nat.le_of_ble_eq_true rfl) (s_x_runFrom (ok_b h)) (fun r1 s1 h => ?_)
      refine g_run hx [(.istore 5, 0, 0), (.iload 5, 0, 0), (.iload_n 3, 0, 0)] (pc' := 26) (lo' := [some (.long v0), none, some (.int v2), some (.int v3), some (.int v4), some (.int r1)]) (st' := [.int v3, .int r1]) (σ' := s1) (by decide +kernel) rfl rfl ?_
      refine g_ic_le hx (off := 9) (tgt := 35) (by decide +kernel) (by decide) (fun c26 => ?_) (fun c26 => ?_)
      · have h := ok_t h c26
        refine g_run hx [(.iload 4, 0, 0), (.iload 5, 0, 0), (.iconst 1, 1, 0), (.iadd, 0, 0), (.iadd, 0, 0), (.istore 4, 0, 0)] (pc' := 44) (lo' := [some (.long v0), none, some (.int v2), some (.int v3), some (.int (v4 + (r1 + 1))), some (.int r1)]) (st' := []) (σ' := s1) (by decide +kernel) rfl rfl ?_
        refine g_goto hx (off := (-36)) (tgt := 8) (by decide +kernel) (by decide) ?_
        refine g_wk (lo' := [some (.long v0), none, some (.int v2), some (.int v3), some (.int (v4 + (r1 + 1))), none]) ⟨rfl, ⟨rfl, ⟨rfl, ⟨rfl, trivial⟩⟩⟩⟩ ?_
        exact ih _ _ _ _ _ h
      · have h := ok_f h c26
        refine g_run hx [(.iload 5, 0, 0), (.istore_n 3, 0, 0), (.iload 4, 0, 0), (.istore_n 2, 0, 0), (.iload 4, 0, 0), (.iload 5, 0, 0), (.iconst 1, 1, 0), (.iadd, 0, 0), (.iadd, 0, 0), (.istore 4, 0, 0)] (pc' := 44) (lo' := [some (.long v0), none, some (.int v4), some (.int r1), some (.int (v4 + (r1 + 1))), some (.int r1)]) (st' := []) (σ' := s1) (by decide +kernel) rfl rfl ?_
        refine g_goto hx (off := (-36)) (tgt := 8) (by decide +kernel) (by decide) ?_
        refine g_wk (lo' := [some (.long v0), none, some (.int v4), some (.int r1), some (.int (v4 + (r1 + 1))), none]) ⟨rfl, ⟨rfl, ⟨rfl, ⟨rfl, trivial⟩⟩⟩⟩ ?_
        exact ih _ _ _ _ _ h
set_option maxRecDepth 100000 in
theorem s_x_longestRun {y : EX} {N : Nat} {v0 : Int64} {σ : Sg} {P : Int32 × Sg → Prop} (h : ok (f_x_longestRun N v0 σ) P) : Ev y M_x_longestRun 2 [.long v0] σ rvI P := by
  refine Ev.of mk_x_longestRun (Nat.le_of_ble_eq_true rfl) (fun x hx hc hr => ?_)
  have hx : Cx 9 prog_1_method_87_code x := hx
  have hc : Cc y 6 2 x := hc
  show G x 0 [some (.long v0), none, none, none, none, none] [] σ
  unfold f_x_longestRun at h
  refine g_run hx [(.bipush (-2), (-2), 0), (.istore_n 2, 0, 0), (.iconst 0, 0, 0), (.istore_n 3, 0, 0), (.iconst 0, 0, 0), (.istore 4, 0, 0)] (pc' := 8) (lo' := [some (.long v0), none, some (.int (-2)), some (.int 0), some (.int 0), none]) (st' := []) (σ' := σ) (by decide +kernel) rfl rfl ?_
  refine s_x_longestRun_L8 hx hc hr N _ _ _ _ _ h
def f_x_longest (N : Nat) (σ : Sg) : Option (Int32 × Sg) :=
  (f_x_landTrouble N σ).bind fun q1 =>
  (f_x_granted N q1.1 q1.2).bind fun q2 =>
  if q2.1 = true then
    (f_country_allCells N q2.2).bind fun q3 =>
    (f_state_goneCells N 40 q3.2).bind fun q4 =>
    (f_x_longestRun N (q3.1 &&& (q4.1 ^^^ (-1))) q4.2).bind fun q5 =>
    some (q5.1, q5.2)
  else
    some ((-1), q2.2)
set_option maxRecDepth 100000 in
theorem s_x_longest {y : EX} {N : Nat} {σ : Sg} {P : Int32 × Sg → Prop} (h : ok (f_x_longest N σ) P) : Ev y M_x_longest 3 [.ref 0] σ rvI P := by
  refine Ev.of mk_x_longest (Nat.le_of_ble_eq_true rfl) (fun x hx hc hr => ?_)
  have hx : Cx 9 prog_1_method_14_code x := hx
  have hc : Cc y 1 3 x := hc
  show G x 0 [some (.ref 0)] [] σ
  unfold f_x_longest at h
  refine g_run hx [(.aload_n 0, 0, 0), (.aload_n 0, 0, 0)] (pc' := 2) (lo' := [some (.ref 0)]) (st' := [.ref 0, .ref 0]) (σ' := σ) (by decide +kernel) rfl rfl ?_
  refine g_callV (rest := [.ref 0]) [] hx hc mk_x_landTrouble ln_9_158 rfl (by decide +kernel) (by decide) (Nat.le_of_ble_eq_true rfl) (s_x_landTrouble (ok_b h)) (fun r1 s1 h => ?_)
  refine g_callV (rest := []) [.int r1] hx hc mk_x_granted ln_9_83 rfl (by decide +kernel) (by decide) (Nat.le_of_ble_eq_true rfl) (s_x_granted (ok_b h)) (fun r2 s2 h => ?_)
  refine g_ifb_eq hx (off := 28) (tgt := 36) (by decide +kernel) (by decide) (fun c8 => ?_) (fun c8 => ?_)
  · have h := ok_f h c8
    refine g_run hx [(.iconst (-1), (-1), 0)] (pc' := 37) (lo' := [some (.ref 0)]) (st' := [.int (-1)]) (σ' := s2) (by decide +kernel) rfl rfl ?_
    exact g_iret hx hr rfl _ rfl (by decide +kernel) (ok_some h)
  · have h := ok_t h c8
    refine g_run hx [(.aload_n 0, 0, 0), (.getfield 19, 0, 0)] (pc' := 15) (lo' := [some (.ref 0)]) (st' := [.ref 10]) (σ' := s2) (by decide +kernel) rfl rfl ?_
    refine g_callV (rest := []) [] hx hc mk_country_allCells ln_9_171 rfl (by decide +kernel) (by decide) (Nat.le_of_ble_eq_true rfl) (s_country_allCells (ok_b h)) (fun r3 s3 h => ?_)
    refine g_run hx [(.aload_n 0, 0, 0), (.getfield 26, 0, 0)] (pc' := 22) (lo' := [some (.ref 0)]) (st' := [.ref 40, .long r3]) (σ' := s3) (by decide +kernel) rfl rfl ?_
    refine g_callV (rest := [.long r3]) [] hx hc mk_state_goneCells ln_9_144 rfl (by decide +kernel) (by decide) (Nat.le_of_ble_eq_true rfl) (s_state_goneCells_40 (ok_b h)) (fun r4 s4 h => ?_)
    refine g_run hx [(.ldc2_w 174, 0, (-1)), (.lxor, 0, 0), (.land, 0, 0)] (pc' := 30) (lo' := [some (.ref 0)]) (st' := [.long (r3 &&& (r4 ^^^ (-1)))]) (σ' := s4) (by decide +kernel) rfl rfl ?_
    refine g_callS (rest := []) [.long (r3 &&& (r4 ^^^ (-1)))] hx hc mk_x_longestRun ln_9_176 (by decide +kernel) (by decide) (Nat.le_of_ble_eq_true rfl) (s_x_longestRun (ok_b h)) (fun r5 s5 h => ?_)
    refine g_goto hx (off := 4) (tgt := 37) (by decide +kernel) (by decide) ?_
    exact g_iret hx hr rfl _ rfl (by decide +kernel) (ok_some h)
def f_x_lost (N : Nat) (σ : Sg) : Option (Int32 × Sg) :=
  (f_x_landTrouble N σ).bind fun q1 =>
  (f_x_granted N q1.1 q1.2).bind fun q2 =>
  if q2.1 = true then
    (f_state_goneCells N 40 q2.2).bind fun q3 =>
    (f_country_lostFolk N q3.1 q3.2).bind fun q4 =>
    some (q4.1, q4.2)
  else
    some ((-1), q2.2)
set_option maxRecDepth 100000 in
theorem s_x_lost {y : EX} {N : Nat} {σ : Sg} {P : Int32 × Sg → Prop} (h : ok (f_x_lost N σ) P) : Ev y M_x_lost 3 [.ref 0] σ rvI P := by
  refine Ev.of mk_x_lost (Nat.le_of_ble_eq_true rfl) (fun x hx hc hr => ?_)
  have hx : Cx 9 prog_1_method_12_code x := hx
  have hc : Cc y 1 3 x := hc
  show G x 0 [some (.ref 0)] [] σ
  unfold f_x_lost at h
  refine g_run hx [(.aload_n 0, 0, 0), (.aload_n 0, 0, 0)] (pc' := 2) (lo' := [some (.ref 0)]) (st' := [.ref 0, .ref 0]) (σ' := σ) (by decide +kernel) rfl rfl ?_
  refine g_callV (rest := [.ref 0]) [] hx hc mk_x_landTrouble ln_9_158 rfl (by decide +kernel) (by decide) (Nat.le_of_ble_eq_true rfl) (s_x_landTrouble (ok_b h)) (fun r1 s1 h => ?_)
  refine g_callV (rest := []) [.int r1] hx hc mk_x_granted ln_9_83 rfl (by decide +kernel) (by decide) (Nat.le_of_ble_eq_true rfl) (s_x_granted (ok_b h)) (fun r2 s2 h => ?_)
  refine g_ifb_eq hx (off := 20) (tgt := 28) (by decide +kernel) (by decide) (fun c8 => ?_) (fun c8 => ?_)
  · have h := ok_f h c8
    refine g_run hx [(.iconst (-1), (-1), 0)] (pc' := 29) (lo' := [some (.ref 0)]) (st' := [.int (-1)]) (σ' := s2) (by decide +kernel) rfl rfl ?_
    exact g_iret hx hr rfl _ rfl (by decide +kernel) (ok_some h)
  · have h := ok_t h c8
    refine g_run hx [(.aload_n 0, 0, 0), (.getfield 19, 0, 0), (.aload_n 0, 0, 0), (.getfield 26, 0, 0)] (pc' := 19) (lo' := [some (.ref 0)]) (st' := [.ref 40, .ref 10]) (σ' := s2) (by decide +kernel) rfl rfl ?_
    refine g_callV (rest := [.ref 10]) [] hx hc mk_state_goneCells ln_9_144 rfl (by decide +kernel) (by decide) (Nat.le_of_ble_eq_true rfl) (s_state_goneCells_40 (ok_b h)) (fun r3 s3 h => ?_)
    refine g_callV (rest := []) [.long r3] hx hc mk_country_lostFolk ln_9_168 rfl (by decide +kernel) (by decide) (Nat.le_of_ble_eq_true rfl) (s_country_lostFolk (ok_b h)) (fun r4 s4 h => ?_)
    refine g_goto hx (off := 4) (tgt := 29) (by decide +kernel) (by decide) ?_
    exact g_iret hx hr rfl _ rfl (by decide +kernel) (ok_some h)
def f_x_lostIn (N : Nat) (v1 : Int32) (σ : Sg) : Option (Int32 × Sg) :=
  (f_x_numberTrouble N v1 60 σ).bind fun q1 =>
  (f_x_granted N q1.1 q1.2).bind fun q2 =>
  if q2.1 = true then
    (f_x_goneBehind N v1 q2.2).bind fun q3 =>
    (f_country_lostFolk N q3.1 q3.2).bind fun q4 =>
    some (q4.1, q4.2)
  else
    some ((-1), q2.2)
set_option maxRecDepth 100000 in
theorem s_x_lostIn {y : EX} {N : Nat} {v1 : Int32} {σ : Sg} {P : Int32 × Sg → Prop} (h : ok (f_x_lostIn N v1 σ) P) : Ev y M_x_lostIn 5 [.ref 0, .int v1] σ rvI P := by
  refine Ev.of mk_x_lostIn (Nat.le_of_ble_eq_true rfl) (fun x hx hc hr => ?_)
  have hx : Cx 9 prog_1_method_20_code x := hx
  have hc : Cc y 2 5 x := hc
  show G x 0 [some (.ref 0), some (.int v1)] [] σ
  unfold f_x_lostIn at h
  refine g_run hx [(.aload_n 0, 0, 0), (.aload_n 0, 0, 0), (.iload_n 1, 0, 0), (.bipush 60, 60, 0)] (pc' := 5) (lo' := [some (.ref 0), some (.int v1)]) (st' := [.int 60, .int v1, .ref 0, .ref 0]) (σ' := σ) (by decide +kernel) rfl rfl ?_
  refine g_callV (rest := [.ref 0]) [.int v1, .int 60] hx hc mk_x_numberTrouble ln_9_197 rfl (by decide +kernel) (by decide) (Nat.le_of_ble_eq_true rfl) (s_x_numberTrouble (ok_b h)) (fun r1 s1 h => ?_)
  refine g_callV (rest := []) [.int r1] hx hc mk_x_granted ln_9_83 rfl (by decide +kernel) (by decide) (Nat.le_of_ble_eq_true rfl) (s_x_granted (ok_b h)) (fun r2 s2 h => ?_)
  refine g_ifb_ne hx (off := 5) (tgt := 16) (by decide +kernel) (by decide) (fun c11 => ?_) (fun c11 => ?_)
  · have h := ok_t h c11
    refine g_run hx [(.aload_n 0, 0, 0), (.getfield 19, 0, 0), (.aload_n 0, 0, 0), (.iload_n 1, 0, 0)] (pc' := 22) (lo' := [some (.ref 0), some (.int v1)]) (st' := [.int v1, .ref 0, .ref 10]) (σ' := s2) (by decide +kernel) rfl rfl ?_
    refine g_callV (rest := [.ref 10]) [.int v1] hx hc mk_x_goneBehind ln_9_200 rfl (by decide +kernel) (by decide) (Nat.le_of_ble_eq_true rfl) (s_x_goneBehind (ok_b h)) (fun r3 s3 h => ?_)
    refine g_callV (rest := []) [.long r3] hx hc mk_country_lostFolk ln_9_168 rfl (by decide +kernel) (by decide) (Nat.le_of_ble_eq_true rfl) (s_country_lostFolk (ok_b h)) (fun r4 s4 h => ?_)
    exact g_iret hx hr rfl _ rfl (by decide +kernel) (ok_some h)
  · have h := ok_f h c11
    refine g_run hx [(.iconst (-1), (-1), 0)] (pc' := 15) (lo' := [some (.ref 0), some (.int v1)]) (st' := [.int (-1)]) (σ' := s2) (by decide +kernel) rfl rfl ?_
    exact g_iret hx hr rfl _ rfl (by decide +kernel) (ok_some h)
def f_chances_goOn_B (N : Nat) (rec : Int32 → Int64 → Int32 → Int64 → Sg → Option (Unit × Sg)) (v2 : Int32) (v3 : Int64) (v5 : Int32) (v6 : Int64) (σ : Sg) : Option (Unit × Sg) :=
  if (gI σ 65 4) ≤ v2 then
    if v5 = (gI σ 65 5) then
      (f_country_lostFolk N v3 (sL σ 65 0 ((gL σ 65 0) + v6))).bind fun q2 =>
      some ((), sL q2.2 65 1 ((gL (sL σ 65 0 ((gL σ 65 0) + v6)) 65 1) + (v6 * (Int32.toInt64 q2.1))))
    else
      (f_country_lostFolk N v3 (sL σ 65 0 ((gL σ 65 0) + 0))).bind fun q1 =>
      some ((), sL q1.2 65 1 ((gL (sL σ 65 0 ((gL σ 65 0) + 0)) 65 1) + (v6 * (Int32.toInt64 q1.1))))
  else
    if v2 < 5 then
      (f_x_digitOf N (gI σ 65 3) (gI σ 65 4) v2 σ).bind fun q3 =>
      (f_country_target N v3 v5 q3.1 q3.2).bind fun q4 =>
      if q4.1 = (-2) then
        (rec (v2 + 1) v3 v5 (v6 * 100) q4.2).bind fun q8 =>
        some ((), q8.2)
      else
        (rec (v2 + 1) v3 v5 (v6 * (Int32.toInt64 (gI q4.2 10 1))) q4.2).bind fun q5 =>
        (f_x_inside N v5 q4.1 q5.2).bind fun q6 =>
        (rec (v2 + 1) (v3 ||| q6.1) q4.1 (v6 * (Int32.toInt64 (100 - (gI q6.2 10 1)))) q6.2).bind fun q7 =>
        some ((), q7.2)
    else
      if v5 = (gI σ 65 5) then
        (f_country_lostFolk N v3 (sL σ 65 0 ((gL σ 65 0) + v6))).bind fun q10 =>
        some ((), sL q10.2 65 1 ((gL (sL σ 65 0 ((gL σ 65 0) + v6)) 65 1) + (v6 * (Int32.toInt64 q10.1))))
      else
        (f_country_lostFolk N v3 (sL σ 65 0 ((gL σ 65 0) + 0))).bind fun q9 =>
        some ((), sL q9.2 65 1 ((gL (sL σ 65 0 ((gL σ 65 0) + 0)) 65 1) + (v6 * (Int32.toInt64 q9.1))))
def f_chances_goOn (N : Nat) : Nat → Int32 → Int64 → Int32 → Int64 → Sg → Option (Unit × Sg)
  | 0, _, _, _, _, _ => none
  | D + 1, v2, v3, v5, v6, σ => f_chances_goOn_B N (f_chances_goOn N D) v2 v3 v5 v6 σ
set_option maxRecDepth 100000 in
theorem s_chances_goOn_B {y : EX} {N D : Nat} {v2 : Int32} {v3 : Int64} {v5 : Int32} {v6 : Int64} {rec : Int32 → Int64 → Int32 → Int64 → Sg → Option (Unit × Sg)} (hrec : ∀ (v2 : Int32) (v3 : Int64) (v5 : Int32) (v6 : Int64) (σ : Sg) (P : Unit × Sg → Prop), ok (rec v2 v3 v5 v6 σ) P → Ev y M_chances_goOn (D + 3) [.ref 65, .ref 10, .int v2, .long v3, .int v5, .long v6] σ rvN P) {σ : Sg} {P : Unit × Sg → Prop} (h : ok (f_chances_goOn_B N rec v2 v3 v5 v6 σ) P) : Ev y M_chances_goOn (D + 1 + 3) [.ref 65, .ref 10, .int v2, .long v3, .int v5, .long v6] σ rvN P := by
  refine Ev.of mk_chances_goOn (Nat.le_of_ble_eq_true rfl) (fun x hx hc hr => ?_)
  have hx : Cx 0 prog_2_method_3_code x := hx
  have hc : Cc y 9 (D + 1 + 3) x := hc
  show G x 0 [some (.ref 65), some (.ref 10), some (.int v2), some (.long v3), none, some (.int v5), some (.long v6), none, none] [] σ
  unfold f_chances_goOn_B at h
  refine g_run hx [(.iload_n 2, 0, 0), (.aload_n 0, 0, 0), (.getfield 25, 0, 0)] (pc' := 5) (lo' := [some (.ref 65), some (.ref 10), some (.int v2), some (.long v3), none, some (.int v5), some (.long v6), none, none]) (st' := [.int (gI σ 65 4), .int v2]) (σ' := σ) (by decide +kernel) rfl rfl ?_
  refine g_ic_ge hx (off := 8) (tgt := 13) (by decide +kernel) (by decide) (fun c5 => ?_) (fun c5 => ?_)
  · have h := ok_t h c5
    refine g_run hx [(.aload_n 0, 0, 0), (.dup, 0, 0), (.getfield 9, 0, 0), (.iload 5, 0, 0), (.aload_n 0, 0, 0), (.getfield 28, 0, 0)] (pc' := 24) (lo' := [some (.ref 65), some (.ref 10), some (.int v2), some (.long v3), none, some (.int v5), some (.long v6), none, none]) (st' := [.int (gI σ 65 5), .int v5, .long (gL σ 65 0), .ref 65]) (σ' := σ) (by decide +kernel) rfl rfl ?_
    refine g_ic_ne hx (off := 8) (tgt := 32) (by decide +kernel) (by decide) (fun c24 => ?_) (fun c24 => ?_)
    · have h := ok_f h c24
      refine g_run hx [(.lconst 0, 0, 0), (.ladd, 0, 0), (.putfield 9, 0, 0), (.aload_n 0, 0, 0), (.dup, 0, 0), (.getfield 15, 0, 0), (.lload 6, 0, 0), (.aload_n 1, 0, 0), (.lload_n 3, 0, 0)] (pc' := 46) (lo' := [some (.ref 65), some (.ref 10), some (.int v2), some (.long v3), none, some (.int v5), some (.long v6), none, none]) (st' := [.long v3, .ref 10, .long v6, .long (gL (sL σ 65 0 ((gL σ 65 0) + 0)) 65 1), .ref 65]) (σ' := sL σ 65 0 ((gL σ 65 0) + 0)) (by decide +kernel) rfl rfl ?_
      refine g_callV (rest := [.long v6, .long (gL (sL σ 65 0 ((gL σ 65 0) + 0)) 65 1), .ref 65]) [.long v3] hx hc mk_country_lostFolk ln_0_46 rfl (by decide +kernel) (by omega) (Nat.le_of_ble_eq_true rfl) (s_country_lostFolk (ok_b h)) (fun r1 s1 h => ?_)
      refine g_run hx [(.i2l, 0, 0), (.lmul, 0, 0), (.ladd, 0, 0), (.putfield 15, 0, 0)] (pc' := 55) (lo' := [some (.ref 65), some (.ref 10), some (.int v2), some (.long v3), none, some (.int v5), some (.long v6), none, none]) (st' := []) (σ' := sL s1 65 1 ((gL (sL σ 65 0 ((gL σ 65 0) + 0)) 65 1) + (v6 * (Int32.toInt64 r1)))) (by decide +kernel) rfl rfl ?_
      exact g_vret hx hr rfl () rfl (by decide +kernel) (ok_some h)
    · have h := ok_t h c24
      refine g_run hx [(.lload 6, 0, 0)] (pc' := 29) (lo' := [some (.ref 65), some (.ref 10), some (.int v2), some (.long v3), none, some (.int v5), some (.long v6), none, none]) (st' := [.long v6, .long (gL σ 65 0), .ref 65]) (σ' := σ) (by decide +kernel) rfl rfl ?_
      refine g_goto hx (off := 4) (tgt := 33) (by decide +kernel) (by decide) ?_
      refine g_run hx [(.ladd, 0, 0), (.putfield 9, 0, 0), (.aload_n 0, 0, 0), (.dup, 0, 0), (.getfield 15, 0, 0), (.lload 6, 0, 0), (.aload_n 1, 0, 0), (.lload_n 3, 0, 0)] (pc' := 46) (lo' := [some (.ref 65), some (.ref 10), some (.int v2), some (.long v3), none, some (.int v5), some (.long v6), none, none]) (st' := [.long v3, .ref 10, .long v6, .long (gL (sL σ 65 0 ((gL σ 65 0) + v6)) 65 1), .ref 65]) (σ' := sL σ 65 0 ((gL σ 65 0) + v6)) (by decide +kernel) rfl rfl ?_
      refine g_callV (rest := [.long v6, .long (gL (sL σ 65 0 ((gL σ 65 0) + v6)) 65 1), .ref 65]) [.long v3] hx hc mk_country_lostFolk ln_0_46 rfl (by decide +kernel) (by omega) (Nat.le_of_ble_eq_true rfl) (s_country_lostFolk (ok_b h)) (fun r2 s2 h => ?_)
      refine g_run hx [(.i2l, 0, 0), (.lmul, 0, 0), (.ladd, 0, 0), (.putfield 15, 0, 0)] (pc' := 55) (lo' := [some (.ref 65), some (.ref 10), some (.int v2), some (.long v3), none, some (.int v5), some (.long v6), none, none]) (st' := []) (σ' := sL s2 65 1 ((gL (sL σ 65 0 ((gL σ 65 0) + v6)) 65 1) + (v6 * (Int32.toInt64 r2)))) (by decide +kernel) rfl rfl ?_
      exact g_vret hx hr rfl () rfl (by decide +kernel) (ok_some h)
  · have h := ok_f h c5
    refine g_run hx [(.iload_n 2, 0, 0), (.iconst 5, 5, 0)] (pc' := 10) (lo' := [some (.ref 65), some (.ref 10), some (.int v2), some (.long v3), none, some (.int v5), some (.long v6), none, none]) (st' := [.int 5, .int v2]) (σ' := σ) (by decide +kernel) rfl rfl ?_
    refine g_ic_lt hx (off := 46) (tgt := 56) (by decide +kernel) (by decide) (fun c10 => ?_) (fun c10 => ?_)
    · have h := ok_t h c10
      refine g_run hx [(.aload_n 1, 0, 0), (.lload_n 3, 0, 0), (.iload 5, 0, 0), (.aload_n 0, 0, 0), (.getfield 21, 0, 0), (.aload_n 0, 0, 0), (.getfield 25, 0, 0), (.iload_n 2, 0, 0)] (pc' := 69) (lo' := [some (.ref 65), some (.ref 10), some (.int v2), some (.long v3), none, some (.int v5), some (.long v6), none, none]) (st' := [.int v2, .int (gI σ 65 4), .int (gI σ 65 3), .int v5, .long v3, .ref 10]) (σ' := σ) (by decide +kernel) rfl rfl ?_
      refine g_callN (rest := [.int v5, .long v3, .ref 10]) [.int (gI σ 65 3), .int (gI σ 65 4), .int v2] hx hc mk_x_digitOf ln_0_52 (by decide +kernel) (by omega) (Nat.le_of_ble_eq_true rfl) (s_x_digitOf (ok_b h)) (fun r3 s3 h => ?_)
      refine g_callV (rest := []) [.long v3, .int v5, .int r3] hx hc mk_country_target ln_0_56 rfl (by decide +kernel) (by omega) (Nat.le_of_ble_eq_true rfl) (s_country_target (ok_b h)) (fun r4 s4 h => ?_)
      refine g_run hx [(.istore 8, 0, 0), (.iload 8, 0, 0), (.bipush (-2), (-2), 0)] (pc' := 81) (lo' := [some (.ref 65), some (.ref 10), some (.int v2), some (.long v3), none, some (.int v5), some (.long v6), none, some (.int r4)]) (st' := [.int (-2), .int r4]) (σ' := s4) (by decide +kernel) rfl rfl ?_
      refine g_ic_ne hx (off := 21) (tgt := 102) (by decide +kernel) (by decide) (fun c81 => ?_) (fun c81 => ?_)
      · have h := ok_f h c81
        refine g_run hx [(.aload_n 0, 0, 0), (.aload_n 1, 0, 0), (.iload_n 2, 0, 0), (.iconst 1, 1, 0), (.iadd, 0, 0), (.lload_n 3, 0, 0), (.iload 5, 0, 0), (.lload 6, 0, 0), (.aload_n 1, 0, 0), (.getfield 60, 0, 0), (.i2l, 0, 0), (.lmul, 0, 0)] (pc' := 118) (lo' := [some (.ref 65), some (.ref 10), some (.int v2), some (.long v3), none, some (.int v5), some (.long v6), none, some (.int r4)]) (st' := [.long (v6 * (Int32.toInt64 (gI s4 10 1))), .int v5, .long v3, .int (v2 + 1), .ref 10, .ref 65]) (σ' := s4) (by decide +kernel) rfl rfl ?_
        refine g_callV (rest := []) [.ref 10, .int (v2 + 1), .long v3, .int v5, .long (v6 * (Int32.toInt64 (gI s4 10 1)))] hx hc mk_chances_goOn ln_0_42 rfl (by decide +kernel) (by omega) (Nat.le_of_ble_eq_true rfl) (hrec _ _ _ _ _ _ (ok_b h)) (fun r5 s5 h => ?_)
        refine g_run hx [(.aload_n 0, 0, 0), (.aload_n 1, 0, 0), (.iload_n 2, 0, 0), (.iconst 1, 1, 0), (.iadd, 0, 0), (.lload_n 3, 0, 0), (.iload 5, 0, 0), (.iload 8, 0, 0)] (pc' := 131) (lo' := [some (.ref 65), some (.ref 10), some (.int v2), some (.long v3), none, some (.int v5), some (.long v6), none, some (.int r4)]) (st' := [.int r4, .int v5, .long v3, .int (v2 + 1), .ref 10, .ref 65]) (σ' := s5) (by decide +kernel) rfl rfl ?_
        refine g_callN (rest := [.long v3, .int (v2 + 1), .ref 10, .ref 65]) [.int v5, .int r4] hx hc mk_x_inside ln_0_63 (by decide +kernel) (by omega) (Nat.le_of_ble_eq_true rfl) (s_x_inside (ok_b h)) (fun r6 s6 h => ?_)
        refine g_run hx [(.lor, 0, 0), (.iload 8, 0, 0), (.lload 6, 0, 0), (.bipush 100, 100, 0), (.aload_n 1, 0, 0), (.getfield 60, 0, 0), (.isub, 0, 0), (.i2l, 0, 0), (.lmul, 0, 0)] (pc' := 148) (lo' := [some (.ref 65), some (.ref 10), some (.int v2), some (.long v3), none, some (.int v5), some (.long v6), none, some (.int r4)]) (st' := [.long (v6 * (Int32.toInt64 (100 - (gI s6 10 1)))), .int r4, .long (v3 ||| r6), .int (v2 + 1), .ref 10, .ref 65]) (σ' := s6) (by decide +kernel) rfl rfl ?_
        refine g_callV (rest := []) [.ref 10, .int (v2 + 1), .long (v3 ||| r6), .int r4, .long (v6 * (Int32.toInt64 (100 - (gI s6 10 1))))] hx hc mk_chances_goOn ln_0_42 rfl (by decide +kernel) (by omega) (Nat.le_of_ble_eq_true rfl) (hrec _ _ _ _ _ _ (ok_b h)) (fun r7 s7 h => ?_)
        exact g_vret hx hr rfl () rfl (by decide +kernel) (ok_some h)
      · have h := ok_t h c81
        refine g_run hx [(.aload_n 0, 0, 0), (.aload_n 1, 0, 0), (.iload_n 2, 0, 0), (.iconst 1, 1, 0), (.iadd, 0, 0), (.lload_n 3, 0, 0), (.iload 5, 0, 0), (.lload 6, 0, 0), (.ldc2_w 31, 0, 100), (.lmul, 0, 0)] (pc' := 98) (lo' := [some (.ref 65), some (.ref 10), some (.int v2), some (.long v3), none, some (.int v5), some (.long v6), none, some (.int r4)]) (st' := [.long (v6 * 100), .int v5, .long v3, .int (v2 + 1), .ref 10, .ref 65]) (σ' := s4) (by decide +kernel) rfl rfl ?_
        refine g_callV (rest := []) [.ref 10, .int (v2 + 1), .long v3, .int v5, .long (v6 * 100)] hx hc mk_chances_goOn ln_0_42 rfl (by decide +kernel) (by omega) (Nat.le_of_ble_eq_true rfl) (hrec _ _ _ _ _ _ (ok_b h)) (fun r8 s8 h => ?_)
        exact g_vret hx hr rfl () rfl (by decide +kernel) (ok_some h)
    · have h := ok_f h c10
      refine g_run hx [(.aload_n 0, 0, 0), (.dup, 0, 0), (.getfield 9, 0, 0), (.iload 5, 0, 0), (.aload_n 0, 0, 0), (.getfield 28, 0, 0)] (pc' := 24) (lo' := [some (.ref 65), some (.ref 10), some (.int v2), some (.long v3), none, some (.int v5), some (.long v6), none, none]) (st' := [.int (gI σ 65 5), .int v5, .long (gL σ 65 0), .ref 65]) (σ' := σ) (by decide +kernel) rfl rfl ?_
      refine g_ic_ne hx (off := 8) (tgt := 32) (by decide +kernel) (by decide) (fun c24 => ?_) (fun c24 => ?_)
      · have h := ok_f h c24
        refine g_run hx [(.lconst 0, 0, 0), (.ladd, 0, 0), (.putfield 9, 0, 0), (.aload_n 0, 0, 0), (.dup, 0, 0), (.getfield 15, 0, 0), (.lload 6, 0, 0), (.aload_n 1, 0, 0), (.lload_n 3, 0, 0)] (pc' := 46) (lo' := [some (.ref 65), some (.ref 10), some (.int v2), some (.long v3), none, some (.int v5), some (.long v6), none, none]) (st' := [.long v3, .ref 10, .long v6, .long (gL (sL σ 65 0 ((gL σ 65 0) + 0)) 65 1), .ref 65]) (σ' := sL σ 65 0 ((gL σ 65 0) + 0)) (by decide +kernel) rfl rfl ?_
        refine g_callV (rest := [.long v6, .long (gL (sL σ 65 0 ((gL σ 65 0) + 0)) 65 1), .ref 65]) [.long v3] hx hc mk_country_lostFolk ln_0_46 rfl (by decide +kernel) (by omega) (Nat.le_of_ble_eq_true rfl) (s_country_lostFolk (ok_b h)) (fun r9 s9 h => ?_)
        refine g_run hx [(.i2l, 0, 0), (.lmul, 0, 0), (.ladd, 0, 0), (.putfield 15, 0, 0)] (pc' := 55) (lo' := [some (.ref 65), some (.ref 10), some (.int v2), some (.long v3), none, some (.int v5), some (.long v6), none, none]) (st' := []) (σ' := sL s9 65 1 ((gL (sL σ 65 0 ((gL σ 65 0) + 0)) 65 1) + (v6 * (Int32.toInt64 r9)))) (by decide +kernel) rfl rfl ?_
        exact g_vret hx hr rfl () rfl (by decide +kernel) (ok_some h)
      · have h := ok_t h c24
        refine g_run hx [(.lload 6, 0, 0)] (pc' := 29) (lo' := [some (.ref 65), some (.ref 10), some (.int v2), some (.long v3), none, some (.int v5), some (.long v6), none, none]) (st' := [.long v6, .long (gL σ 65 0), .ref 65]) (σ' := σ) (by decide +kernel) rfl rfl ?_
        refine g_goto hx (off := 4) (tgt := 33) (by decide +kernel) (by decide) ?_
        refine g_run hx [(.ladd, 0, 0), (.putfield 9, 0, 0), (.aload_n 0, 0, 0), (.dup, 0, 0), (.getfield 15, 0, 0), (.lload 6, 0, 0), (.aload_n 1, 0, 0), (.lload_n 3, 0, 0)] (pc' := 46) (lo' := [some (.ref 65), some (.ref 10), some (.int v2), some (.long v3), none, some (.int v5), some (.long v6), none, none]) (st' := [.long v3, .ref 10, .long v6, .long (gL (sL σ 65 0 ((gL σ 65 0) + v6)) 65 1), .ref 65]) (σ' := sL σ 65 0 ((gL σ 65 0) + v6)) (by decide +kernel) rfl rfl ?_
        refine g_callV (rest := [.long v6, .long (gL (sL σ 65 0 ((gL σ 65 0) + v6)) 65 1), .ref 65]) [.long v3] hx hc mk_country_lostFolk ln_0_46 rfl (by decide +kernel) (by omega) (Nat.le_of_ble_eq_true rfl) (s_country_lostFolk (ok_b h)) (fun r10 s10 h => ?_)
        refine g_run hx [(.i2l, 0, 0), (.lmul, 0, 0), (.ladd, 0, 0), (.putfield 15, 0, 0)] (pc' := 55) (lo' := [some (.ref 65), some (.ref 10), some (.int v2), some (.long v3), none, some (.int v5), some (.long v6), none, none]) (st' := []) (σ' := sL s10 65 1 ((gL (sL σ 65 0 ((gL σ 65 0) + v6)) 65 1) + (v6 * (Int32.toInt64 r10)))) (by decide +kernel) rfl rfl ?_
        exact g_vret hx hr rfl () rfl (by decide +kernel) (ok_some h)
theorem s_chances_goOn {y : EX} {N : Nat} : ∀ (D : Nat) (v2 : Int32) (v3 : Int64) (v5 : Int32) (v6 : Int64) (σ : Sg) (P : Unit × Sg → Prop), ok (f_chances_goOn N D v2 v3 v5 v6 σ) P → Ev y M_chances_goOn (D + 3) [.ref 65, .ref 10, .int v2, .long v3, .int v5, .long v6] σ rvN P := by
  intro D
  induction D with
  | zero => intro v2 v3 v5 v6 σ P h; exact ok_none h
  | succ D ih =>
    intro v2 v3 v5 v6 σ P h
    exact s_chances_goOn_B ih h
def f_chances_weigh_L35 (N : Nat) : Nat → Int32 → Int32 → Sg → Option (Unit × Sg)
  | 0, _, _, _ => none
  | n + 1, v4, v6, σ =>
    if v4 ≤ v6 then
      (f_state_goneCells N 40 σ).bind fun q1 =>
      (f_chances_goOn N 12 0 q1.1 (gI q1.2 40 2) 1 q1.2).bind fun q2 =>
      some ((), q2.2)
    else
      f_chances_weigh_L35 N n v4 (v6 + 1) (sL σ 65 2 ((gL σ 65 2) * 100))
def f_chances_weigh (N : Nat) (v3 : Int32) (v4 : Int32) (v5 : Int32) (σ : Sg) : Option (Unit × Sg) :=
  f_chances_weigh_L35 N N v4 0 (sL (sL (sL (sI (sI (sI σ 65 3 v3) 65 4 v4) 65 5 v5) 65 0 0) 65 1 0) 65 2 1)
set_option maxRecDepth 100000 in
theorem s_chances_weigh_L35 {y : EX} {N : Nat} {x : CX} {P : Unit × Sg → Prop} (hx : Cx 0 prog_2_method_2_code x) (hc : Cc y 7 16 x) (hr : Cr M_chances_weigh rvN P x) : ∀ (n : Nat) (v4 : Int32) (v6 : Int32) (σ : Sg), ok (f_chances_weigh_L35 N n v4 v6 σ) P → G x 35 [some (.ref 65), some (.ref 10), some (.ref 40), none, some (.int v4), none, some (.int v6)] [] σ := by
  intro n
  induction n with
  | zero => intro v4 v6 σ h; exact ok_none h
  | succ n ih =>
    intro v4 v6 σ h
    rw [f_chances_weigh_L35] at h
    refine g_run hx [(.iload 6, 0, 0), (.iload 4, 0, 0)] (pc' := 39) (lo' := [some (.ref 65), some (.ref 10), some (.ref 40), none, some (.int v4), none, some (.int v6)]) (st' := [.int v4, .int v6]) (σ' := σ) (by decide +kernel) rfl rfl ?_
    refine g_ic_ge hx (off := 21) (tgt := 60) (by decide +kernel) (by decide) (fun c39 => ?_) (fun c39 => ?_)
    · have h := ok_t h c39
      refine g_run hx [(.aload_n 0, 0, 0), (.aload_n 1, 0, 0), (.iconst 0, 0, 0), (.aload_n 2, 0, 0)] (pc' := 64) (lo' := [some (.ref 65), some (.ref 10), some (.ref 40), none, some (.int v4), none, some (.int v6)]) (st' := [.ref 40, .int 0, .ref 10, .ref 65]) (σ' := σ) (by decide +kernel) rfl rfl ?_
      refine g_callV (rest := [.int 0, .ref 10, .ref 65]) [] hx hc mk_state_goneCells ln_0_33 rfl (by decide +kernel) (by decide) (Nat.le_of_ble_eq_true rfl) (s_state_goneCells_40 (ok_b h)) (fun r1 s1 h => ?_)
      refine g_run hx [(.aload_n 2, 0, 0), (.getfield 39, 0, 0), (.lconst 1, 0, 1)] (pc' := 72) (lo' := [some (.ref 65), some (.ref 10), some (.ref 40), none, some (.int v4), none, some (.int v6)]) (st' := [.long 1, .int (gI s1 40 2), .long r1, .int 0, .ref 10, .ref 65]) (σ' := s1) (by decide +kernel) rfl rfl ?_
      refine g_callV (rest := []) [.ref 10, .int 0, .long r1, .int (gI s1 40 2), .long 1] hx hc mk_chances_goOn ln_0_42 rfl (by decide +kernel) (by decide) (Nat.le_of_ble_eq_true rfl) (s_chances_goOn 12 _ _ _ _ _ _ (ok_b h)) (fun r2 s2 h => ?_)
      exact g_vret hx hr rfl () rfl (by decide +kernel) (ok_some h)
    · have h := ok_f h c39
      refine g_run hx [(.aload_n 0, 0, 0), (.dup, 0, 0), (.getfield 18, 0, 0), (.ldc2_w 31, 0, 100), (.lmul, 0, 0), (.putfield 18, 0, 0), (.iinc 6 1, 1, 0)] (pc' := 57) (lo' := [some (.ref 65), some (.ref 10), some (.ref 40), none, some (.int v4), none, some (.int (v6 + 1))]) (st' := []) (σ' := sL σ 65 2 ((gL σ 65 2) * 100)) (by decide +kernel) rfl rfl ?_
      refine g_goto hx (off := (-22)) (tgt := 35) (by decide +kernel) (by decide) ?_
      exact ih _ _ _ h
set_option maxRecDepth 100000 in
theorem s_chances_weigh {y : EX} {N : Nat} {v3 : Int32} {v4 : Int32} {v5 : Int32} {σ : Sg} {P : Unit × Sg → Prop} (h : ok (f_chances_weigh N v3 v4 v5 σ) P) : Ev y M_chances_weigh 16 [.ref 65, .ref 10, .ref 40, .int v3, .int v4, .int v5] σ rvN P := by
  refine Ev.of mk_chances_weigh (Nat.le_of_ble_eq_true rfl) (fun x hx hc hr => ?_)
  have hx : Cx 0 prog_2_method_2_code x := hx
  have hc : Cc y 7 16 x := hc
  show G x 0 [some (.ref 65), some (.ref 10), some (.ref 40), some (.int v3), some (.int v4), some (.int v5), none] [] σ
  unfold f_chances_weigh at h
  refine g_run hx [(.aload_n 0, 0, 0), (.iload_n 3, 0, 0), (.putfield 21, 0, 0), (.aload_n 0, 0, 0), (.iload 4, 0, 0), (.putfield 25, 0, 0), (.aload_n 0, 0, 0), (.iload 5, 0, 0), (.putfield 28, 0, 0), (.aload_n 0, 0, 0), (.lconst 0, 0, 0), (.putfield 9, 0, 0), (.aload_n 0, 0, 0), (.lconst 0, 0, 0), (.putfield 15, 0, 0), (.aload_n 0, 0, 0), (.lconst 1, 0, 1), (.putfield 18, 0, 0), (.iconst 0, 0, 0), (.istore 6, 0, 0)] (pc' := 35) (lo' := [some (.ref 65), some (.ref 10), some (.ref 40), some (.int v3), some (.int v4), some (.int v5), some (.int 0)]) (st' := []) (σ' := sL (sL (sL (sI (sI (sI σ 65 3 v3) 65 4 v4) 65 5 v5) 65 0 0) 65 1 0) 65 2 1) (by decide +kernel) rfl rfl ?_
  refine g_wk (lo' := [some (.ref 65), some (.ref 10), some (.ref 40), none, some (.int v4), none, some (.int 0)]) ⟨rfl, ⟨rfl, ⟨rfl, ⟨rfl, ⟨rfl, trivial⟩⟩⟩⟩⟩ ?_
  refine s_chances_weigh_L35 hx hc hr N _ _ _ h
def f_x_inLowestTerms_L9 (N : Nat) : Nat → Int64 → Int64 → Int32 → Int64 → Int64 → Int32 → Sg → (Int64 → Int64 → Int32 → Int64 → Sg → Option (Int64 × Sg)) → Option (Int64 × Sg)
  | 0, _, _, _, _, _, _, _, _ => none
  | n + 1, v0, v2, v4, v5, v7, v9, σ, k45 =>
    if 200 ≤ v9 then
      k45 v0 v2 v4 v5 σ
    else
      if (lg_cmp v7 0) = 0 then
        k45 v0 v2 v4 v5 σ
      else
        if v7 = 0 then none else
        f_x_inLowestTerms_L9 N n v0 v2 v4 v7 (v5 - v5 / v7 * v7) (v9 + 1) σ k45
def f_x_inLowestTerms (N : Nat) (v0 : Int64) (v2 : Int64) (v4 : Int32) (σ : Sg) : Option (Int64 × Sg) :=
  f_x_inLowestTerms_L9 N N v0 v2 v4 v0 v2 0 σ
    (fun (w0 : Int64) (w2 : Int64) (w4 : Int32) (w5 : Int64) (t1 : Sg) =>
      if (lg_cmp w5 0) = 0 then
        if w4 = 0 then
          some (0, t1)
        else
          some (1, t1)
      else
        if w4 = 0 then
          if w5 = 0 then none else
          some (w0 / w5, t1)
        else
          if w5 = 0 then none else
          some (w2 / w5, t1))
set_option maxRecDepth 100000 in
theorem s_x_inLowestTerms_L9 {y : EX} {N : Nat} {x : CX} {P : Int64 × Sg → Prop} (hx : Cx 9 prog_1_method_79_code x) (hc : Cc y 12 0 x) (hr : Cr M_x_inLowestTerms rvL P x) : ∀ (n : Nat) (v0 : Int64) (v2 : Int64) (v4 : Int32) (v5 : Int64) (v7 : Int64) (v9 : Int32) (σ : Sg) (k45 : Int64 → Int64 → Int32 → Int64 → Sg → Option (Int64 × Sg)) (hk45 : ∀ (w0 : Int64) (w2 : Int64) (w4 : Int32) (w5 : Int64) (t : Sg), ok (k45 w0 w2 w4 w5 t) P → G x 45 [some (.long w0), none, some (.long w2), none, some (.int w4), some (.long w5), none, none, none, none, none, none] [] t), ok (f_x_inLowestTerms_L9 N n v0 v2 v4 v5 v7 v9 σ k45) P → G x 9 [some (.long v0), none, some (.long v2), none, some (.int v4), some (.long v5), none, some (.long v7), none, some (.int v9), none, none] [] σ := by
  intro n
  induction n with
  | zero => intro v0 v2 v4 v5 v7 v9 σ k45 hk45 h; exact ok_none h
  | succ n ih =>
    intro v0 v2 v4 v5 v7 v9 σ k45 hk45 h
    rw [f_x_inLowestTerms_L9] at h
    refine g_run hx [(.iload 9, 0, 0), (.sipush 200, 200, 0)] (pc' := 14) (lo' := [some (.long v0), none, some (.long v2), none, some (.int v4), some (.long v5), none, some (.long v7), none, some (.int v9), none, none]) (st' := [.int 200, .int v9]) (σ' := σ) (by decide +kernel) rfl rfl ?_
    refine g_ic_ge hx (off := 31) (tgt := 45) (by decide +kernel) (by decide) (fun c14 => ?_) (fun c14 => ?_)
    · have h := ok_t h c14
      refine g_wk (lo' := [some (.long v0), none, some (.long v2), none, some (.int v4), some (.long v5), none, none, none, none, none, none]) ⟨rfl, ⟨rfl, ⟨rfl, ⟨rfl, trivial⟩⟩⟩⟩ ?_
      exact hk45 _ _ _ _ _ h
    · have h := ok_f h c14
      refine g_run hx [(.lload 7, 0, 0), (.lconst 0, 0, 0), (.lcmp, 0, 0)] (pc' := 21) (lo' := [some (.long v0), none, some (.long v2), none, some (.int v4), some (.long v5), none, some (.long v7), none, some (.int v9), none, none]) (st' := [.int (lg_cmp v7 0)]) (σ' := σ) (by decide +kernel) rfl rfl ?_
      refine g_if_eq hx (off := 24) (tgt := 45) (by decide +kernel) (by decide) (fun c21 => ?_) (fun c21 => ?_)
      · have h := ok_t h c21
        refine g_wk (lo' := [some (.long v0), none, some (.long v2), none, some (.int v4), some (.long v5), none, none, none, none, none, none]) ⟨rfl, ⟨rfl, ⟨rfl, ⟨rfl, trivial⟩⟩⟩⟩ ?_
        exact hk45 _ _ _ _ _ h
      · have h := ok_f h c21
        refine g_run hx [(.lload 5, 0, 0), (.lload 7, 0, 0)] (pc' := 28) (lo' := [some (.long v0), none, some (.long v2), none, some (.int v4), some (.long v5), none, some (.long v7), none, some (.int v9), none, none]) (st' := [.long v7, .long v5]) (σ' := σ) (by decide +kernel) rfl rfl ?_
        obtain ⟨c28, h⟩ := ok_n h
        refine g_lrem hx (by decide +kernel) c28 ?_
        refine g_run hx [(.lstore 10, 0, 0), (.lload 7, 0, 0), (.lstore 5, 0, 0), (.lload 10, 0, 0), (.lstore 7, 0, 0), (.iinc 9 1, 1, 0)] (pc' := 42) (lo' := [some (.long v0), none, some (.long v2), none, some (.int v4), some (.long v7), none, some (.long (v5 - v5 / v7 * v7)), none, some (.int (v9 + 1)), some (.long (v5 - v5 / v7 * v7)), none]) (st' := []) (σ' := σ) (by decide +kernel) rfl rfl ?_
        refine g_goto hx (off := (-33)) (tgt := 9) (by decide +kernel) (by decide) ?_
        refine g_wk (lo' := [some (.long v0), none, some (.long v2), none, some (.int v4), some (.long v7), none, some (.long (v5 - v5 / v7 * v7)), none, some (.int (v9 + 1)), none, none]) ⟨rfl, ⟨rfl, ⟨rfl, ⟨rfl, ⟨rfl, ⟨rfl, trivial⟩⟩⟩⟩⟩⟩ ?_
        exact ih _ _ _ _ _ _ _ _ hk45 h
set_option maxRecDepth 100000 in
theorem s_x_inLowestTerms {y : EX} {N : Nat} {v0 : Int64} {v2 : Int64} {v4 : Int32} {σ : Sg} {P : Int64 × Sg → Prop} (h : ok (f_x_inLowestTerms N v0 v2 v4 σ) P) : Ev y M_x_inLowestTerms 0 [.long v0, .long v2, .int v4] σ rvL P := by
  refine Ev.of mk_x_inLowestTerms (Nat.le_of_ble_eq_true rfl) (fun x hx hc hr => ?_)
  have hx : Cx 9 prog_1_method_79_code x := hx
  have hc : Cc y 12 0 x := hc
  show G x 0 [some (.long v0), none, some (.long v2), none, some (.int v4), none, none, none, none, none, none, none] [] σ
  unfold f_x_inLowestTerms at h
  refine g_run hx [(.lload_n 0, 0, 0), (.lstore 5, 0, 0), (.lload_n 2, 0, 0), (.lstore 7, 0, 0), (.iconst 0, 0, 0), (.istore 9, 0, 0)] (pc' := 9) (lo' := [some (.long v0), none, some (.long v2), none, some (.int v4), some (.long v0), none, some (.long v2), none, some (.int 0), none, none]) (st' := []) (σ' := σ) (by decide +kernel) rfl rfl ?_
  refine s_x_inLowestTerms_L9 hx hc hr N _ _ _ _ _ _ _ _ (fun w0 w2 w4 w5 t1 h => ?_) h
  refine g_run hx [(.lload 5, 0, 0), (.lconst 0, 0, 0), (.lcmp, 0, 0)] (pc' := 49) (lo' := [some (.long w0), none, some (.long w2), none, some (.int w4), some (.long w5), none, none, none, none, none, none]) (st' := [.int (lg_cmp w5 0)]) (σ' := t1) (by decide +kernel) rfl rfl ?_
  refine g_if_ne hx (off := 14) (tgt := 63) (by decide +kernel) (by decide) (fun c49 => ?_) (fun c49 => ?_)
  · have h := ok_f h c49
    refine g_run hx [(.iload 4, 0, 0)] (pc' := 65) (lo' := [some (.long w0), none, some (.long w2), none, some (.int w4), some (.long w5), none, none, none, none, none, none]) (st' := [.int w4]) (σ' := t1) (by decide +kernel) rfl rfl ?_
    refine g_if_eq hx (off := 7) (tgt := 72) (by decide +kernel) (by decide) (fun c65 => ?_) (fun c65 => ?_)
    · have h := ok_t h c65
      refine g_run hx [(.lload_n 0, 0, 0), (.lload 5, 0, 0)] (pc' := 75) (lo' := [some (.long w0), none, some (.long w2), none, some (.int w4), some (.long w5), none, none, none, none, none, none]) (st' := [.long w5, .long w0]) (σ' := t1) (by decide +kernel) rfl rfl ?_
      obtain ⟨c75, h⟩ := ok_n h
      refine g_ldiv hx (by decide +kernel) c75 ?_
      exact g_lret hx hr rfl _ rfl (by decide +kernel) (ok_some h)
    · have h := ok_f h c65
      refine g_run hx [(.lload_n 2, 0, 0)] (pc' := 69) (lo' := [some (.long w0), none, some (.long w2), none, some (.int w4), some (.long w5), none, none, none, none, none, none]) (st' := [.long w2]) (σ' := t1) (by decide +kernel) rfl rfl ?_
      refine g_goto hx (off := 4) (tgt := 73) (by decide +kernel) (by decide) ?_
      refine g_run hx [(.lload 5, 0, 0)] (pc' := 75) (lo' := [some (.long w0), none, some (.long w2), none, some (.int w4), some (.long w5), none, none, none, none, none, none]) (st' := [.long w5, .long w2]) (σ' := t1) (by decide +kernel) rfl rfl ?_
      obtain ⟨c75, h⟩ := ok_n h
      refine g_ldiv hx (by decide +kernel) c75 ?_
      exact g_lret hx hr rfl _ rfl (by decide +kernel) (ok_some h)
  · have h := ok_t h c49
    refine g_run hx [(.iload 4, 0, 0)] (pc' := 54) (lo' := [some (.long w0), none, some (.long w2), none, some (.int w4), some (.long w5), none, none, none, none, none, none]) (st' := [.int w4]) (σ' := t1) (by decide +kernel) rfl rfl ?_
    refine g_if_eq hx (off := 7) (tgt := 61) (by decide +kernel) (by decide) (fun c54 => ?_) (fun c54 => ?_)
    · have h := ok_t h c54
      refine g_run hx [(.lconst 0, 0, 0)] (pc' := 62) (lo' := [some (.long w0), none, some (.long w2), none, some (.int w4), some (.long w5), none, none, none, none, none, none]) (st' := [.long 0]) (σ' := t1) (by decide +kernel) rfl rfl ?_
      exact g_lret hx hr rfl _ rfl (by decide +kernel) (ok_some h)
    · have h := ok_f h c54
      refine g_run hx [(.lconst 1, 0, 1)] (pc' := 58) (lo' := [some (.long w0), none, some (.long w2), none, some (.int w4), some (.long w5), none, none, none, none, none, none]) (st' := [.long 1]) (σ' := t1) (by decide +kernel) rfl rfl ?_
      refine g_goto hx (off := 4) (tgt := 62) (by decide +kernel) (by decide) ?_
      exact g_lret hx hr rfl _ rfl (by decide +kernel) (ok_some h)
