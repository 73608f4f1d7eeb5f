def f_x_image (N : Nat) (σ : Sg) : Option (Int32 × Sg) :=
  (f_x_landTrouble N σ).bind fun q1 =>
  if q1.1 = 0 then
    if (gI q1.2 0 6) < 3 then
      (f_x_granted N 0 q1.2).bind fun q2 =>
      if q2.1 = true then
        (f_shelf_keep N 3 3 3 3 3 50 40 51 52 53 54 (gI q2.2 0 6) q2.2).bind fun q3 =>
        some (((gI (sI q3.2 0 6 ((gI q3.2 0 6) + 1)) 0 6) - 1), sI q3.2 0 6 ((gI q3.2 0 6) + 1))
      else
        some ((-1), q2.2)
    else
      (f_x_granted N 3 q1.2).bind fun q4 =>
      if q4.1 = true then
        (f_shelf_keep N 3 3 3 3 3 50 40 51 52 53 54 (gI q4.2 0 6) q4.2).bind fun q5 =>
        some (((gI (sI q5.2 0 6 ((gI q5.2 0 6) + 1)) 0 6) - 1), sI q5.2 0 6 ((gI q5.2 0 6) + 1))
      else
        some ((-1), q4.2)
  else
    (f_x_granted N 1 q1.2).bind fun q6 =>
    if q6.1 = true then
      (f_shelf_keep N 3 3 3 3 3 50 40 51 52 53 54 (gI q6.2 0 6) q6.2).bind fun q7 =>
      some (((gI (sI q7.2 0 6 ((gI q7.2 0 6) + 1)) 0 6) - 1), sI q7.2 0 6 ((gI q7.2 0 6) + 1))
    else
      some ((-1), q6.2)
set_option maxRecDepth 100000 in
theorem s_x_image {y : EX} {N : Nat} {σ : Sg} {P : Int32 × Sg → Prop} (h : ok (f_x_image N σ) P) : Ev y M_x_image 2 [.ref 0] σ rvI P := by
  refine Ev.of mk_x_image (Nat.le_of_ble_eq_true rfl) (fun x hx hc hr => ?_)
  have hx : Cx 9 prog_1_method_58_code x := hx
  have hc : Cc y 1 2 x := hc
  show G x 0 [some (.ref 0)] [] σ
  unfold f_x_image at h
  refine g_run hx [(.aload_n 0, 0, 0), (.aload_n 0, 0, 0)] (pc' := 2) (lo' := [some (.ref 0)]) (st' := [.ref 0, .ref 0]) (σ' := σ) (by decide +kernel) rfl rfl ?_
  refine g_callV (rest := [.ref 0]) [] hx hc mk_x_landTrouble ln_9_158 rfl (by decide +kernel) (by decide) (Nat.le_of_ble_eq_true rfl) (s_x_landTrouble (ok_b h)) (fun r1 s1 h => ?_)
  refine g_if_eq hx (off := 7) (tgt := 12) (by decide +kernel) (by decide) (fun c5 => ?_) (fun c5 => ?_)
  · have h := ok_t h c5
    refine g_run hx [(.aload_n 0, 0, 0), (.getfield 49, 0, 0), (.iconst 3, 3, 0)] (pc' := 17) (lo' := [some (.ref 0)]) (st' := [.int 3, .int (gI s1 0 6), .ref 0]) (σ' := s1) (by decide +kernel) rfl rfl ?_
    refine g_ic_lt hx (off := 7) (tgt := 24) (by decide +kernel) (by decide) (fun c17 => ?_) (fun c17 => ?_)
    · have h := ok_t h c17
      refine g_run hx [(.iconst 0, 0, 0)] (pc' := 25) (lo' := [some (.ref 0)]) (st' := [.int 0, .ref 0]) (σ' := s1) (by decide +kernel) rfl rfl ?_
      refine g_callV (rest := []) [.int 0] hx hc mk_x_granted ln_9_83 rfl (by decide +kernel) (by decide) (Nat.le_of_ble_eq_true rfl) (s_x_granted (ok_b h)) (fun r2 s2 h => ?_)
      refine g_ifb_ne hx (off := 5) (tgt := 33) (by decide +kernel) (by decide) (fun c28 => ?_) (fun c28 => ?_)
      · have h := ok_t h c28
        refine g_run hx [(.aload_n 0, 0, 0), (.getfield 45, 0, 0), (.aload_n 0, 0, 0), (.getfield 49, 0, 0), (.aload_n 0, 0, 0), (.getfield 26, 0, 0)] (pc' := 45) (lo' := [some (.ref 0)]) (st' := [.ref 40, .int (gI s2 0 6), .ref 49]) (σ' := s2) (by decide +kernel) rfl rfl ?_
        refine g_callV (rest := []) [.int (gI s2 0 6), .ref 40] hx hc mk_shelf_keep ln_9_366 rfl (by decide +kernel) (by decide) (Nat.le_of_ble_eq_true rfl) (s_shelf_keep_49_40 (ok_b h)) (fun r3 s3 h => ?_)
        refine g_run hx [(.aload_n 0, 0, 0), (.dup, 0, 0), (.getfield 49, 0, 0), (.iconst 1, 1, 0), (.iadd, 0, 0), (.putfield 49, 0, 0), (.aload_n 0, 0, 0), (.getfield 49, 0, 0), (.iconst 1, 1, 0), (.isub, 0, 0)] (pc' := 64) (lo' := [some (.ref 0)]) (st' := [.int ((gI (sI s3 0 6 ((gI s3 0 6) + 1)) 0 6) - 1)]) (σ' := sI s3 0 6 ((gI s3 0 6) + 1)) (by decide +kernel) rfl rfl ?_
        exact g_iret hx hr rfl _ rfl (by decide +kernel) (ok_some h)
      · have h := ok_f h c28
        refine g_run hx [(.iconst (-1), (-1), 0)] (pc' := 32) (lo' := [some (.ref 0)]) (st' := [.int (-1)]) (σ' := s2) (by decide +kernel) rfl rfl ?_
        exact g_iret hx hr rfl _ rfl (by decide +kernel) (ok_some h)
    · have h := ok_f h c17
      refine g_run hx [(.iconst 3, 3, 0)] (pc' := 21) (lo' := [some (.ref 0)]) (st' := [.int 3, .ref 0]) (σ' := s1) (by decide +kernel) rfl rfl ?_
      refine g_goto hx (off := 4) (tgt := 25) (by decide +kernel) (by decide) ?_
      refine g_callV (rest := []) [.int 3] hx hc mk_x_granted ln_9_83 rfl (by decide +kernel) (by decide) (Nat.le_of_ble_eq_true rfl) (s_x_granted (ok_b h)) (fun r4 s4 h => ?_)
      refine g_ifb_ne hx (off := 5) (tgt := 33) (by decide +kernel) (by decide) (fun c28 => ?_) (fun c28 => ?_)
      · have h := ok_t h c28
        refine g_run hx [(.aload_n 0, 0, 0), (.getfield 45, 0, 0), (.aload_n 0, 0, 0), (.getfield 49, 0, 0), (.aload_n 0, 0, 0), (.getfield 26, 0, 0)] (pc' := 45) (lo' := [some (.ref 0)]) (st' := [.ref 40, .int (gI s4 0 6), .ref 49]) (σ' := s4) (by decide +kernel) rfl rfl ?_
        refine g_callV (rest := []) [.int (gI s4 0 6), .ref 40] hx hc mk_shelf_keep ln_9_366 rfl (by decide +kernel) (by decide) (Nat.le_of_ble_eq_true rfl) (s_shelf_keep_49_40 (ok_b h)) (fun r5 s5 h => ?_)
        refine g_run hx [(.aload_n 0, 0, 0), (.dup, 0, 0), (.getfield 49, 0, 0), (.iconst 1, 1, 0), (.iadd, 0, 0), (.putfield 49, 0, 0), (.aload_n 0, 0, 0), (.getfield 49, 0, 0), (.iconst 1, 1, 0), (.isub, 0, 0)] (pc' := 64) (lo' := [some (.ref 0)]) (st' := [.int ((gI (sI s5 0 6 ((gI s5 0 6) + 1)) 0 6) - 1)]) (σ' := sI s5 0 6 ((gI s5 0 6) + 1)) (by decide +kernel) rfl rfl ?_
        exact g_iret hx hr rfl _ rfl (by decide +kernel) (ok_some h)
      · have h := ok_f h c28
        refine g_run hx [(.iconst (-1), (-1), 0)] (pc' := 32) (lo' := [some (.ref 0)]) (st' := [.int (-1)]) (σ' := s4) (by decide +kernel) rfl rfl ?_
        exact g_iret hx hr rfl _ rfl (by decide +kernel) (ok_some h)
  · have h := ok_f h c5
    refine g_run hx [(.iconst 1, 1, 0)] (pc' := 9) (lo' := [some (.ref 0)]) (st' := [.int 1, .ref 0]) (σ' := s1) (by decide +kernel) rfl rfl ?_
    refine g_goto hx (off := 16) (tgt := 25) (by decide +kernel) (by decide) ?_
    refine g_callV (rest := []) [.int 1] hx hc mk_x_granted ln_9_83 rfl (by decide +kernel) (by decide) (Nat.le_of_ble_eq_true rfl) (s_x_granted (ok_b h)) (fun r6 s6 h => ?_)
    refine g_ifb_ne hx (off := 5) (tgt := 33) (by decide +kernel) (by decide) (fun c28 => ?_) (fun c28 => ?_)
    · have h := ok_t h c28
      refine g_run hx [(.aload_n 0, 0, 0), (.getfield 45, 0, 0), (.aload_n 0, 0, 0), (.getfield 49, 0, 0), (.aload_n 0, 0, 0), (.getfield 26, 0, 0)] (pc' := 45) (lo' := [some (.ref 0)]) (st' := [.ref 40, .int (gI s6 0 6), .ref 49]) (σ' := s6) (by decide +kernel) rfl rfl ?_
      refine g_callV (rest := []) [.int (gI s6 0 6), .ref 40] hx hc mk_shelf_keep ln_9_366 rfl (by decide +kernel) (by decide) (Nat.le_of_ble_eq_true rfl) (s_shelf_keep_49_40 (ok_b h)) (fun r7 s7 h => ?_)
      refine g_run hx [(.aload_n 0, 0, 0), (.dup, 0, 0), (.getfield 49, 0, 0), (.iconst 1, 1, 0), (.iadd, 0, 0), (.putfield 49, 0, 0), (.aload_n 0, 0, 0), (.getfield 49, 0, 0), (.iconst 1, 1, 0), (.isub, 0, 0)] (pc' := 64) (lo' := [some (.ref 0)]) (st' := [.int ((gI (sI s7 0 6 ((gI s7 0 6) + 1)) 0 6) - 1)]) (σ' := sI s7 0 6 ((gI s7 0 6) + 1)) (by decide +kernel) rfl rfl ?_
      exact g_iret hx hr rfl _ rfl (by decide +kernel) (ok_some h)
    · have h := ok_f h c28
      refine g_run hx [(.iconst (-1), (-1), 0)] (pc' := 32) (lo' := [some (.ref 0)]) (st' := [.int (-1)]) (σ' := s6) (by decide +kernel) rfl rfl ?_
      exact g_iret hx hr rfl _ rfl (by decide +kernel) (ok_some h)
def f_country_firstUnlike (N : Nat) (σ : Sg) : Option (Int32 × Sg) :=
  (f_country_unlikeSeen N (gL σ 10 14) σ).bind fun q1 =>
  some (q1.1, q1.2)
set_option maxRecDepth 100000 in
theorem s_country_firstUnlike {y : EX} {N : Nat} {σ : Sg} {P : Int32 × Sg → Prop} (h : ok (f_country_firstUnlike N σ) P) : Ev y M_country_firstUnlike 2 [.ref 10] σ rvI P := by
  refine Ev.of mk_country_firstUnlike (Nat.le_of_ble_eq_true rfl) (fun x hx hc hr => ?_)
  have hx : Cx 1 prog_3_method_21_code x := hx
  have hc : Cc y 1 2 x := hc
  show G x 0 [some (.ref 10)] [] σ
  unfold f_country_firstUnlike at h
  refine g_run hx [(.aload_n 0, 0, 0), (.aload_n 0, 0, 0), (.getfield 61, 0, 0)] (pc' := 5) (lo' := [some (.ref 10)]) (st' := [.long (gL σ 10 14), .ref 10]) (σ' := σ) (by decide +kernel) rfl rfl ?_
  refine g_callV (rest := []) [.long (gL σ 10 14)] hx hc mk_country_unlikeSeen ln_1_113 rfl (by decide +kernel) (by decide) (Nat.le_of_ble_eq_true rfl) (s_country_unlikeSeen (ok_b h)) (fun r1 s1 h => ?_)
  exact g_iret hx hr rfl _ rfl (by decide +kernel) (ok_some h)
def f_x_judge (N : Nat) (σ : Sg) : Option (Int32 × Sg) :=
  (f_x_landTrouble N σ).bind fun q1 =>
  (f_x_granted N q1.1 q1.2).bind fun q2 =>
  if q2.1 = true then
    (f_country_firstUnlike N q2.2).bind fun q3 =>
    some (q3.1, q3.2)
  else
    some ((-1), q2.2)
set_option maxRecDepth 100000 in
theorem s_x_judge {y : EX} {N : Nat} {σ : Sg} {P : Int32 × Sg → Prop} (h : ok (f_x_judge N σ) P) : Ev y M_x_judge 3 [.ref 0] σ rvI P := by
  refine Ev.of mk_x_judge (Nat.le_of_ble_eq_true rfl) (fun x hx hc hr => ?_)
  have hx : Cx 9 prog_1_method_46_code x := hx
  have hc : Cc y 1 3 x := hc
  show G x 0 [some (.ref 0)] [] σ
  unfold f_x_judge at h
  refine g_run hx [(.aload_n 0, 0, 0), (.aload_n 0, 0, 0)] (pc' := 2) (lo' := [some (.ref 0)]) (st' := [.ref 0, .ref 0]) (σ' := σ) (by decide +kernel) rfl rfl ?_
  refine g_callV (rest := [.ref 0]) [] hx hc mk_x_landTrouble ln_9_158 rfl (by decide +kernel) (by decide) (Nat.le_of_ble_eq_true rfl) (s_x_landTrouble (ok_b h)) (fun r1 s1 h => ?_)
  refine g_callV (rest := []) [.int r1] hx hc mk_x_granted ln_9_83 rfl (by decide +kernel) (by decide) (Nat.le_of_ble_eq_true rfl) (s_x_granted (ok_b h)) (fun r2 s2 h => ?_)
  refine g_ifb_eq hx (off := 13) (tgt := 21) (by decide +kernel) (by decide) (fun c8 => ?_) (fun c8 => ?_)
  · have h := ok_f h c8
    refine g_run hx [(.iconst (-1), (-1), 0)] (pc' := 22) (lo' := [some (.ref 0)]) (st' := [.int (-1)]) (σ' := s2) (by decide +kernel) rfl rfl ?_
    exact g_iret hx hr rfl _ rfl (by decide +kernel) (ok_some h)
  · have h := ok_t h c8
    refine g_run hx [(.aload_n 0, 0, 0), (.getfield 19, 0, 0)] (pc' := 15) (lo' := [some (.ref 0)]) (st' := [.ref 10]) (σ' := s2) (by decide +kernel) rfl rfl ?_
    refine g_callV (rest := []) [] hx hc mk_country_firstUnlike ln_9_307 rfl (by decide +kernel) (by decide) (Nat.le_of_ble_eq_true rfl) (s_country_firstUnlike (ok_b h)) (fun r3 s3 h => ?_)
    refine g_goto hx (off := 4) (tgt := 22) (by decide +kernel) (by decide) ?_
    exact g_iret hx hr rfl _ rfl (by decide +kernel) (ok_some h)
def f_x_leads (N : Nat) (v1 : Int32) (v2 : Int32) (σ : Sg) : Option (Int32 × Sg) :=
  (f_x_strideTrouble N v1 v2 σ).bind fun q1 =>
  (f_x_granted N q1.1 q1.2).bind fun q2 =>
  if q2.1 = true then
    (f_x_targetNow N v1 v2 q2.2).bind fun q3 =>
    some (q3.1, q3.2)
  else
    some ((-1), q2.2)
set_option maxRecDepth 100000 in
theorem s_x_leads {y : EX} {N : Nat} {v1 : Int32} {v2 : Int32} {σ : Sg} {P : Int32 × Sg → Prop} (h : ok (f_x_leads N v1 v2 σ) P) : Ev y M_x_leads 3 [.ref 0, .int v1, .int v2] σ rvI P := by
  refine Ev.of mk_x_leads (Nat.le_of_ble_eq_true rfl) (fun x hx hc hr => ?_)
  have hx : Cx 9 prog_1_method_23_code x := hx
  have hc : Cc y 3 3 x := hc
  show G x 0 [some (.ref 0), some (.int v1), some (.int v2)] [] σ
  unfold f_x_leads at h
  refine g_run hx [(.aload_n 0, 0, 0), (.aload_n 0, 0, 0), (.iload_n 1, 0, 0), (.iload_n 2, 0, 0)] (pc' := 4) (lo' := [some (.ref 0), some (.int v1), some (.int v2)]) (st' := [.int v2, .int v1, .ref 0, .ref 0]) (σ' := σ) (by decide +kernel) rfl rfl ?_
  refine g_callV (rest := [.ref 0]) [.int v1, .int v2] hx hc mk_x_strideTrouble ln_9_215 rfl (by decide +kernel) (by decide) (Nat.le_of_ble_eq_true rfl) (s_x_strideTrouble (ok_b h)) (fun r1 s1 h => ?_)
  refine g_callV (rest := []) [.int r1] hx hc mk_x_granted ln_9_83 rfl (by decide +kernel) (by decide) (Nat.le_of_ble_eq_true rfl) (s_x_granted (ok_b h)) (fun r2 s2 h => ?_)
  refine g_ifb_eq hx (off := 12) (tgt := 22) (by decide +kernel) (by decide) (fun c10 => ?_) (fun c10 => ?_)
  · have h := ok_f h c10
    refine g_run hx [(.iconst (-1), (-1), 0)] (pc' := 23) (lo' := [some (.ref 0), some (.int v1), some (.int v2)]) (st' := [.int (-1)]) (σ' := s2) (by decide +kernel) rfl rfl ?_
    exact g_iret hx hr rfl _ rfl (by decide +kernel) (ok_some h)
  · have h := ok_t h c10
    refine g_run hx [(.aload_n 0, 0, 0), (.iload_n 1, 0, 0), (.iload_n 2, 0, 0)] (pc' := 16) (lo' := [some (.ref 0), some (.int v1), some (.int v2)]) (st' := [.int v2, .int v1, .ref 0]) (σ' := s2) (by decide +kernel) rfl rfl ?_
    refine g_callV (rest := []) [.int v1, .int v2] hx hc mk_x_targetNow ln_9_218 rfl (by decide +kernel) (by decide) (Nat.le_of_ble_eq_true rfl) (s_x_targetNow (ok_b h)) (fun r3 s3 h => ?_)
    refine g_goto hx (off := 4) (tgt := 23) (by decide +kernel) (by decide) ?_
    exact g_iret hx hr rfl _ rfl (by decide +kernel) (ok_some h)
def f_x_runFrom_L5 (N : Nat) : Nat → Int64 → Int32 → Int32 → Sg → Option (Int32 × Sg)
  | 0, _, _, _, _ => none
  | n + 1, v0, v3, v4, σ =>
    if 60 ≤ v4 then
      some (v3, σ)
    else
      (f_x_bit N v0 v4 σ).bind fun q1 =>
      if q1.1 = true then
        f_x_runFrom_L5 N n v0 (v3 + 1) (v4 + 1) q1.2
      else
        some (v3, q1.2)
def f_x_runFrom (N : Nat) (v0 : Int64) (v2 : Int32) (σ : Sg) : Option (Int32 × Sg) :=
  f_x_runFrom_L5 N N v0 0 v2 σ
set_option maxRecDepth 100000 in
theorem s_x_runFrom_L5 {y : EX} {N : Nat} {x : CX} {P : Int32 × Sg → Prop} (hx : Cx 9 prog_1_method_86_code x) (hc : Cc y 5 1 x) (hr : Cr M_x_runFrom rvI P x) : ∀ (n : Nat) (v0 : Int64) (v3 : Int32) (v4 : Int32) (σ : Sg), ok (f_x_runFrom_L5 N n v0 v3 v4 σ) P → G x 5 [some (.long v0), none, none, some (.int v3), some (.int v4)] [] σ := by
  intro n
  induction n with
  | zero => intro v0 v3 v4 σ h; exact ok_none h
  | succ n ih =>
    intro v0 v3 v4 σ h
    rw [f_x_runFrom_L5] at h
    refine g_run hx [(.iload 4, 0, 0), (.bipush 60, 60, 0)] (pc' := 9) (lo' := [some (.long v0), none, none, some (.int v3), some (.int v4)]) (st' := [.int 60, .int v4]) (σ' := σ) (by decide +kernel) rfl rfl ?_
    refine g_ic_ge hx (off := 21) (tgt := 30) (by decide +kernel) (by decide) (fun c9 => ?_) (fun c9 => ?_)
    · have h := ok_t h c9
      refine g_run hx [(.iload_n 3, 0, 0)] (pc' := 31) (lo' := [some (.long v0), none, none, some (.int v3), some (.int v4)]) (st' := [.int v3]) (σ' := σ) (by decide +kernel) rfl rfl ?_
      exact g_iret hx hr rfl _ rfl (by decide +kernel) (ok_some h)
    · have h := ok_f h c9
      refine g_run hx [(.lload_n 0, 0, 0), (.iload 4, 0, 0)] (pc' := 15) (lo' := [some (.long v0), none, none, some (.int v3), some (.int v4)]) (st' := [.int v4, .long v0]) (σ' := σ) (by decide +kernel) rfl rfl ?_
      refine g_callS (rest := []) [.long v0, .int v4] hx hc mk_x_bit ln_9_411 (by decide +kernel) (by decide) (Nat.le_of_ble_eq_true rfl) (s_x_bit (ok_b h)) (fun r1 s1 h => ?_)
      refine g_ifb_eq hx (off := 12) (tgt := 30) (by decide +kernel) (by decide) (fun c18 => ?_) (fun c18 => ?_)
      · have h := ok_f h c18
        refine g_run hx [(.iload_n 3, 0, 0)] (pc' := 31) (lo' := [some (.long v0), none, none, some (.int v3), some (.int v4)]) (st' := [.int v3]) (σ' := s1) (by decide +kernel) rfl rfl ?_
        exact g_iret hx hr rfl _ rfl (by decide +kernel) (ok_some h)
      · have h := ok_t h c18
        refine g_run hx [(.iinc 3 1, 1, 0), (.iinc 4 1, 1, 0)] (pc' := 27) (lo' := [some (.long v0), none, none, some (.int (v3 + 1)), some (.int (v4 + 1))]) (st' := []) (σ' := s1) (by decide +kernel) rfl rfl ?_
        refine g_goto hx (off := (-22)) (tgt := 5) (by decide +kernel) (by decide) ?_
        exact ih _ _ _ _ h
set_option maxRecDepth 100000 in
theorem s_x_runFrom {y : EX} {N : Nat} {v0 : Int64} {v2 : Int32} {σ : Sg} {P : Int32 × Sg → Prop} (h : ok (f_x_runFrom N v0 v2 σ) P) : Ev y M_x_runFrom 1 [.long v0, .int v2] σ rvI P := by
  refine Ev.of mk_x_runFrom (Nat.le_of_ble_eq_true rfl) (fun x hx hc hr => ?_)
  have hx : Cx 9 prog_1_method_86_code x := hx
  have hc : Cc y 5 1 x := hc
  show G x 0 [some (.long v0), none, some (.int v2), none, none] [] σ
  unfold f_x_runFrom at h
  refine g_run hx [(.iconst 0, 0, 0), (.istore_n 3, 0, 0), (.iload_n 2, 0, 0), (.istore 4, 0, 0)] (pc' := 5) (lo' := [some (.long v0), none, some (.int v2), some (.int 0), some (.int v2)]) (st' := []) (σ' := σ) (by decide +kernel) rfl rfl ?_
  refine g_wk (lo' := [some (.long v0), none, none, some (.int 0), some (.int v2)]) ⟨rfl, ⟨rfl, ⟨rfl, trivial⟩⟩⟩ ?_
  refine s_x_runFrom_L5 hx hc hr N _ _ _ _ h
def f_x_longestRun_L8 (N : Nat) : Nat → Int64 → Int32 → Int32 → Int32 → Sg → Option (Int32 × Sg)
  | 0, _, _, _, _, _ => none
  | n + 1, v0, v2, v3, v4, σ =>
    if 60 ≤ v4 then
      some (v2, σ)
    else
      (f_x_runFrom N v0 v4 σ).bind fun q1 =>
      if q1.1 ≤ v3 then
        f_x_longestRun_L8 N n v0 v2 v3 (v4 + (q1.1 + 1)) q1.2
      else
        f_x_longestRun_L8 N n v0 v4 q1.1 (v4 + (q1.1 + 1)) q1.2
def f_x_longestRun (N : Nat) (v0 : Int64) (σ : Sg) : Option (Int32 × Sg) :=
  f_x_longestRun_L8 N N v0 (-2) 0 0 σ
set_option maxRecDepth 100000 in
theorem s_x_longestRun_L8 {y : EX} {N : Nat} {x : CX} {P : Int32 × Sg → Prop} (hx : Cx 9 prog_1_method_87_code x) (hc : Cc y 6 2 x) (hr : Cr M_x_longestRun rvI P x) : ∀ (n : Nat) (v0 : Int64) (v2 : Int32) (v3 : Int32) (v4 : Int32) (σ : Sg), ok (f_x_longestRun_L8 N n v0 v2 v3 v4 σ) P → G x 8 [some (.long v0), none, some (.int v2), some (.int v3), some (.int v4), none] [] σ := by
  intro n
  induction n with
  | zero => intro v0 v2 v3 v4 σ h; exact ok_none h
  | succ n ih =>
    intro v0 v2 v3 v4 σ h
    rw [f_x_longestRun_L8] at h
    refine g_run hx [(.iload 4, 0, 0), (.bipush 60, 60, 0)] (pc' := 12) (lo' := [some (.long v0), none, some (.int v2), some (.int v3), some (.int v4), none]) (st' := [.int 60, .int v4]) (σ' := σ) (by decide +kernel) rfl rfl ?_
    refine g_ic_ge hx (off := 35) (tgt := 47) (by decide +kernel) (by decide) (fun c12 => ?_) (fun c12 => ?_)
    · have h := ok_t h c12
      refine g_run hx [(.iload_n 2, 0, 0)] (pc' := 48) (lo' := [some (.long v0), none, some (.int v2), some (.int v3), some (.int v4), none]) (st' := [.int v2]) (σ' := σ) (by decide +kernel) rfl rfl ?_
      exact g_iret hx hr rfl _ rfl (by decide +kernel) (ok_some h)
    · have h := ok_f h c12
      refine g_run hx [(.lload_n 0, 0, 0), (.iload 4, 0, 0)] (pc' := 18) (lo' := [some (.long v0), none, some (.int v2), some (.int v3), some (.int v4), none]) (st' := [.int v4, .long v0]) (σ' := σ) (by decide +kernel) rfl rfl ?_
      refine g_callS (rest := []) [.long v0, .int v4] hx hc mk_x_runFrom ln_9_179 (by decide +kernel) (by decide) (Nat.le_of_ble_eq_true rfl) (s_x_runFrom (ok_b h)) (fun r1 s1 h => ?_)
      refine g_run hx [(.istore 5, 0, 0), (.iload 5, 0, 0), (.iload_n 3, 0, 0)] (pc' := 26) (lo' := [some (.long v0), none, some (.int v2), some (.int v3), some (.int v4), some (.int r1)]) (st' := [.int v3, .int r1]) (σ' := s1) (by decide +kernel) rfl rfl ?_
      refine g_ic_le hx (off := 9) (tgt := 35) (by decide +kernel) (by decide) (fun c26 => ?_) (fun c26 => ?_)
      · have h := ok_t h c26
        refine g_run hx [(.iload 4, 0, 0), (.iload 5, 0, 0), (.iconst 1, 1, 0), (.iadd, 0, 0), (.iadd, 0, 0), (.istore 4, 0, 0)] (pc' := 44) (lo' := [some (.long v0), none, some (.int v2), some (.int v3), some (.int (v4 + (r1 + 1))), some (.int r1)]) (st' := []) (σ' := s1) (by decide +kernel) rfl rfl ?_
        refine g_goto hx (off := (-36)) (tgt := 8) (by decide +kernel) (by decide) ?_
        refine g_wk (lo' := [some (.long v0), none, some (.int v2), some (.int v3), some (.int (v4 + (r1 + 1))), none]) ⟨rfl, ⟨rfl, ⟨rfl, ⟨rfl, trivial⟩⟩⟩⟩ ?_
        exact ih _ _ _ _ _ h
      · have h := ok_f h c26
        refine g_run hx [(.iload 5, 0, 0), (.istore_n 3, 0, 0), (.iload 4, 0, 0), (.istore_n 2, 0, 0), (.iload 4, 0, 0), (.iload 5, 0, 0), (.iconst 1, 1, 0), (.iadd, 0, 0), (.iadd, 0, 0), (.istore 4, 0, 0)] (pc' := 44) (lo' := [some (.long v0), none, some (.int v4), some (.int r1), some (.int (v4 + (r1 + 1))), some (.int r1)]) (st' := []) (σ' := s1) (by decide +kernel) rfl rfl ?_
        refine g_goto hx (off := (-36)) (tgt := 8) (by decide +kernel) (by decide) ?_
        refine g_wk (lo' := [some (.long v0), none, some (.int v4), some (.int r1), some (.int (v4 + (r1 + 1))), none]) ⟨rfl, ⟨rfl, ⟨rfl, ⟨rfl, trivial⟩⟩⟩⟩ ?_
        exact ih _ _ _ _ _ h
set_option maxRecDepth 100000 in
theorem s_x_longestRun {y : EX} {N : Nat} {v0 : Int64} {σ : Sg} {P : Int32 × Sg → Prop} (h : ok (f_x_longestRun N v0 σ) P) : Ev y M_x_longestRun 2 [.long v0] σ rvI P := by
  refine Ev.of mk_x_longestRun (Nat.le_of_ble_eq_true rfl) (fun x hx hc hr => ?_)
  have hx : Cx 9 prog_1_method_87_code x := hx
  have hc : Cc y 6 2 x := hc
  show G x 0 [some (.long v0), none, none, none, none, none] [] σ
  unfold f_x_longestRun at h
  refine g_run hx [(.bipush (-2), (-2), 0), (.istore_n 2, 0, 0), (.iconst 0, 0, 0), (.istore_n 3, 0, 0), (.iconst 0, 0, 0), (.istore 4, 0, 0)] (pc' := 8) (lo' := [some (.long v0), none, some (.int (-2)), some (.int 0), some (.int 0), none]) (st' := []) (σ' := σ) (by decide +kernel) rfl rfl ?_
  refine s_x_longestRun_L8 hx hc hr N _ _ _ _ _ h
def f_x_longest (N : Nat) (σ : Sg) : Option (Int32 × Sg) :=
  (f_x_landTrouble N σ).bind fun q1 =>
  (f_x_granted N q1.1 q1.2).bind fun q2 =>
  if q2.1 = true then
    (f_country_allCells N q2.2).bind fun q3 =>
    (f_state_goneCells N 40 q3.2).bind fun q4 =>
    (f_x_longestRun N (q3.1 &&& (q4.1 ^^^ (-1))) q4.2).bind fun q5 =>
    some (q5.1, q5.2)
  else
    some ((-1), q2.2)
set_option maxRecDepth 100000 in
theorem s_x_longest {y : EX} {N : Nat} {σ : Sg} {P : Int32 × Sg → Prop} (h : ok (f_x_longest N σ) P) : Ev y M_x_longest 3 [.ref 0] σ rvI P := by
  refine Ev.of mk_x_longest (Nat.le_of_ble_eq_true rfl) (fun x hx hc hr => ?_)
  have hx : Cx 9 prog_1_method_14_code x := hx
  have hc : Cc y 1 3 x := hc
  show G x 0 [some (.ref 0)] [] σ
  unfold f_x_longest at h
  refine g_run hx [(.aload_n 0, 0, 0), (.aload_n 0, 0, 0)] (pc' := 2) (lo' := [some (.ref 0)]) (st' := [.ref 0, .ref 0]) (σ' := σ) (by decide +kernel) rfl rfl ?_
  refine g_callV (rest := [.ref 0]) [] hx hc mk_x_landTrouble ln_9_158 rfl (by decide +kernel) (by decide) (Nat.le_of_ble_eq_true rfl) (s_x_landTrouble (ok_b h)) (fun r1 s1 h => ?_)
  refine g_callV (rest := []) [.int r1] hx hc mk_x_granted ln_9_83 rfl (by decide +kernel) (by decide) (Nat.le_of_ble_eq_true rfl) (s_x_granted (ok_b h)) (fun r2 s2 h => ?_)
  refine g_ifb_eq hx (off := 28) (tgt := 36) (by decide +kernel) (by decide) (fun c8 => ?_) (fun c8 => ?_)
  · have h := ok_f h c8
    refine g_run hx [(.iconst (-1), (-1), 0)] (pc' := 37) (lo' := [some (.ref 0)]) (st' := [.int (-1)]) (σ' := s2) (by decide +kernel) rfl rfl ?_
    exact g_iret hx hr rfl _ rfl (by decide +kernel) (ok_some h)
  · have h := ok_t h c8
    refine g_run hx [(.aload_n 0, 0, 0), (.getfield 19, 0, 0)] (pc' := 15) (lo' := [some (.ref 0)]) (st' := [.ref 10]) (σ' := s2) (by decide +kernel) rfl rfl ?_
    refine g_callV (rest := []) [] hx hc mk_country_allCells ln_9_171 rfl (by decide +kernel) (by decide) (Nat.le_of_ble_eq_true rfl) (s_country_allCells (ok_b h)) (fun r3 s3 h => ?_)
    refine g_run hx [(.aload_n 0, 0, 0), (.getfield 26, 0, 0)] (pc' := 22) (lo' := [some (.ref 0)]) (st' := [.ref 40, .long r3]) (σ' := s3) (by decide +kernel) rfl rfl ?_
    refine g_callV (rest := [.long r3]) [] hx hc mk_state_goneCells ln_9_144 rfl (by decide +kernel) (by decide) (Nat.le_of_ble_eq_true rfl) (s_state_goneCells_40 (ok_b h)) (fun r4 s4 h => ?_)
    refine g_run hx [(.ldc2_w 174, 0, (-1)), (.lxor, 0, 0), (.land, 0, 0)] (pc' := 30) (lo' := [some (.ref 0)]) (st' := [.long (r3 &&& (r4 ^^^ (-1)))]) (σ' := s4) (by decide +kernel) rfl rfl ?_
    refine g_callS (rest := []) [.long (r3 &&& (r4 ^^^ (-1)))] hx hc mk_x_longestRun ln_9_176 (by decide +kernel) (by decide) (Nat.le_of_ble_eq_true rfl) (s_x_longestRun (ok_b h)) (fun r5 s5 h => ?_)
    refine g_goto hx (off := 4) (tgt := 37) (by decide +kernel) (by decide) ?_
    exact g_iret hx hr rfl _ rfl (by decide +kernel) (ok_some h)
def f_x_lost (N : Nat) (σ : Sg) : Option (Int32 × Sg) :=
  (f_x_landTrouble N σ).bind fun q1 =>
  (f_x_granted N q1.1 q1.2).bind fun q2 =>
  if q2.1 = true then
    (f_state_goneCells N 40 q2.2).bind fun q3 =>
    (f_country_lostFolk N q3.1 q3.2).bind fun q4 =>
    some (q4.1, q4.2)
  else
    some ((-1), q2.2)
set_option maxRecDepth 100000 in
theorem s_x_lost {y : EX} {N : Nat} {σ : Sg} {P : Int32 × Sg → Prop} (h : ok (f_x_lost N σ) P) : Ev y M_x_lost 3 [.ref 0] σ rvI P := by
  refine Ev.of mk_x_lost (Nat.le_of_ble_eq_true rfl) (fun x hx hc hr => ?_)
  have hx : Cx 9 prog_1_method_12_code x := hx
  have hc : Cc y 1 3 x := hc
  show G x 0 [some (.ref 0)] [] σ
  unfold f_x_lost at h
  refine g_run hx [(.aload_n 0, 0, 0), (.aload_n 0, 0, 0)] (pc' := 2) (lo' := [some (.ref 0)]) (st' := [.ref 0, .ref 0]) (σ' := σ) (by decide +kernel) rfl rfl ?_
  refine g_callV (rest := [.ref 0]) [] hx hc mk_x_landTrouble ln_9_158 rfl (by decide +kernel) (by decide) (Nat.le_of_ble_eq_true rfl) (s_x_landTrouble (ok_b h)) (fun r1 s1 h => ?_)
  refine g_callV (rest := []) [.int r1] hx hc mk_x_granted ln_9_83 rfl (by decide +kernel) (by decide) (Nat.le_of_ble_eq_true rfl) (s_x_granted (ok_b h)) (fun r2 s2 h => ?_)
  refine g_ifb_eq hx (off := 20) (tgt := 28) (by decide +kernel) (by decide) (fun c8 => ?_) (fun c8 => ?_)
  · have h := ok_f h c8
    refine g_run hx [(.iconst (-1), (-1), 0)] (pc' := 29) (lo' := [some (.ref 0)]) (st' := [.int (-1)]) (σ' := s2) (by decide +kernel) rfl rfl ?_
    exact g_iret hx hr rfl _ rfl (by decide +kernel) (ok_some h)
  · have h := ok_t h c8
    refine g_run hx [(.aload_n 0, 0, 0), (.getfield 19, 0, 0), (.aload_n 0, 0, 0), (.getfield 26, 0, 0)] (pc' := 19) (lo' := [some (.ref 0)]) (st' := [.ref 40, .ref 10]) (σ' := s2) (by decide +kernel) rfl rfl ?_
    refine g_callV (rest := [.ref 10]) [] hx hc mk_state_goneCells ln_9_144 rfl (by decide +kernel) (by decide) (Nat.le_of_ble_eq_true rfl) (s_state_goneCells_40 (ok_b h)) (fun r3 s3 h => ?_)
    refine g_callV (rest := []) [.long r3] hx hc mk_country_lostFolk ln_9_168 rfl (by decide +kernel) (by decide) (Nat.le_of_ble_eq_true rfl) (s_country_lostFolk (ok_b h)) (fun r4 s4 h => ?_)
    refine g_goto hx (off := 4) (tgt := 29) (by decide +kernel) (by decide) ?_
    exact g_iret hx hr rfl _ rfl (by decide +kernel) (ok_some h)
def f_x_lostIn (N : Nat) (v1 : Int32) (σ : Sg) : Option (Int32 × Sg) :=
  (f_x_numberTrouble N v1 60 σ).bind fun q1 =>
  (f_x_granted N q1.1 q1.2).bind fun q2 =>
  if q2.1 = true then
    (f_x_goneBehind N v1 q2.2).bind fun q3 =>
    (f_country_lostFolk N q3.1 q3.2).bind fun q4 =>
    some (q4.1, q4.2)
  else
    some ((-1), q2.2)
set_option maxRecDepth 100000 in
theorem s_x_lostIn {y : EX} {N : Nat} {v1 : Int32} {σ : Sg} {P : Int32 × Sg → Prop} (h : ok (f_x_lostIn N v1 σ) P) : Ev y M_x_lostIn 5 [.ref 0, .int v1] σ rvI P := by
  refine Ev.of mk_x_lostIn (Nat.le_of_ble_eq_true rfl) (fun x hx hc hr => ?_)
  have hx : Cx 9 prog_1_method_20_code x := hx
  have hc : Cc y 2 5 x := hc
  show G x 0 [some (.ref 0), some (.int v1)] [] σ
  unfold f_x_lostIn at h
  refine g_run hx [(.aload_n 0, 0, 0), (.aload_n 0, 0, 0), (.iload_n 1, 0, 0), (.bipush 60, 60, 0)] (pc' := 5) (lo' := [some (.ref 0), some (.int v1)]) (st' := [.int 60, .int v1, .ref 0, .ref 0]) (σ' := σ) (by decide +kernel) rfl rfl ?_
  refine g_callV (rest := [.ref 0]) [.int v1, .int 60] hx hc mk_x_numberTrouble ln_9_197 rfl (by decide +kernel) (by decide) (Nat.le_of_ble_eq_true rfl) (s_x_numberTrouble (ok_b h)) (fun r1 s1 h => ?_)
  refine g_callV (rest := []) [.int r1] hx hc mk_x_granted ln_9_83 rfl (by decide +kernel) (by decide) (Nat.le_of_ble_eq_true rfl) (s_x_granted (ok_b h)) (fun r2 s2 h => ?_)
  refine g_ifb_ne hx (off := 5) (tgt := 16) (by decide +kernel) (by decide) (fun c11 => ?_) (fun c11 => ?_)
  · have h := ok_t h c11
    refine g_run hx [(.aload_n 0, 0, 0), (.getfield 19, 0, 0), (.aload_n 0, 0, 0), (.iload_n 1, 0, 0)] (pc' := 22) (lo' := [some (.ref 0), some (.int v1)]) (st' := [.int v1, .ref 0, .ref 10]) (σ' := s2) (by decide +kernel) rfl rfl ?_
    refine g_callV (rest := [.ref 10]) [.int v1] hx hc mk_x_goneBehind ln_9_200 rfl (by decide +kernel) (by decide) (Nat.le_of_ble_eq_true rfl) (s_x_goneBehind (ok_b h)) (fun r3 s3 h => ?_)
    refine g_callV (rest := []) [.long r3] hx hc mk_country_lostFolk ln_9_168 rfl (by decide +kernel) (by decide) (Nat.le_of_ble_eq_true rfl) (s_country_lostFolk (ok_b h)) (fun r4 s4 h => ?_)
    exact g_iret hx hr rfl _ rfl (by decide +kernel) (ok_some h)
  · have h := ok_f h c11
    refine g_run hx [(.iconst (-1), (-1), 0)] (pc' := 15) (lo' := [some (.ref 0), some (.int v1)]) (st' := [.int (-1)]) (σ' := s2) (by decide +kernel) rfl rfl ?_
    exact g_iret hx hr rfl _ rfl (by decide +kernel) (ok_some h)
def f_chances_goOn_B (N : Nat) (rec : Int32 → Int64 → Int32 → Int64 → Sg → Option (Unit × Sg)) (v2 : Int32) (v3 : Int64) (v5 : Int32) (v6 : Int64) (σ : Sg) : Option (Unit × Sg) :=
  if (gI σ 65 4) ≤ v2 then
    if v5 = (gI σ 65 5) then
      (f_country_lostFolk N v3 (sL σ 65 0 ((gL σ 65 0) + v6))).bind fun q2 =>
      some ((), sL q2.2 65 1 ((gL (sL σ 65 0 ((gL σ 65 0) + v6)) 65 1) + (v6 * (Int32.toInt64 q2.1))))
    else
      (f_country_lostFolk N v3 (sL σ 65 0 ((gL σ 65 0) + 0))).bind fun q1 =>
      some ((), sL q1.2 65 1 ((gL (sL σ 65 0 ((gL σ 65 0) + 0)) 65 1) + (v6 * (Int32.toInt64 q1.1))))
  else
    if v2 < 5 then
      (f_x_digitOf N (gI σ 65 3) (gI σ 65 4) v2 σ).bind fun q3 =>
      (f_country_target N 11 3 12 10 v3 v5 q3.1 q3.2).bind fun q4 =>
      if q4.1 = (-2) then
        (rec (v2 + 1) v3 v5 (v6 * 100) q4.2).bind fun q8 =>
        some ((), q8.2)
      else
        (rec (v2 + 1) v3 v5 (v6 * (Int32.toInt64 (gI q4.2 10 1))) q4.2).bind fun q5 =>
        (f_x_inside N v5 q4.1 q5.2).bind fun q6 =>
        (rec (v2 + 1) (v3 ||| q6.1) q4.1 (v6 * (Int32.toInt64 (100 - (gI q6.2 10 1)))) q6.2).bind fun q7 =>
        some ((), q7.2)
    else
      if v5 = (gI σ 65 5) then
        (f_country_lostFolk N v3 (sL σ 65 0 ((gL σ 65 0) + v6))).bind fun q10 =>
        some ((), sL q10.2 65 1 ((gL (sL σ 65 0 ((gL σ 65 0) + v6)) 65 1) + (v6 * (Int32.toInt64 q10.1))))
      else
        (f_country_lostFolk N v3 (sL σ 65 0 ((gL σ 65 0) + 0))).bind fun q9 =>
        some ((), sL q9.2 65 1 ((gL (sL σ 65 0 ((gL σ 65 0) + 0)) 65 1) + (v6 * (Int32.toInt64 q9.1))))
def f_chances_goOn (N : Nat) : Nat → Int32 → Int64 → Int32 → Int64 → Sg → Option (Unit × Sg)
  | 0, _, _, _, _, _ => none
  | D + 1, v2, v3, v5, v6, σ => f_chances_goOn_B N (f_chances_goOn N D) v2 v3 v5 v6 σ
set_option maxRecDepth 100000 in
theorem s_chances_goOn_B {y : EX} {N D : Nat} {v2 : Int32} {v3 : Int64} {v5 : Int32} {v6 : Int64} {rec : Int32 → Int64 → Int32 → Int64 → Sg → Option (Unit × Sg)} (hrec : ∀ (v2 : Int32) (v3 : Int64) (v5 : Int32) (v6 : Int64) (σ : Sg) (P : Unit × Sg → Prop), ok (rec v2 v3 v5 v6 σ) P → Ev y M_chances_goOn (D + 3) [.ref 65, .ref 10, .int v2, .long v3, .int v5, .long v6] σ rvN P) {σ : Sg} {P : Unit × Sg → Prop} (h : ok (f_chances_goOn_B N rec v2 v3 v5 v6 σ) P) : Ev y M_chances_goOn (D + 1 + 3) [.ref 65, .ref 10, .int v2, .long v3, .int v5, .long v6] σ rvN P := by
  refine Ev.of mk_chances_goOn (Nat.le_of_ble_eq_true rfl) (fun x hx hc hr => ?_)
  have hx : Cx 0 prog_2_method_3_code x := hx
  have hc : Cc y 9 (D + 1 + 3) x := hc
  show G x 0 [some (.ref 65), some (.ref 10), some (.int v2), some (.long v3), none, some (.int v5), some (.long v6), none, none] [] σ
  unfold f_chances_goOn_B at h
  refine g_run hx [(.iload_n 2, 0, 0), (.aload_n 0, 0, 0), (.getfield 25, 0, 0)] (pc' := 5) (lo' := [some (.ref 65), some (.ref 10), some (.int v2), some (.long v3), none, some (.int v5), some (.long v6), none, none]) (st' := [.int (gI σ 65 4), .int v2]) (σ' := σ) (by decide +kernel) rfl rfl ?_
  refine g_ic_ge hx (off := 8) (tgt := 13) (by decide +kernel) (by decide) (fun c5 => ?_) (fun c5 => ?_)
  · have h := ok_t h c5
    refine g_run hx [(.aload_n 0, 0, 0), (.dup, 0, 0), (.getfield 9, 0, 0), (.iload 5, 0, 0), (.aload_n 0, 0, 0), (.getfield 28, 0, 0)] (pc' := 24) (lo' := [some (.ref 65), some (.ref 10), some (.int v2), some (.long v3), none, some (.int v5), some (.long v6), none, none]) (st' := [.int (gI σ 65 5), .int v5, .long (gL σ 65 0), .ref 65]) (σ' := σ) (by decide +kernel) rfl rfl ?_
    refine g_ic_ne hx (off := 8) (tgt := 32) (by decide +kernel) (by decide) (fun c24 => ?_) (fun c24 => ?_)
    · have h := ok_f h c24
      refine g_run hx [(.lconst 0, 0, 0), (.ladd, 0, 0), (.putfield 9, 0, 0), (.aload_n 0, 0, 0), (.dup, 0, 0), (.getfield 15, 0, 0), (.lload 6, 0, 0), (.aload_n 1, 0, 0), (.lload_n 3, 0, 0)] (pc' := 46) (lo' := [some (.ref 65), some (.ref 10), some (.int v2), some (.long v3), none, some (.int v5), some (.long v6), none, none]) (st' := [.long v3, .ref 10, .long v6, .long (gL (sL σ 65 0 ((gL σ 65 0) + 0)) 65 1), .ref 65]) (σ' := sL σ 65 0 ((gL σ 65 0) + 0)) (by decide +kernel) rfl rfl ?_
      refine g_callV (rest := [.long v6, .long (gL (sL σ 65 0 ((gL σ 65 0) + 0)) 65 1), .ref 65]) [.long v3] hx hc mk_country_lostFolk ln_0_46 rfl (by decide +kernel) (by omega) (Nat.le_of_ble_eq_true rfl) (s_country_lostFolk (ok_b h)) (fun r1 s1 h => ?_)
      refine g_run hx [(.i2l, 0, 0), (.lmul, 0, 0), (.ladd, 0, 0), (.putfield 15, 0, 0)] (pc' := 55) (lo' := [some (.ref 65), some (.ref 10), some (.int v2), some (.long v3), none, some (.int v5), some (.long v6), none, none]) (st' := []) (σ' := sL s1 65 1 ((gL (sL σ 65 0 ((gL σ 65 0) + 0)) 65 1) + (v6 * (Int32.toInt64 r1)))) (by decide +kernel) rfl rfl ?_
      exact g_vret hx hr rfl () rfl (by decide +kernel) (ok_some h)
    · have h := ok_t h c24
      refine g_run hx [(.lload 6, 0, 0)] (pc' := 29) (lo' := [some (.ref 65), some (.ref 10), some (.int v2), some (.long v3), none, some (.int v5), some (.long v6), none, none]) (st' := [.long v6, .long (gL σ 65 0), .ref 65]) (σ' := σ) (by decide +kernel) rfl rfl ?_
      refine g_goto hx (off := 4) (tgt := 33) (by decide +kernel) (by decide) ?_
      refine g_run hx [(.ladd, 0, 0), (.putfield 9, 0, 0), (.aload_n 0, 0, 0), (.dup, 0, 0), (.getfield 15, 0, 0), (.lload 6, 0, 0), (.aload_n 1, 0, 0), (.lload_n 3, 0, 0)] (pc' := 46) (lo' := [some (.ref 65), some (.ref 10), some (.int v2), some (.long v3), none, some (.int v5), some (.long v6), none, none]) (st' := [.long v3, .ref 10, .long v6, .long (gL (sL σ 65 0 ((gL σ 65 0) + v6)) 65 1), .ref 65]) (σ' := sL σ 65 0 ((gL σ 65 0) + v6)) (by decide +kernel) rfl rfl ?_
      refine g_callV (rest := [.long v6, .long (gL (sL σ 65 0 ((gL σ 65 0) + v6)) 65 1), .ref 65]) [.long v3] hx hc mk_country_lostFolk ln_0_46 rfl (by decide +kernel) (by omega) (Nat.le_of_ble_eq_true rfl) (s_country_lostFolk (ok_b h)) (fun r2 s2 h => ?_)
      refine g_run hx [(.i2l, 0, 0), (.lmul, 0, 0), (.ladd, 0, 0), (.putfield 15, 0, 0)] (pc' := 55) (lo' := [some (.ref 65), some (.ref 10), some (.int v2), some (.long v3), none, some (.int v5), some (.long v6), none, none]) (st' := []) (σ' := sL s2 65 1 ((gL (sL σ 65 0 ((gL σ 65 0) + v6)) 65 1) + (v6 * (Int32.toInt64 r2)))) (by decide +kernel) rfl rfl ?_
      exact g_vret hx hr rfl () rfl (by decide +kernel) (ok_some h)
  · have h := ok_f h c5
    refine g_run hx [(.iload_n 2, 0, 0), (.iconst 5, 5, 0)] (pc' := 10) (lo' := [some (.ref 65), some (.ref 10), some (.int v2), some (.long v3), none, some (.int v5), some (.long v6), none, none]) (st' := [.int 5, .int v2]) (σ' := σ) (by decide +kernel) rfl rfl ?_
    refine g_ic_lt hx (off := 46) (tgt := 56) (by decide +kernel) (by decide) (fun c10 => ?_) (fun c10 => ?_)
    · have h := ok_t h c10
      refine g_run hx [(.aload_n 1, 0, 0), (.lload_n 3, 0, 0), (.iload 5, 0, 0), (.aload_n 0, 0, 0), (.getfield 21, 0, 0), (.aload_n 0, 0, 0), (.getfield 25, 0, 0), (.iload_n 2, 0, 0)] (pc' := 69) (lo' := [some (.ref 65), some (.ref 10), some (.int v2), some (.long v3), none, some (.int v5), some (.long v6), none, none]) (st' := [.int v2, .int (gI σ 65 4), .int (gI σ 65 3), .int v5, .long v3, .ref 10]) (σ' := σ) (by decide +kernel) rfl rfl ?_
      refine g_callN (rest := [.int v5, .long v3, .ref 10]) [.int (gI σ 65 3), .int (gI σ 65 4), .int v2] hx hc mk_x_digitOf ln_0_52 (by decide +kernel) (by omega) (Nat.le_of_ble_eq_true rfl) (s_x_digitOf (ok_b h)) (fun r3 s3 h => ?_)
      refine g_callV (rest := []) [.long v3, .int v5, .int r3] hx hc mk_country_target ln_0_56 rfl (by decide +kernel) (by omega) (Nat.le_of_ble_eq_true rfl) (s_country_target_10 (ok_b h)) (fun r4 s4 h => ?_)
      refine g_run hx [(.istore 8, 0, 0), (.iload 8, 0, 0), (.bipush (-2), (-2), 0)] (pc' := 81) (lo' := [some (.ref 65), some (.ref 10), some (.int v2), some (.long v3), none, some (.int v5), some (.long v6), none, some (.int r4)]) (st' := [.int (-2), .int r4]) (σ' := s4) (by decide +kernel) rfl rfl ?_
      refine g_ic_ne hx (off := 21) (tgt := 102) (by decide +kernel) (by decide) (fun c81 => ?_) (fun c81 => ?_)
      · have h := ok_f h c81
        refine g_run hx [(.aload_n 0, 0, 0), (.aload_n 1, 0, 0), (.iload_n 2, 0, 0), (.iconst 1, 1, 0), (.iadd, 0, 0), (.lload_n 3, 0, 0), (.iload 5, 0, 0), (.lload 6, 0, 0), (.aload_n 1, 0, 0), (.getfield 60, 0, 0), (.i2l, 0, 0), (.lmul, 0, 0)] (pc' := 118) (lo' := [some (.ref 65), some (.ref 10), some (.int v2), some (.long v3), none, some (.int v5), some (.long v6), none, some (.int r4)]) (st' := [.long (v6 * (Int32.toInt64 (gI s4 10 1))), .int v5, .long v3, .int (v2 + 1), .ref 10, .ref 65]) (σ' := s4) (by decide +kernel) rfl rfl ?_
        refine g_callV (rest := []) [.ref 10, .int (v2 + 1), .long v3, .int v5, .long (v6 * (Int32.toInt64 (gI s4 10 1)))] hx hc mk_chances_goOn ln_0_42 rfl (by decide +kernel) (by omega) (Nat.le_of_ble_eq_true rfl) (hrec _ _ _ _ _ _ (ok_b h)) (fun r5 s5 h => ?_)
        refine g_run hx [(.aload_n 0, 0, 0), (.aload_n 1, 0, 0), (.iload_n 2, 0, 0), (.iconst 1, 1, 0), (.iadd, 0, 0), (.lload_n 3, 0, 0), (.iload 5, 0, 0), (.iload 8, 0, 0)] (pc' := 131) (lo' := [some (.ref 65), some (.ref 10), some (.int v2), some (.long v3), none, some (.int v5), some (.long v6), none, some (.int r4)]) (st' := [.int r4, .int v5, .long v3, .int (v2 + 1), .ref 10, .ref 65]) (σ' := s5) (by decide +kernel) rfl rfl ?_
        refine g_callN (rest := [.long v3, .int (v2 + 1), .ref 10, .ref 65]) [.int v5, .int r4] hx hc mk_x_inside ln_0_63 (by decide +kernel) (by omega) (Nat.le_of_ble_eq_true rfl) (s_x_inside (ok_b h)) (fun r6 s6 h => ?_)
        refine g_run hx [(.lor, 0, 0), (.iload 8, 0, 0), (.lload 6, 0, 0), (.bipush 100, 100, 0), (.aload_n 1, 0, 0), (.getfield 60, 0, 0), (.isub, 0, 0), (.i2l, 0, 0), (.lmul, 0, 0)] (pc' := 148) (lo' := [some (.ref 65), some (.ref 10), some (.int v2), some (.long v3), none, some (.int v5), some (.long v6), none, some (.int r4)]) (st' := [.long (v6 * (Int32.toInt64 (100 - (gI s6 10 1)))), .int r4, .long (v3 ||| r6), .int (v2 + 1), .ref 10, .ref 65]) (σ' := s6) (by decide +kernel) rfl rfl ?_
        refine g_callV (rest := []) [.ref 10, .int (v2 + 1), .long (v3 ||| r6), .int r4, .long (v6 * (Int32.toInt64 (100 - (gI s6 10 1))))] hx hc mk_chances_goOn ln_0_42 rfl (by decide +kernel) (by omega) (Nat.le_of_ble_eq_true rfl) (hrec _ _ _ _ _ _ (ok_b h)) (fun r7 s7 h => ?_)
        exact g_vret hx hr rfl () rfl (by decide +kernel) (ok_some h)
      · have h := ok_t h c81
        refine g_run hx [(.aload_n 0, 0, 0), (.aload_n 1, 0, 0), (.iload_n 2, 0, 0), (.iconst 1, 1, 0), (.iadd, 0, 0), (.lload_n 3, 0, 0), (.iload 5, 0, 0), (.lload 6, 0, 0), (.ldc2_w 31, 0, 100), (.lmul, 0, 0)] (pc' := 98) (lo' := [some (.ref 65), some (.ref 10), some (.int v2), some (.long v3), none, some (.int v5), some (.long v6), none, some (.int r4)]) (st' := [.long (v6 * 100), .int v5, .long v3, .int (v2 + 1), .ref 10, .ref 65]) (σ' := s4) (by decide +kernel) rfl rfl ?_
        refine g_callV (rest := []) [.ref 10, .int (v2 + 1), .long v3, .int v5, .long (v6 * 100)] hx hc mk_chances_goOn ln_0_42 rfl (by decide +kernel) (by omega) (Nat.le_of_ble_eq_true rfl) (hrec _ _ _ _ _ _ (ok_b h)) (fun r8 s8 h => ?_)
        exact g_vret hx hr rfl () rfl (by decide +kernel) (ok_some h)
    · have h := ok_f h c10
      refine g_run hx [(.aload_n 0, 0, 0), (.dup, 0, 0), (.getfield 9, 0, 0), (.iload 5, 0, 0), (.aload_n 0, 0, 0), (.getfield 28, 0, 0)] (pc' := 24) (lo' := [some (.ref 65), some (.ref 10), some (.int v2), some (.long v3), none, some (.int v5), some (.long v6), none, none]) (st' := [.int (gI σ 65 5), .int v5, .long (gL σ 65 0), .ref 65]) (σ' := σ) (by decide +kernel) rfl rfl ?_
      refine g_ic_ne hx (off := 8) (tgt := 32) (by decide +kernel) (by decide) (fun c24 => ?_) (fun c24 => ?_)
      · have h := ok_f h c24
        refine g_run hx [(.lconst 0, 0, 0), (.ladd, 0, 0), (.putfield 9, 0, 0), (.aload_n 0, 0, 0), (.dup, 0, 0), (.getfield 15, 0, 0), (.lload 6, 0, 0), (.aload_n 1, 0, 0), (.lload_n 3, 0, 0)] (pc' := 46) (lo' := [some (.ref 65), some (.ref 10), some (.int v2), some (.long v3), none, some (.int v5), some (.long v6), none, none]) (st' := [.long v3, .ref 10, .long v6, .long (gL (sL σ 65 0 ((gL σ 65 0) + 0)) 65 1), .ref 65]) (σ' := sL σ 65 0 ((gL σ 65 0) + 0)) (by decide +kernel) rfl rfl ?_
        refine g_callV (rest := [.long v6, .long (gL (sL σ 65 0 ((gL σ 65 0) + 0)) 65 1), .ref 65]) [.long v3] hx hc mk_country_lostFolk ln_0_46 rfl (by decide +kernel) (by omega) (Nat.le_of_ble_eq_true rfl) (s_country_lostFolk (ok_b h)) (fun r9 s9 h => ?_)
        refine g_run hx [(.i2l, 0, 0), (.lmul, 0, 0), (.ladd, 0, 0), (.putfield 15, 0, 0)] (pc' := 55) (lo' := [some (.ref 65), some (.ref 10), some (.int v2), some (.long v3), none, some (.int v5), some (.long v6), none, none]) (st' := []) (σ' := sL s9 65 1 ((gL (sL σ 65 0 ((gL σ 65 0) + 0)) 65 1) + (v6 * (Int32.toInt64 r9)))) (by decide +kernel) rfl rfl ?_
        exact g_vret hx hr rfl () rfl (by decide +kernel) (ok_some h)
      · have h := ok_t h c24
        refine g_run hx [(.lload 6, 0, 0)] (pc' := 29) (lo' := [some (.ref 65), some (.ref 10), some (.int v2), some (.long v3), none, some (.int v5), some (.long v6), none, none]) (st' := [.long v6, .long (gL σ 65 0), .ref 65]) (σ' := σ) (by decide +kernel) rfl rfl ?_
        refine g_goto hx (off := 4) (tgt := 33) (by decide +kernel) (by decide) ?_
        refine g_run hx [(.ladd, 0, 0), (.putfield 9, 0, 0), (.aload_n 0, 0, 0), (.dup, 0, 0), (.getfield 15, 0, 0), (.lload 6, 0, 0), (.aload_n 1, 0, 0), (.lload_n 3, 0, 0)] (pc' := 46) (lo' := [some (.ref 65), some (.ref 10), some (.int v2), some (.long v3), none, some (.int v5), some (.long v6), none, none]) (st' := [.long v3, .ref 10, .long v6, .long (gL (sL σ 65 0 ((gL σ 65 0) + v6)) 65 1), .ref 65]) (σ' := sL σ 65 0 ((gL σ 65 0) + v6)) (by decide +kernel) rfl rfl ?_
        refine g_callV (rest := [.long v6, .long (gL (sL σ 65 0 ((gL σ 65 0) + v6)) 65 1), .ref 65]) [.long v3] hx hc mk_country_lostFolk ln_0_46 rfl (by decide +kernel) (by omega) (Nat.le_of_ble_eq_true rfl) (s_country_lostFolk (ok_b h)) (fun r10 s10 h => ?_)
        refine g_run hx [(.i2l, 0, 0), (.lmul, 0, 0), (.ladd, 0, 0), (.putfield 15, 0, 0)] (pc' := 55) (lo' := [some (.ref 65), some (.ref 10), some (.int v2), some (.long v3), none, some (.int v5), some (.long v6), none, none]) (st' := []) (σ' := sL s10 65 1 ((gL (sL σ 65 0 ((gL σ 65 0) + v6)) 65 1) + (v6 * (Int32.toInt64 r10)))) (by decide +kernel) rfl rfl ?_
        exact g_vret hx hr rfl () rfl (by decide +kernel) (ok_some h)
theorem s_chances_goOn {y : EX} {N : Nat} : ∀ (D : Nat) (v2 : Int32) (v3 : Int64) (v5 : Int32) (v6 : Int64) (σ : Sg) (P : Unit × Sg → Prop), ok (f_chances_goOn N D v2 v3 v5 v6 σ) P → Ev y M_chances_goOn (D + 3) [.ref 65, .ref 10, .int v2, .long v3, .int v5, .long v6] σ rvN P := by
  intro D
  induction D with
  | zero => intro v2 v3 v5 v6 σ P h; exact ok_none h
  | succ D ih =>
    intro v2 v3 v5 v6 σ P h
    exact s_chances_goOn_B ih h
def f_chances_weigh_L35 (N : Nat) : Nat → Int32 → Int32 → Sg → Option (Unit × Sg)
  | 0, _, _, _ => none
  | n + 1, v4, v6, σ =>
    if v4 ≤ v6 then
      (f_state_goneCells N 40 σ).bind fun q1 =>
      (f_chances_goOn N 12 0 q1.1 (gI q1.2 40 2) 1 q1.2).bind fun q2 =>
      some ((), q2.2)
    else
      f_chances_weigh_L35 N n v4 (v6 + 1) (sL σ 65 2 ((gL σ 65 2) * 100))
def f_chances_weigh (N : Nat) (v3 : Int32) (v4 : Int32) (v5 : Int32) (σ : Sg) : Option (Unit × Sg) :=
  f_chances_weigh_L35 N N v4 0 (sL (sL (sL (sI (sI (sI σ 65 3 v3) 65 4 v4) 65 5 v5) 65 0 0) 65 1 0) 65 2 1)
set_option maxRecDepth 100000 in
theorem s_chances_weigh_L35 {y : EX} {N : Nat} {x : CX} {P : Unit × Sg → Prop} (hx : Cx 0 prog_2_method_2_code x) (hc : Cc y 7 16 x) (hr : Cr M_chances_weigh rvN P x) : ∀ (n : Nat) (v4 : Int32) (v6 : Int32) (σ : Sg), ok (f_chances_weigh_L35 N n v4 v6 σ) P → G x 35 [some (.ref 65), some (.ref 10), some (.ref 40), none, some (.int v4), none, some (.int v6)] [] σ := by
  intro n
  induction n with
  | zero => intro v4 v6 σ h; exact ok_none h
  | succ n ih =>
    intro v4 v6 σ h
    rw [f_chances_weigh_L35] at h
    refine g_run hx [(.iload 6, 0, 0), (.iload 4, 0, 0)] (pc' := 39) (lo' := [some (.ref 65), some (.ref 10), some (.ref 40), none, some (.int v4), none, some (.int v6)]) (st' := [.int v4, .int v6]) (σ' := σ) (by decide +kernel) rfl rfl ?_
    refine g_ic_ge hx (off := 21) (tgt := 60) (by decide +kernel) (by decide) (fun c39 => ?_) (fun c39 => ?_)
    · have h := ok_t h c39
      refine g_run hx [(.aload_n 0, 0, 0), (.aload_n 1, 0, 0), (.iconst 0, 0, 0), (.aload_n 2, 0, 0)] (pc' := 64) (lo' := [some (.ref 65), some (.ref 10), some (.ref 40), none, some (.int v4), none, some (.int v6)]) (st' := [.ref 40, .int 0, .ref 10, .ref 65]) (σ' := σ) (by decide +kernel) rfl rfl ?_
      refine g_callV (rest := [.int 0, .ref 10, .ref 65]) [] hx hc mk_state_goneCells ln_0_33 rfl (by decide +kernel) (by decide) (Nat.le_of_ble_eq_true rfl) (s_state_goneCells_40 (ok_b h)) (fun r1 s1 h => ?_)
      refine g_run hx [(.aload_n 2, 0, 0), (.getfield 39, 0, 0), (.lconst 1, 0, 1)] (pc' := 72) (lo' := [some (.ref 65), some (.ref 10), some (.ref 40), none, some (.int v4), none, some (.int v6)]) (st' := [.long 1, .int (gI s1 40 2), .long r1, .int 0, .ref 10, .ref 65]) (σ' := s1) (by decide +kernel) rfl rfl ?_
      refine g_callV (rest := []) [.ref 10, .int 0, .long r1, .int (gI s1 40 2), .long 1] hx hc mk_chances_goOn ln_0_42 rfl (by decide +kernel) (by decide) (Nat.le_of_ble_eq_true rfl) (s_chances_goOn 12 _ _ _ _ _ _ (ok_b h)) (fun r2 s2 h => ?_)
      exact g_vret hx hr rfl () rfl (by decide +kernel) (ok_some h)
    · have h := ok_f h c39
      refine g_run hx [(.aload_n 0, 0, 0), (.dup, 0, 0), (.getfield 18, 0, 0), (.ldc2_w 31, 0, 100), (.lmul, 0, 0), (.putfield 18, 0, 0), (.iinc 6 1, 1, 0)] (pc' := 57) (lo' := [some (.ref 65), some (.ref 10), some (.ref 40), none, some (.int v4), none, some (.int (v6 + 1))]) (st' := []) (σ' := sL σ 65 2 ((gL σ 65 2) * 100)) (by decide +kernel) rfl rfl ?_
      refine g_goto hx (off := (-22)) (tgt := 35) (by decide +kernel) (by decide) ?_
      exact ih _ _ _ h
set_option maxRecDepth 100000 in
theorem s_chances_weigh {y : EX} {N : Nat} {v3 : Int32} {v4 : Int32} {v5 : Int32} {σ : Sg} {P : Unit × Sg → Prop} (h : ok (f_chances_weigh N v3 v4 v5 σ) P) : Ev y M_chances_weigh 16 [.ref 65, .ref 10, .ref 40, .int v3, .int v4, .int v5] σ rvN P := by
  refine Ev.of mk_chances_weigh (Nat.le_of_ble_eq_true rfl) (fun x hx hc hr => ?_)
  have hx : Cx 0 prog_2_method_2_code x := hx
  have hc : Cc y 7 16 x := hc
  show G x 0 [some (.ref 65), some (.ref 10), some (.ref 40), some (.int v3), some (.int v4), some (.int v5), none] [] σ
  unfold f_chances_weigh at h
  refine g_run hx [(.aload_n 0, 0, 0), (.iload_n 3, 0, 0), (.putfield 21, 0, 0), (.aload_n 0, 0, 0), (.iload 4, 0, 0), (.putfield 25, 0, 0), (.aload_n 0, 0, 0), (.iload 5, 0, 0), (.putfield 28, 0, 0), (.aload_n 0, 0, 0), (.lconst 0, 0, 0), (.putfield 9, 0, 0), (.aload_n 0, 0, 0), (.lconst 0, 0, 0), (.putfield 15, 0, 0), (.aload_n 0, 0, 0), (.lconst 1, 0, 1), (.putfield 18, 0, 0), (.iconst 0, 0, 0), (.istore 6, 0, 0)] (pc' := 35) (lo' := [some (.ref 65), some (.ref 10), some (.ref 40), some (.int v3), some (.int v4), some (.int v5), some (.int 0)]) (st' := []) (σ' := sL (sL (sL (sI (sI (sI σ 65 3 v3) 65 4 v4) 65 5 v5) 65 0 0) 65 1 0) 65 2 1) (by decide +kernel) rfl rfl ?_
  refine g_wk (lo' := [some (.ref 65), some (.ref 10), some (.ref 40), none, some (.int v4), none, some (.int 0)]) ⟨rfl, ⟨rfl, ⟨rfl, ⟨rfl, ⟨rfl, trivial⟩⟩⟩⟩⟩ ?_
  refine s_chances_weigh_L35 hx hc hr N _ _ _ h
def f_x_inLowestTerms_L9 (N : Nat) : Nat → Int64 → Int64 → Int32 → Int64 → Int64 → Int32 → Sg → (Int64 → Int64 → Int32 → Int64 → Sg → Option (Int64 × Sg)) → Option (Int64 × Sg)
  | 0, _, _, _, _, _, _, _, _ => none
  | n + 1, v0, v2, v4, v5, v7, v9, σ, k45 =>
    if 200 ≤ v9 then
      k45 v0 v2 v4 v5 σ
    else
      if (lg_cmp v7 0) = 0 then
        k45 v0 v2 v4 v5 σ
      else
        if v7 = 0 then none else
        f_x_inLowestTerms_L9 N n v0 v2 v4 v7 (v5 - v5 / v7 * v7) (v9 + 1) σ k45
def f_x_inLowestTerms (N : Nat) (v0 : Int64) (v2 : Int64) (v4 : Int32) (σ : Sg) : Option (Int64 × Sg) :=
  f_x_inLowestTerms_L9 N N v0 v2 v4 v0 v2 0 σ
    (fun (w0 : Int64) (w2 : Int64) (w4 : Int32) (w5 : Int64) (t1 : Sg) =>
      if (lg_cmp w5 0) = 0 then
        if w4 = 0 then
          some (0, t1)
        else
          some (1, t1)
      else
        if w4 = 0 then
          if w5 = 0 then none else
          some (w0 / w5, t1)
        else
          if w5 = 0 then none else
          some (w2 / w5, t1))
set_option maxRecDepth 100000 in
theorem s_x_inLowestTerms_L9 {y : EX} {N : Nat} {x : CX} {P : Int64 × Sg → Prop} (hx : Cx 9 prog_1_method_79_code x) (hc : Cc y 12 0 x) (hr : Cr M_x_inLowestTerms rvL P x) : ∀ (n : Nat) (v0 : Int64) (v2 : Int64) (v4 : Int32) (v5 : Int64) (v7 : Int64) (v9 : Int32) (σ : Sg) (k45 : Int64 → Int64 → Int32 → Int64 → Sg → Option (Int64 × Sg)) (hk45 : ∀ (w0 : Int64) (w2 : Int64) (w4 : Int32) (w5 : Int64) (t : Sg), ok (k45 w0 w2 w4 w5 t) P → G x 45 [some (.long w0), none, some (.long w2), none, some (.int w4), some (.long w5), none, none, none, none, none, none] [] t), ok (f_x_inLowestTerms_L9 N n v0 v2 v4 v5 v7 v9 σ k45) P → G x 9 [some (.long v0), none, some (.long v2), none, some (.int v4), some (.long v5), none, some (.long v7), none, some (.int v9), none, none] [] σ := by
  intro n
  induction n with
  | zero => intro v0 v2 v4 v5 v7 v9 σ k45 hk45 h; exact ok_none h
  | succ n ih =>
    intro v0 v2 v4 v5 v7 v9 σ k45 hk45 h
    rw [f_x_inLowestTerms_L9] at h
    refine g_run hx [(.iload 9, 0, 0), (.sipush 200, 200, 0)] (pc' := 14) (lo' := [some (.long v0), none, some (.long v2), none, some (.int v4), some (.long v5), none, some (.long v7), none, some (.int v9), none, none]) (st' := [.int 200, .int v9]) (σ' := σ) (by decide +kernel) rfl rfl ?_
    refine g_ic_ge hx (off := 31) (tgt := 45) (by decide +kernel) (by decide) (fun c14 => ?_) (fun c14 => ?_)
    · have h := ok_t h c14
      refine g_wk (lo' := [some (.long v0), none, some (.long v2), none, some (.int v4), some (.long v5), none, none, none, none, none, none]) ⟨rfl, ⟨rfl, ⟨rfl, ⟨rfl, trivial⟩⟩⟩⟩ ?_
      exact hk45 _ _ _ _ _ h
    · have h := ok_f h c14
      refine g_run hx [(.lload 7, 0, 0), (.lconst 0, 0, 0), (.lcmp, 0, 0)] (pc' := 21) (lo' := [some (.long v0), none, some (.long v2), none, some (.int v4), some (.long v5), none, some (.long v7), none, some (.int v9), none, none]) (st' := [.int (lg_cmp v7 0)]) (σ' := σ) (by decide +kernel) rfl rfl ?_
      refine g_if_eq hx (off := 24) (tgt := 45) (by decide +kernel) (by decide) (fun c21 => ?_) (fun c21 => ?_)
      · have h := ok_t h c21
        refine g_wk (lo' := [some (.long v0), none, some (.long v2), none, some (.int v4), some (.long v5), none, none, none, none, none, none]) ⟨rfl, ⟨rfl, ⟨rfl, ⟨rfl, trivial⟩⟩⟩⟩ ?_
        exact hk45 _ _ _ _ _ h
      · have h := ok_f h c21
        refine g_run hx [(.lload 5, 0, 0), (.lload 7, 0, 0)] (pc' := 28) (lo' := [some (.long v0), none, some (.long v2), none, some (.int v4), some (.long v5), none, some (.long v7), none, some (.int v9), none, none]) (st' := [.long v7, .long v5]) (σ' := σ) (by decide +kernel) rfl rfl ?_
        obtain ⟨c28, h⟩ := ok_n h
        refine g_lrem hx (by decide +kernel) c28 ?_
        refine g_run hx [(.lstore 10, 0, 0), (.lload 7, 0, 0), (.lstore 5, 0, 0), (.lload 10, 0, 0), (.lstore 7, 0, 0), (.iinc 9 1, 1, 0)] (pc' := 42) (lo' := [some (.long v0), none, some (.long v2), none, some (.int v4), some (.long v7), none, some (.long (v5 - v5 / v7 * v7)), none, some (.int (v9 + 1)), some (.long (v5 - v5 / v7 * v7)), none]) (st' := []) (σ' := σ) (by decide +kernel) rfl rfl ?_
        refine g_goto hx (off := (-33)) (tgt := 9) (by decide +kernel) (by decide) ?_
        refine g_wk (lo' := [some (.long v0), none, some (.long v2), none, some (.int v4), some (.long v7), none, some (.long (v5 - v5 / v7 * v7)), none, some (.int (v9 + 1)), none, none]) ⟨rfl, ⟨rfl, ⟨rfl, ⟨rfl, ⟨rfl, ⟨rfl, trivial⟩⟩⟩⟩⟩⟩ ?_
        exact ih _ _ _ _ _ _ _ _ hk45 h
set_option maxRecDepth 100000 in
theorem s_x_inLowestTerms {y : EX} {N : Nat} {v0 : Int64} {v2 : Int64} {v4 : Int32} {σ : Sg} {P : Int64 × Sg → Prop} (h : ok (f_x_inLowestTerms N v0 v2 v4 σ) P) : Ev y M_x_inLowestTerms 0 [.long v0, .long v2, .int v4] σ rvL P := by
  refine Ev.of mk_x_inLowestTerms (Nat.le_of_ble_eq_true rfl) (fun x hx hc hr => ?_)
  have hx : Cx 9 prog_1_method_79_code x := hx
  have hc : Cc y 12 0 x := hc
  show G x 0 [some (.long v0), none, some (.long v2), none, some (.int v4), none, none, none, none, none, none, none] [] σ
  unfold f_x_inLowestTerms at h
  refine g_run hx [(.lload_n 0, 0, 0), (.lstore 5, 0, 0), (.lload_n 2, 0, 0), (.lstore 7, 0, 0), (.iconst 0, 0, 0), (.istore 9, 0, 0)] (pc' := 9) (lo' := [some (.long v0), none, some (.long v2), none, some (.int v4), some (.long v0), none, some (.long v2), none, some (.int 0), none, none]) (st' := []) (σ' := σ) (by decide +kernel) rfl rfl ?_
  refine s_x_inLowestTerms_L9 hx hc hr N _ _ _ _ _ _ _ _ (fun w0 w2 w4 w5 t1 h => ?_) h
  refine g_run hx [(.lload 5, 0, 0), (.lconst 0, 0, 0), (.lcmp, 0, 0)] (pc' := 49) (lo' := [some (.long w0), none, some (.long w2), none, some (.int w4), some (.long w5), none, none, none, none, none, none]) (st' := [.int (lg_cmp w5 0)]) (σ' := t1) (by decide +kernel) rfl rfl ?_
  refine g_if_ne hx (off := 14) (tgt := 63) (by decide +kernel) (by decide) (fun c49 => ?_) (fun c49 => ?_)
  · have h := ok_f h c49
    refine g_run hx [(.iload 4, 0, 0)] (pc' := 65) (lo' := [some (.long w0), none, some (.long w2), none, some (.int w4), some (.long w5), none, none, none, none, none, none]) (st' := [.int w4]) (σ' := t1) (by decide +kernel) rfl rfl ?_
    refine g_if_eq hx (off := 7) (tgt := 72) (by decide +kernel) (by decide) (fun c65 => ?_) (fun c65 => ?_)
    · have h := ok_t h c65
      refine g_run hx [(.lload_n 0, 0, 0), (.lload 5, 0, 0)] (pc' := 75) (lo' := [some (.long w0), none, some (.long w2), none, some (.int w4), some (.long w5), none, none, none, none, none, none]) (st' := [.long w5, .long w0]) (σ' := t1) (by decide +kernel) rfl rfl ?_
      obtain ⟨c75, h⟩ := ok_n h
      refine g_ldiv hx (by decide +kernel) c75 ?_
      exact g_lret hx hr rfl _ rfl (by decide +kernel) (ok_some h)
    · have h := ok_f h c65
      refine g_run hx [(.lload_n 2, 0, 0)] (pc' := 69) (lo' := [some (.long w0), none, some (.long w2), none, some (.int w4), some (.long w5), none, none, none, none, none, none]) (st' := [.long w2]) (σ' := t1) (by decide +kernel) rfl rfl ?_
      refine g_goto hx (off := 4) (tgt := 73) (by decide +kernel) (by decide) ?_
      refine g_run hx [(.lload 5, 0, 0)] (pc' := 75) (lo' := [some (.long w0), none, some (.long w2), none, some (.int w4), some (.long w5), none, none, none, none, none, none]) (st' := [.long w5, .long w2]) (σ' := t1) (by decide +kernel) rfl rfl ?_
      obtain ⟨c75, h⟩ := ok_n h
      refine g_ldiv hx (by decide +kernel) c75 ?_
      exact g_lret hx hr rfl _ rfl (by decide +kernel) (ok_some h)
  · have h := ok_t h c49
    refine g_run hx [(.iload 4, 0, 0)] (pc' := 54) (lo' := [some (.long w0), none, some (.long w2), none, some (.int w4), some (.long w5), none, none, none, none, none, none]) (st' := [.int w4]) (σ' := t1) (by decide +kernel) rfl rfl ?_
    refine g_if_eq hx (off := 7) (tgt := 61) (by decide +kernel) (by decide) (fun c54 => ?_) (fun c54 => ?_)
    · have h := ok_t h c54
      refine g_run hx [(.lconst 0, 0, 0)] (pc' := 62) (lo' := [some (.long w0), none, some (.long w2), none, some (.int w4), some (.long w5), none, none, none, none, none, none]) (st' := [.long 0]) (σ' := t1) (by decide +kernel) rfl rfl ?_
      exact g_lret hx hr rfl _ rfl (by decide +kernel) (ok_some h)
    · have h := ok_f h c54
      refine g_run hx [(.lconst 1, 0, 1)] (pc' := 58) (lo' := [some (.long w0), none, some (.long w2), none, some (.int w4), some (.long w5), none, none, none, none, none, none]) (st' := [.long 1]) (σ' := t1) (by decide +kernel) rfl rfl ?_
      refine g_goto hx (off := 4) (tgt := 62) (by decide +kernel) (by decide) ?_
      exact g_lret hx hr rfl _ rfl (by decide +kernel) (ok_some h)
def f_x_mean (N : Nat) (v1 : Int32) (v2 : Int32) (v3 : Int32) (σ : Sg) : Option (Int64 × Sg) :=
  (f_x_rowTrouble N v1 v2 σ).bind fun q1 =>
  (f_x_granted N q1.1 q1.2).bind fun q2 =>
  if q2.1 = true then
    (f_chances_weigh N v1 v2 (gI q2.2 40 2) q2.2).bind fun q3 =>
    (f_x_inLowestTerms N (gL q3.2 65 1) (gL q3.2 65 2) v3 q3.2).bind fun q4 =>
    some (q4.1, q4.2)
  else
    some ((-1), q2.2)
set_option maxRecDepth 100000 in
theorem s_x_mean {y : EX} {N : Nat} {v1 : Int32} {v2 : Int32} {v3 : Int32} {σ : Sg} {P : Int64 × Sg → Prop} (h : ok (f_x_mean N v1 v2 v3 σ) P) : Ev y M_x_mean 17 [.ref 0, .int v1, .int v2, .int v3] σ rvL P := by
  refine Ev.of mk_x_mean (Nat.le_of_ble_eq_true rfl) (fun x hx hc hr => ?_)
  have hx : Cx 9 prog_1_method_51_code x := hx
  have hc : Cc y 4 17 x := hc
  show G x 0 [some (.ref 0), some (.int v1), some (.int v2), some (.int v3)] [] σ
  unfold f_x_mean at h
  refine g_run hx [(.aload_n 0, 0, 0), (.aload_n 0, 0, 0), (.iload_n 1, 0, 0), (.iload_n 2, 0, 0)] (pc' := 4) (lo' := [some (.ref 0), some (.int v1), some (.int v2), some (.int v3)]) (st' := [.int v2, .int v1, .ref 0, .ref 0]) (σ' := σ) (by decide +kernel) rfl rfl ?_
  refine g_callV (rest := [.ref 0]) [.int v1, .int v2] hx hc mk_x_rowTrouble ln_9_224 rfl (by decide +kernel) (by decide) (Nat.le_of_ble_eq_true rfl) (s_x_rowTrouble (ok_b h)) (fun r1 s1 h => ?_)
  refine g_callV (rest := []) [.int r1] hx hc mk_x_granted ln_9_83 rfl (by decide +kernel) (by decide) (Nat.le_of_ble_eq_true rfl) (s_x_granted (ok_b h)) (fun r2 s2 h => ?_)
  refine g_ifb_ne hx (off := 7) (tgt := 17) (by decide +kernel) (by decide) (fun c10 => ?_) (fun c10 => ?_)
  · have h := ok_t h c10
    refine g_run hx [(.aload_n 0, 0, 0), (.getfield 70, 0, 0), (.aload_n 0, 0, 0), (.getfield 19, 0, 0), (.aload_n 0, 0, 0), (.getfield 26, 0, 0), (.iload_n 1, 0, 0), (.iload_n 2, 0, 0), (.aload_n 0, 0, 0), (.getfield 26, 0, 0), (.getfield 123, 0, 0)] (pc' := 38) (lo' := [some (.ref 0), some (.int v1), some (.int v2), some (.int v3)]) (st' := [.int (gI s2 40 2), .int v2, .int v1, .ref 40, .ref 10, .ref 65]) (σ' := s2) (by decide +kernel) rfl rfl ?_
    refine g_callV (rest := []) [.ref 10, .ref 40, .int v1, .int v2, .int (gI s2 40 2)] hx hc mk_chances_weigh ln_9_318 rfl (by decide +kernel) (by decide) (Nat.le_of_ble_eq_true rfl) (s_chances_weigh (ok_b h)) (fun r3 s3 h => ?_)
    refine g_run hx [(.aload_n 0, 0, 0), (.getfield 70, 0, 0), (.getfield 333, 0, 0), (.aload_n 0, 0, 0), (.getfield 70, 0, 0), (.getfield 326, 0, 0), (.iload_n 3, 0, 0)] (pc' := 56) (lo' := [some (.ref 0), some (.int v1), some (.int v2), some (.int v3)]) (st' := [.int v3, .long (gL s3 65 2), .long (gL s3 65 1)]) (σ' := s3) (by decide +kernel) rfl rfl ?_
    refine g_callS (rest := []) [.long (gL s3 65 1), .long (gL s3 65 2), .int v3] hx hc mk_x_inLowestTerms ln_9_329 (by decide +kernel) (by decide) (Nat.le_of_ble_eq_true rfl) (s_x_inLowestTerms (ok_b h)) (fun r4 s4 h => ?_)
    exact g_lret hx hr rfl _ rfl (by decide +kernel) (ok_some h)
  · have h := ok_f h c10
    refine g_run hx [(.ldc2_w 174, 0, (-1))] (pc' := 16) (lo' := [some (.ref 0), some (.int v1), some (.int v2), some (.int v3)]) (st' := [.long (-1)]) (σ' := s2) (by decide +kernel) rfl rfl ?_
    exact g_lret hx hr rfl _ rfl (by decide +kernel) (ok_some h)
def f_country_nearestParted_L28 (N : Nat) : Nat → Int64 → Int32 → Int32 → Int32 → Int32 → Sg → (Int64 → Int32 → Int32 → Int32 → Sg → Option (Int32 × Sg)) → Option (Int32 × Sg)
  | 0, _, _, _, _, _, _, _ => none
  | n + 1, v1, v3, v4, v5, v6, σ, k119 =>
    if (gI σ 13 1) ≤ v6 then
      k119 v1 v3 v4 v5 σ
    else
      (f_numbers_at N 13 6 14 v5 σ).bind fun q1 =>
      (f_numbers_at N 13 6 14 v6 q1.2).bind fun q2 =>
      (f_x_inside N q1.1 q2.1 q2.2).bind fun q3 =>
      (f_jl_bitCount N (v1 &&& q3.1) q3.2).bind fun q4 =>
      (f_country_isLost N v5 v1 q4.2).bind fun q5 =>
      if q5.1 = true then
        f_country_nearestParted_L28 N n v1 v3 v4 v5 (v6 + 1) q5.2 k119
      else
        (f_country_isLost N v6 v1 q5.2).bind fun q6 =>
        if q6.1 = true then
          f_country_nearestParted_L28 N n v1 v3 v4 v5 (v6 + 1) q6.2 k119
        else
          if q4.1 ≤ 0 then
            f_country_nearestParted_L28 N n v1 v3 v4 v5 (v6 + 1) q6.2 k119
          else
            if v4 ≤ q4.1 then
              f_country_nearestParted_L28 N n v1 v3 v4 v5 (v6 + 1) q6.2 k119
            else
              f_country_nearestParted_L28 N n v1 ((10 * v5) + v6) q4.1 v5 (v6 + 1) q6.2 k119
def f_country_nearestParted_L10 (N : Nat) : Nat → Int64 → Int32 → Int32 → Int32 → Sg → Option (Int32 × Sg)
  | 0, _, _, _, _, _ => none
  | n + 1, v1, v3, v4, v5, σ =>
    if (gI σ 13 1) ≤ v5 then
      some (v3, σ)
    else
      f_country_nearestParted_L28 N N v1 v3 v4 v5 (v5 + 1) σ
        (fun (w1 : Int64) (w3 : Int32) (w4 : Int32) (w5 : Int32) (t7 : Sg) =>
          f_country_nearestParted_L10 N n w1 w3 w4 (w5 + 1) t7)
def f_country_nearestParted (N : Nat) (v1 : Int64) (σ : Sg) : Option (Int32 × Sg) :=
  f_country_nearestParted_L10 N N v1 (-2) 61 0 σ
set_option maxRecDepth 100000 in
theorem s_country_nearestParted_L28 {y : EX} {N : Nat} {x : CX} {P : Int32 × Sg → Prop} (hx : Cx 1 prog_3_method_12_code x) (hc : Cc y 8 2 x) (hr : Cr M_country_nearestParted rvI P x) : ∀ (n : Nat) (v1 : Int64) (v3 : Int32) (v4 : Int32) (v5 : Int32) (v6 : Int32) (σ : Sg) (k119 : Int64 → Int32 → Int32 → Int32 → Sg → Option (Int32 × Sg)) (hk119 : ∀ (w1 : Int64) (w3 : Int32) (w4 : Int32) (w5 : Int32) (t : Sg), ok (k119 w1 w3 w4 w5 t) P → G x 119 [some (.ref 10), some (.long w1), none, some (.int w3), some (.int w4), some (.int w5), none, none] [] t), ok (f_country_nearestParted_L28 N n v1 v3 v4 v5 v6 σ k119) P → G x 28 [some (.ref 10), some (.long v1), none, some (.int v3), some (.int v4), some (.int v5), some (.int v6), none] [] σ := by
  intro n
  induction n with
  | zero => intro v1 v3 v4 v5 v6 σ k119 hk119 h; exact ok_none h
  | succ n ih =>
    intro v1 v3 v4 v5 v6 σ k119 hk119 h
    rw [f_country_nearestParted_L28] at h
    refine g_run hx [(.iload 6, 0, 0), (.aload_n 0, 0, 0), (.getfield 40, 0, 0), (.getfield 64, 0, 0)] (pc' := 37) (lo' := [some (.ref 10), some (.long v1), none, some (.int v3), some (.int v4), some (.int v5), some (.int v6), none]) (st' := [.int (gI σ 13 1), .int v6]) (σ' := σ) (by decide +kernel) rfl rfl ?_
    refine g_ic_ge hx (off := 82) (tgt := 119) (by decide +kernel) (by decide) (fun c37 => ?_) (fun c37 => ?_)
    · have h := ok_t h c37
      refine g_wk (lo' := [some (.ref 10), some (.long v1), none, some (.int v3), some (.int v4), some (.int v5), none, none]) ⟨rfl, ⟨rfl, ⟨rfl, ⟨rfl, ⟨rfl, trivial⟩⟩⟩⟩⟩ ?_
      exact hk119 _ _ _ _ _ h
    · have h := ok_f h c37
      refine g_run hx [(.lload_n 1, 0, 0), (.aload_n 0, 0, 0), (.getfield 40, 0, 0), (.iload 5, 0, 0)] (pc' := 47) (lo' := [some (.ref 10), some (.long v1), none, some (.int v3), some (.int v4), some (.int v5), some (.int v6), none]) (st' := [.int v5, .ref 13, .long v1]) (σ' := σ) (by decide +kernel) rfl rfl ?_
      refine g_callV (rest := [.long v1]) [.int v5] hx hc mk_numbers_at ln_1_81 rfl (by decide +kernel) (by decide) (Nat.le_of_ble_eq_true rfl) (s_numbers_at_13 (ok_b h)) (fun r1 s1 h => ?_)
      refine g_run hx [(.aload_n 0, 0, 0), (.getfield 40, 0, 0), (.iload 6, 0, 0)] (pc' := 56) (lo' := [some (.ref 10), some (.long v1), none, some (.int v3), some (.int v4), some (.int v5), some (.int v6), none]) (st' := [.int v6, .ref 13, .int r1, .long v1]) (σ' := s1) (by decide +kernel) rfl rfl ?_
      refine g_callV (rest := [.int r1, .long v1]) [.int v6] hx hc mk_numbers_at ln_1_81 rfl (by decide +kernel) (by decide) (Nat.le_of_ble_eq_true rfl) (s_numbers_at_13 (ok_b h)) (fun r2 s2 h => ?_)
      refine g_callN (rest := [.long v1]) [.int r1, .int r2] hx hc mk_x_inside ln_1_88 (by decide +kernel) (by decide) (Nat.le_of_ble_eq_true rfl) (s_x_inside (ok_b h)) (fun r3 s3 h => ?_)
      refine g_run hx [(.land, 0, 0)] (pc' := 63) (lo' := [some (.ref 10), some (.long v1), none, some (.int v3), some (.int v4), some (.int v5), some (.int v6), none]) (st' := [.long (v1 &&& r3)]) (σ' := s3) (by decide +kernel) rfl rfl ?_
      refine g_callS (rest := []) [.long (v1 &&& r3)] hx hc mk_jl_bitCount ln_1_92 (by decide +kernel) (by decide) (Nat.le_of_ble_eq_true rfl) (s_jl_bitCount (ok_b h)) (fun r4 s4 h => ?_)
      refine g_run hx [(.istore 7, 0, 0), (.aload_n 0, 0, 0), (.iload 5, 0, 0), (.lload_n 1, 0, 0)] (pc' := 72) (lo' := [some (.ref 10), some (.long v1), none, some (.int v3), some (.int v4), some (.int v5), some (.int v6), some (.int r4)]) (st' := [.long v1, .int v5, .ref 10]) (σ' := s4) (by decide +kernel) rfl rfl ?_
      refine g_callV (rest := []) [.int v5, .long v1] hx hc mk_country_isLost ln_1_84 rfl (by decide +kernel) (by decide) (Nat.le_of_ble_eq_true rfl) (s_country_isLost (ok_b h)) (fun r5 s5 h => ?_)
      refine g_ifb_ne hx (off := 38) (tgt := 113) (by decide +kernel) (by decide) (fun c75 => ?_) (fun c75 => ?_)
      · have h := ok_t h c75
        refine g_run hx [(.iinc 6 1, 1, 0)] (pc' := 116) (lo' := [some (.ref 10), some (.long v1), none, some (.int v3), some (.int v4), some (.int v5), some (.int (v6 + 1)), some (.int r4)]) (st' := []) (σ' := s5) (by decide +kernel) rfl rfl ?_
        refine g_goto hx (off := (-88)) (tgt := 28) (by decide +kernel) (by decide) ?_
        refine g_wk (lo' := [some (.ref 10), some (.long v1), none, some (.int v3), some (.int v4), some (.int v5), some (.int (v6 + 1)), none]) ⟨rfl, ⟨rfl, ⟨rfl, ⟨rfl, ⟨rfl, ⟨rfl, trivial⟩⟩⟩⟩⟩⟩ ?_
        exact ih _ _ _ _ _ _ _ hk119 h
      · have h := ok_f h c75
        refine g_run hx [(.aload_n 0, 0, 0), (.iload 6, 0, 0), (.lload_n 1, 0, 0)] (pc' := 82) (lo' := [some (.ref 10), some (.long v1), none, some (.int v3), some (.int v4), some (.int v5), some (.int v6), some (.int r4)]) (st' := [.long v1, .int v6, .ref 10]) (σ' := s5) (by decide +kernel) rfl rfl ?_
        refine g_callV (rest := []) [.int v6, .long v1] hx hc mk_country_isLost ln_1_84 rfl (by decide +kernel) (by decide) (Nat.le_of_ble_eq_true rfl) (s_country_isLost (ok_b h)) (fun r6 s6 h => ?_)
        refine g_ifb_ne hx (off := 28) (tgt := 113) (by decide +kernel) (by decide) (fun c85 => ?_) (fun c85 => ?_)
        · have h := ok_t h c85
          refine g_run hx [(.iinc 6 1, 1, 0)] (pc' := 116) (lo' := [some (.ref 10), some (.long v1), none, some (.int v3), some (.int v4), some (.int v5), some (.int (v6 + 1)), some (.int r4)]) (st' := []) (σ' := s6) (by decide +kernel) rfl rfl ?_
          refine g_goto hx (off := (-88)) (tgt := 28) (by decide +kernel) (by decide) ?_
          refine g_wk (lo' := [some (.ref 10), some (.long v1), none, some (.int v3), some (.int v4), some (.int v5), some (.int (v6 + 1)), none]) ⟨rfl, ⟨rfl, ⟨rfl, ⟨rfl, ⟨rfl, ⟨rfl, trivial⟩⟩⟩⟩⟩⟩ ?_
          exact ih _ _ _ _ _ _ _ hk119 h
        · have h := ok_f h c85
          refine g_run hx [(.iload 7, 0, 0)] (pc' := 90) (lo' := [some (.ref 10), some (.long v1), none, some (.int v3), some (.int v4), some (.int v5), some (.int v6), some (.int r4)]) (st' := [.int r4]) (σ' := s6) (by decide +kernel) rfl rfl ?_
          refine g_if_le hx (off := 23) (tgt := 113) (by decide +kernel) (by decide) (fun c90 => ?_) (fun c90 => ?_)
          · have h := ok_t h c90
            refine g_run hx [(.iinc 6 1, 1, 0)] (pc' := 116) (lo' := [some (.ref 10), some (.long v1), none, some (.int v3), some (.int v4), some (.int v5), some (.int (v6 + 1)), some (.int r4)]) (st' := []) (σ' := s6) (by decide +kernel) rfl rfl ?_
            refine g_goto hx (off := (-88)) (tgt := 28) (by decide +kernel) (by decide) ?_
            refine g_wk (lo' := [some (.ref 10), some (.long v1), none, some (.int v3), some (.int v4), some (.int v5), some (.int (v6 + 1)), none]) ⟨rfl, ⟨rfl, ⟨rfl, ⟨rfl, ⟨rfl, ⟨rfl, trivial⟩⟩⟩⟩⟩⟩ ?_
            exact ih _ _ _ _ _ _ _ hk119 h
          · have h := ok_f h c90
            refine g_run hx [(.iload 7, 0, 0), (.iload 4, 0, 0)] (pc' := 97) (lo' := [some (.ref 10), some (.long v1), none, some (.int v3), some (.int v4), some (.int v5), some (.int v6), some (.int r4)]) (st' := [.int v4, .int r4]) (σ' := s6) (by decide +kernel) rfl rfl ?_
            refine g_ic_ge hx (off := 16) (tgt := 113) (by decide +kernel) (by decide) (fun c97 => ?_) (fun c97 => ?_)
            · have h := ok_t h c97
              refine g_run hx [(.iinc 6 1, 1, 0)] (pc' := 116) (lo' := [some (.ref 10), some (.long v1), none, some (.int v3), some (.int v4), some (.int v5), some (.int (v6 + 1)), some (.int r4)]) (st' := []) (σ' := s6) (by decide +kernel) rfl rfl ?_
              refine g_goto hx (off := (-88)) (tgt := 28) (by decide +kernel) (by decide) ?_
              refine g_wk (lo' := [some (.ref 10), some (.long v1), none, some (.int v3), some (.int v4), some (.int v5), some (.int (v6 + 1)), none]) ⟨rfl, ⟨rfl, ⟨rfl, ⟨rfl, ⟨rfl, ⟨rfl, trivial⟩⟩⟩⟩⟩⟩ ?_
              exact ih _ _ _ _ _ _ _ hk119 h
            · have h := ok_f h c97
              refine g_run hx [(.iload 7, 0, 0), (.istore 4, 0, 0), (.bipush 10, 10, 0), (.iload 5, 0, 0), (.imul, 0, 0), (.iload 6, 0, 0), (.iadd, 0, 0), (.istore_n 3, 0, 0), (.iinc 6 1, 1, 0)] (pc' := 116) (lo' := [some (.ref 10), some (.long v1), none, some (.int ((10 * v5) + v6)), some (.int r4), some (.int v5), some (.int (v6 + 1)), some (.int r4)]) (st' := []) (σ' := s6) (by decide +kernel) rfl rfl ?_
              refine g_goto hx (off := (-88)) (tgt := 28) (by decide +kernel) (by decide) ?_
              refine g_wk (lo' := [some (.ref 10), some (.long v1), none, some (.int ((10 * v5) + v6)), some (.int r4), some (.int v5), some (.int (v6 + 1)), none]) ⟨rfl, ⟨rfl, ⟨rfl, ⟨rfl, ⟨rfl, ⟨rfl, trivial⟩⟩⟩⟩⟩⟩ ?_
              exact ih _ _ _ _ _ _ _ hk119 h
set_option maxRecDepth 100000 in
theorem s_country_nearestParted_L10 {y : EX} {N : Nat} {x : CX} {P : Int32 × Sg → Prop} (hx : Cx 1 prog_3_method_12_code x) (hc : Cc y 8 2 x) (hr : Cr M_country_nearestParted rvI P x) : ∀ (n : Nat) (v1 : Int64) (v3 : Int32) (v4 : Int32) (v5 : Int32) (σ : Sg), ok (f_country_nearestParted_L10 N n v1 v3 v4 v5 σ) P → G x 10 [some (.ref 10), some (.long v1), none, some (.int v3), some (.int v4), some (.int v5), none, none] [] σ := by
  intro n
  induction n with
  | zero => intro v1 v3 v4 v5 σ h; exact ok_none h
  | succ n ih =>
    intro v1 v3 v4 v5 σ h
    rw [f_country_nearestParted_L10] at h
    refine g_run hx [(.iload 5, 0, 0), (.aload_n 0, 0, 0), (.getfield 40, 0, 0), (.getfield 64, 0, 0)] (pc' := 19) (lo' := [some (.ref 10), some (.long v1), none, some (.int v3), some (.int v4), some (.int v5), none, none]) (st' := [.int (gI σ 13 1), .int v5]) (σ' := σ) (by decide +kernel) rfl rfl ?_
    refine g_ic_ge hx (off := 106) (tgt := 125) (by decide +kernel) (by decide) (fun c19 => ?_) (fun c19 => ?_)
    · have h := ok_t h c19
      refine g_run hx [(.iload_n 3, 0, 0)] (pc' := 126) (lo' := [some (.ref 10), some (.long v1), none, some (.int v3), some (.int v4), some (.int v5), none, none]) (st' := [.int v3]) (σ' := σ) (by decide +kernel) rfl rfl ?_
      exact g_iret hx hr rfl _ rfl (by decide +kernel) (ok_some h)
    · have h := ok_f h c19
      refine g_run hx [(.iload 5, 0, 0), (.iconst 1, 1, 0), (.iadd, 0, 0), (.istore 6, 0, 0)] (pc' := 28) (lo' := [some (.ref 10), some (.long v1), none, some (.int v3), some (.int v4), some (.int v5), some (.int (v5 + 1)), none]) (st' := []) (σ' := σ) (by decide +kernel) rfl rfl ?_
      refine s_country_nearestParted_L28 hx hc hr N _ _ _ _ _ _ _ (fun w1 w3 w4 w5 t7 h => ?_) h
      refine g_run hx [(.iinc 5 1, 1, 0)] (pc' := 122) (lo' := [some (.ref 10), some (.long w1), none, some (.int w3), some (.int w4), some (.int (w5 + 1)), none, none]) (st' := []) (σ' := t7) (by decide +kernel) rfl rfl ?_
      refine g_goto hx (off := (-112)) (tgt := 10) (by decide +kernel) (by decide) ?_
      exact ih _ _ _ _ _ h
set_option maxRecDepth 100000 in
theorem s_country_nearestParted {y : EX} {N : Nat} {v1 : Int64} {σ : Sg} {P : Int32 × Sg → Prop} (h : ok (f_country_nearestParted N v1 σ) P) : Ev y M_country_nearestParted 2 [.ref 10, .long v1] σ rvI P := by
  refine Ev.of mk_country_nearestParted (Nat.le_of_ble_eq_true rfl) (fun x hx hc hr => ?_)
  have hx : Cx 1 prog_3_method_12_code x := hx
  have hc : Cc y 8 2 x := hc
  show G x 0 [some (.ref 10), some (.long v1), none, none, none, none, none, none] [] σ
  unfold f_country_nearestParted at h
  refine g_run hx [(.bipush (-2), (-2), 0), (.istore_n 3, 0, 0), (.bipush 61, 61, 0), (.istore 4, 0, 0), (.iconst 0, 0, 0), (.istore 5, 0, 0)] (pc' := 10) (lo' := [some (.ref 10), some (.long v1), none, some (.int (-2)), some (.int 61), some (.int 0), none, none]) (st' := []) (σ' := σ) (by decide +kernel) rfl rfl ?_
  refine s_country_nearestParted_L10 hx hc hr N _ _ _ _ _ h
def f_x_nearest (N : Nat) (σ : Sg) : Option (Int32 × Sg) :=
  (f_x_landTrouble N σ).bind fun q1 =>
  (f_x_granted N q1.1 q1.2).bind fun q2 =>
  if q2.1 = true then
    (f_state_goneCells N 40 q2.2).bind fun q3 =>
    (f_country_nearestParted N q3.1 q3.2).bind fun q4 =>
    some (q4.1, q4.2)
  else
    some ((-1), q2.2)
set_option maxRecDepth 100000 in
theorem s_x_nearest {y : EX} {N : Nat} {σ : Sg} {P : Int32 × Sg → Prop} (h : ok (f_x_nearest N σ) P) : Ev y M_x_nearest 3 [.ref 0] σ rvI P := by
  refine Ev.of mk_x_nearest (Nat.le_of_ble_eq_true rfl) (fun x hx hc hr => ?_)
  have hx : Cx 9 prog_1_method_18_code x := hx
  have hc : Cc y 1 3 x := hc
  show G x 0 [some (.ref 0)] [] σ
  unfold f_x_nearest at h
  refine g_run hx [(.aload_n 0, 0, 0), (.aload_n 0, 0, 0)] (pc' := 2) (lo' := [some (.ref 0)]) (st' := [.ref 0, .ref 0]) (σ' := σ) (by decide +kernel) rfl rfl ?_
  refine g_callV (rest := [.ref 0]) [] hx hc mk_x_landTrouble ln_9_158 rfl (by decide +kernel) (by decide) (Nat.le_of_ble_eq_true rfl) (s_x_landTrouble (ok_b h)) (fun r1 s1 h => ?_)
  refine g_callV (rest := []) [.int r1] hx hc mk_x_granted ln_9_83 rfl (by decide +kernel) (by decide) (Nat.le_of_ble_eq_true rfl) (s_x_granted (ok_b h)) (fun r2 s2 h => ?_)
  refine g_ifb_eq hx (off := 20) (tgt := 28) (by decide +kernel) (by decide) (fun c8 => ?_) (fun c8 => ?_)
  · have h := ok_f h c8
    refine g_run hx [(.iconst (-1), (-1), 0)] (pc' := 29) (lo' := [some (.ref 0)]) (st' := [.int (-1)]) (σ' := s2) (by decide +kernel) rfl rfl ?_
    exact g_iret hx hr rfl _ rfl (by decide +kernel) (ok_some h)
  · have h := ok_t h c8
    refine g_run hx [(.aload_n 0, 0, 0), (.getfield 19, 0, 0), (.aload_n 0, 0, 0), (.getfield 26, 0, 0)] (pc' := 19) (lo' := [some (.ref 0)]) (st' := [.ref 40, .ref 10]) (σ' := s2) (by decide +kernel) rfl rfl ?_
    refine g_callV (rest := [.ref 10]) [] hx hc mk_state_goneCells ln_9_144 rfl (by decide +kernel) (by decide) (Nat.le_of_ble_eq_true rfl) (s_state_goneCells_40 (ok_b h)) (fun r3 s3 h => ?_)
    refine g_callV (rest := []) [.long r3] hx hc mk_country_nearestParted ln_9_194 rfl (by decide +kernel) (by decide) (Nat.le_of_ble_eq_true rfl) (s_country_nearestParted (ok_b h)) (fun r4 s4 h => ?_)
    refine g_goto hx (off := 4) (tgt := 29) (by decide +kernel) (by decide) ?_
    exact g_iret hx hr rfl _ rfl (by decide +kernel) (ok_some h)
set_option maxRecDepth 100000 in
theorem s_paths_put_62 {y : EX} {N : Nat} {v1 : Int32} {v2 : Int32} {σ : Sg} {P : Unit × Sg → Prop} (h : ok (f_paths_put N 61 62 v1 v2 σ) P) : Ev y M_paths_put 0 [.ref 62, .int v1, .int v2] σ rvN P := by
  refine Ev.of mk_paths_put (Nat.le_of_ble_eq_true rfl) (fun x hx hc hr => ?_)
  have hx : Cx 4 prog_6_method_14_code x := hx
  have hc : Cc y 3 0 x := hc
  show G x 0 [some (.ref 62), some (.int v1), some (.int v2)] [] σ
  unfold f_paths_put at h
  refine g_run hx [(.iload_n 1, 0, 0)] (pc' := 1) (lo' := [some (.ref 62), some (.int v1), some (.int v2)]) (st' := [.int v1]) (σ' := σ) (by decide +kernel) rfl rfl ?_
  refine g_if_lt hx (off := 13) (tgt := 14) (by decide +kernel) (by decide) (fun c1 => ?_) (fun c1 => ?_)
  · have h := ok_t h c1
    exact g_vret hx hr rfl () rfl (by decide +kernel) (ok_some h)
  · have h := ok_f h c1
    refine g_run hx [(.iload_n 1, 0, 0), (.aload_n 0, 0, 0), (.arraylength, 0, 0)] (pc' := 7) (lo' := [some (.ref 62), some (.int v1), some (.int v2)]) (st' := [.int (nI 61), .int v1]) (σ' := σ) (by decide +kernel) rfl rfl ?_
    refine g_ic_ge hx (off := 7) (tgt := 14) (by decide +kernel) (by decide) (fun c7 => ?_) (fun c7 => ?_)
    · have h := ok_t h c7
      exact g_vret hx hr rfl () rfl (by decide +kernel) (ok_some h)
    · have h := ok_f h c7
      refine g_run hx [(.aload_n 0, 0, 0), (.iload_n 1, 0, 0), (.iload_n 2, 0, 0)] (pc' := 13) (lo' := [some (.ref 62), some (.int v1), some (.int v2)]) (st' := [.int v2, .int v1, .ref 62]) (σ' := σ) (by decide +kernel) rfl rfl ?_
      obtain ⟨c13, h⟩ := ok_g h
      refine g_iast hx (by decide +kernel) (i := 62) (n := 61) rfl c13 ?_
      exact g_vret hx hr rfl () rfl (by decide +kernel) (ok_some h)
set_option maxRecDepth 100000 in
theorem s_paths_get_62 {y : EX} {N : Nat} {v1 : Int32} {σ : Sg} {P : Int32 × Sg → Prop} (h : ok (f_paths_get N 61 62 v1 σ) P) : Ev y M_paths_get 0 [.ref 62, .int v1] σ rvI P := by
  refine Ev.of mk_paths_get (Nat.le_of_ble_eq_true rfl) (fun x hx hc hr => ?_)
  have hx : Cx 4 prog_6_method_13_code x := hx
  have hc : Cc y 2 0 x := hc
  show G x 0 [some (.ref 62), some (.int v1)] [] σ
  unfold f_paths_get at h
  refine g_run hx [(.iload_n 1, 0, 0)] (pc' := 1) (lo' := [some (.ref 62), some (.int v1)]) (st' := [.int v1]) (σ' := σ) (by decide +kernel) rfl rfl ?_
  refine g_if_lt hx (off := 15) (tgt := 16) (by decide +kernel) (by decide) (fun c1 => ?_) (fun c1 => ?_)
  · have h := ok_t h c1
    refine g_run hx [(.bipush (-2), (-2), 0)] (pc' := 18) (lo' := [some (.ref 62), some (.int v1)]) (st' := [.int (-2)]) (σ' := σ) (by decide +kernel) rfl rfl ?_
    exact g_iret hx hr rfl _ rfl (by decide +kernel) (ok_some h)
  · have h := ok_f h c1
    refine g_run hx [(.iload_n 1, 0, 0), (.aload_n 0, 0, 0), (.arraylength, 0, 0)] (pc' := 7) (lo' := [some (.ref 62), some (.int v1)]) (st' := [.int (nI 61), .int v1]) (σ' := σ) (by decide +kernel) rfl rfl ?_
    refine g_ic_ge hx (off := 9) (tgt := 16) (by decide +kernel) (by decide) (fun c7 => ?_) (fun c7 => ?_)
    · have h := ok_t h c7
      refine g_run hx [(.bipush (-2), (-2), 0)] (pc' := 18) (lo' := [some (.ref 62), some (.int v1)]) (st' := [.int (-2)]) (σ' := σ) (by decide +kernel) rfl rfl ?_
      exact g_iret hx hr rfl _ rfl (by decide +kernel) (ok_some h)
    · have h := ok_f h c7
      refine g_run hx [(.aload_n 0, 0, 0), (.iload_n 1, 0, 0)] (pc' := 12) (lo' := [some (.ref 62), some (.int v1)]) (st' := [.int v1, .ref 62]) (σ' := σ) (by decide +kernel) rfl rfl ?_
      obtain ⟨c12, h⟩ := ok_g h
      refine g_iald hx (by decide +kernel) (i := 62) (n := 61) rfl c12 ?_
      refine g_goto hx (off := 5) (tgt := 18) (by decide +kernel) (by decide) ?_
      exact g_iret hx hr rfl _ rfl (by decide +kernel) (ok_some h)
def f_paths_fewestFor_L23 (N : Nat) : Nat → Int32 → Int32 → Int32 → Int32 → Sg → (Int32 → Int32 → Int32 → Sg → Option (Int32 × Sg)) → Option (Int32 × Sg)
  | 0, _, _, _, _, _, _ => none
  | n + 1, v1, v3, v4, v5, σ, k90 =>
    if (gI σ 11 1) ≤ v5 then
      k90 v1 v3 v4 σ
    else
      (f_numbers_at N 11 3 12 v5 σ).bind fun q3 =>
      (f_paths_get N 61 62 (v3 - q3.1) q3.2).bind fun q4 =>
      if q4.1 = (-2) then
        f_paths_fewestFor_L23 N n v1 v3 v4 (v5 + 1) q4.2 k90
      else
        if v4 = (-2) then
          f_paths_fewestFor_L23 N n v1 v3 (q4.1 + 1) (v5 + 1) q4.2 k90
        else
          if v4 ≤ (q4.1 + 1) then
            f_paths_fewestFor_L23 N n v1 v3 v4 (v5 + 1) q4.2 k90
          else
            f_paths_fewestFor_L23 N n v1 v3 (q4.1 + 1) (v5 + 1) q4.2 k90
def f_paths_fewestFor_L11 (N : Nat) : Nat → Int32 → Int32 → Sg → Option (Int32 × Sg)
  | 0, _, _, _ => none
  | n + 1, v1, v3, σ =>
    if v1 < v3 then
      (f_paths_get N 61 62 v1 σ).bind fun q2 =>
      some (q2.1, q2.2)
    else
      f_paths_fewestFor_L23 N N v1 v3 (-2) 0 σ
        (fun (w1 : Int32) (w3 : Int32) (w4 : Int32) (t5 : Sg) =>
          (f_paths_put N 61 62 w3 w4 t5).bind fun q6 =>
          f_paths_fewestFor_L11 N n w1 (w3 + 1) q6.2)
def f_paths_fewestFor (N : Nat) (v1 : Int32) (σ : Sg) : Option (Int32 × Sg) :=
  (f_paths_put N 61 62 0 0 σ).bind fun q1 =>
  f_paths_fewestFor_L11 N N v1 1 q1.2
set_option maxRecDepth 100000 in
theorem s_paths_fewestFor_L23 {y : EX} {N : Nat} {x : CX} {P : Int32 × Sg → Prop} (hx : Cx 4 prog_6_method_11_code x) (hc : Cc y 7 1 x) (hr : Cr M_paths_fewestFor rvI P x) : ∀ (n : Nat) (v1 : Int32) (v3 : Int32) (v4 : Int32) (v5 : Int32) (σ : Sg) (k90 : Int32 → Int32 → Int32 → Sg → Option (Int32 × Sg)) (hk90 : ∀ (w1 : Int32) (w3 : Int32) (w4 : Int32) (t : Sg), ok (k90 w1 w3 w4 t) P → G x 90 [some (.ref 55), some (.int w1), some (.ref 10), some (.int w3), some (.int w4), none, none] [] t), ok (f_paths_fewestFor_L23 N n v1 v3 v4 v5 σ k90) P → G x 23 [some (.ref 55), some (.int v1), some (.ref 10), some (.int v3), some (.int v4), some (.int v5), none] [] σ := by
  intro n
  induction n with
  | zero => intro v1 v3 v4 v5 σ k90 hk90 h; exact ok_none h
  | succ n ih =>
    intro v1 v3 v4 v5 σ k90 hk90 h
    rw [f_paths_fewestFor_L23] at h
    refine g_run hx [(.iload 5, 0, 0), (.aload_n 2, 0, 0), (.getfield 96, 0, 0), (.getfield 71, 0, 0)] (pc' := 32) (lo' := [some (.ref 55), some (.int v1), some (.ref 10), some (.int v3), some (.int v4), some (.int v5), none]) (st' := [.int (gI σ 11 1), .int v5]) (σ' := σ) (by decide +kernel) rfl rfl ?_
    refine g_ic_ge hx (off := 58) (tgt := 90) (by decide +kernel) (by decide) (fun c32 => ?_) (fun c32 => ?_)
    · have h := ok_t h c32
      refine g_wk (lo' := [some (.ref 55), some (.int v1), some (.ref 10), some (.int v3), some (.int v4), none, none]) ⟨rfl, ⟨rfl, ⟨rfl, ⟨rfl, ⟨rfl, trivial⟩⟩⟩⟩⟩ ?_
      exact hk90 _ _ _ _ h
    · have h := ok_f h c32
      refine g_run hx [(.aload_n 0, 0, 0), (.getfield 31, 0, 0), (.iload_n 3, 0, 0), (.aload_n 2, 0, 0), (.getfield 96, 0, 0), (.iload 5, 0, 0)] (pc' := 46) (lo' := [some (.ref 55), some (.int v1), some (.ref 10), some (.int v3), some (.int v4), some (.int v5), none]) (st' := [.int v5, .ref 11, .int v3, .ref 62]) (σ' := σ) (by decide +kernel) rfl rfl ?_
      refine g_callV (rest := [.int v3, .ref 62]) [.int v5] hx hc mk_numbers_at ln_4_76 rfl (by decide +kernel) (by decide) (Nat.le_of_ble_eq_true rfl) (s_numbers_at_11 (ok_b h)) (fun r3 s3 h => ?_)
      refine g_run hx [(.isub, 0, 0)] (pc' := 50) (lo' := [some (.ref 55), some (.int v1), some (.ref 10), some (.int v3), some (.int v4), some (.int v5), none]) (st' := [.int (v3 - r3), .ref 62]) (σ' := s3) (by decide +kernel) rfl rfl ?_
      refine g_callS (rest := []) [.ref 62, .int (v3 - r3)] hx hc mk_paths_get ln_4_108 (by decide +kernel) (by decide) (Nat.le_of_ble_eq_true rfl) (s_paths_get_62 (ok_b h)) (fun r4 s4 h => ?_)
      refine g_run hx [(.istore 6, 0, 0), (.iload 6, 0, 0), (.bipush (-2), (-2), 0)] (pc' := 59) (lo' := [some (.ref 55), some (.int v1), some (.ref 10), some (.int v3), some (.int v4), some (.int v5), some (.int r4)]) (st' := [.int (-2), .int r4]) (σ' := s4) (by decide +kernel) rfl rfl ?_
      refine g_ic_eq hx (off := 25) (tgt := 84) (by decide +kernel) (by decide) (fun c59 => ?_) (fun c59 => ?_)
      · have h := ok_t h c59
        refine g_run hx [(.iinc 5 1, 1, 0)] (pc' := 87) (lo' := [some (.ref 55), some (.int v1), some (.ref 10), some (.int v3), some (.int v4), some (.int (v5 + 1)), some (.int r4)]) (st' := []) (σ' := s4) (by decide +kernel) rfl rfl ?_
        refine g_goto hx (off := (-64)) (tgt := 23) (by decide +kernel) (by decide) ?_
        refine g_wk (lo' := [some (.ref 55), some (.int v1), some (.ref 10), some (.int v3), some (.int v4), some (.int (v5 + 1)), none]) ⟨rfl, ⟨rfl, ⟨rfl, ⟨rfl, ⟨rfl, ⟨rfl, trivial⟩⟩⟩⟩⟩⟩ ?_
        exact ih _ _ _ _ _ _ hk90 h
      · have h := ok_f h c59
        refine g_run hx [(.iload 4, 0, 0), (.bipush (-2), (-2), 0)] (pc' := 66) (lo' := [some (.ref 55), some (.int v1), some (.ref 10), some (.int v3), some (.int v4), some (.int v5), some (.int r4)]) (st' := [.int (-2), .int v4]) (σ' := s4) (by decide +kernel) rfl rfl ?_
        refine g_ic_eq hx (off := 12) (tgt := 78) (by decide +kernel) (by decide) (fun c66 => ?_) (fun c66 => ?_)
        · have h := ok_t h c66
          refine g_run hx [(.iload 6, 0, 0), (.iconst 1, 1, 0), (.iadd, 0, 0), (.istore 4, 0, 0), (.iinc 5 1, 1, 0)] (pc' := 87) (lo' := [some (.ref 55), some (.int v1), some (.ref 10), some (.int v3), some (.int (r4 + 1)), some (.int (v5 + 1)), some (.int r4)]) (st' := []) (σ' := s4) (by decide +kernel) rfl rfl ?_
          refine g_goto hx (off := (-64)) (tgt := 23) (by decide +kernel) (by decide) ?_
          refine g_wk (lo' := [some (.ref 55), some (.int v1), some (.ref 10), some (.int v3), some (.int (r4 + 1)), some (.int (v5 + 1)), none]) ⟨rfl, ⟨rfl, ⟨rfl, ⟨rfl, ⟨rfl, ⟨rfl, trivial⟩⟩⟩⟩⟩⟩ ?_
          exact ih _ _ _ _ _ _ hk90 h
        · have h := ok_f h c66
          refine g_run hx [(.iload 6, 0, 0), (.iconst 1, 1, 0), (.iadd, 0, 0), (.iload 4, 0, 0)] (pc' := 75) (lo' := [some (.ref 55), some (.int v1), some (.ref 10), some (.int v3), some (.int v4), some (.int v5), some (.int r4)]) (st' := [.int v4, .int (r4 + 1)]) (σ' := s4) (by decide +kernel) rfl rfl ?_
          refine g_ic_ge hx (off := 9) (tgt := 84) (by decide +kernel) (by decide) (fun c75 => ?_) (fun c75 => ?_)
          · have h := ok_t h c75
            refine g_run hx [(.iinc 5 1, 1, 0)] (pc' := 87) (lo' := [some (.ref 55), some (.int v1), some (.ref 10), some (.int v3), some (.int v4), some (.int (v5 + 1)), some (.int r4)]) (st' := []) (σ' := s4) (by decide +kernel) rfl rfl ?_
            refine g_goto hx (off := (-64)) (tgt := 23) (by decide +kernel) (by decide) ?_
            refine g_wk (lo' := [some (.ref 55), some (.int v1), some (.ref 10), some (.int v3), some (.int v4), some (.int (v5 + 1)), none]) ⟨rfl, ⟨rfl, ⟨rfl, ⟨rfl, ⟨rfl, ⟨rfl, trivial⟩⟩⟩⟩⟩⟩ ?_
            exact ih _ _ _ _ _ _ hk90 h
          · have h := ok_f h c75
            refine g_run hx [(.iload 6, 0, 0), (.iconst 1, 1, 0), (.iadd, 0, 0), (.istore 4, 0, 0), (.iinc 5 1, 1, 0)] (pc' := 87) (lo' := [some (.ref 55), some (.int v1), some (.ref 10), some (.int v3), some (.int (r4 + 1)), some (.int (v5 + 1)), some (.int r4)]) (st' := []) (σ' := s4) (by decide +kernel) rfl rfl ?_
            refine g_goto hx (off := (-64)) (tgt := 23) (by decide +kernel) (by decide) ?_
            refine g_wk (lo' := [some (.ref 55), some (.int v1), some (.ref 10), some (.int v3), some (.int (r4 + 1)), some (.int (v5 + 1)), none]) ⟨rfl, ⟨rfl, ⟨rfl, ⟨rfl, ⟨rfl, ⟨rfl, trivial⟩⟩⟩⟩⟩⟩ ?_
            exact ih _ _ _ _ _ _ hk90 h
set_option maxRecDepth 100000 in
theorem s_paths_fewestFor_L11 {y : EX} {N : Nat} {x : CX} {P : Int32 × Sg → Prop} (hx : Cx 4 prog_6_method_11_code x) (hc : Cc y 7 1 x) (hr : Cr M_paths_fewestFor rvI P x) : ∀ (n : Nat) (v1 : Int32) (v3 : Int32) (σ : Sg), ok (f_paths_fewestFor_L11 N n v1 v3 σ) P → G x 11 [some (.ref 55), some (.int v1), some (.ref 10), some (.int v3), none, none, none] [] σ := by
  intro n
  induction n with
  | zero => intro v1 v3 σ h; exact ok_none h
  | succ n ih =>
    intro v1 v3 σ h
    rw [f_paths_fewestFor_L11] at h
    refine g_run hx [(.iload_n 3, 0, 0), (.iload_n 1, 0, 0)] (pc' := 13) (lo' := [some (.ref 55), some (.int v1), some (.ref 10), some (.int v3), none, none, none]) (st' := [.int v1, .int v3]) (σ' := σ) (by decide +kernel) rfl rfl ?_
    refine g_ic_gt hx (off := 93) (tgt := 106) (by decide +kernel) (by decide) (fun c13 => ?_) (fun c13 => ?_)
    · have h := ok_t h c13
      refine g_run hx [(.aload_n 0, 0, 0), (.getfield 31, 0, 0), (.iload_n 1, 0, 0)] (pc' := 111) (lo' := [some (.ref 55), some (.int v1), some (.ref 10), some (.int v3), none, none, none]) (st' := [.int v1, .ref 62]) (σ' := σ) (by decide +kernel) rfl rfl ?_
      refine g_callS (rest := []) [.ref 62, .int v1] hx hc mk_paths_get ln_4_108 (by decide +kernel) (by decide) (Nat.le_of_ble_eq_true rfl) (s_paths_get_62 (ok_b h)) (fun r2 s2 h => ?_)
      exact g_iret hx hr rfl _ rfl (by decide +kernel) (ok_some h)
    · have h := ok_f h c13
      refine g_run hx [(.bipush (-2), (-2), 0), (.istore 4, 0, 0), (.iconst 0, 0, 0), (.istore 5, 0, 0)] (pc' := 23) (lo' := [some (.ref 55), some (.int v1), some (.ref 10), some (.int v3), some (.int (-2)), some (.int 0), none]) (st' := []) (σ' := σ) (by decide +kernel) rfl rfl ?_
      refine s_paths_fewestFor_L23 hx hc hr N _ _ _ _ _ _ (fun w1 w3 w4 t5 h => ?_) h
      refine g_run hx [(.aload_n 0, 0, 0), (.getfield 31, 0, 0), (.iload_n 3, 0, 0), (.iload 4, 0, 0)] (pc' := 97) (lo' := [some (.ref 55), some (.int w1), some (.ref 10), some (.int w3), some (.int w4), none, none]) (st' := [.int w4, .int w3, .ref 62]) (σ' := t5) (by decide +kernel) rfl rfl ?_
      refine g_callS (rest := []) [.ref 62, .int w3, .int w4] hx hc mk_paths_put ln_4_84 (by decide +kernel) (by decide) (Nat.le_of_ble_eq_true rfl) (s_paths_put_62 (ok_b h)) (fun r6 s6 h => ?_)
      refine g_run hx [(.iinc 3 1, 1, 0)] (pc' := 103) (lo' := [some (.ref 55), some (.int w1), some (.ref 10), some (.int (w3 + 1)), some (.int w4), none, none]) (st' := []) (σ' := s6) (by decide +kernel) rfl rfl ?_
      refine g_goto hx (off := (-92)) (tgt := 11) (by decide +kernel) (by decide) ?_
      refine g_wk (lo' := [some (.ref 55), some (.int w1), some (.ref 10), some (.int (w3 + 1)), none, none, none]) ⟨rfl, ⟨rfl, ⟨rfl, ⟨rfl, trivial⟩⟩⟩⟩ ?_
      exact ih _ _ _ h
set_option maxRecDepth 100000 in
theorem s_paths_fewestFor {y : EX} {N : Nat} {v1 : Int32} {σ : Sg} {P : Int32 × Sg → Prop} (h : ok (f_paths_fewestFor N v1 σ) P) : Ev y M_paths_fewestFor 1 [.ref 55, .int v1, .ref 10] σ rvI P := by
  refine Ev.of mk_paths_fewestFor (Nat.le_of_ble_eq_true rfl) (fun x hx hc hr => ?_)
  have hx : Cx 4 prog_6_method_11_code x := hx
  have hc : Cc y 7 1 x := hc
  show G x 0 [some (.ref 55), some (.int v1), some (.ref 10), none, none, none, none] [] σ
  unfold f_paths_fewestFor at h
  refine g_run hx [(.aload_n 0, 0, 0), (.getfield 31, 0, 0), (.iconst 0, 0, 0), (.iconst 0, 0, 0)] (pc' := 6) (lo' := [some (.ref 55), some (.int v1), some (.ref 10), none, none, none, none]) (st' := [.int 0, .int 0, .ref 62]) (σ' := σ) (by decide +kernel) rfl rfl ?_
  refine g_callS (rest := []) [.ref 62, .int 0, .int 0] hx hc mk_paths_put ln_4_84 (by decide +kernel) (by decide) (Nat.le_of_ble_eq_true rfl) (s_paths_put_62 (ok_b h)) (fun r1 s1 h => ?_)
  refine g_run hx [(.iconst 1, 1, 0), (.istore_n 3, 0, 0)] (pc' := 11) (lo' := [some (.ref 55), some (.int v1), some (.ref 10), some (.int 1), none, none, none]) (st' := []) (σ' := s1) (by decide +kernel) rfl rfl ?_
  refine s_paths_fewestFor_L11 hx hc hr N _ _ _ h
def f_paths_longestWithoutSum_L11 (N : Nat) : Nat → Int32 → Sg → Option (Int32 × Sg)
  | 0, _, _ => none
  | n + 1, v2, σ =>
    if v2 < 0 then
      some ((-2), σ)
    else
      (f_paths_get N 61 62 v2 σ).bind fun q2 =>
      if q2.1 = (-2) then
        some (v2, q2.2)
      else
        f_paths_longestWithoutSum_L11 N n (v2 + (-1)) q2.2
def f_paths_longestWithoutSum (N : Nat) (σ : Sg) : Option (Int32 × Sg) :=
  (f_paths_fewestFor N 60 σ).bind fun q1 =>
  f_paths_longestWithoutSum_L11 N N 60 q1.2
set_option maxRecDepth 100000 in
theorem s_paths_longestWithoutSum_L11 {y : EX} {N : Nat} {x : CX} {P : Int32 × Sg → Prop} (hx : Cx 4 prog_6_method_12_code x) (hc : Cc y 3 2 x) (hr : Cr M_paths_longestWithoutSum rvI P x) : ∀ (n : Nat) (v2 : Int32) (σ : Sg), ok (f_paths_longestWithoutSum_L11 N n v2 σ) P → G x 11 [some (.ref 55), none, some (.int v2)] [] σ := by
  intro n
  induction n with
  | zero => intro v2 σ h; exact ok_none h
  | succ n ih =>
    intro v2 σ h
    rw [f_paths_longestWithoutSum_L11] at h
    refine g_run hx [(.iload_n 2, 0, 0)] (pc' := 12) (lo' := [some (.ref 55), none, some (.int v2)]) (st' := [.int v2]) (σ' := σ) (by decide +kernel) rfl rfl ?_
    refine g_if_lt hx (off := 24) (tgt := 36) (by decide +kernel) (by decide) (fun c12 => ?_) (fun c12 => ?_)
    · have h := ok_t h c12
      refine g_run hx [(.bipush (-2), (-2), 0)] (pc' := 38) (lo' := [some (.ref 55), none, some (.int v2)]) (st' := [.int (-2)]) (σ' := σ) (by decide +kernel) rfl rfl ?_
      exact g_iret hx hr rfl _ rfl (by decide +kernel) (ok_some h)
    · have h := ok_f h c12
      refine g_run hx [(.aload_n 0, 0, 0), (.getfield 31, 0, 0), (.iload_n 2, 0, 0)] (pc' := 20) (lo' := [some (.ref 55), none, some (.int v2)]) (st' := [.int v2, .ref 62]) (σ' := σ) (by decide +kernel) rfl rfl ?_
      refine g_callS (rest := []) [.ref 62, .int v2] hx hc mk_paths_get ln_4_108 (by decide +kernel) (by decide) (Nat.le_of_ble_eq_true rfl) (s_paths_get_62 (ok_b h)) (fun r2 s2 h => ?_)
      refine g_run hx [(.bipush (-2), (-2), 0)] (pc' := 25) (lo' := [some (.ref 55), none, some (.int v2)]) (st' := [.int (-2), .int r2]) (σ' := s2) (by decide +kernel) rfl rfl ?_
      refine g_ic_ne hx (off := 5) (tgt := 30) (by decide +kernel) (by decide) (fun c25 => ?_) (fun c25 => ?_)
      · have h := ok_f h c25
        refine g_run hx [(.iinc 2 (-1), (-1), 0)] (pc' := 33) (lo' := [some (.ref 55), none, some (.int (v2 + (-1)))]) (st' := []) (σ' := s2) (by decide +kernel) rfl rfl ?_
        refine g_goto hx (off := (-22)) (tgt := 11) (by decide +kernel) (by decide) ?_
        exact ih _ _ h
      · have h := ok_t h c25
        refine g_run hx [(.iload_n 2, 0, 0)] (pc' := 29) (lo' := [some (.ref 55), none, some (.int v2)]) (st' := [.int v2]) (σ' := s2) (by decide +kernel) rfl rfl ?_
        exact g_iret hx hr rfl _ rfl (by decide +kernel) (ok_some h)
set_option maxRecDepth 100000 in
theorem s_paths_longestWithoutSum {y : EX} {N : Nat} {σ : Sg} {P : Int32 × Sg → Prop} (h : ok (f_paths_longestWithoutSum N σ) P) : Ev y M_paths_longestWithoutSum 2 [.ref 55, .ref 10] σ rvI P := by
  refine Ev.of mk_paths_longestWithoutSum (Nat.le_of_ble_eq_true rfl) (fun x hx hc hr => ?_)
  have hx : Cx 4 prog_6_method_12_code x := hx
  have hc : Cc y 3 2 x := hc
  show G x 0 [some (.ref 55), some (.ref 10), none] [] σ
  unfold f_paths_longestWithoutSum at h
  refine g_run hx [(.aload_n 0, 0, 0), (.bipush 60, 60, 0), (.aload_n 1, 0, 0)] (pc' := 4) (lo' := [some (.ref 55), some (.ref 10), none]) (st' := [.ref 10, .int 60, .ref 55]) (σ' := σ) (by decide +kernel) rfl rfl ?_
  refine g_callV (rest := []) [.int 60, .ref 10] hx hc mk_paths_fewestFor ln_4_112 rfl (by decide +kernel) (by decide) (Nat.le_of_ble_eq_true rfl) (s_paths_fewestFor (ok_b h)) (fun r1 s1 h => ?_)
  refine g_run hx [(.pop, 0, 0), (.bipush 60, 60, 0), (.istore_n 2, 0, 0)] (pc' := 11) (lo' := [some (.ref 55), some (.ref 10), some (.int 60)]) (st' := []) (σ' := s1) (by decide +kernel) rfl rfl ?_
  refine g_wk (lo' := [some (.ref 55), none, some (.int 60)]) ⟨rfl, ⟨rfl, trivial⟩⟩ ?_
  refine s_paths_longestWithoutSum_L11 hx hc hr N _ _ h
