def f_x_image (N : Nat) (σ : Sg) : Option (Int32 × Sg) :=
  (f_x_landTrouble N σ).bind fun q1 =>
  if q1.1 = 0 then
    if (gI q1.2 0 6) < 3 then
      (f_x_granted N 0 q1.2).bind fun q2 =>
      if q2.1 = true then
        (f_shelf_keep N 3 3 3 3 3 50 40 51 52 53 54 (gI q2.2 0 6) q2.2).bind fun q3 =>
        some (((gI (sI q3.2 0 6 ((gI q3.2 0 6) + 1)) 0 6) - 1), sI q3.2 0 6 ((gI q3.2 0 6) + 1))
      else
        some ((-1), q2.2)
    else
      (f_x_granted N 3 q1.2).bind fun q4 =>
      if q4.1 = true then
        (f_shelf_keep N 3 3 3 3 3 50 40 51 52 53 54 (gI q4.2 0 6) q4.2).bind fun q5 =>
        some (((gI (sI q5.2 0 6 ((gI q5.2 0 6) + 1)) 0 6) - 1), sI q5.2 0 6 ((gI q5.2 0 6) + 1))
      else
        some ((-1), q4.2)
  else
    (f_x_granted N 1 q1.2).bind fun q6 =>
    if q6.1 = true then
      (f_shelf_keep N 3 3 3 3 3 50 40 51 52 53 54 (gI q6.2 0 6) q6.2).bind fun q7 =>
      some (((gI (sI q7.2 0 6 ((gI q7.2 0 6) + 1)) 0 6) - 1), sI q7.2 0 6 ((gI q7.2 0 6) + 1))
    else
      some ((-1), q6.2)
set_option maxRecDepth 100000 in
theorem s_x_image {y : EX} {N : Nat} {σ : Sg} {P : Int32 × Sg → Prop} (h : ok (f_x_image N σ) P) : Ev y M_x_image 2 [.ref 0] σ rvI P := by
  refine Ev.of mk_x_image (Nat.le_of_ble_eq_true rfl) (fun x hx hc hr => ?_)
  have hx : Cx 9 prog_1_method_58_code x := hx
  have hc : Cc y 1 2 x := hc
  show G x 0 [some (.ref 0)] [] σ
  unfold f_x_image at h
  refine g_run hx [(.aload_n 0, 0, 0), (.aload_n 0, 0, 0)] (pc' := 2) (lo' := [some (.ref 0)]) (st' := [.ref 0, .ref 0]) (σ' := σ) (by decide +kernel) rfl rfl ?_
  refine g_callV (rest := [.ref 0]) [] hx hc mk_x_landTrouble ln_9_158 rfl (by decide +kernel) (by decide) (Nat.le_of_ble_eq_true rfl) (s_x_landTrouble (ok_b h)) (fun r1 s1 h => ?_)
  refine g_if_eq hx (off := 7) (tgt := 12) (by decide +kernel) (by decide) (fun c5 => ?_) (fun c5 => ?_)
  · have h := ok_t h c5
    refine g_run hx [(.aload_n 0, 0, 0), (.getfield 49, 0, 0), (.iconst 3, 3, 0)] (pc' := 17) (lo' := [some (.ref 0)]) (st' := [.int 3, .int (gI s1 0 6), .ref 0]) (σ' := s1) (by decide +kernel) rfl rfl ?_
    refine g_ic_lt hx (off := 7) (tgt := 24) (by decide +kernel) (by decide) (fun c17 => ?_) (fun c17 => ?_)
    · have h := ok_t h c17
      refine g_run hx [(.iconst 0, 0, 0)] (pc' := 25) (lo' := [some (.ref 0)]) (st' := [.int 0, .ref 0]) (σ' := s1) (by decide +kernel) rfl rfl ?_
      refine g_callV (rest := []) [.int 0] hx hc mk_x_granted ln_9_83 rfl (by decide +kernel) (by decide) (Nat.le_of_ble_eq_true rfl) (s_x_granted (ok_b h)) (fun r2 s2 h => ?_)
      refine g_ifb_ne hx (off := 5) (tgt := 33) (by decide +kernel) (by decide) (fun c28 => ?_) (fun c28 => ?_)
      · have h := ok_t h c28
        refine g_run hx [(.aload_n 0, 0, 0), (.getfield 45, 0, 0), (.aload_n 0, 0, 0), (.getfield 49, 0, 0), (.aload_n 0, 0, 0), (.getfield 26, 0, 0)] (pc' := 45) (lo' := [some (.ref 0)]) (st' := [.ref 40, .int (gI s2 0 6), .ref 49]) (σ' := s2) (by decide +kernel) rfl rfl ?_
        refine g_callV (rest := []) [.int (gI s2 0 6), .ref 40] hx hc mk_shelf_keep ln_9_366 rfl (by decide +kernel) (by decide) (Nat.le_of_ble_eq_true rfl) (s_shelf_keep_49_40 (ok_b h)) (fun r3 s3 h => ?_)
        refine g_run hx [(.aload_n 0, 0, 0), (.dup, 0, 0), (.getfield 49, 0, 0), (.iconst 1, 1, 0), (.iadd, 0, 0), (.putfield 49, 0, 0), (.aload_n 0, 0, 0), (.getfield 49, 0, 0), (.iconst 1, 1, 0), (.isub, 0, 0)] (pc' := 64) (lo' := [some (.ref 0)]) (st' := [.int ((gI (sI s3 0 6 ((gI s3 0 6) + 1)) 0 6) - 1)]) (σ' := sI s3 0 6 ((gI s3 0 6) + 1)) (by decide +kernel) rfl rfl ?_
        exact g_iret hx hr rfl _ rfl (by decide +kernel) (ok_some h)
      · have h := ok_f h c28
        refine g_run hx [(.iconst (-1), (-1), 0)] (pc' := 32) (lo' := [some (.ref 0)]) (st' := [.int (-1)]) (σ' := s2) (by decide +kernel) rfl rfl ?_
        exact g_iret hx hr rfl _ rfl (by decide +kernel) (ok_some h)
    · have h := ok_f h c17
      refine g_run hx [(.iconst 3, 3, 0)] (pc' := 21) (lo' := [some (.ref 0)]) (st' := [.int 3, .ref 0]) (σ' := s1) (by decide +kernel) rfl rfl ?_
      refine g_goto hx (off := 4) (tgt := 25) (by decide +kernel) (by decide) ?_
      refine g_callV (rest := []) [.int 3] hx hc mk_x_granted ln_9_83 rfl (by decide +kernel) (by decide) (Nat.le_of_ble_eq_true rfl) (s_x_granted (ok_b h)) (fun r4 s4 h => ?_)
      refine g_ifb_ne hx (off := 5) (tgt := 33) (by decide +kernel) (by decide) (fun c28 => ?_) (fun c28 => ?_)
      · have h := ok_t h c28
        refine g_run hx [(.aload_n 0, 0, 0), (.getfield 45, 0, 0), (.aload_n 0, 0, 0), (.getfield 49, 0, 0), (.aload_n 0, 0, 0), (.getfield 26, 0, 0)] (pc' := 45) (lo' := [some (.ref 0)]) (st' := [.ref 40, .int (gI s4 0 6), .ref 49]) (σ' := s4) (by decide +kernel) rfl rfl ?_
        refine g_callV (rest := []) [.int (gI s4 0 6), .ref 40] hx hc mk_shelf_keep ln_9_366 rfl (by decide +kernel) (by decide) (Nat.le_of_ble_eq_true rfl) (s_shelf_keep_49_40 (ok_b h)) (fun r5 s5 h => ?_)
        refine g_run hx [(.aload_n 0, 0, 0), (.dup, 0, 0), (.getfield 49, 0, 0), (.iconst 1, 1, 0), (.iadd, 0, 0), (.putfield 49, 0, 0), (.aload_n 0, 0, 0), (.getfield 49, 0, 0), (.iconst 1, 1, 0), (.isub, 0, 0)] (pc' := 64) (lo' := [some (.ref 0)]) (st' := [.int ((gI (sI s5 0 6 ((gI s5 0 6) + 1)) 0 6) - 1)]) (σ' := sI s5 0 6 ((gI s5 0 6) + 1)) (by decide +kernel) rfl rfl ?_
        exact g_iret hx hr rfl _ rfl (by decide +kernel) (ok_some h)
      · have h := ok_f h c28
        refine g_run hx [(.iconst (-1), (-1), 0)] (pc' := 32) (lo' := [some (.ref 0)]) (st' := [.int (-1)]) (σ' := s4) (by decide +kernel) rfl rfl ?_
        exact g_iret hx hr rfl _ rfl (by decide +kernel) (ok_some h)
  · have h := ok_f h c5
    refine g_run hx [(.iconst 1, 1, 0)] (pc' := 9) (lo' := [some (.ref 0)]) (st' := [.int 1, .ref 0]) (σ' := s1) (by decide +kernel) rfl rfl ?_
    refine g_goto hx (off := 16) (tgt := 25) (by decide +kernel) (by decide) ?_
    refine g_callV (rest := []) [.int 1] hx hc mk_x_granted ln_9_83 rfl (by decide +kernel) (by decide) (Nat.le_of_ble_eq_true rfl) (s_x_granted (ok_b h)) (fun r6 s6 h => ?_)
    refine g_ifb_ne hx (off := 5) (tgt := 33) (by decide +kernel) (by decide) (fun c28 => ?_) (fun c28 => ?_)
    · have h := ok_t h c28
      refine g_run hx [(.aload_n 0, 0, 0), (.getfield 45, 0, 0), (.aload_n 0, 0, 0), (.getfield 49, 0, 0), (.aload_n 0, 0, 0), (.getfield 26, 0, 0)] (pc' := 45) (lo' := [some (.ref 0)]) (st' := [.ref 40, .int (gI s6 0 6), .ref 49]) (σ' := s6) (by decide +kernel) rfl rfl ?_
      refine g_callV (rest := []) [.int (gI s6 0 6), .ref 40] hx hc mk_shelf_keep ln_9_366 rfl (by decide +kernel) (by decide) (Nat.le_of_ble_eq_true rfl) (s_shelf_keep_49_40 (ok_b h)) (fun r7 s7 h => ?_)
      refine g_run hx [(.aload_n 0, 0, 0), (.dup, 0, 0), (.getfield 49, 0, 0), (.iconst 1, 1, 0), (.iadd, 0, 0), (.putfield 49, 0, 0), (.aload_n 0, 0, 0), (.getfield 49, 0, 0), (.iconst 1, 1, 0), (.isub, 0, 0)] (pc' := 64) (lo' := [some (.ref 0)]) (st' := [.int ((gI (sI s7 0 6 ((gI s7 0 6) + 1)) 0 6) - 1)]) (σ' := sI s7 0 6 ((gI s7 0 6) + 1)) (by decide +kernel) rfl rfl ?_
      exact g_iret hx hr rfl _ rfl (by decide +kernel) (ok_some h)
    · have h := ok_f h c28
      refine g_run hx [(.iconst (-1), (-1), 0)] (pc' := 32) (lo' := [some (.ref 0)]) (st' := [.int (-1)]) (σ' := s6) (by decide +kernel) rfl rfl ?_
      exact g_iret hx hr rfl _ rfl (by decide +kernel) (ok_some h)
def f_country_firstUnlike (N : Nat) (σ : Sg) : Option (Int32 × Sg) :=
  (f_country_unlikeSeen N (gL σ 10 14) σ).bind fun q1 =>
  some (q1.1, q1.2)
set_option maxRecDepth 100000 in
theorem s_country_firstUnlike {y : EX} {N : Nat} {σ : Sg} {P : Int32 × Sg → Prop} (h : ok (f_country_firstUnlike N σ) P) : Ev y M_country_firstUnlike 2 [.ref 10] σ rvI P := by
  refine Ev.of mk_country_firstUnlike (Nat.le_of_ble_eq_true rfl) (fun x hx hc hr => ?_)
  have hx : Cx 1 prog_3_method_21_code x := hx
  have hc : Cc y 1 2 x := hc
  show G x 0 [some (.ref 10)] [] σ
  unfold f_country_firstUnlike at h
  refine g_run hx [(.aload_n 0, 0, 0), (.aload_n 0, 0, 0), (.getfield 61, 0, 0)] (pc' := 5) (lo' := [some (.ref 10)]) (st' := [.long (gL σ 10 14), .ref 10]) (σ' := σ) (by decide +kernel) rfl rfl ?_
  refine g_callV (rest := []) [.long (gL σ 10 14)] hx hc mk_country_unlikeSeen ln_1_113 rfl (by decide +kernel) (by decide) (Nat.le_of_ble_eq_true rfl) (s_country_unlikeSeen (ok_b h)) (fun r1 s1 h => ?_)
  exact g_iret hx hr rfl _ rfl (by decide +kernel) (ok_some h)
def f_x_judge (N : Nat) (σ : Sg) : Option (Int32 × Sg) :=
  (f_x_landTrouble N σ).bind fun q1 =>
  (f_x_granted N q1.1 q1.2).bind fun q2 =>
  if q2.1 = true then
    (f_country_firstUnlike N q2.2).bind fun q3 =>
    some (q3.1, q3.2)
  else
    some ((-1), q2.2)
set_option maxRecDepth 100000 in
theorem s_x_judge {y : EX} {N : Nat} {σ : Sg} {P : Int32 × Sg → Prop} (h : ok (f_x_judge N σ) P) : Ev y M_x_judge 3 [.ref 0] σ rvI P := by
  refine Ev.of mk_x_judge (Nat.le_of_ble_eq_true rfl) (fun x hx hc hr => ?_)
  have hx : Cx 9 prog_1_method_46_code x := hx
  have hc : Cc y 1 3 x := hc
  show G x 0 [some (.ref 0)] [] σ
  unfold f_x_judge at h
  refine g_run hx [(.aload_n 0, 0, 0), (.aload_n 0, 0, 0)] (pc' := 2) (lo' := [some (.ref 0)]) (st' := [.ref 0, .ref 0]) (σ' := σ) (by decide +kernel) rfl rfl ?_
  refine g_callV (rest := [.ref 0]) [] hx hc mk_x_landTrouble ln_9_158 rfl (by decide +kernel) (by decide) (Nat.le_of_ble_eq_true rfl) (s_x_landTrouble (ok_b h)) (fun r1 s1 h => ?_)
  refine g_callV (rest := []) [.int r1] hx hc mk_x_granted ln_9_83 rfl (by decide +kernel) (by decide) (Nat.le_of_ble_eq_true rfl) (s_x_granted (ok_b h)) (fun r2 s2 h => ?_)
  refine g_ifb_eq hx (off := 13) (tgt := 21) (by decide +kernel) (by decide) (fun c8 => ?_) (fun c8 => ?_)
  · have h := ok_f h c8
    refine g_run hx [(.iconst (-1), (-1), 0)] (pc' := 22) (lo' := [some (.ref 0)]) (st' := [.int (-1)]) (σ' := s2) (by decide +kernel) rfl rfl ?_
    exact g_iret hx hr rfl _ rfl (by decide +kernel) (ok_some h)
  · have h := ok_t h c8
    refine g_run hx [(.aload_n 0, 0, 0), (.getfield 19, 0, 0)] (pc' := 15) (lo' := [some (.ref 0)]) (st' := [.ref 10]) (σ' := s2) (by decide +kernel) rfl rfl ?_
    refine g_callV (rest := []) [] hx hc mk_country_firstUnlike ln_9_307 rfl (by decide +kernel) (by decide) (Nat.le_of_ble_eq_true rfl) (s_country_firstUnlike (ok_b h)) (fun r3 s3 h => ?_)
    refine g_goto hx (off := 4) (tgt := 22) (by decide +kernel) (by decide) ?_
    exact g_iret hx hr rfl _ rfl (by decide +kernel) (ok_some h)
def f_country_clear (N : Nat) (σ : Sg) : Option (Unit × Sg) :=
  some ((), sL (sI (sI (sI (sI (sI (sI (sI (sI (sL (sL (sI (sI (sI (sI σ 25 0 0) 25 1 0) 25 2 0) 25 3 0) 25 4 0) 25 5 0) 26 1 0) 28 1 0) 30 1 0) 32 1 0) 34 1 0) 36 1 0) 38 1 0) 25 13 0) 25 14 0)
set_option maxRecDepth 100000 in
theorem s_country_clear {y : EX} {N : Nat} {σ : Sg} {P : Unit × Sg → Prop} (h : ok (f_country_clear N σ) P) : Ev y M_country_clear 0 [.ref 25] σ rvN P := by
  refine Ev.of mk_country_clear (Nat.le_of_ble_eq_true rfl) (fun x hx hc hr => ?_)
  have hx : Cx 1 prog_3_method_2_code x := hx
  have hc : Cc y 1 0 x := hc
  show G x 0 [some (.ref 25)] [] σ
  unfold f_country_clear at h
  refine g_run hx [(.aload_n 0, 0, 0), (.iconst 0, 0, 0), (.putfield 9, 0, 0), (.aload_n 0, 0, 0), (.iconst 0, 0, 0), (.putfield 15, 0, 0), (.aload_n 0, 0, 0), (.iconst 0, 0, 0), (.putfield 18, 0, 0), (.aload_n 0, 0, 0), (.iconst 0, 0, 0), (.putfield 21, 0, 0), (.aload_n 0, 0, 0), (.lconst 0, 0, 0), (.putfield 24, 0, 0), (.aload_n 0, 0, 0), (.lconst 0, 0, 0), (.putfield 28, 0, 0), (.aload_n 0, 0, 0), (.getfield 36, 0, 0), (.iconst 0, 0, 0), (.putfield 64, 0, 0), (.aload_n 0, 0, 0), (.getfield 40, 0, 0), (.iconst 0, 0, 0), (.putfield 64, 0, 0), (.aload_n 0, 0, 0), (.getfield 43, 0, 0), (.iconst 0, 0, 0), (.putfield 64, 0, 0), (.aload_n 0, 0, 0), (.getfield 46, 0, 0), (.iconst 0, 0, 0), (.putfield 64, 0, 0), (.aload_n 0, 0, 0), (.getfield 49, 0, 0), (.iconst 0, 0, 0), (.putfield 64, 0, 0), (.aload_n 0, 0, 0), (.getfield 52, 0, 0), (.iconst 0, 0, 0), (.putfield 64, 0, 0), (.aload_n 0, 0, 0), (.getfield 55, 0, 0), (.iconst 0, 0, 0), (.putfield 64, 0, 0), (.aload_n 0, 0, 0), (.iconst 0, 0, 0), (.putfield 58, 0, 0), (.aload_n 0, 0, 0), (.lconst 0, 0, 0), (.putfield 61, 0, 0)] (pc' := 96) (lo' := [some (.ref 25)]) (st' := []) (σ' := sL (sI (sI (sI (sI (sI (sI (sI (sI (sL (sL (sI (sI (sI (sI σ 25 0 0) 25 1 0) 25 2 0) 25 3 0) 25 4 0) 25 5 0) 26 1 0) 28 1 0) 30 1 0) 32 1 0) 34 1 0) 36 1 0) 38 1 0) 25 13 0) 25 14 0) (by decide +kernel) rfl rfl ?_
  exact g_vret hx hr rfl () rfl (by decide +kernel) (ok_some h)
def f_reader_begin_L41 (N : Nat) : Nat → Int32 → Sg → Option (Unit × Sg)
  | 0, _, _ => none
  | n + 1, v2, σ =>
    if (nI 7) ≤ v2 then
      some ((), sI (sI (sI σ 4 1 0) 6 1 0) 8 1 0)
    else
      if vin v2 7 then
      f_reader_begin_L41 N n (v2 + 1) (sA σ 3 v2 0)
      else none
def f_reader_begin (N : Nat) (v1 : Int32) (σ : Sg) : Option (Unit × Sg) :=
  (f_country_clear N (sI (sI (sI (sI (sI σ 1 2 (jmin v1 (gI σ 1 1))) 1 1 0) 1 5 0) 1 12 0) 1 13 0)).bind fun q1 =>
  f_reader_begin_L41 N N 0 q1.2
set_option maxRecDepth 100000 in
theorem s_reader_begin_L41 {y : EX} {N : Nat} {x : CX} {P : Unit × Sg → Prop} (hx : Cx 5 prog_7_method_4_code x) (hc : Cc y 3 1 x) (hr : Cr M_reader_begin rvN P x) : ∀ (n : Nat) (v2 : Int32) (σ : Sg), ok (f_reader_begin_L41 N n v2 σ) P → G x 41 [some (.ref 1), none, some (.int v2)] [] σ := by
  intro n
  induction n with
  | zero => intro v2 σ h; exact ok_none h
  | succ n ih =>
    intro v2 σ h
    rw [f_reader_begin_L41] at h
    refine g_run hx [(.iload_n 2, 0, 0), (.aload_n 0, 0, 0), (.getfield 41, 0, 0), (.arraylength, 0, 0)] (pc' := 47) (lo' := [some (.ref 1), none, some (.int v2)]) (st' := [.int (nI 7), .int v2]) (σ' := σ) (by decide +kernel) rfl rfl ?_
    refine g_ic_ge hx (off := 16) (tgt := 63) (by decide +kernel) (by decide) (fun c47 => ?_) (fun c47 => ?_)
    · have h := ok_t h c47
      refine g_run hx [(.aload_n 0, 0, 0), (.getfield 50, 0, 0), (.iconst 0, 0, 0), (.putfield 88, 0, 0), (.aload_n 0, 0, 0), (.getfield 54, 0, 0), (.iconst 0, 0, 0), (.putfield 88, 0, 0), (.aload_n 0, 0, 0), (.getfield 57, 0, 0), (.iconst 0, 0, 0), (.putfield 88, 0, 0)] (pc' := 87) (lo' := [some (.ref 1), none, some (.int v2)]) (st' := []) (σ' := sI (sI (sI σ 4 1 0) 6 1 0) 8 1 0) (by decide +kernel) rfl rfl ?_
      exact g_vret hx hr rfl () rfl (by decide +kernel) (ok_some h)
    · have h := ok_f h c47
      refine g_run hx [(.aload_n 0, 0, 0), (.getfield 41, 0, 0), (.iload_n 2, 0, 0), (.iconst 0, 0, 0)] (pc' := 56) (lo' := [some (.ref 1), none, some (.int v2)]) (st' := [.int 0, .int v2, .ref 3]) (σ' := σ) (by decide +kernel) rfl rfl ?_
      obtain ⟨c56, h⟩ := ok_g h
      refine g_iast hx (by decide +kernel) (i := 3) (n := 7) rfl c56 ?_
      refine g_run hx [(.iinc 2 1, 1, 0)] (pc' := 60) (lo' := [some (.ref 1), none, some (.int (v2 + 1))]) (st' := []) (σ' := sA σ 3 v2 0) (by decide +kernel) rfl rfl ?_
      refine g_goto hx (off := (-19)) (tgt := 41) (by decide +kernel) (by decide) ?_
      exact ih _ _ h
set_option maxRecDepth 100000 in
theorem s_reader_begin {y : EX} {N : Nat} {v1 : Int32} {σ : Sg} {P : Unit × Sg → Prop} (h : ok (f_reader_begin N v1 σ) P) : Ev y M_reader_begin 1 [.ref 1, .int v1] σ rvN P := by
  refine Ev.of mk_reader_begin (Nat.le_of_ble_eq_true rfl) (fun x hx hc hr => ?_)
  have hx : Cx 5 prog_7_method_4_code x := hx
  have hc : Cc y 3 1 x := hc
  show G x 0 [some (.ref 1), some (.int v1), none] [] σ
  unfold f_reader_begin at h
  refine g_run hx [(.aload_n 0, 0, 0), (.iload_n 1, 0, 0), (.aload_n 0, 0, 0), (.getfield 15, 0, 0)] (pc' := 6) (lo' := [some (.ref 1), some (.int v1), none]) (st' := [.int (gI σ 1 1), .int v1, .ref 1]) (σ' := σ) (by decide +kernel) rfl rfl ?_
  refine g_mmin hx hc (by decide) ln_5_79 (by decide +kernel) (Nat.le_of_ble_eq_true rfl) ?_
  refine g_run hx [(.putfield 19, 0, 0), (.aload_n 0, 0, 0), (.iconst 0, 0, 0), (.putfield 15, 0, 0), (.aload_n 0, 0, 0), (.iconst 0, 0, 0), (.putfield 28, 0, 0), (.aload_n 0, 0, 0), (.iconst 0, 0, 0), (.putfield 60, 0, 0), (.aload_n 0, 0, 0), (.iconst 0, 0, 0), (.putfield 63, 0, 0), (.aload_n 0, 0, 0), (.getfield 37, 0, 0)] (pc' := 36) (lo' := [some (.ref 1), some (.int v1), none]) (st' := [.ref 25]) (σ' := sI (sI (sI (sI (sI σ 1 2 (jmin v1 (gI σ 1 1))) 1 1 0) 1 5 0) 1 12 0) 1 13 0) (by decide +kernel) rfl rfl ?_
  refine g_callV (rest := []) [] hx hc mk_country_clear ln_5_85 rfl (by decide +kernel) (by decide) (Nat.le_of_ble_eq_true rfl) (s_country_clear (ok_b h)) (fun r1 s1 h => ?_)
  refine g_run hx [(.iconst 0, 0, 0), (.istore_n 2, 0, 0)] (pc' := 41) (lo' := [some (.ref 1), some (.int v1), some (.int 0)]) (st' := []) (σ' := s1) (by decide +kernel) rfl rfl ?_
  refine g_wk (lo' := [some (.ref 1), none, some (.int 0)]) ⟨rfl, ⟨rfl, trivial⟩⟩ ?_
  refine s_reader_begin_L41 hx hc hr N _ _ h
def f_reader_byteAt (N : Nat) (v1 : Int32) (σ : Sg) : Option (Int32 × Sg) :=
  if v1 < 0 then
    some ((-1), σ)
  else
    if (gI σ 1 2) ≤ v1 then
      some ((-1), σ)
    else
      if (nI 900) ≤ v1 then
        some ((-1), σ)
      else
        if vin v1 900 then
        some ((gA σ 2 v1), σ)
        else none
set_option maxRecDepth 100000 in
theorem s_reader_byteAt {y : EX} {N : Nat} {v1 : Int32} {σ : Sg} {P : Int32 × Sg → Prop} (h : ok (f_reader_byteAt N v1 σ) P) : Ev y M_reader_byteAt 0 [.ref 1, .int v1] σ rvI P := by
  refine Ev.of mk_reader_byteAt (Nat.le_of_ble_eq_true rfl) (fun x hx hc hr => ?_)
  have hx : Cx 5 prog_7_method_27_code x := hx
  have hc : Cc y 2 0 x := hc
  show G x 0 [some (.ref 1), some (.int v1)] [] σ
  unfold f_reader_byteAt at h
  refine g_run hx [(.iload_n 1, 0, 0)] (pc' := 1) (lo' := [some (.ref 1), some (.int v1)]) (st' := [.int v1]) (σ' := σ) (by decide +kernel) rfl rfl ?_
  refine g_if_lt hx (off := 29) (tgt := 30) (by decide +kernel) (by decide) (fun c1 => ?_) (fun c1 => ?_)
  · have h := ok_t h c1
    refine g_run hx [(.iconst (-1), (-1), 0)] (pc' := 31) (lo' := [some (.ref 1), some (.int v1)]) (st' := [.int (-1)]) (σ' := σ) (by decide +kernel) rfl rfl ?_
    exact g_iret hx hr rfl _ rfl (by decide +kernel) (ok_some h)
  · have h := ok_f h c1
    refine g_run hx [(.iload_n 1, 0, 0), (.aload_n 0, 0, 0), (.getfield 19, 0, 0)] (pc' := 9) (lo' := [some (.ref 1), some (.int v1)]) (st' := [.int (gI σ 1 2), .int v1]) (σ' := σ) (by decide +kernel) rfl rfl ?_
    refine g_ic_ge hx (off := 21) (tgt := 30) (by decide +kernel) (by decide) (fun c9 => ?_) (fun c9 => ?_)
    · have h := ok_t h c9
      refine g_run hx [(.iconst (-1), (-1), 0)] (pc' := 31) (lo' := [some (.ref 1), some (.int v1)]) (st' := [.int (-1)]) (σ' := σ) (by decide +kernel) rfl rfl ?_
      exact g_iret hx hr rfl _ rfl (by decide +kernel) (ok_some h)
    · have h := ok_f h c9
      refine g_run hx [(.iload_n 1, 0, 0), (.aload_n 0, 0, 0), (.getfield 9, 0, 0), (.arraylength, 0, 0)] (pc' := 18) (lo' := [some (.ref 1), some (.int v1)]) (st' := [.int (nI 900), .int v1]) (σ' := σ) (by decide +kernel) rfl rfl ?_
      refine g_ic_ge hx (off := 12) (tgt := 30) (by decide +kernel) (by decide) (fun c18 => ?_) (fun c18 => ?_)
      · have h := ok_t h c18
        refine g_run hx [(.iconst (-1), (-1), 0)] (pc' := 31) (lo' := [some (.ref 1), some (.int v1)]) (st' := [.int (-1)]) (σ' := σ) (by decide +kernel) rfl rfl ?_
        exact g_iret hx hr rfl _ rfl (by decide +kernel) (ok_some h)
      · have h := ok_f h c18
        refine g_run hx [(.aload_n 0, 0, 0), (.getfield 9, 0, 0), (.iload_n 1, 0, 0)] (pc' := 26) (lo' := [some (.ref 1), some (.int v1)]) (st' := [.int v1, .ref 2]) (σ' := σ) (by decide +kernel) rfl rfl ?_
        obtain ⟨c26, h⟩ := ok_g h
        refine g_bald hx (by decide +kernel) (i := 2) (n := 900) rfl c26 ?_
        refine g_goto hx (off := 4) (tgt := 31) (by decide +kernel) (by decide) ?_
        exact g_iret hx hr rfl _ rfl (by decide +kernel) (ok_some h)
def f_reader_isLetter (N : Nat) (v0 : Int32) (σ : Sg) : Option (Bool × Sg) :=
  if v0 < 97 then
    some (false, σ)
  else
    if 122 < v0 then
      some (false, σ)
    else
      some (true, σ)
set_option maxRecDepth 100000 in
theorem s_reader_isLetter {y : EX} {N : Nat} {v0 : Int32} {σ : Sg} {P : Bool × Sg → Prop} (h : ok (f_reader_isLetter N v0 σ) P) : Ev y M_reader_isLetter 0 [.int v0] σ rvB P := by
  refine Ev.of mk_reader_isLetter (Nat.le_of_ble_eq_true rfl) (fun x hx hc hr => ?_)
  have hx : Cx 5 prog_7_method_25_code x := hx
  have hc : Cc y 1 0 x := hc
  show G x 0 [some (.int v0)] [] σ
  unfold f_reader_isLetter at h
  refine g_run hx [(.iload_n 0, 0, 0), (.bipush 97, 97, 0)] (pc' := 3) (lo' := [some (.int v0)]) (st' := [.int 97, .int v0]) (σ' := σ) (by decide +kernel) rfl rfl ?_
  refine g_ic_lt hx (off := 13) (tgt := 16) (by decide +kernel) (by decide) (fun c3 => ?_) (fun c3 => ?_)
  · have h := ok_t h c3
    refine g_run hx [(.iconst 0, 0, 0)] (pc' := 17) (lo' := [some (.int v0)]) (st' := [.int 0]) (σ' := σ) (by decide +kernel) rfl rfl ?_
    exact g_zret (b := false) hx hr rfl false rfl (by decide +kernel) (ok_some h)
  · have h := ok_f h c3
    refine g_run hx [(.iload_n 0, 0, 0), (.bipush 122, 122, 0)] (pc' := 9) (lo' := [some (.int v0)]) (st' := [.int 122, .int v0]) (σ' := σ) (by decide +kernel) rfl rfl ?_
    refine g_ic_gt hx (off := 7) (tgt := 16) (by decide +kernel) (by decide) (fun c9 => ?_) (fun c9 => ?_)
    · have h := ok_t h c9
      refine g_run hx [(.iconst 0, 0, 0)] (pc' := 17) (lo' := [some (.int v0)]) (st' := [.int 0]) (σ' := σ) (by decide +kernel) rfl rfl ?_
      exact g_zret (b := false) hx hr rfl false rfl (by decide +kernel) (ok_some h)
    · have h := ok_f h c9
      refine g_run hx [(.iconst 1, 1, 0)] (pc' := 13) (lo' := [some (.int v0)]) (st' := [.int 1]) (σ' := σ) (by decide +kernel) rfl rfl ?_
      refine g_goto hx (off := 4) (tgt := 17) (by decide +kernel) (by decide) ?_
      exact g_zret (b := true) hx hr rfl true rfl (by decide +kernel) (ok_some h)
def f_reader_isDigit (N : Nat) (v0 : Int32) (σ : Sg) : Option (Bool × Sg) :=
  if v0 < 48 then
    some (false, σ)
  else
    if 57 < v0 then
      some (false, σ)
    else
      some (true, σ)
set_option maxRecDepth 100000 in
theorem s_reader_isDigit {y : EX} {N : Nat} {v0 : Int32} {σ : Sg} {P : Bool × Sg → Prop} (h : ok (f_reader_isDigit N v0 σ) P) : Ev y M_reader_isDigit 0 [.int v0] σ rvB P := by
  refine Ev.of mk_reader_isDigit (Nat.le_of_ble_eq_true rfl) (fun x hx hc hr => ?_)
  have hx : Cx 5 prog_7_method_26_code x := hx
  have hc : Cc y 1 0 x := hc
  show G x 0 [some (.int v0)] [] σ
  unfold f_reader_isDigit at h
  refine g_run hx [(.iload_n 0, 0, 0), (.bipush 48, 48, 0)] (pc' := 3) (lo' := [some (.int v0)]) (st' := [.int 48, .int v0]) (σ' := σ) (by decide +kernel) rfl rfl ?_
  refine g_ic_lt hx (off := 13) (tgt := 16) (by decide +kernel) (by decide) (fun c3 => ?_) (fun c3 => ?_)
  · have h := ok_t h c3
    refine g_run hx [(.iconst 0, 0, 0)] (pc' := 17) (lo' := [some (.int v0)]) (st' := [.int 0]) (σ' := σ) (by decide +kernel) rfl rfl ?_
    exact g_zret (b := false) hx hr rfl false rfl (by decide +kernel) (ok_some h)
  · have h := ok_f h c3
    refine g_run hx [(.iload_n 0, 0, 0), (.bipush 57, 57, 0)] (pc' := 9) (lo' := [some (.int v0)]) (st' := [.int 57, .int v0]) (σ' := σ) (by decide +kernel) rfl rfl ?_
    refine g_ic_gt hx (off := 7) (tgt := 16) (by decide +kernel) (by decide) (fun c9 => ?_) (fun c9 => ?_)
    · have h := ok_t h c9
      refine g_run hx [(.iconst 0, 0, 0)] (pc' := 17) (lo' := [some (.int v0)]) (st' := [.int 0]) (σ' := σ) (by decide +kernel) rfl rfl ?_
      exact g_zret (b := false) hx hr rfl false rfl (by decide +kernel) (ok_some h)
    · have h := ok_f h c9
      refine g_run hx [(.iconst 1, 1, 0)] (pc' := 13) (lo' := [some (.int v0)]) (st' := [.int 1]) (σ' := σ) (by decide +kernel) rfl rfl ?_
      refine g_goto hx (off := 4) (tgt := 17) (by decide +kernel) (by decide) ?_
      exact g_zret (b := true) hx hr rfl true rfl (by decide +kernel) (ok_some h)
def f_reader_nextToken_L8 (N : Nat) : Nat → Sg → (Sg → Option (Unit × Sg)) → Option (Unit × Sg)
  | 0, _, _ => none
  | n + 1, σ, k45 =>
    if (gI σ 1 2) ≤ (gI σ 1 4) then
      k45 σ
    else
      (f_reader_byteAt N (gI σ 1 4) σ).bind fun q1 =>
      if q1.1 = 32 then
        f_reader_nextToken_L8 N n (sI q1.2 1 4 ((gI q1.2 1 4) + 1)) k45
      else
        k45 q1.2
def f_reader_nextToken_L169 (N : Nat) : Nat → Sg → Option (Unit × Sg)
  | 0, _ => none
  | n + 1, σ =>
    if (gI σ 1 2) ≤ (gI σ 1 5) then
      if 3 < ((gI σ 1 5) - (gI σ 1 4)) then
        some ((), sI σ 1 3 4)
      else
        some ((), sI σ 1 3 2)
    else
      (f_reader_byteAt N (gI σ 1 5) σ).bind fun q8 =>
      (f_reader_isDigit N q8.1 q8.2).bind fun q9 =>
      if q9.1 = true then
        if 3 ≤ ((gI q9.2 1 5) - (gI q9.2 1 4)) then
          f_reader_nextToken_L169 N n (sI (sI q9.2 1 6 (gI q9.2 1 6)) 1 5 ((gI (sI q9.2 1 6 (gI q9.2 1 6)) 1 5) + 1))
        else
          (f_reader_byteAt N (gI q9.2 1 5) q9.2).bind fun q10 =>
          f_reader_nextToken_L169 N n (sI (sI q10.2 1 6 ((((gI q9.2 1 6) * 10) + q10.1) - 48)) 1 5 ((gI (sI q10.2 1 6 ((((gI q9.2 1 6) * 10) + q10.1) - 48)) 1 5) + 1))
      else
        if 3 < ((gI q9.2 1 5) - (gI q9.2 1 4)) then
          some ((), sI q9.2 1 3 4)
        else
          some ((), sI q9.2 1 3 2)
def f_reader_nextToken_L86 (N : Nat) : Nat → Sg → Option (Unit × Sg)
  | 0, _ => none
  | n + 1, σ =>
    if (gI σ 1 2) ≤ (gI σ 1 5) then
      if 8 < ((gI σ 1 5) - (gI σ 1 4)) then
        some ((), sI σ 1 3 4)
      else
        some ((), sI σ 1 3 1)
    else
      (f_reader_byteAt N (gI σ 1 5) σ).bind fun q11 =>
      (f_reader_isLetter N q11.1 q11.2).bind fun q12 =>
      if q12.1 = true then
        f_reader_nextToken_L86 N n (sI q12.2 1 5 ((gI q12.2 1 5) + 1))
      else
        if 8 < ((gI q12.2 1 5) - (gI q12.2 1 4)) then
          some ((), sI q12.2 1 3 4)
        else
          some ((), sI q12.2 1 3 1)
def f_reader_nextToken (N : Nat) (σ : Sg) : Option (Unit × Sg) :=
  f_reader_nextToken_L8 N N (sI σ 1 4 (gI σ 1 5))
    (fun (t2 : Sg) =>
      if (gI (sI t2 1 5 (gI t2 1 4)) 1 4) < (gI (sI t2 1 5 (gI t2 1 4)) 1 2) then
        (f_reader_byteAt N (gI (sI t2 1 5 (gI t2 1 4)) 1 4) (sI t2 1 5 (gI t2 1 4))).bind fun q3 =>
        (f_reader_isLetter N q3.1 q3.2).bind fun q4 =>
        if q4.1 = true then
          f_reader_nextToken_L86 N N q4.2
        else
          (f_reader_byteAt N (gI q4.2 1 4) q4.2).bind fun q5 =>
          (f_reader_isDigit N q5.1 q5.2).bind fun q6 =>
          if q6.1 = true then
            f_reader_nextToken_L169 N N (sI q6.2 1 6 0)
          else
            (f_reader_byteAt N (gI q6.2 1 4) q6.2).bind fun q7 =>
            if q7.1 = 59 then
              some ((), sI (sI q7.2 1 3 3) 1 5 ((gI (sI q7.2 1 3 3) 1 5) + 1))
            else
              some ((), sI (sI q7.2 1 3 4) 1 5 ((gI (sI q7.2 1 3 4) 1 5) + 1))
      else
        some ((), sI (sI t2 1 5 (gI t2 1 4)) 1 3 0))
set_option maxRecDepth 100000 in
theorem s_reader_nextToken_L8 {y : EX} {N : Nat} {x : CX} {P : Unit × Sg → Prop} (hx : Cx 5 prog_7_method_24_code x) (hc : Cc y 1 1 x) (hr : Cr M_reader_nextToken rvN P x) : ∀ (n : Nat) (σ : Sg) (k45 : Sg → Option (Unit × Sg)) (hk45 : ∀ (t : Sg), ok (k45 t) P → G x 45 [some (.ref 1)] [] t), ok (f_reader_nextToken_L8 N n σ k45) P → G x 8 [some (.ref 1)] [] σ := by
  intro n
  induction n with
  | zero => intro σ k45 hk45 h; exact ok_none h
  | succ n ih =>
    intro σ k45 hk45 h
    rw [f_reader_nextToken_L8] at h
    refine g_run hx [(.aload_n 0, 0, 0), (.getfield 25, 0, 0), (.aload_n 0, 0, 0), (.getfield 19, 0, 0)] (pc' := 16) (lo' := [some (.ref 1)]) (st' := [.int (gI σ 1 2), .int (gI σ 1 4)]) (σ' := σ) (by decide +kernel) rfl rfl ?_
    refine g_ic_ge hx (off := 29) (tgt := 45) (by decide +kernel) (by decide) (fun c16 => ?_) (fun c16 => ?_)
    · have h := ok_t h c16
      exact hk45 _ h
    · have h := ok_f h c16
      refine g_run hx [(.aload_n 0, 0, 0), (.aload_n 0, 0, 0), (.getfield 25, 0, 0)] (pc' := 24) (lo' := [some (.ref 1)]) (st' := [.int (gI σ 1 4), .ref 1]) (σ' := σ) (by decide +kernel) rfl rfl ?_
      refine g_callV (rest := []) [.int (gI σ 1 4)] hx hc mk_reader_byteAt ln_5_242 rfl (by decide +kernel) (by decide) (Nat.le_of_ble_eq_true rfl) (s_reader_byteAt (ok_b h)) (fun r1 s1 h => ?_)
      refine g_run hx [(.bipush 32, 32, 0)] (pc' := 29) (lo' := [some (.ref 1)]) (st' := [.int 32, .int r1]) (σ' := s1) (by decide +kernel) rfl rfl ?_
      refine g_ic_ne hx (off := 16) (tgt := 45) (by decide +kernel) (by decide) (fun c29 => ?_) (fun c29 => ?_)
      · have h := ok_f h c29
        exact hk45 _ h
      · have h := ok_t h c29
        refine g_run hx [(.aload_n 0, 0, 0), (.dup, 0, 0), (.getfield 25, 0, 0), (.iconst 1, 1, 0), (.iadd, 0, 0), (.putfield 25, 0, 0)] (pc' := 42) (lo' := [some (.ref 1)]) (st' := []) (σ' := sI s1 1 4 ((gI s1 1 4) + 1)) (by decide +kernel) rfl rfl ?_
        refine g_goto hx (off := (-34)) (tgt := 8) (by decide +kernel) (by decide) ?_
        exact ih _ _ hk45 h
set_option maxRecDepth 100000 in
theorem s_reader_nextToken_L169 {y : EX} {N : Nat} {x : CX} {P : Unit × Sg → Prop} (hx : Cx 5 prog_7_method_24_code x) (hc : Cc y 1 1 x) (hr : Cr M_reader_nextToken rvN P x) : ∀ (n : Nat) (σ : Sg), ok (f_reader_nextToken_L169 N n σ) P → G x 169 [some (.ref 1)] [] σ := by
  intro n
  induction n with
  | zero => intro σ h; exact ok_none h
  | succ n ih =>
    intro σ h
    rw [f_reader_nextToken_L169] at h
    refine g_run hx [(.aload_n 0, 0, 0), (.getfield 28, 0, 0), (.aload_n 0, 0, 0), (.getfield 19, 0, 0)] (pc' := 177) (lo' := [some (.ref 1)]) (st' := [.int (gI σ 1 2), .int (gI σ 1 5)]) (σ' := σ) (by decide +kernel) rfl rfl ?_
    refine g_ic_ge hx (off := 73) (tgt := 250) (by decide +kernel) (by decide) (fun c177 => ?_) (fun c177 => ?_)
    · have h := ok_t h c177
      refine g_run hx [(.aload_n 0, 0, 0), (.aload_n 0, 0, 0), (.getfield 28, 0, 0), (.aload_n 0, 0, 0), (.getfield 25, 0, 0), (.isub, 0, 0), (.iconst 3, 3, 0)] (pc' := 261) (lo' := [some (.ref 1)]) (st' := [.int 3, .int ((gI σ 1 5) - (gI σ 1 4)), .ref 1]) (σ' := σ) (by decide +kernel) rfl rfl ?_
      refine g_ic_gt hx (off := 7) (tgt := 268) (by decide +kernel) (by decide) (fun c261 => ?_) (fun c261 => ?_)
      · have h := ok_t h c261
        refine g_run hx [(.iconst 4, 4, 0), (.putfield 22, 0, 0)] (pc' := 272) (lo' := [some (.ref 1)]) (st' := []) (σ' := sI σ 1 3 4) (by decide +kernel) rfl rfl ?_
        refine g_goto hx (off := 35) (tgt := 307) (by decide +kernel) (by decide) ?_
        exact g_vret hx hr rfl () rfl (by decide +kernel) (ok_some h)
      · have h := ok_f h c261
        refine g_run hx [(.iconst 2, 2, 0)] (pc' := 265) (lo' := [some (.ref 1)]) (st' := [.int 2, .ref 1]) (σ' := σ) (by decide +kernel) rfl rfl ?_
        refine g_goto hx (off := 4) (tgt := 269) (by decide +kernel) (by decide) ?_
        refine g_run hx [(.putfield 22, 0, 0)] (pc' := 272) (lo' := [some (.ref 1)]) (st' := []) (σ' := sI σ 1 3 2) (by decide +kernel) rfl rfl ?_
        refine g_goto hx (off := 35) (tgt := 307) (by decide +kernel) (by decide) ?_
        exact g_vret hx hr rfl () rfl (by decide +kernel) (ok_some h)
    · have h := ok_f h c177
      refine g_run hx [(.aload_n 0, 0, 0), (.aload_n 0, 0, 0), (.getfield 28, 0, 0)] (pc' := 185) (lo' := [some (.ref 1)]) (st' := [.int (gI σ 1 5), .ref 1]) (σ' := σ) (by decide +kernel) rfl rfl ?_
      refine g_callV (rest := []) [.int (gI σ 1 5)] hx hc mk_reader_byteAt ln_5_242 rfl (by decide +kernel) (by decide) (Nat.le_of_ble_eq_true rfl) (s_reader_byteAt (ok_b h)) (fun r8 s8 h => ?_)
      refine g_callS (rest := []) [.int r8] hx hc mk_reader_isDigit ln_5_269 (by decide +kernel) (by decide) (Nat.le_of_ble_eq_true rfl) (s_reader_isDigit (ok_b h)) (fun r9 s9 h => ?_)
      refine g_ifb_eq hx (off := 59) (tgt := 250) (by decide +kernel) (by decide) (fun c191 => ?_) (fun c191 => ?_)
      · have h := ok_f h c191
        refine g_run hx [(.aload_n 0, 0, 0), (.aload_n 0, 0, 0), (.getfield 28, 0, 0), (.aload_n 0, 0, 0), (.getfield 25, 0, 0), (.isub, 0, 0), (.iconst 3, 3, 0)] (pc' := 261) (lo' := [some (.ref 1)]) (st' := [.int 3, .int ((gI s9 1 5) - (gI s9 1 4)), .ref 1]) (σ' := s9) (by decide +kernel) rfl rfl ?_
        refine g_ic_gt hx (off := 7) (tgt := 268) (by decide +kernel) (by decide) (fun c261 => ?_) (fun c261 => ?_)
        · have h := ok_t h c261
          refine g_run hx [(.iconst 4, 4, 0), (.putfield 22, 0, 0)] (pc' := 272) (lo' := [some (.ref 1)]) (st' := []) (σ' := sI s9 1 3 4) (by decide +kernel) rfl rfl ?_
          refine g_goto hx (off := 35) (tgt := 307) (by decide +kernel) (by decide) ?_
          exact g_vret hx hr rfl () rfl (by decide +kernel) (ok_some h)
        · have h := ok_f h c261
          refine g_run hx [(.iconst 2, 2, 0)] (pc' := 265) (lo' := [some (.ref 1)]) (st' := [.int 2, .ref 1]) (σ' := s9) (by decide +kernel) rfl rfl ?_
          refine g_goto hx (off := 4) (tgt := 269) (by decide +kernel) (by decide) ?_
          refine g_run hx [(.putfield 22, 0, 0)] (pc' := 272) (lo' := [some (.ref 1)]) (st' := []) (σ' := sI s9 1 3 2) (by decide +kernel) rfl rfl ?_
          refine g_goto hx (off := 35) (tgt := 307) (by decide +kernel) (by decide) ?_
          exact g_vret hx hr rfl () rfl (by decide +kernel) (ok_some h)
      · have h := ok_t h c191
        refine g_run hx [(.aload_n 0, 0, 0), (.aload_n 0, 0, 0), (.getfield 28, 0, 0), (.aload_n 0, 0, 0), (.getfield 25, 0, 0), (.isub, 0, 0), (.iconst 3, 3, 0)] (pc' := 205) (lo' := [some (.ref 1)]) (st' := [.int 3, .int ((gI s9 1 5) - (gI s9 1 4)), .ref 1]) (σ' := s9) (by decide +kernel) rfl rfl ?_
        refine g_ic_ge hx (off := 25) (tgt := 230) (by decide +kernel) (by decide) (fun c205 => ?_) (fun c205 => ?_)
        · have h := ok_t h c205
          refine g_run hx [(.aload_n 0, 0, 0), (.getfield 31, 0, 0), (.putfield 31, 0, 0), (.aload_n 0, 0, 0), (.dup, 0, 0), (.getfield 28, 0, 0), (.iconst 1, 1, 0), (.iadd, 0, 0), (.putfield 28, 0, 0)] (pc' := 247) (lo' := [some (.ref 1)]) (st' := []) (σ' := sI (sI s9 1 6 (gI s9 1 6)) 1 5 ((gI (sI s9 1 6 (gI s9 1 6)) 1 5) + 1)) (by decide +kernel) rfl rfl ?_
          refine g_goto hx (off := (-78)) (tgt := 169) (by decide +kernel) (by decide) ?_
          exact ih _ h
        · have h := ok_f h c205
          refine g_run hx [(.aload_n 0, 0, 0), (.getfield 31, 0, 0), (.bipush 10, 10, 0), (.imul, 0, 0), (.aload_n 0, 0, 0), (.aload_n 0, 0, 0), (.getfield 28, 0, 0)] (pc' := 220) (lo' := [some (.ref 1)]) (st' := [.int (gI s9 1 5), .ref 1, .int ((gI s9 1 6) * 10), .ref 1]) (σ' := s9) (by decide +kernel) rfl rfl ?_
          refine g_callV (rest := [.int ((gI s9 1 6) * 10), .ref 1]) [.int (gI s9 1 5)] hx hc mk_reader_byteAt ln_5_242 rfl (by decide +kernel) (by decide) (Nat.le_of_ble_eq_true rfl) (s_reader_byteAt (ok_b h)) (fun r10 s10 h => ?_)
          refine g_run hx [(.iadd, 0, 0), (.bipush 48, 48, 0), (.isub, 0, 0)] (pc' := 227) (lo' := [some (.ref 1)]) (st' := [.int ((((gI s9 1 6) * 10) + r10) - 48), .ref 1]) (σ' := s10) (by decide +kernel) rfl rfl ?_
          refine g_goto hx (off := 7) (tgt := 234) (by decide +kernel) (by decide) ?_
          refine g_run hx [(.putfield 31, 0, 0), (.aload_n 0, 0, 0), (.dup, 0, 0), (.getfield 28, 0, 0), (.iconst 1, 1, 0), (.iadd, 0, 0), (.putfield 28, 0, 0)] (pc' := 247) (lo' := [some (.ref 1)]) (st' := []) (σ' := sI (sI s10 1 6 ((((gI s9 1 6) * 10) + r10) - 48)) 1 5 ((gI (sI s10 1 6 ((((gI s9 1 6) * 10) + r10) - 48)) 1 5) + 1)) (by decide +kernel) rfl rfl ?_
          refine g_goto hx (off := (-78)) (tgt := 169) (by decide +kernel) (by decide) ?_
          exact ih _ h
set_option maxRecDepth 100000 in
theorem s_reader_nextToken_L86 {y : EX} {N : Nat} {x : CX} {P : Unit × Sg → Prop} (hx : Cx 5 prog_7_method_24_code x) (hc : Cc y 1 1 x) (hr : Cr M_reader_nextToken rvN P x) : ∀ (n : Nat) (σ : Sg), ok (f_reader_nextToken_L86 N n σ) P → G x 86 [some (.ref 1)] [] σ := by
  intro n
  induction n with
  | zero => intro σ h; exact ok_none h
  | succ n ih =>
    intro σ h
    rw [f_reader_nextToken_L86] at h
    refine g_run hx [(.aload_n 0, 0, 0), (.getfield 28, 0, 0), (.aload_n 0, 0, 0), (.getfield 19, 0, 0)] (pc' := 94) (lo' := [some (.ref 1)]) (st' := [.int (gI σ 1 2), .int (gI σ 1 5)]) (σ' := σ) (by decide +kernel) rfl rfl ?_
    refine g_ic_ge hx (off := 30) (tgt := 124) (by decide +kernel) (by decide) (fun c94 => ?_) (fun c94 => ?_)
    · have h := ok_t h c94
      refine g_run hx [(.aload_n 0, 0, 0), (.aload_n 0, 0, 0), (.getfield 28, 0, 0), (.aload_n 0, 0, 0), (.getfield 25, 0, 0), (.isub, 0, 0), (.bipush 8, 8, 0)] (pc' := 136) (lo' := [some (.ref 1)]) (st' := [.int 8, .int ((gI σ 1 5) - (gI σ 1 4)), .ref 1]) (σ' := σ) (by decide +kernel) rfl rfl ?_
      refine g_ic_gt hx (off := 7) (tgt := 143) (by decide +kernel) (by decide) (fun c136 => ?_) (fun c136 => ?_)
      · have h := ok_t h c136
        refine g_run hx [(.iconst 4, 4, 0), (.putfield 22, 0, 0)] (pc' := 147) (lo' := [some (.ref 1)]) (st' := []) (σ' := sI σ 1 3 4) (by decide +kernel) rfl rfl ?_
        refine g_goto hx (off := 160) (tgt := 307) (by decide +kernel) (by decide) ?_
        exact g_vret hx hr rfl () rfl (by decide +kernel) (ok_some h)
      · have h := ok_f h c136
        refine g_run hx [(.iconst 1, 1, 0)] (pc' := 140) (lo' := [some (.ref 1)]) (st' := [.int 1, .ref 1]) (σ' := σ) (by decide +kernel) rfl rfl ?_
        refine g_goto hx (off := 4) (tgt := 144) (by decide +kernel) (by decide) ?_
        refine g_run hx [(.putfield 22, 0, 0)] (pc' := 147) (lo' := [some (.ref 1)]) (st' := []) (σ' := sI σ 1 3 1) (by decide +kernel) rfl rfl ?_
        refine g_goto hx (off := 160) (tgt := 307) (by decide +kernel) (by decide) ?_
        exact g_vret hx hr rfl () rfl (by decide +kernel) (ok_some h)
    · have h := ok_f h c94
      refine g_run hx [(.aload_n 0, 0, 0), (.aload_n 0, 0, 0), (.getfield 28, 0, 0)] (pc' := 102) (lo' := [some (.ref 1)]) (st' := [.int (gI σ 1 5), .ref 1]) (σ' := σ) (by decide +kernel) rfl rfl ?_
      refine g_callV (rest := []) [.int (gI σ 1 5)] hx hc mk_reader_byteAt ln_5_242 rfl (by decide +kernel) (by decide) (Nat.le_of_ble_eq_true rfl) (s_reader_byteAt (ok_b h)) (fun r11 s11 h => ?_)
      refine g_callS (rest := []) [.int r11] hx hc mk_reader_isLetter ln_5_266 (by decide +kernel) (by decide) (Nat.le_of_ble_eq_true rfl) (s_reader_isLetter (ok_b h)) (fun r12 s12 h => ?_)
      refine g_ifb_eq hx (off := 16) (tgt := 124) (by decide +kernel) (by decide) (fun c108 => ?_) (fun c108 => ?_)
      · have h := ok_f h c108
        refine g_run hx [(.aload_n 0, 0, 0), (.aload_n 0, 0, 0), (.getfield 28, 0, 0), (.aload_n 0, 0, 0), (.getfield 25, 0, 0), (.isub, 0, 0), (.bipush 8, 8, 0)] (pc' := 136) (lo' := [some (.ref 1)]) (st' := [.int 8, .int ((gI s12 1 5) - (gI s12 1 4)), .ref 1]) (σ' := s12) (by decide +kernel) rfl rfl ?_
        refine g_ic_gt hx (off := 7) (tgt := 143) (by decide +kernel) (by decide) (fun c136 => ?_) (fun c136 => ?_)
        · have h := ok_t h c136
          refine g_run hx [(.iconst 4, 4, 0), (.putfield 22, 0, 0)] (pc' := 147) (lo' := [some (.ref 1)]) (st' := []) (σ' := sI s12 1 3 4) (by decide +kernel) rfl rfl ?_
          refine g_goto hx (off := 160) (tgt := 307) (by decide +kernel) (by decide) ?_
          exact g_vret hx hr rfl () rfl (by decide +kernel) (ok_some h)
        · have h := ok_f h c136
          refine g_run hx [(.iconst 1, 1, 0)] (pc' := 140) (lo' := [some (.ref 1)]) (st' := [.int 1, .ref 1]) (σ' := s12) (by decide +kernel) rfl rfl ?_
          refine g_goto hx (off := 4) (tgt := 144) (by decide +kernel) (by decide) ?_
          refine g_run hx [(.putfield 22, 0, 0)] (pc' := 147) (lo' := [some (.ref 1)]) (st' := []) (σ' := sI s12 1 3 1) (by decide +kernel) rfl rfl ?_
          refine g_goto hx (off := 160) (tgt := 307) (by decide +kernel) (by decide) ?_
          exact g_vret hx hr rfl () rfl (by decide +kernel) (ok_some h)
      · have h := ok_t h c108
        refine g_run hx [(.aload_n 0, 0, 0), (.dup, 0, 0), (.getfield 28, 0, 0), (.iconst 1, 1, 0), (.iadd, 0, 0), (.putfield 28, 0, 0)] (pc' := 121) (lo' := [some (.ref 1)]) (st' := []) (σ' := sI s12 1 5 ((gI s12 1 5) + 1)) (by decide +kernel) rfl rfl ?_
        refine g_goto hx (off := (-35)) (tgt := 86) (by decide +kernel) (by decide) ?_
        exact ih _ h
set_option maxRecDepth 100000 in
theorem s_reader_nextToken {y : EX} {N : Nat} {σ : Sg} {P : Unit × Sg → Prop} (h : ok (f_reader_nextToken N σ) P) : Ev y M_reader_nextToken 1 [.ref 1] σ rvN P := by
  refine Ev.of mk_reader_nextToken (Nat.le_of_ble_eq_true rfl) (fun x hx hc hr => ?_)
  have hx : Cx 5 prog_7_method_24_code x := hx
  have hc : Cc y 1 1 x := hc
  show G x 0 [some (.ref 1)] [] σ
  unfold f_reader_nextToken at h
  refine g_run hx [(.aload_n 0, 0, 0), (.aload_n 0, 0, 0), (.getfield 28, 0, 0), (.putfield 25, 0, 0)] (pc' := 8) (lo' := [some (.ref 1)]) (st' := []) (σ' := sI σ 1 4 (gI σ 1 5)) (by decide +kernel) rfl rfl ?_
  refine s_reader_nextToken_L8 hx hc hr N _ _ (fun t2 h => ?_) h
  refine g_run hx [(.aload_n 0, 0, 0), (.aload_n 0, 0, 0), (.getfield 25, 0, 0), (.putfield 28, 0, 0), (.aload_n 0, 0, 0), (.getfield 25, 0, 0), (.aload_n 0, 0, 0), (.getfield 19, 0, 0)] (pc' := 61) (lo' := [some (.ref 1)]) (st' := [.int (gI (sI t2 1 5 (gI t2 1 4)) 1 2), .int (gI (sI t2 1 5 (gI t2 1 4)) 1 4)]) (σ' := sI t2 1 5 (gI t2 1 4)) (by decide +kernel) rfl rfl ?_
  refine g_ic_lt hx (off := 11) (tgt := 72) (by decide +kernel) (by decide) (fun c61 => ?_) (fun c61 => ?_)
  · have h := ok_t h c61
    refine g_run hx [(.aload_n 0, 0, 0), (.aload_n 0, 0, 0), (.getfield 25, 0, 0)] (pc' := 77) (lo' := [some (.ref 1)]) (st' := [.int (gI (sI t2 1 5 (gI t2 1 4)) 1 4), .ref 1]) (σ' := sI t2 1 5 (gI t2 1 4)) (by decide +kernel) rfl rfl ?_
    refine g_callV (rest := []) [.int (gI (sI t2 1 5 (gI t2 1 4)) 1 4)] hx hc mk_reader_byteAt ln_5_242 rfl (by decide +kernel) (by decide) (Nat.le_of_ble_eq_true rfl) (s_reader_byteAt (ok_b h)) (fun r3 s3 h => ?_)
    refine g_callS (rest := []) [.int r3] hx hc mk_reader_isLetter ln_5_266 (by decide +kernel) (by decide) (Nat.le_of_ble_eq_true rfl) (s_reader_isLetter (ok_b h)) (fun r4 s4 h => ?_)
    refine g_ifb_eq hx (off := 67) (tgt := 150) (by decide +kernel) (by decide) (fun c83 => ?_) (fun c83 => ?_)
    · have h := ok_f h c83
      refine g_run hx [(.aload_n 0, 0, 0), (.aload_n 0, 0, 0), (.getfield 25, 0, 0)] (pc' := 155) (lo' := [some (.ref 1)]) (st' := [.int (gI s4 1 4), .ref 1]) (σ' := s4) (by decide +kernel) rfl rfl ?_
      refine g_callV (rest := []) [.int (gI s4 1 4)] hx hc mk_reader_byteAt ln_5_242 rfl (by decide +kernel) (by decide) (Nat.le_of_ble_eq_true rfl) (s_reader_byteAt (ok_b h)) (fun r5 s5 h => ?_)
      refine g_callS (rest := []) [.int r5] hx hc mk_reader_isDigit ln_5_269 (by decide +kernel) (by decide) (Nat.le_of_ble_eq_true rfl) (s_reader_isDigit (ok_b h)) (fun r6 s6 h => ?_)
      refine g_ifb_eq hx (off := 114) (tgt := 275) (by decide +kernel) (by decide) (fun c161 => ?_) (fun c161 => ?_)
      · have h := ok_f h c161
        refine g_run hx [(.aload_n 0, 0, 0), (.aload_n 0, 0, 0), (.aload_n 0, 0, 0), (.getfield 25, 0, 0)] (pc' := 281) (lo' := [some (.ref 1)]) (st' := [.int (gI s6 1 4), .ref 1, .ref 1]) (σ' := s6) (by decide +kernel) rfl rfl ?_
        refine g_callV (rest := [.ref 1]) [.int (gI s6 1 4)] hx hc mk_reader_byteAt ln_5_242 rfl (by decide +kernel) (by decide) (Nat.le_of_ble_eq_true rfl) (s_reader_byteAt (ok_b h)) (fun r7 s7 h => ?_)
        refine g_run hx [(.bipush 59, 59, 0)] (pc' := 286) (lo' := [some (.ref 1)]) (st' := [.int 59, .int r7, .ref 1]) (σ' := s7) (by decide +kernel) rfl rfl ?_
        refine g_ic_ne hx (off := 7) (tgt := 293) (by decide +kernel) (by decide) (fun c286 => ?_) (fun c286 => ?_)
        · have h := ok_f h c286
          refine g_run hx [(.iconst 4, 4, 0), (.putfield 22, 0, 0), (.aload_n 0, 0, 0), (.dup, 0, 0), (.getfield 28, 0, 0), (.iconst 1, 1, 0), (.iadd, 0, 0), (.putfield 28, 0, 0)] (pc' := 307) (lo' := [some (.ref 1)]) (st' := []) (σ' := sI (sI s7 1 3 4) 1 5 ((gI (sI s7 1 3 4) 1 5) + 1)) (by decide +kernel) rfl rfl ?_
          exact g_vret hx hr rfl () rfl (by decide +kernel) (ok_some h)
        · have h := ok_t h c286
          refine g_run hx [(.iconst 3, 3, 0)] (pc' := 290) (lo' := [some (.ref 1)]) (st' := [.int 3, .ref 1]) (σ' := s7) (by decide +kernel) rfl rfl ?_
          refine g_goto hx (off := 4) (tgt := 294) (by decide +kernel) (by decide) ?_
          refine g_run hx [(.putfield 22, 0, 0), (.aload_n 0, 0, 0), (.dup, 0, 0), (.getfield 28, 0, 0), (.iconst 1, 1, 0), (.iadd, 0, 0), (.putfield 28, 0, 0)] (pc' := 307) (lo' := [some (.ref 1)]) (st' := []) (σ' := sI (sI s7 1 3 3) 1 5 ((gI (sI s7 1 3 3) 1 5) + 1)) (by decide +kernel) rfl rfl ?_
          exact g_vret hx hr rfl () rfl (by decide +kernel) (ok_some h)
      · have h := ok_t h c161
        refine g_run hx [(.aload_n 0, 0, 0), (.iconst 0, 0, 0), (.putfield 31, 0, 0)] (pc' := 169) (lo' := [some (.ref 1)]) (st' := []) (σ' := sI s6 1 6 0) (by decide +kernel) rfl rfl ?_
        refine s_reader_nextToken_L169 hx hc hr N _ h
    · have h := ok_t h c83
      refine s_reader_nextToken_L86 hx hc hr N _ h
  · have h := ok_f h c61
    refine g_run hx [(.aload_n 0, 0, 0), (.iconst 0, 0, 0), (.putfield 22, 0, 0)] (pc' := 69) (lo' := [some (.ref 1)]) (st' := []) (σ' := sI (sI t2 1 5 (gI t2 1 4)) 1 3 0) (by decide +kernel) rfl rfl ?_
    refine g_goto hx (off := 238) (tgt := 307) (by decide +kernel) (by decide) ?_
    exact g_vret hx hr rfl () rfl (by decide +kernel) (ok_some h)
def f_js_coder (N : Nat) (w0 : Nat) (σ : Sg) : Option (Int32 × Sg) :=
  some (0, σ)
set_option maxRecDepth 100000 in
theorem s_js_coder {y : EX} {N : Nat} {w0 : Nat} (hw0 : w0 < 20) {σ : Sg} {P : Int32 × Sg → Prop} (h : ok (f_js_coder N w0 σ) P) : Ev y M_js_coder 0 [.ref (100 + w0)] σ rvI P := by
  refine Ev.of mk_js_coder (Nat.le_of_ble_eq_true rfl) (fun x hx hc hr => ?_)
  have hx : Cx 15 prog_21_method_152_code x := hx
  have hc : Cc y 1 0 x := hc
  show G x 0 [some (.ref (100 + w0))] [] σ
  unfold f_js_coder at h
  refine g_scmp hx hc (by decide +kernel) ?_
  refine g_if_eq hx (off := 10) (tgt := 13) (by decide +kernel) (by decide) (fun c => absurd c (by decide)) (fun _ => ?_)
  refine g_run hx [(.aload_n 0, 0, 0)] (pc' := 7) (lo' := [some (.ref (100 + w0))]) (st' := [.ref (100 + w0)]) (σ' := σ) (by decide +kernel) rfl rfl ?_
  refine g_scod hx hc hw0 (by decide +kernel) ?_
  refine g_goto hx (off := 4) (tgt := 14) (by decide +kernel) (by decide) ?_
  exact g_cret hx hr rfl (by decide) _ rfl (by decide +kernel) (ok_some h)
def f_js_length (N : Nat) (w0 : Nat) (σ : Sg) : Option (Int32 × Sg) :=
  (f_js_coder N w0 σ).bind fun q1 =>
  some (((nI (strLen.getD w0 0)) >>> (q1.1 &&& 31)), q1.2)
set_option maxRecDepth 100000 in
theorem s_js_length {y : EX} {N : Nat} {w0 : Nat} (hw0 : w0 < 20) {σ : Sg} {P : Int32 × Sg → Prop} (h : ok (f_js_length N w0 σ) P) : Ev y M_js_length 1 [.ref (100 + w0)] σ rvI P := by
  refine Ev.of mk_js_length (Nat.le_of_ble_eq_true rfl) (fun x hx hc hr => ?_)
  have hx : Cx 15 prog_21_method_54_code x := hx
  have hc : Cc y 1 1 x := hc
  show G x 0 [some (.ref (100 + w0))] [] σ
  unfold f_js_length at h
  refine g_run hx [(.aload_n 0, 0, 0)] (pc' := 1) (lo' := [some (.ref (100 + w0))]) (st' := [.ref (100 + w0)]) (σ' := σ) (by decide +kernel) rfl rfl ?_
  refine g_sval hx hc hw0 (by decide +kernel) ?_
  refine g_slenA hx hc hw0 (by decide +kernel) ?_
  refine g_run hx [(.aload_n 0, 0, 0)] (pc' := 6) (lo' := [some (.ref (100 + w0))]) (st' := [.ref (100 + w0), .int (nI (strLen.getD w0 0))]) (σ' := σ) (by decide +kernel) rfl rfl ?_
  refine g_callT (w := w0) (rest := [.int (nI (strLen.getD w0 0))]) [] hx hc mk_js_coder rfl ln_15_335 hw0 (by decide +kernel) (by decide) (Nat.le_of_ble_eq_true rfl) (s_js_coder hw0 (ok_b h)) (fun r1 s1 h => ?_)
  refine g_run hx [(.ishr, 0, 0)] (pc' := 10) (lo' := [some (.ref (100 + w0))]) (st' := [.int ((nI (strLen.getD w0 0)) >>> (r1 &&& 31))]) (σ' := s1) (by decide +kernel) rfl rfl ?_
  exact g_iret hx hr rfl _ rfl (by decide +kernel) (ok_some h)
def f_js_isLatin1 (N : Nat) (w0 : Nat) (σ : Sg) : Option (Bool × Sg) :=
  some (true, σ)
set_option maxRecDepth 100000 in
theorem s_js_isLatin1 {y : EX} {N : Nat} {w0 : Nat} (hw0 : w0 < 20) {σ : Sg} {P : Bool × Sg → Prop} (h : ok (f_js_isLatin1 N w0 σ) P) : Ev y M_js_isLatin1 0 [.ref (100 + w0)] σ rvB P := by
  refine Ev.of mk_js_isLatin1 (Nat.le_of_ble_eq_true rfl) (fun x hx hc hr => ?_)
  have hx : Cx 15 prog_21_method_154_code x := hx
  have hc : Cc y 1 0 x := hc
  show G x 0 [some (.ref (100 + w0))] [] σ
  unfold f_js_isLatin1 at h
  refine g_scmp hx hc (by decide +kernel) ?_
  refine g_if_eq hx (off := 14) (tgt := 17) (by decide +kernel) (by decide) (fun c => absurd c (by decide)) (fun _ => ?_)
  refine g_run hx [(.aload_n 0, 0, 0)] (pc' := 7) (lo' := [some (.ref (100 + w0))]) (st' := [.ref (100 + w0)]) (σ' := σ) (by decide +kernel) rfl rfl ?_
  refine g_scod hx hc hw0 (by decide +kernel) ?_
  refine g_if_ne hx (off := 7) (tgt := 17) (by decide +kernel) (by decide) (fun c => absurd c (by decide)) (fun _ => ?_)
  refine g_run hx [(.iconst 1, 1, 0)] (pc' := 14) (lo' := [some (.ref (100 + w0))]) (st' := [.int 1]) (σ' := σ) (by decide +kernel) rfl rfl ?_
  refine g_goto hx (off := 4) (tgt := 18) (by decide +kernel) (by decide) ?_
  exact g_zret (b := true) hx hr rfl true rfl (by decide +kernel) (ok_some h)
def f_jp_checkIndex (N : Nat) (v0 : Int32) (v1 : Int32) (σ : Sg) : Option (Int32 × Sg) :=
  if v0 < 0 then
    none
  else
    if v0 < v1 then
      some (v0, σ)
    else
      none
set_option maxRecDepth 100000 in
theorem s_jp_checkIndex_null {y : EX} {N : Nat} {v0 : Int32} {v1 : Int32} {σ : Sg} {P : Int32 × Sg → Prop} (h : ok (f_jp_checkIndex N v0 v1 σ) P) : Ev y M_jp_checkIndex 0 [.int v0, .int v1, .null] σ rvI P := by
  refine Ev.of mk_jp_checkIndex (Nat.le_of_ble_eq_true rfl) (fun x hx hc hr => ?_)
  have hx : Cx 17 prog_28_method_11_code x := hx
  have hc : Cc y 3 0 x := hc
  show G x 0 [some (.int v0), some (.int v1), some (.null)] [] σ
  unfold f_jp_checkIndex at h
  refine g_run hx [(.iload_n 0, 0, 0)] (pc' := 1) (lo' := [some (.int v0), some (.int v1), some (.null)]) (st' := [.int v0]) (σ' := σ) (by decide +kernel) rfl rfl ?_
  refine g_if_lt hx (off := 8) (tgt := 9) (by decide +kernel) (by decide) (fun c1 => ?_) (fun c1 => ?_)
  · have h := ok_t h c1
    exact ok_none h
  · have h := ok_f h c1
    refine g_run hx [(.iload_n 0, 0, 0), (.iload_n 1, 0, 0)] (pc' := 6) (lo' := [some (.int v0), some (.int v1), some (.null)]) (st' := [.int v1, .int v0]) (σ' := σ) (by decide +kernel) rfl rfl ?_
    refine g_ic_lt hx (off := 10) (tgt := 16) (by decide +kernel) (by decide) (fun c6 => ?_) (fun c6 => ?_)
    · have h := ok_t h c6
      refine g_run hx [(.iload_n 0, 0, 0)] (pc' := 17) (lo' := [some (.int v0), some (.int v1), some (.null)]) (st' := [.int v0]) (σ' := σ) (by decide +kernel) rfl rfl ?_
      exact g_iret hx hr rfl _ rfl (by decide +kernel) (ok_some h)
    · have h := ok_f h c6
      exact ok_none h
set_option maxRecDepth 100000 in
theorem s_jp_checkIndex_91 {y : EX} {N : Nat} {v0 : Int32} {v1 : Int32} {σ : Sg} {P : Int32 × Sg → Prop} (h : ok (f_jp_checkIndex N v0 v1 σ) P) : Ev y M_jp_checkIndex 0 [.int v0, .int v1, .ref 91] σ rvI P := by
  refine Ev.of mk_jp_checkIndex (Nat.le_of_ble_eq_true rfl) (fun x hx hc hr => ?_)
  have hx : Cx 17 prog_28_method_11_code x := hx
  have hc : Cc y 3 0 x := hc
  show G x 0 [some (.int v0), some (.int v1), some (.ref 91)] [] σ
  unfold f_jp_checkIndex at h
  refine g_run hx [(.iload_n 0, 0, 0)] (pc' := 1) (lo' := [some (.int v0), some (.int v1), some (.ref 91)]) (st' := [.int v0]) (σ' := σ) (by decide +kernel) rfl rfl ?_
  refine g_if_lt hx (off := 8) (tgt := 9) (by decide +kernel) (by decide) (fun c1 => ?_) (fun c1 => ?_)
  · have h := ok_t h c1
    exact ok_none h
  · have h := ok_f h c1
    refine g_run hx [(.iload_n 0, 0, 0), (.iload_n 1, 0, 0)] (pc' := 6) (lo' := [some (.int v0), some (.int v1), some (.ref 91)]) (st' := [.int v1, .int v0]) (σ' := σ) (by decide +kernel) rfl rfl ?_
    refine g_ic_lt hx (off := 10) (tgt := 16) (by decide +kernel) (by decide) (fun c6 => ?_) (fun c6 => ?_)
    · have h := ok_t h c6
      refine g_run hx [(.iload_n 0, 0, 0)] (pc' := 17) (lo' := [some (.int v0), some (.int v1), some (.ref 91)]) (st' := [.int v0]) (σ' := σ) (by decide +kernel) rfl rfl ?_
      exact g_iret hx hr rfl _ rfl (by decide +kernel) (ok_some h)
    · have h := ok_f h c6
      exact ok_none h
def f_js_checkIndex (N : Nat) (v0 : Int32) (v1 : Int32) (σ : Sg) : Option (Unit × Sg) :=
  (f_jp_checkIndex N v0 v1 σ).bind fun q1 =>
  some ((), q1.2)
set_option maxRecDepth 100000 in
theorem s_js_checkIndex {y : EX} {N : Nat} {v0 : Int32} {v1 : Int32} {σ : Sg} {P : Unit × Sg → Prop} (h : ok (f_js_checkIndex N v0 v1 σ) P) : Ev y M_js_checkIndex 1 [.int v0, .int v1] σ rvN P := by
  refine Ev.of mk_js_checkIndex (Nat.le_of_ble_eq_true rfl) (fun x hx hc hr => ?_)
  have hx : Cx 15 prog_21_method_155_code x := hx
  have hc : Cc y 2 1 x := hc
  show G x 0 [some (.int v0), some (.int v1)] [] σ
  unfold f_js_checkIndex at h
  refine g_run hx [(.iload_n 0, 0, 0), (.iload_n 1, 0, 0)] (pc' := 2) (lo' := [some (.int v0), some (.int v1)]) (st' := [.int v1, .int v0]) (σ' := σ) (by decide +kernel) rfl rfl ?_
  refine g_sfmt hx hc (by decide +kernel) ?_ ?_
  · refine g_callS (rest := []) [.int v0, .int v1, .null] hx hc mk_jp_checkIndex ln_15_1059 (by decide +kernel) (by decide) (Nat.le_of_ble_eq_true rfl) (s_jp_checkIndex_null (ok_b h)) (fun r1 s1 h => ?_)
    refine g_run hx [(.pop, 0, 0)] (pc' := 9) (lo' := [some (.int v0), some (.int v1)]) (st' := []) (σ' := s1) (by decide +kernel) rfl rfl ?_
    exact g_vret hx hr rfl () rfl (by decide +kernel) (ok_some h)
  · refine g_callS (rest := []) [.int v0, .int v1, .ref 91] hx hc mk_jp_checkIndex ln_15_1059 (by decide +kernel) (by decide) (Nat.le_of_ble_eq_true rfl) (s_jp_checkIndex_91 (ok_b h)) (fun r1 s1 h => ?_)
    refine g_run hx [(.pop, 0, 0)] (pc' := 9) (lo' := [some (.int v0), some (.int v1)]) (st' := []) (σ' := s1) (by decide +kernel) rfl rfl ?_
    exact g_vret hx hr rfl () rfl (by decide +kernel) (ok_some h)
def f_jsl_charAt (N : Nat) (w0 : Nat) (v1 : Int32) (σ : Sg) : Option (Int32 × Sg) :=
  (f_js_checkIndex N v1 (nI (strLen.getD w0 0)) σ).bind fun q1 =>
  if vin v1 (strLen.getD w0 0) then
  some ((UInt32.toInt32 (Int32.toUInt32 ((sbyt w0 v1) &&& 255) % 65536)), q1.2)
  else none
set_option maxRecDepth 100000 in
theorem s_jsl_charAt {y : EX} {N : Nat} {w0 : Nat} (hw0 : w0 < 20) {v1 : Int32} {σ : Sg} {P : Int32 × Sg → Prop} (h : ok (f_jsl_charAt N w0 v1 σ) P) : Ev y M_jsl_charAt 2 [.ref (200 + w0), .int v1] σ rvI P := by
  refine Ev.of mk_jsl_charAt (Nat.le_of_ble_eq_true rfl) (fun x hx hc hr => ?_)
  have hx : Cx 16 prog_22_method_2_code x := hx
  have hc : Cc y 2 2 x := hc
  show G x 0 [some (.ref (200 + w0)), some (.int v1)] [] σ
  unfold f_jsl_charAt at h
  refine g_run hx [(.iload_n 1, 0, 0), (.aload_n 0, 0, 0)] (pc' := 2) (lo' := [some (.ref (200 + w0)), some (.int v1)]) (st' := [.ref (200 + w0), .int v1]) (σ' := σ) (by decide +kernel) rfl rfl ?_
  refine g_slenA hx hc hw0 (by decide +kernel) ?_
  refine g_callS (rest := []) [.int v1, .int (nI (strLen.getD w0 0))] hx hc mk_js_checkIndex ln_16_9 (by decide +kernel) (by decide) (Nat.le_of_ble_eq_true rfl) (s_js_checkIndex (ok_b h)) (fun r1 s1 h => ?_)
  refine g_run hx [(.aload_n 0, 0, 0), (.iload_n 1, 0, 0)] (pc' := 8) (lo' := [some (.ref (200 + w0)), some (.int v1)]) (st' := [.int v1, .ref (200 + w0)]) (σ' := s1) (by decide +kernel) rfl rfl ?_
  obtain ⟨c8, h⟩ := ok_g h
  refine g_sbald hx hc hw0 c8 (by decide +kernel) ?_
  refine g_run hx [(.sipush 255, 255, 0), (.iand, 0, 0), (.i2c, 0, 0)] (pc' := 14) (lo' := [some (.ref (200 + w0)), some (.int v1)]) (st' := [.int (UInt32.toInt32 (Int32.toUInt32 ((sbyt w0 v1) &&& 255) % 65536))]) (σ' := s1) (by decide +kernel) rfl rfl ?_
  exact g_cret hx hr rfl (pk_nc _) _ rfl (by decide +kernel) (ok_some h)
def f_js_charAt (N : Nat) (w0 : Nat) (v1 : Int32) (σ : Sg) : Option (Int32 × Sg) :=
  (f_js_isLatin1 N w0 σ).bind fun q1 =>
  if q1.1 = true then
    (f_jsl_charAt N w0 v1 q1.2).bind fun q2 =>
    if narrow .char (.int q2.1) = .int q2.1 then
    some (q2.1, q2.2)
    else none
  else
    none
set_option maxRecDepth 100000 in
theorem s_js_charAt {y : EX} {N : Nat} {w0 : Nat} (hw0 : w0 < 20) {v1 : Int32} {σ : Sg} {P : Int32 × Sg → Prop} (h : ok (f_js_charAt N w0 v1 σ) P) : Ev y M_js_charAt 3 [.ref (100 + w0), .int v1] σ rvI P := by
  refine Ev.of mk_js_charAt (Nat.le_of_ble_eq_true rfl) (fun x hx hc hr => ?_)
  have hx : Cx 15 prog_21_method_56_code x := hx
  have hc : Cc y 2 3 x := hc
  show G x 0 [some (.ref (100 + w0)), some (.int v1)] [] σ
  unfold f_js_charAt at h
  refine g_run hx [(.aload_n 0, 0, 0)] (pc' := 1) (lo' := [some (.ref (100 + w0)), some (.int v1)]) (st' := [.ref (100 + w0)]) (σ' := σ) (by decide +kernel) rfl rfl ?_
  refine g_callT (w := w0) (rest := []) [] hx hc mk_js_isLatin1 rfl ln_15_492 hw0 (by decide +kernel) (by decide) (Nat.le_of_ble_eq_true rfl) (s_js_isLatin1 hw0 (ok_b h)) (fun r1 s1 h => ?_)
  refine g_ifb_eq hx (off := 12) (tgt := 16) (by decide +kernel) (by decide) (fun c4 => ?_) (fun c4 => ?_)
  · have h := ok_f h c4
    exact ok_none h
  · have h := ok_t h c4
    refine g_run hx [(.aload_n 0, 0, 0)] (pc' := 8) (lo' := [some (.ref (100 + w0)), some (.int v1)]) (st' := [.ref (100 + w0)]) (σ' := s1) (by decide +kernel) rfl rfl ?_
    refine g_sval hx hc hw0 (by decide +kernel) ?_
    refine g_run hx [(.iload_n 1, 0, 0)] (pc' := 12) (lo' := [some (.ref (100 + w0)), some (.int v1)]) (st' := [.int v1, .ref (200 + w0)]) (σ' := s1) (by decide +kernel) rfl rfl ?_
    refine g_callS (rest := []) [.ref (200 + w0), .int v1] hx hc mk_jsl_charAt ln_15_495 (by decide +kernel) (by decide) (Nat.le_of_ble_eq_true rfl) (s_jsl_charAt hw0 (ok_b h)) (fun r2 s2 h => ?_)
    obtain ⟨cz, h⟩ := ok_g h
    exact g_cret hx hr rfl cz _ rfl (by decide +kernel) (ok_some h)
def f_reader_isWord_L28 (N : Nat) (w1 : Nat) : Nat → Int32 → Sg → Option (Bool × Sg)
  | 0, _, _ => none
  | n + 1, v2, σ =>
    (f_js_length N w1 σ).bind fun q2 =>
    if q2.1 ≤ v2 then
      some (true, q2.2)
    else
      (f_reader_byteAt N ((gI q2.2 1 4) + v2) q2.2).bind fun q3 =>
      (f_js_charAt N w1 v2 q3.2).bind fun q4 =>
      if q3.1 = q4.1 then
        f_reader_isWord_L28 N w1 n (v2 + 1) q4.2
      else
        some (false, q4.2)
def f_reader_isWord (N : Nat) (w1 : Nat) (σ : Sg) : Option (Bool × Sg) :=
  if (gI σ 1 3) = 1 then
    (f_js_length N w1 σ).bind fun q1 =>
    if q1.1 = ((gI q1.2 1 5) - (gI q1.2 1 4)) then
      f_reader_isWord_L28 N w1 N 0 q1.2
    else
      some (false, q1.2)
  else
    some (false, σ)
set_option maxRecDepth 100000 in
theorem s_reader_isWord_L28 {y : EX} {N : Nat} {x : CX} {P : Bool × Sg → Prop} (hx : Cx 5 prog_7_method_23_code x) (hc : Cc y 3 4 x) (hr : Cr M_reader_isWord rvB P x) {w1 : Nat} (hw1 : w1 < 20) : ∀ (n : Nat) (v2 : Int32) (σ : Sg), ok (f_reader_isWord_L28 N w1 n v2 σ) P → G x 28 [some (.ref 1), some (.ref (100 + w1)), some (.int v2)] [] σ := by
  intro n
  induction n with
  | zero => intro v2 σ h; exact ok_none h
  | succ n ih =>
    intro v2 σ h
    rw [f_reader_isWord_L28] at h
    refine g_run hx [(.iload_n 2, 0, 0), (.aload_n 1, 0, 0)] (pc' := 30) (lo' := [some (.ref 1), some (.ref (100 + w1)), some (.int v2)]) (st' := [.ref (100 + w1), .int v2]) (σ' := σ) (by decide +kernel) rfl rfl ?_
    refine g_callT (w := w1) (rest := [.int v2]) [] hx hc mk_js_length rfl ln_5_257 hw1 (by decide +kernel) (by decide) (Nat.le_of_ble_eq_true rfl) (s_js_length hw1 (ok_b h)) (fun r2 s2 h => ?_)
    refine g_ic_ge hx (off := 29) (tgt := 62) (by decide +kernel) (by decide) (fun c33 => ?_) (fun c33 => ?_)
    · have h := ok_t h c33
      refine g_run hx [(.iconst 1, 1, 0)] (pc' := 63) (lo' := [some (.ref 1), some (.ref (100 + w1)), some (.int v2)]) (st' := [.int 1]) (σ' := s2) (by decide +kernel) rfl rfl ?_
      exact g_zret (b := true) hx hr rfl true rfl (by decide +kernel) (ok_some h)
    · have h := ok_f h c33
      refine g_run hx [(.aload_n 0, 0, 0), (.aload_n 0, 0, 0), (.getfield 25, 0, 0), (.iload_n 2, 0, 0), (.iadd, 0, 0)] (pc' := 43) (lo' := [some (.ref 1), some (.ref (100 + w1)), some (.int v2)]) (st' := [.int ((gI s2 1 4) + v2), .ref 1]) (σ' := s2) (by decide +kernel) rfl rfl ?_
      refine g_callV (rest := []) [.int ((gI s2 1 4) + v2)] hx hc mk_reader_byteAt ln_5_242 rfl (by decide +kernel) (by decide) (Nat.le_of_ble_eq_true rfl) (s_reader_byteAt (ok_b h)) (fun r3 s3 h => ?_)
      refine g_run hx [(.aload_n 1, 0, 0), (.iload_n 2, 0, 0)] (pc' := 48) (lo' := [some (.ref 1), some (.ref (100 + w1)), some (.int v2)]) (st' := [.int v2, .ref (100 + w1), .int r3]) (σ' := s3) (by decide +kernel) rfl rfl ?_
      refine g_callT (w := w1) (rest := [.int r3]) [.int v2] hx hc mk_js_charAt rfl ln_5_262 hw1 (by decide +kernel) (by decide) (Nat.le_of_ble_eq_true rfl) (s_js_charAt hw1 (ok_b h)) (fun r4 s4 h => ?_)
      refine g_ic_eq hx (off := 5) (tgt := 56) (by decide +kernel) (by decide) (fun c51 => ?_) (fun c51 => ?_)
      · have h := ok_t h c51
        refine g_run hx [(.iinc 2 1, 1, 0)] (pc' := 59) (lo' := [some (.ref 1), some (.ref (100 + w1)), some (.int (v2 + 1))]) (st' := []) (σ' := s4) (by decide +kernel) rfl rfl ?_
        refine g_goto hx (off := (-31)) (tgt := 28) (by decide +kernel) (by decide) ?_
        exact ih _ _ h
      · have h := ok_f h c51
        refine g_run hx [(.iconst 0, 0, 0)] (pc' := 55) (lo' := [some (.ref 1), some (.ref (100 + w1)), some (.int v2)]) (st' := [.int 0]) (σ' := s4) (by decide +kernel) rfl rfl ?_
        exact g_zret (b := false) hx hr rfl false rfl (by decide +kernel) (ok_some h)
set_option maxRecDepth 100000 in
theorem s_reader_isWord {y : EX} {N : Nat} {w1 : Nat} (hw1 : w1 < 20) {σ : Sg} {P : Bool × Sg → Prop} (h : ok (f_reader_isWord N w1 σ) P) : Ev y M_reader_isWord 4 [.ref 1, .ref (100 + w1)] σ rvB P := by
  refine Ev.of mk_reader_isWord (Nat.le_of_ble_eq_true rfl) (fun x hx hc hr => ?_)
  have hx : Cx 5 prog_7_method_23_code x := hx
  have hc : Cc y 3 4 x := hc
  show G x 0 [some (.ref 1), some (.ref (100 + w1)), none] [] σ
  unfold f_reader_isWord at h
  refine g_run hx [(.aload_n 0, 0, 0), (.getfield 22, 0, 0), (.iconst 1, 1, 0)] (pc' := 5) (lo' := [some (.ref 1), some (.ref (100 + w1)), none]) (st' := [.int 1, .int (gI σ 1 3)]) (σ' := σ) (by decide +kernel) rfl rfl ?_
  refine g_ic_ne hx (off := 19) (tgt := 24) (by decide +kernel) (by decide) (fun c5 => ?_) (fun c5 => ?_)
  · have h := ok_f h c5
    refine g_run hx [(.iconst 0, 0, 0)] (pc' := 25) (lo' := [some (.ref 1), some (.ref (100 + w1)), none]) (st' := [.int 0]) (σ' := σ) (by decide +kernel) rfl rfl ?_
    exact g_zret (b := false) hx hr rfl false rfl (by decide +kernel) (ok_some h)
  · have h := ok_t h c5
    refine g_run hx [(.aload_n 1, 0, 0)] (pc' := 9) (lo' := [some (.ref 1), some (.ref (100 + w1)), none]) (st' := [.ref (100 + w1)]) (σ' := σ) (by decide +kernel) rfl rfl ?_
    refine g_callT (w := w1) (rest := []) [] hx hc mk_js_length rfl ln_5_257 hw1 (by decide +kernel) (by decide) (Nat.le_of_ble_eq_true rfl) (s_js_length hw1 (ok_b h)) (fun r1 s1 h => ?_)
    refine g_run hx [(.aload_n 0, 0, 0), (.getfield 28, 0, 0), (.aload_n 0, 0, 0), (.getfield 25, 0, 0), (.isub, 0, 0)] (pc' := 21) (lo' := [some (.ref 1), some (.ref (100 + w1)), none]) (st' := [.int ((gI s1 1 5) - (gI s1 1 4)), .int r1]) (σ' := s1) (by decide +kernel) rfl rfl ?_
    refine g_ic_eq hx (off := 5) (tgt := 26) (by decide +kernel) (by decide) (fun c21 => ?_) (fun c21 => ?_)
    · have h := ok_t h c21
      refine g_run hx [(.iconst 0, 0, 0), (.istore_n 2, 0, 0)] (pc' := 28) (lo' := [some (.ref 1), some (.ref (100 + w1)), some (.int 0)]) (st' := []) (σ' := s1) (by decide +kernel) rfl rfl ?_
      refine s_reader_isWord_L28 hx hc hr hw1 N _ _ h
    · have h := ok_f h c21
      refine g_run hx [(.iconst 0, 0, 0)] (pc' := 25) (lo' := [some (.ref 1), some (.ref (100 + w1)), none]) (st' := [.int 0]) (σ' := s1) (by decide +kernel) rfl rfl ?_
      exact g_zret (b := false) hx hr rfl false rfl (by decide +kernel) (ok_some h)
def f_reader_sortHere (N : Nat) (σ : Sg) : Option (Int32 × Sg) :=
  if (gI σ 1 3) = 1 then
    (f_reader_isWord N 0 σ).bind fun q1 =>
    if q1.1 = true then
      some (0, q1.2)
    else
      (f_reader_isWord N 1 q1.2).bind fun q2 =>
      if q2.1 = true then
        some (1, q2.2)
      else
        (f_reader_isWord N 2 q2.2).bind fun q3 =>
        if q3.1 = true then
          some (2, q3.2)
        else
          (f_reader_isWord N 3 q3.2).bind fun q4 =>
          if q4.1 = true then
            some (3, q4.2)
          else
            (f_reader_isWord N 4 q4.2).bind fun q5 =>
            if q5.1 = true then
              some (4, q5.2)
            else
              (f_reader_isWord N 5 q5.2).bind fun q6 =>
              if q6.1 = true then
                some (5, q6.2)
              else
                (f_reader_isWord N 6 q6.2).bind fun q7 =>
                if q7.1 = true then
                  some (6, q7.2)
                else
                  some ((-1), q7.2)
  else
    some ((-2), σ)
set_option maxRecDepth 100000 in
theorem s_reader_sortHere {y : EX} {N : Nat} {σ : Sg} {P : Int32 × Sg → Prop} (h : ok (f_reader_sortHere N σ) P) : Ev y M_reader_sortHere 5 [.ref 1] σ rvI P := by
  refine Ev.of mk_reader_sortHere (Nat.le_of_ble_eq_true rfl) (fun x hx hc hr => ?_)
  have hx : Cx 5 prog_7_method_22_code x := hx
  have hc : Cc y 1 5 x := hc
  show G x 0 [some (.ref 1)] [] σ
  unfold f_reader_sortHere at h
  refine g_run hx [(.aload_n 0, 0, 0), (.getfield 22, 0, 0), (.iconst 1, 1, 0)] (pc' := 5) (lo' := [some (.ref 1)]) (st' := [.int 1, .int (gI σ 1 3)]) (σ' := σ) (by decide +kernel) rfl rfl ?_
  refine g_ic_eq hx (off := 6) (tgt := 11) (by decide +kernel) (by decide) (fun c5 => ?_) (fun c5 => ?_)
  · have h := ok_t h c5
    refine g_run hx [(.aload_n 0, 0, 0)] (pc' := 12) (lo' := [some (.ref 1)]) (st' := [.ref 1]) (σ' := σ) (by decide +kernel) rfl rfl ?_
    refine g_ldcS (idx := 245) (sid := 0) hx hc (by decide) (by decide +kernel) ?_
    refine g_callV (rest := []) [.ref (100 + 0)] hx hc mk_reader_isWord ln_5_163 rfl (by decide +kernel) (by decide) (Nat.le_of_ble_eq_true rfl) (s_reader_isWord (by decide) (ok_b h)) (fun r1 s1 h => ?_)
    refine g_ifb_eq hx (off := 5) (tgt := 22) (by decide +kernel) (by decide) (fun c17 => ?_) (fun c17 => ?_)
    · have h := ok_f h c17
      refine g_run hx [(.aload_n 0, 0, 0)] (pc' := 23) (lo' := [some (.ref 1)]) (st' := [.ref 1]) (σ' := s1) (by decide +kernel) rfl rfl ?_
      refine g_ldcS (idx := 247) (sid := 1) hx hc (by decide) (by decide +kernel) ?_
      refine g_callV (rest := []) [.ref (100 + 1)] hx hc mk_reader_isWord ln_5_163 rfl (by decide +kernel) (by decide) (Nat.le_of_ble_eq_true rfl) (s_reader_isWord (by decide) (ok_b h)) (fun r2 s2 h => ?_)
      refine g_ifb_eq hx (off := 5) (tgt := 33) (by decide +kernel) (by decide) (fun c28 => ?_) (fun c28 => ?_)
      · have h := ok_f h c28
        refine g_run hx [(.aload_n 0, 0, 0)] (pc' := 34) (lo' := [some (.ref 1)]) (st' := [.ref 1]) (σ' := s2) (by decide +kernel) rfl rfl ?_
        refine g_ldcS (idx := 249) (sid := 2) hx hc (by decide) (by decide +kernel) ?_
        refine g_callV (rest := []) [.ref (100 + 2)] hx hc mk_reader_isWord ln_5_163 rfl (by decide +kernel) (by decide) (Nat.le_of_ble_eq_true rfl) (s_reader_isWord (by decide) (ok_b h)) (fun r3 s3 h => ?_)
        refine g_ifb_eq hx (off := 5) (tgt := 44) (by decide +kernel) (by decide) (fun c39 => ?_) (fun c39 => ?_)
        · have h := ok_f h c39
          refine g_run hx [(.aload_n 0, 0, 0)] (pc' := 45) (lo' := [some (.ref 1)]) (st' := [.ref 1]) (σ' := s3) (by decide +kernel) rfl rfl ?_
          refine g_ldcS (idx := 250) (sid := 3) hx hc (by decide) (by decide +kernel) ?_
          refine g_callV (rest := []) [.ref (100 + 3)] hx hc mk_reader_isWord ln_5_163 rfl (by decide +kernel) (by decide) (Nat.le_of_ble_eq_true rfl) (s_reader_isWord (by decide) (ok_b h)) (fun r4 s4 h => ?_)
          refine g_ifb_eq hx (off := 5) (tgt := 55) (by decide +kernel) (by decide) (fun c50 => ?_) (fun c50 => ?_)
          · have h := ok_f h c50
            refine g_run hx [(.aload_n 0, 0, 0)] (pc' := 56) (lo' := [some (.ref 1)]) (st' := [.ref 1]) (σ' := s4) (by decide +kernel) rfl rfl ?_
            refine g_ldcS (idx := 252) (sid := 4) hx hc (by decide) (by decide +kernel) ?_
            refine g_callV (rest := []) [.ref (100 + 4)] hx hc mk_reader_isWord ln_5_163 rfl (by decide +kernel) (by decide) (Nat.le_of_ble_eq_true rfl) (s_reader_isWord (by decide) (ok_b h)) (fun r5 s5 h => ?_)
            refine g_ifb_eq hx (off := 5) (tgt := 66) (by decide +kernel) (by decide) (fun c61 => ?_) (fun c61 => ?_)
            · have h := ok_f h c61
              refine g_run hx [(.aload_n 0, 0, 0)] (pc' := 67) (lo' := [some (.ref 1)]) (st' := [.ref 1]) (σ' := s5) (by decide +kernel) rfl rfl ?_
              refine g_ldcS (idx := 254) (sid := 5) hx hc (by decide) (by decide +kernel) ?_
              refine g_callV (rest := []) [.ref (100 + 5)] hx hc mk_reader_isWord ln_5_163 rfl (by decide +kernel) (by decide) (Nat.le_of_ble_eq_true rfl) (s_reader_isWord (by decide) (ok_b h)) (fun r6 s6 h => ?_)
              refine g_ifb_eq hx (off := 5) (tgt := 77) (by decide +kernel) (by decide) (fun c72 => ?_) (fun c72 => ?_)
              · have h := ok_f h c72
                refine g_run hx [(.aload_n 0, 0, 0)] (pc' := 78) (lo' := [some (.ref 1)]) (st' := [.ref 1]) (σ' := s6) (by decide +kernel) rfl rfl ?_
                refine g_ldcS (idx := 255) (sid := 6) hx hc (by decide) (by decide +kernel) ?_
                refine g_callV (rest := []) [.ref (100 + 6)] hx hc mk_reader_isWord ln_5_163 rfl (by decide +kernel) (by decide) (Nat.le_of_ble_eq_true rfl) (s_reader_isWord (by decide) (ok_b h)) (fun r7 s7 h => ?_)
                refine g_ifb_eq hx (off := 8) (tgt := 91) (by decide +kernel) (by decide) (fun c83 => ?_) (fun c83 => ?_)
                · have h := ok_f h c83
                  refine g_run hx [(.iconst (-1), (-1), 0)] (pc' := 92) (lo' := [some (.ref 1)]) (st' := [.int (-1)]) (σ' := s7) (by decide +kernel) rfl rfl ?_
                  exact g_iret hx hr rfl _ rfl (by decide +kernel) (ok_some h)
                · have h := ok_t h c83
                  refine g_run hx [(.bipush 6, 6, 0)] (pc' := 88) (lo' := [some (.ref 1)]) (st' := [.int 6]) (σ' := s7) (by decide +kernel) rfl rfl ?_
                  refine g_goto hx (off := 4) (tgt := 92) (by decide +kernel) (by decide) ?_
                  exact g_iret hx hr rfl _ rfl (by decide +kernel) (ok_some h)
              · have h := ok_t h c72
                refine g_run hx [(.iconst 5, 5, 0)] (pc' := 76) (lo' := [some (.ref 1)]) (st' := [.int 5]) (σ' := s6) (by decide +kernel) rfl rfl ?_
                exact g_iret hx hr rfl _ rfl (by decide +kernel) (ok_some h)
            · have h := ok_t h c61
              refine g_run hx [(.iconst 4, 4, 0)] (pc' := 65) (lo' := [some (.ref 1)]) (st' := [.int 4]) (σ' := s5) (by decide +kernel) rfl rfl ?_
              exact g_iret hx hr rfl _ rfl (by decide +kernel) (ok_some h)
          · have h := ok_t h c50
            refine g_run hx [(.iconst 3, 3, 0)] (pc' := 54) (lo' := [some (.ref 1)]) (st' := [.int 3]) (σ' := s4) (by decide +kernel) rfl rfl ?_
            exact g_iret hx hr rfl _ rfl (by decide +kernel) (ok_some h)
        · have h := ok_t h c39
          refine g_run hx [(.iconst 2, 2, 0)] (pc' := 43) (lo' := [some (.ref 1)]) (st' := [.int 2]) (σ' := s3) (by decide +kernel) rfl rfl ?_
          exact g_iret hx hr rfl _ rfl (by decide +kernel) (ok_some h)
      · have h := ok_t h c28
        refine g_run hx [(.iconst 1, 1, 0)] (pc' := 32) (lo' := [some (.ref 1)]) (st' := [.int 1]) (σ' := s2) (by decide +kernel) rfl rfl ?_
        exact g_iret hx hr rfl _ rfl (by decide +kernel) (ok_some h)
    · have h := ok_t h c17
      refine g_run hx [(.iconst 0, 0, 0)] (pc' := 21) (lo' := [some (.ref 1)]) (st' := [.int 0]) (σ' := s1) (by decide +kernel) rfl rfl ?_
      exact g_iret hx hr rfl _ rfl (by decide +kernel) (ok_some h)
  · have h := ok_f h c5
    refine g_run hx [(.bipush (-2), (-2), 0)] (pc' := 10) (lo' := [some (.ref 1)]) (st' := [.int (-2)]) (σ' := σ) (by decide +kernel) rfl rfl ?_
    exact g_iret hx hr rfl _ rfl (by decide +kernel) (ok_some h)
def f_reader_fail (N : Nat) (v1 : Int32) (σ : Sg) : Option (Bool × Sg) :=
  some (false, sI (sI σ 1 12 v1) 1 13 (gI (sI σ 1 12 v1) 1 4))
set_option maxRecDepth 100000 in
theorem s_reader_fail {y : EX} {N : Nat} {v1 : Int32} {σ : Sg} {P : Bool × Sg → Prop} (h : ok (f_reader_fail N v1 σ) P) : Ev y M_reader_fail 0 [.ref 1, .int v1] σ rvB P := by
  refine Ev.of mk_reader_fail (Nat.le_of_ble_eq_true rfl) (fun x hx hc hr => ?_)
  have hx : Cx 5 prog_7_method_15_code x := hx
  have hc : Cc y 2 0 x := hc
  show G x 0 [some (.ref 1), some (.int v1)] [] σ
  unfold f_reader_fail at h
  refine g_run hx [(.aload_n 0, 0, 0), (.iload_n 1, 0, 0), (.putfield 60, 0, 0), (.aload_n 0, 0, 0), (.aload_n 0, 0, 0), (.getfield 25, 0, 0), (.putfield 63, 0, 0), (.iconst 0, 0, 0)] (pc' := 14) (lo' := [some (.ref 1), some (.int v1)]) (st' := [.int 0]) (σ' := sI (sI σ 1 12 v1) 1 13 (gI (sI σ 1 12 v1) 1 4)) (by decide +kernel) rfl rfl ?_
  exact g_zret (b := false) hx hr rfl false rfl (by decide +kernel) (ok_some h)
def f_reader_headFits (N : Nat) (v1 : Int32) (σ : Sg) : Option (Bool × Sg) :=
  if v1 < 0 then
    (f_reader_fail N 1 σ).bind fun q1 =>
    some (q1.1, q1.2)
  else
    if (nI 7) ≤ v1 then
      (f_reader_fail N 1 σ).bind fun q2 =>
      some (q2.1, q2.2)
    else
      if v1 < (nI 7) then
        if vin v1 7 then
        if vin v1 7 then
        if (gA σ 3 v1) < (roomV v1) then
          if v1 = 0 then
            if v1 = 1 then
              if (gA σ 3 4) ≤ 0 then
                if vin v1 7 then
                if vin v1 7 then
                some (true, sA σ 3 v1 ((gA σ 3 v1) + 1))
                else none
                else none
              else
                (f_reader_fail N 8 σ).bind fun q3 =>
                some (q3.1, q3.2)
            else
              if vin v1 7 then
              if vin v1 7 then
              some (true, sA σ 3 v1 ((gA σ 3 v1) + 1))
              else none
              else none
          else
            if (gA σ 3 0) = 0 then
              (f_reader_fail N 6 σ).bind fun q5 =>
              some (q5.1, q5.2)
            else
              if v1 = 1 then
                if (gA σ 3 4) ≤ 0 then
                  if vin v1 7 then
                  if vin v1 7 then
                  some (true, sA σ 3 v1 ((gA σ 3 v1) + 1))
                  else none
                  else none
                else
                  (f_reader_fail N 8 σ).bind fun q4 =>
                  some (q4.1, q4.2)
              else
                if vin v1 7 then
                if vin v1 7 then
                some (true, sA σ 3 v1 ((gA σ 3 v1) + 1))
                else none
                else none
        else
          if v1 = 0 then
            (f_reader_fail N 3 σ).bind fun q7 =>
            some (q7.1, q7.2)
          else
            (f_reader_fail N 5 σ).bind fun q6 =>
            some (q6.1, q6.2)
        else none
        else none
      else
        (f_reader_fail N 1 σ).bind fun q8 =>
        some (q8.1, q8.2)
set_option maxRecDepth 100000 in
theorem s_reader_headFits {y : EX} {N : Nat} {v1 : Int32} {σ : Sg} {P : Bool × Sg → Prop} (h : ok (f_reader_headFits N v1 σ) P) : Ev y M_reader_headFits 1 [.ref 1, .int v1] σ rvB P := by
  refine Ev.of mk_reader_headFits (Nat.le_of_ble_eq_true rfl) (fun x hx hc hr => ?_)
  have hx : Cx 5 prog_7_method_7_code x := hx
  have hc : Cc y 3 1 x := hc
  show G x 0 [some (.ref 1), some (.int v1), none] [] σ
  unfold f_reader_headFits at h
  refine g_run hx [(.iload_n 1, 0, 0)] (pc' := 1) (lo' := [some (.ref 1), some (.int v1), none]) (st' := [.int v1]) (σ' := σ) (by decide +kernel) rfl rfl ?_
  refine g_if_lt hx (off := 20) (tgt := 21) (by decide +kernel) (by decide) (fun c1 => ?_) (fun c1 => ?_)
  · have h := ok_t h c1
    refine g_run hx [(.aload_n 0, 0, 0), (.iconst 1, 1, 0)] (pc' := 23) (lo' := [some (.ref 1), some (.int v1), none]) (st' := [.int 1, .ref 1]) (σ' := σ) (by decide +kernel) rfl rfl ?_
    refine g_callV (rest := []) [.int 1] hx hc mk_reader_fail ln_5_91 rfl (by decide +kernel) (by decide) (Nat.le_of_ble_eq_true rfl) (s_reader_fail (ok_b h)) (fun r1 s1 h => ?_)
    exact g_zret hx hr rfl _ rfl (by decide +kernel) (ok_some h)
  · have h := ok_f h c1
    refine g_run hx [(.iload_n 1, 0, 0), (.aload_n 0, 0, 0), (.getfield 41, 0, 0), (.arraylength, 0, 0)] (pc' := 10) (lo' := [some (.ref 1), some (.int v1), none]) (st' := [.int (nI 7), .int v1]) (σ' := σ) (by decide +kernel) rfl rfl ?_
    refine g_ic_ge hx (off := 11) (tgt := 21) (by decide +kernel) (by decide) (fun c10 => ?_) (fun c10 => ?_)
    · have h := ok_t h c10
      refine g_run hx [(.aload_n 0, 0, 0), (.iconst 1, 1, 0)] (pc' := 23) (lo' := [some (.ref 1), some (.int v1), none]) (st' := [.int 1, .ref 1]) (σ' := σ) (by decide +kernel) rfl rfl ?_
      refine g_callV (rest := []) [.int 1] hx hc mk_reader_fail ln_5_91 rfl (by decide +kernel) (by decide) (Nat.le_of_ble_eq_true rfl) (s_reader_fail (ok_b h)) (fun r2 s2 h => ?_)
      exact g_zret hx hr rfl _ rfl (by decide +kernel) (ok_some h)
    · have h := ok_f h c10
      refine g_run hx [(.iload_n 1, 0, 0)] (pc' := 14) (lo' := [some (.ref 1), some (.int v1), none]) (st' := [.int v1]) (σ' := σ) (by decide +kernel) rfl rfl ?_
      refine g_room hx hc (by decide +kernel) ?_
      refine g_roomlen hx hc (by decide +kernel) ?_
      refine g_ic_lt hx (off := 9) (tgt := 27) (by decide +kernel) (by decide) (fun c18 => ?_) (fun c18 => ?_)
      · have h := ok_t h c18
        refine g_run hx [(.aload_n 0, 0, 0), (.getfield 41, 0, 0), (.iload_n 1, 0, 0)] (pc' := 32) (lo' := [some (.ref 1), some (.int v1), none]) (st' := [.int v1, .ref 3]) (σ' := σ) (by decide +kernel) rfl rfl ?_
        obtain ⟨c32, h⟩ := ok_g h
        refine g_iald hx (by decide +kernel) (i := 3) (n := 7) rfl c32 ?_
        refine g_room hx hc (by decide +kernel) ?_
        refine g_run hx [(.iload_n 1, 0, 0)] (pc' := 37) (lo' := [some (.ref 1), some (.int v1), none]) (st' := [.int v1, .ref 90, .int (gA σ 3 v1)]) (σ' := σ) (by decide +kernel) rfl rfl ?_
        obtain ⟨c37, h⟩ := ok_g h
        refine g_roomald hx hc c37 (by decide +kernel) ?_
        refine g_ic_lt hx (off := 7) (tgt := 45) (by decide +kernel) (by decide) (fun c38 => ?_) (fun c38 => ?_)
        · have h := ok_t h c38
          refine g_run hx [(.iconst 0, 0, 0), (.istore_n 2, 0, 0), (.iload_n 2, 0, 0)] (pc' := 48) (lo' := [some (.ref 1), some (.int v1), some (.int 0)]) (st' := [.int 0]) (σ' := σ) (by decide +kernel) rfl rfl ?_
          refine g_if_eq hx (off := 17) (tgt := 65) (by decide +kernel) (by decide) (fun _ => ?_) (fun c => absurd c (by decide))
          refine g_run hx [(.iload_n 1, 0, 0)] (pc' := 66) (lo' := [some (.ref 1), some (.int v1), some (.int 0)]) (st' := [.int v1]) (σ' := σ) (by decide +kernel) rfl rfl ?_
          refine g_if_eq hx (off := 19) (tgt := 85) (by decide +kernel) (by decide) (fun c66 => ?_) (fun c66 => ?_)
          · have h := ok_t h c66
            refine g_run hx [(.iload_n 1, 0, 0), (.iconst 1, 1, 0)] (pc' := 87) (lo' := [some (.ref 1), some (.int v1), some (.int 0)]) (st' := [.int 1, .int v1]) (σ' := σ) (by decide +kernel) rfl rfl ?_
            refine g_ic_ne hx (off := 19) (tgt := 106) (by decide +kernel) (by decide) (fun c87 => ?_) (fun c87 => ?_)
            · have h := ok_f h c87
              refine g_run hx [(.aload_n 0, 0, 0), (.getfield 41, 0, 0), (.iload_n 1, 0, 0), (.dup2, 0, 0)] (pc' := 112) (lo' := [some (.ref 1), some (.int v1), some (.int 0)]) (st' := [.int v1, .ref 3, .int v1, .ref 3]) (σ' := σ) (by decide +kernel) rfl rfl ?_
              obtain ⟨c112, h⟩ := ok_g h
              refine g_iald hx (by decide +kernel) (i := 3) (n := 7) rfl c112 ?_
              refine g_run hx [(.iconst 1, 1, 0), (.iadd, 0, 0)] (pc' := 115) (lo' := [some (.ref 1), some (.int v1), some (.int 0)]) (st' := [.int ((gA σ 3 v1) + 1), .int v1, .ref 3]) (σ' := σ) (by decide +kernel) rfl rfl ?_
              obtain ⟨c115, h⟩ := ok_g h
              refine g_iast hx (by decide +kernel) (i := 3) (n := 7) rfl c115 ?_
              refine g_run hx [(.iconst 1, 1, 0)] (pc' := 117) (lo' := [some (.ref 1), some (.int v1), some (.int 0)]) (st' := [.int 1]) (σ' := sA σ 3 v1 ((gA σ 3 v1) + 1)) (by decide +kernel) rfl rfl ?_
              exact g_zret (b := true) hx hr rfl true rfl (by decide +kernel) (ok_some h)
            · have h := ok_t h c87
              refine g_run hx [(.aload_n 0, 0, 0), (.getfield 41, 0, 0), (.iconst 4, 4, 0), (.iaload, 0, 0)] (pc' := 96) (lo' := [some (.ref 1), some (.int v1), some (.int 0)]) (st' := [.int (gA σ 3 4)]) (σ' := σ) (by decide +kernel) rfl rfl ?_
              refine g_if_le hx (off := 10) (tgt := 106) (by decide +kernel) (by decide) (fun c96 => ?_) (fun c96 => ?_)
              · have h := ok_t h c96
                refine g_run hx [(.aload_n 0, 0, 0), (.getfield 41, 0, 0), (.iload_n 1, 0, 0), (.dup2, 0, 0)] (pc' := 112) (lo' := [some (.ref 1), some (.int v1), some (.int 0)]) (st' := [.int v1, .ref 3, .int v1, .ref 3]) (σ' := σ) (by decide +kernel) rfl rfl ?_
                obtain ⟨c112, h⟩ := ok_g h
                refine g_iald hx (by decide +kernel) (i := 3) (n := 7) rfl c112 ?_
                refine g_run hx [(.iconst 1, 1, 0), (.iadd, 0, 0)] (pc' := 115) (lo' := [some (.ref 1), some (.int v1), some (.int 0)]) (st' := [.int ((gA σ 3 v1) + 1), .int v1, .ref 3]) (σ' := σ) (by decide +kernel) rfl rfl ?_
                obtain ⟨c115, h⟩ := ok_g h
                refine g_iast hx (by decide +kernel) (i := 3) (n := 7) rfl c115 ?_
                refine g_run hx [(.iconst 1, 1, 0)] (pc' := 117) (lo' := [some (.ref 1), some (.int v1), some (.int 0)]) (st' := [.int 1]) (σ' := sA σ 3 v1 ((gA σ 3 v1) + 1)) (by decide +kernel) rfl rfl ?_
                exact g_zret (b := true) hx hr rfl true rfl (by decide +kernel) (ok_some h)
              · have h := ok_f h c96
                refine g_run hx [(.aload_n 0, 0, 0), (.bipush 8, 8, 0)] (pc' := 102) (lo' := [some (.ref 1), some (.int v1), some (.int 0)]) (st' := [.int 8, .ref 1]) (σ' := σ) (by decide +kernel) rfl rfl ?_
                refine g_callV (rest := []) [.int 8] hx hc mk_reader_fail ln_5_91 rfl (by decide +kernel) (by decide) (Nat.le_of_ble_eq_true rfl) (s_reader_fail (ok_b h)) (fun r3 s3 h => ?_)
                exact g_zret hx hr rfl _ rfl (by decide +kernel) (ok_some h)
          · have h := ok_f h c66
            refine g_run hx [(.aload_n 0, 0, 0), (.getfield 41, 0, 0), (.iconst 0, 0, 0), (.iaload, 0, 0)] (pc' := 75) (lo' := [some (.ref 1), some (.int v1), some (.int 0)]) (st' := [.int (gA σ 3 0)]) (σ' := σ) (by decide +kernel) rfl rfl ?_
            refine g_if_ne hx (off := 10) (tgt := 85) (by decide +kernel) (by decide) (fun c75 => ?_) (fun c75 => ?_)
            · have h := ok_f h c75
              refine g_run hx [(.iload_n 1, 0, 0), (.iconst 1, 1, 0)] (pc' := 87) (lo' := [some (.ref 1), some (.int v1), some (.int 0)]) (st' := [.int 1, .int v1]) (σ' := σ) (by decide +kernel) rfl rfl ?_
              refine g_ic_ne hx (off := 19) (tgt := 106) (by decide +kernel) (by decide) (fun c87 => ?_) (fun c87 => ?_)
              · have h := ok_f h c87
                refine g_run hx [(.aload_n 0, 0, 0), (.getfield 41, 0, 0), (.iload_n 1, 0, 0), (.dup2, 0, 0)] (pc' := 112) (lo' := [some (.ref 1), some (.int v1), some (.int 0)]) (st' := [.int v1, .ref 3, .int v1, .ref 3]) (σ' := σ) (by decide +kernel) rfl rfl ?_
                obtain ⟨c112, h⟩ := ok_g h
                refine g_iald hx (by decide +kernel) (i := 3) (n := 7) rfl c112 ?_
                refine g_run hx [(.iconst 1, 1, 0), (.iadd, 0, 0)] (pc' := 115) (lo' := [some (.ref 1), some (.int v1), some (.int 0)]) (st' := [.int ((gA σ 3 v1) + 1), .int v1, .ref 3]) (σ' := σ) (by decide +kernel) rfl rfl ?_
                obtain ⟨c115, h⟩ := ok_g h
                refine g_iast hx (by decide +kernel) (i := 3) (n := 7) rfl c115 ?_
                refine g_run hx [(.iconst 1, 1, 0)] (pc' := 117) (lo' := [some (.ref 1), some (.int v1), some (.int 0)]) (st' := [.int 1]) (σ' := sA σ 3 v1 ((gA σ 3 v1) + 1)) (by decide +kernel) rfl rfl ?_
                exact g_zret (b := true) hx hr rfl true rfl (by decide +kernel) (ok_some h)
              · have h := ok_t h c87
                refine g_run hx [(.aload_n 0, 0, 0), (.getfield 41, 0, 0), (.iconst 4, 4, 0), (.iaload, 0, 0)] (pc' := 96) (lo' := [some (.ref 1), some (.int v1), some (.int 0)]) (st' := [.int (gA σ 3 4)]) (σ' := σ) (by decide +kernel) rfl rfl ?_
                refine g_if_le hx (off := 10) (tgt := 106) (by decide +kernel) (by decide) (fun c96 => ?_) (fun c96 => ?_)
                · have h := ok_t h c96
                  refine g_run hx [(.aload_n 0, 0, 0), (.getfield 41, 0, 0), (.iload_n 1, 0, 0), (.dup2, 0, 0)] (pc' := 112) (lo' := [some (.ref 1), some (.int v1), some (.int 0)]) (st' := [.int v1, .ref 3, .int v1, .ref 3]) (σ' := σ) (by decide +kernel) rfl rfl ?_
                  obtain ⟨c112, h⟩ := ok_g h
                  refine g_iald hx (by decide +kernel) (i := 3) (n := 7) rfl c112 ?_
                  refine g_run hx [(.iconst 1, 1, 0), (.iadd, 0, 0)] (pc' := 115) (lo' := [some (.ref 1), some (.int v1), some (.int 0)]) (st' := [.int ((gA σ 3 v1) + 1), .int v1, .ref 3]) (σ' := σ) (by decide +kernel) rfl rfl ?_
                  obtain ⟨c115, h⟩ := ok_g h
                  refine g_iast hx (by decide +kernel) (i := 3) (n := 7) rfl c115 ?_
                  refine g_run hx [(.iconst 1, 1, 0)] (pc' := 117) (lo' := [some (.ref 1), some (.int v1), some (.int 0)]) (st' := [.int 1]) (σ' := sA σ 3 v1 ((gA σ 3 v1) + 1)) (by decide +kernel) rfl rfl ?_
                  exact g_zret (b := true) hx hr rfl true rfl (by decide +kernel) (ok_some h)
                · have h := ok_f h c96
                  refine g_run hx [(.aload_n 0, 0, 0), (.bipush 8, 8, 0)] (pc' := 102) (lo' := [some (.ref 1), some (.int v1), some (.int 0)]) (st' := [.int 8, .ref 1]) (σ' := σ) (by decide +kernel) rfl rfl ?_
                  refine g_callV (rest := []) [.int 8] hx hc mk_reader_fail ln_5_91 rfl (by decide +kernel) (by decide) (Nat.le_of_ble_eq_true rfl) (s_reader_fail (ok_b h)) (fun r4 s4 h => ?_)
                  exact g_zret hx hr rfl _ rfl (by decide +kernel) (ok_some h)
            · have h := ok_t h c75
              refine g_run hx [(.aload_n 0, 0, 0), (.bipush 6, 6, 0)] (pc' := 81) (lo' := [some (.ref 1), some (.int v1), some (.int 0)]) (st' := [.int 6, .ref 1]) (σ' := σ) (by decide +kernel) rfl rfl ?_
              refine g_callV (rest := []) [.int 6] hx hc mk_reader_fail ln_5_91 rfl (by decide +kernel) (by decide) (Nat.le_of_ble_eq_true rfl) (s_reader_fail (ok_b h)) (fun r5 s5 h => ?_)
              exact g_zret hx hr rfl _ rfl (by decide +kernel) (ok_some h)
        · have h := ok_f h c38
          refine g_run hx [(.iconst 1, 1, 0)] (pc' := 42) (lo' := [some (.ref 1), some (.int v1), none]) (st' := [.int 1]) (σ' := σ) (by decide +kernel) rfl rfl ?_
          refine g_goto hx (off := 4) (tgt := 46) (by decide +kernel) (by decide) ?_
          refine g_run hx [(.istore_n 2, 0, 0), (.iload_n 2, 0, 0)] (pc' := 48) (lo' := [some (.ref 1), some (.int v1), some (.int 1)]) (st' := [.int 1]) (σ' := σ) (by decide +kernel) rfl rfl ?_
          refine g_if_eq hx (off := 17) (tgt := 65) (by decide +kernel) (by decide) (fun c => absurd c (by decide)) (fun _ => ?_)
          refine g_run hx [(.aload_n 0, 0, 0), (.iload_n 1, 0, 0)] (pc' := 53) (lo' := [some (.ref 1), some (.int v1), some (.int 1)]) (st' := [.int v1, .ref 1]) (σ' := σ) (by decide +kernel) rfl rfl ?_
          refine g_if_ne hx (off := 7) (tgt := 60) (by decide +kernel) (by decide) (fun c53 => ?_) (fun c53 => ?_)
          · have h := ok_f h c53
            refine g_run hx [(.iconst 5, 5, 0)] (pc' := 61) (lo' := [some (.ref 1), some (.int v1), some (.int 1)]) (st' := [.int 5, .ref 1]) (σ' := σ) (by decide +kernel) rfl rfl ?_
            refine g_callV (rest := []) [.int 5] hx hc mk_reader_fail ln_5_91 rfl (by decide +kernel) (by decide) (Nat.le_of_ble_eq_true rfl) (s_reader_fail (ok_b h)) (fun r6 s6 h => ?_)
            exact g_zret hx hr rfl _ rfl (by decide +kernel) (ok_some h)
          · have h := ok_t h c53
            refine g_run hx [(.iconst 3, 3, 0)] (pc' := 57) (lo' := [some (.ref 1), some (.int v1), some (.int 1)]) (st' := [.int 3, .ref 1]) (σ' := σ) (by decide +kernel) rfl rfl ?_
            refine g_goto hx (off := 4) (tgt := 61) (by decide +kernel) (by decide) ?_
            refine g_callV (rest := []) [.int 3] hx hc mk_reader_fail ln_5_91 rfl (by decide +kernel) (by decide) (Nat.le_of_ble_eq_true rfl) (s_reader_fail (ok_b h)) (fun r7 s7 h => ?_)
            exact g_zret hx hr rfl _ rfl (by decide +kernel) (ok_some h)
      · have h := ok_f h c18
        refine g_run hx [(.aload_n 0, 0, 0), (.iconst 1, 1, 0)] (pc' := 23) (lo' := [some (.ref 1), some (.int v1), none]) (st' := [.int 1, .ref 1]) (σ' := σ) (by decide +kernel) rfl rfl ?_
        refine g_callV (rest := []) [.int 1] hx hc mk_reader_fail ln_5_91 rfl (by decide +kernel) (by decide) (Nat.le_of_ble_eq_true rfl) (s_reader_fail (ok_b h)) (fun r8 s8 h => ?_)
        exact g_zret hx hr rfl _ rfl (by decide +kernel) (ok_some h)
