def f_x_sum (N : Nat) (v1 : Int32) (σ : Sg) : Option (Int32 × Sg) :=
  (f_x_numberTrouble N v1 60 σ).bind fun q1 =>
  (f_x_granted N q1.1 q1.2).bind fun q2 =>
  if q2.1 = true then
    (f_paths_fewestFor N v1 q2.2).bind fun q3 =>
    some (q3.1, q3.2)
  else
    some ((-1), q2.2)
set_option maxRecDepth 100000 in
theorem s_x_sum {y : EX} {N : Nat} {v1 : Int32} {σ : Sg} {P : Int32 × Sg → Prop} (h : ok (f_x_sum N v1 σ) P) : Ev y M_x_sum 2 [.ref 0, .int v1] σ rvI P := by
  refine Ev.of mk_x_sum (Nat.le_of_ble_eq_true rfl) (fun x hx hc hr => ?_)
  have hx : Cx 9 prog_1_method_33_code x := hx
  have hc : Cc y 2 2 x := hc
  show G x 0 [some (.ref 0), some (.int v1)] [] σ
  unfold f_x_sum at h
  refine g_run hx [(.aload_n 0, 0, 0), (.aload_n 0, 0, 0), (.iload_n 1, 0, 0), (.bipush 60, 60, 0)] (pc' := 5) (lo' := [some (.ref 0), some (.int v1)]) (st' := [.int 60, .int v1, .ref 0, .ref 0]) (σ' := σ) (by decide +kernel) rfl rfl ?_
  refine g_callV (rest := [.ref 0]) [.int v1, .int 60] hx hc mk_x_numberTrouble ln_9_197 rfl (by decide +kernel) (by decide) (Nat.le_of_ble_eq_true rfl) (s_x_numberTrouble (ok_b h)) (fun r1 s1 h => ?_)
  refine g_callV (rest := []) [.int r1] hx hc mk_x_granted ln_9_83 rfl (by decide +kernel) (by decide) (Nat.le_of_ble_eq_true rfl) (s_x_granted (ok_b h)) (fun r2 s2 h => ?_)
  refine g_ifb_eq hx (off := 18) (tgt := 29) (by decide +kernel) (by decide) (fun c11 => ?_) (fun c11 => ?_)
  · have h := ok_f h c11
    refine g_run hx [(.iconst (-1), (-1), 0)] (pc' := 30) (lo' := [some (.ref 0), some (.int v1)]) (st' := [.int (-1)]) (σ' := s2) (by decide +kernel) rfl rfl ?_
    exact g_iret hx hr rfl _ rfl (by decide +kernel) (ok_some h)
  · have h := ok_t h c11
    refine g_run hx [(.aload_n 0, 0, 0), (.getfield 56, 0, 0), (.iload_n 1, 0, 0), (.aload_n 0, 0, 0), (.getfield 19, 0, 0)] (pc' := 23) (lo' := [some (.ref 0), some (.int v1)]) (st' := [.ref 10, .int v1, .ref 55]) (σ' := s2) (by decide +kernel) rfl rfl ?_
    refine g_callV (rest := []) [.int v1, .ref 10] hx hc mk_paths_fewestFor ln_9_256 rfl (by decide +kernel) (by decide) (Nat.le_of_ble_eq_true rfl) (s_paths_fewestFor (ok_b h)) (fun r3 s3 h => ?_)
    refine g_goto hx (off := 4) (tgt := 30) (by decide +kernel) (by decide) ?_
    exact g_iret hx hr rfl _ rfl (by decide +kernel) (ok_some h)
def f_country_inAllFits_L18 (N : Nat) : Nat → Int32 → Int32 → Int32 → Sg → Option (Int32 × Sg)
  | 0, _, _, _, _ => none
  | n + 1, v1, v2, v3, σ =>
    if 16 ≤ v3 then
      some (v2, σ)
    else
      (f_x_bit N (Int32.toInt64 v1) v3 σ).bind fun q2 =>
      if q2.1 = true then
        f_country_inAllFits_L18 N n v1 (v2 &&& v3) (v3 + 1) q2.2
      else
        f_country_inAllFits_L18 N n v1 v2 (v3 + 1) q2.2
def f_country_inAllFits (N : Nat) (σ : Sg) : Option (Int32 × Sg) :=
  (f_country_fittingSets N σ).bind fun q1 =>
  if q1.1 = 0 then
    f_country_inAllFits_L18 N N q1.1 0 0 q1.2
  else
    f_country_inAllFits_L18 N N q1.1 15 0 q1.2
set_option maxRecDepth 100000 in
theorem s_country_inAllFits_L18 {y : EX} {N : Nat} {x : CX} {P : Int32 × Sg → Prop} (hx : Cx 1 prog_3_method_23_code x) (hc : Cc y 4 5 x) (hr : Cr M_country_inAllFits rvI P x) : ∀ (n : Nat) (v1 : Int32) (v2 : Int32) (v3 : Int32) (σ : Sg), ok (f_country_inAllFits_L18 N n v1 v2 v3 σ) P → G x 18 [none, some (.int v1), some (.int v2), some (.int v3)] [] σ := by
  intro n
  induction n with
  | zero => intro v1 v2 v3 σ h; exact ok_none h
  | succ n ih =>
    intro v1 v2 v3 σ h
    rw [f_country_inAllFits_L18] at h
    refine g_run hx [(.iload_n 3, 0, 0), (.bipush 16, 16, 0)] (pc' := 21) (lo' := [none, some (.int v1), some (.int v2), some (.int v3)]) (st' := [.int 16, .int v3]) (σ' := σ) (by decide +kernel) rfl rfl ?_
    refine g_ic_ge hx (off := 22) (tgt := 43) (by decide +kernel) (by decide) (fun c21 => ?_) (fun c21 => ?_)
    · have h := ok_t h c21
      refine g_run hx [(.iload_n 2, 0, 0)] (pc' := 44) (lo' := [none, some (.int v1), some (.int v2), some (.int v3)]) (st' := [.int v2]) (σ' := σ) (by decide +kernel) rfl rfl ?_
      exact g_iret hx hr rfl _ rfl (by decide +kernel) (ok_some h)
    · have h := ok_f h c21
      refine g_run hx [(.iload_n 1, 0, 0), (.i2l, 0, 0), (.iload_n 3, 0, 0)] (pc' := 27) (lo' := [none, some (.int v1), some (.int v2), some (.int v3)]) (st' := [.int v3, .long (Int32.toInt64 v1)]) (σ' := σ) (by decide +kernel) rfl rfl ?_
      refine g_callN (rest := []) [.long (Int32.toInt64 v1), .int v3] hx hc mk_x_bit ln_1_73 (by decide +kernel) (by decide) (Nat.le_of_ble_eq_true rfl) (s_x_bit (ok_b h)) (fun r2 s2 h => ?_)
      refine g_ifb_eq hx (off := 7) (tgt := 37) (by decide +kernel) (by decide) (fun c30 => ?_) (fun c30 => ?_)
      · have h := ok_f h c30
        refine g_run hx [(.iinc 3 1, 1, 0)] (pc' := 40) (lo' := [none, some (.int v1), some (.int v2), some (.int (v3 + 1))]) (st' := []) (σ' := s2) (by decide +kernel) rfl rfl ?_
        refine g_goto hx (off := (-22)) (tgt := 18) (by decide +kernel) (by decide) ?_
        exact ih _ _ _ _ h
      · have h := ok_t h c30
        refine g_run hx [(.iload_n 2, 0, 0), (.iload_n 3, 0, 0), (.iand, 0, 0), (.istore_n 2, 0, 0), (.iinc 3 1, 1, 0)] (pc' := 40) (lo' := [none, some (.int v1), some (.int (v2 &&& v3)), some (.int (v3 + 1))]) (st' := []) (σ' := s2) (by decide +kernel) rfl rfl ?_
        refine g_goto hx (off := (-22)) (tgt := 18) (by decide +kernel) (by decide) ?_
        exact ih _ _ _ _ h
set_option maxRecDepth 100000 in
theorem s_country_inAllFits {y : EX} {N : Nat} {σ : Sg} {P : Int32 × Sg → Prop} (h : ok (f_country_inAllFits N σ) P) : Ev y M_country_inAllFits 5 [.ref 10] σ rvI P := by
  refine Ev.of mk_country_inAllFits (Nat.le_of_ble_eq_true rfl) (fun x hx hc hr => ?_)
  have hx : Cx 1 prog_3_method_23_code x := hx
  have hc : Cc y 4 5 x := hc
  show G x 0 [some (.ref 10), none, none, none] [] σ
  unfold f_country_inAllFits at h
  refine g_run hx [(.aload_n 0, 0, 0)] (pc' := 1) (lo' := [some (.ref 10), none, none, none]) (st' := [.ref 10]) (σ' := σ) (by decide +kernel) rfl rfl ?_
  refine g_callV (rest := []) [] hx hc mk_country_fittingSets ln_1_116 rfl (by decide +kernel) (by decide) (Nat.le_of_ble_eq_true rfl) (s_country_fittingSets (ok_b h)) (fun r1 s1 h => ?_)
  refine g_run hx [(.istore_n 1, 0, 0), (.iload_n 1, 0, 0)] (pc' := 6) (lo' := [some (.ref 10), some (.int r1), none, none]) (st' := [.int r1]) (σ' := s1) (by decide +kernel) rfl rfl ?_
  refine g_if_ne hx (off := 7) (tgt := 13) (by decide +kernel) (by decide) (fun c6 => ?_) (fun c6 => ?_)
  · have h := ok_f h c6
    refine g_run hx [(.bipush 15, 15, 0), (.istore_n 2, 0, 0), (.iconst 0, 0, 0), (.istore_n 3, 0, 0)] (pc' := 18) (lo' := [some (.ref 10), some (.int r1), some (.int 15), some (.int 0)]) (st' := []) (σ' := s1) (by decide +kernel) rfl rfl ?_
    refine g_wk (lo' := [none, some (.int r1), some (.int 15), some (.int 0)]) ⟨rfl, ⟨rfl, ⟨rfl, trivial⟩⟩⟩ ?_
    refine s_country_inAllFits_L18 hx hc hr N _ _ _ _ h
  · have h := ok_t h c6
    refine g_run hx [(.iconst 0, 0, 0)] (pc' := 10) (lo' := [some (.ref 10), some (.int r1), none, none]) (st' := [.int 0]) (σ' := s1) (by decide +kernel) rfl rfl ?_
    refine g_goto hx (off := 5) (tgt := 15) (by decide +kernel) (by decide) ?_
    refine g_run hx [(.istore_n 2, 0, 0), (.iconst 0, 0, 0), (.istore_n 3, 0, 0)] (pc' := 18) (lo' := [some (.ref 10), some (.int r1), some (.int 0), some (.int 0)]) (st' := []) (σ' := s1) (by decide +kernel) rfl rfl ?_
    refine g_wk (lo' := [none, some (.int r1), some (.int 0), some (.int 0)]) ⟨rfl, ⟨rfl, ⟨rfl, trivial⟩⟩⟩ ?_
    refine s_country_inAllFits_L18 hx hc hr N _ _ _ _ h
def f_x_surely (N : Nat) (σ : Sg) : Option (Int32 × Sg) :=
  (f_x_landTrouble N σ).bind fun q1 =>
  (f_x_granted N q1.1 q1.2).bind fun q2 =>
  if q2.1 = true then
    (f_country_inAllFits N q2.2).bind fun q3 =>
    some (q3.1, q3.2)
  else
    some ((-1), q2.2)
set_option maxRecDepth 100000 in
theorem s_x_surely {y : EX} {N : Nat} {σ : Sg} {P : Int32 × Sg → Prop} (h : ok (f_x_surely N σ) P) : Ev y M_x_surely 6 [.ref 0] σ rvI P := by
  refine Ev.of mk_x_surely (Nat.le_of_ble_eq_true rfl) (fun x hx hc hr => ?_)
  have hx : Cx 9 prog_1_method_43_code x := hx
  have hc : Cc y 1 6 x := hc
  show G x 0 [some (.ref 0)] [] σ
  unfold f_x_surely at h
  refine g_run hx [(.aload_n 0, 0, 0), (.aload_n 0, 0, 0)] (pc' := 2) (lo' := [some (.ref 0)]) (st' := [.ref 0, .ref 0]) (σ' := σ) (by decide +kernel) rfl rfl ?_
  refine g_callV (rest := [.ref 0]) [] hx hc mk_x_landTrouble ln_9_158 rfl (by decide +kernel) (by decide) (Nat.le_of_ble_eq_true rfl) (s_x_landTrouble (ok_b h)) (fun r1 s1 h => ?_)
  refine g_callV (rest := []) [.int r1] hx hc mk_x_granted ln_9_83 rfl (by decide +kernel) (by decide) (Nat.le_of_ble_eq_true rfl) (s_x_granted (ok_b h)) (fun r2 s2 h => ?_)
  refine g_ifb_eq hx (off := 13) (tgt := 21) (by decide +kernel) (by decide) (fun c8 => ?_) (fun c8 => ?_)
  · have h := ok_f h c8
    refine g_run hx [(.iconst (-1), (-1), 0)] (pc' := 22) (lo' := [some (.ref 0)]) (st' := [.int (-1)]) (σ' := s2) (by decide +kernel) rfl rfl ?_
    exact g_iret hx hr rfl _ rfl (by decide +kernel) (ok_some h)
  · have h := ok_t h c8
    refine g_run hx [(.aload_n 0, 0, 0), (.getfield 19, 0, 0)] (pc' := 15) (lo' := [some (.ref 0)]) (st' := [.ref 10]) (σ' := s2) (by decide +kernel) rfl rfl ?_
    refine g_callV (rest := []) [] hx hc mk_country_inAllFits ln_9_298 rfl (by decide +kernel) (by decide) (Nat.le_of_ble_eq_true rfl) (s_country_inAllFits (ok_b h)) (fun r3 s3 h => ?_)
    refine g_goto hx (off := 4) (tgt := 22) (by decide +kernel) (by decide) ?_
    exact g_iret hx hr rfl _ rfl (by decide +kernel) (ok_some h)
def f_tours_compare (N : Nat) (v2 : Int64) (v4 : Int32) (σ : Sg) : Option (Unit × Sg) :=
  (f_country_lostFolk N v2 σ).bind fun q1 =>
  (f_jl_bitCount N v2 q1.2).bind fun q2 =>
  if (gI q2.2 63 4) = 0 then
    some ((), sI (sI (sI (sI q2.2 63 4 1) 63 0 q1.1) 63 1 q2.1) 63 2 v4)
  else
    if q1.1 < (gI q2.2 63 0) then
      some ((), sI (sI (sI (sI q2.2 63 4 1) 63 0 q1.1) 63 1 q2.1) 63 2 v4)
    else
      if q1.1 = (gI q2.2 63 0) then
        if (gI q2.2 63 1) ≤ q2.1 then
          some ((), q2.2)
        else
          some ((), sI (sI (sI (sI q2.2 63 4 1) 63 0 q1.1) 63 1 q2.1) 63 2 v4)
      else
        some ((), q2.2)
set_option maxRecDepth 100000 in
theorem s_tours_compare {y : EX} {N : Nat} {v2 : Int64} {v4 : Int32} {σ : Sg} {P : Unit × Sg → Prop} (h : ok (f_tours_compare N v2 v4 σ) P) : Ev y M_tours_compare 3 [.ref 63, .ref 10, .long v2, .int v4] σ rvN P := by
  refine Ev.of mk_tours_compare (Nat.le_of_ble_eq_true rfl) (fun x hx hc hr => ?_)
  have hx : Cx 8 prog_10_method_4_code x := hx
  have hc : Cc y 7 3 x := hc
  show G x 0 [some (.ref 63), some (.ref 10), some (.long v2), none, some (.int v4), none, none] [] σ
  unfold f_tours_compare at h
  refine g_run hx [(.aload_n 1, 0, 0), (.lload_n 2, 0, 0)] (pc' := 2) (lo' := [some (.ref 63), some (.ref 10), some (.long v2), none, some (.int v4), none, none]) (st' := [.long v2, .ref 10]) (σ' := σ) (by decide +kernel) rfl rfl ?_
  refine g_callV (rest := []) [.long v2] hx hc mk_country_lostFolk ln_8_62 rfl (by decide +kernel) (by decide) (Nat.le_of_ble_eq_true rfl) (s_country_lostFolk (ok_b h)) (fun r1 s1 h => ?_)
  refine g_run hx [(.istore 5, 0, 0), (.lload_n 2, 0, 0)] (pc' := 8) (lo' := [some (.ref 63), some (.ref 10), some (.long v2), none, some (.int v4), some (.int r1), none]) (st' := [.long v2]) (σ' := s1) (by decide +kernel) rfl rfl ?_
  refine g_callS (rest := []) [.long v2] hx hc mk_jl_bitCount ln_8_66 (by decide +kernel) (by decide) (Nat.le_of_ble_eq_true rfl) (s_jl_bitCount (ok_b h)) (fun r2 s2 h => ?_)
  refine g_run hx [(.istore 6, 0, 0), (.aload_n 0, 0, 0), (.getfield 24, 0, 0)] (pc' := 17) (lo' := [some (.ref 63), some (.ref 10), some (.long v2), none, some (.int v4), some (.int r1), some (.int r2)]) (st' := [.int (gI s2 63 4)]) (σ' := s2) (by decide +kernel) rfl rfl ?_
  refine g_if_eq hx (off := 30) (tgt := 47) (by decide +kernel) (by decide) (fun c17 => ?_) (fun c17 => ?_)
  · have h := ok_t h c17
    refine g_run hx [(.aload_n 0, 0, 0), (.iconst 1, 1, 0), (.putfield 24, 0, 0), (.aload_n 0, 0, 0), (.iload 5, 0, 0), (.putfield 9, 0, 0), (.aload_n 0, 0, 0), (.iload 6, 0, 0), (.putfield 15, 0, 0), (.aload_n 0, 0, 0), (.iload 4, 0, 0), (.putfield 18, 0, 0)] (pc' := 70) (lo' := [some (.ref 63), some (.ref 10), some (.long v2), none, some (.int v4), some (.int r1), some (.int r2)]) (st' := []) (σ' := sI (sI (sI (sI s2 63 4 1) 63 0 r1) 63 1 r2) 63 2 v4) (by decide +kernel) rfl rfl ?_
    exact g_vret hx hr rfl () rfl (by decide +kernel) (ok_some h)
  · have h := ok_f h c17
    refine g_run hx [(.iload 5, 0, 0), (.aload_n 0, 0, 0), (.getfield 9, 0, 0)] (pc' := 26) (lo' := [some (.ref 63), some (.ref 10), some (.long v2), none, some (.int v4), some (.int r1), some (.int r2)]) (st' := [.int (gI s2 63 0), .int r1]) (σ' := s2) (by decide +kernel) rfl rfl ?_
    refine g_ic_lt hx (off := 21) (tgt := 47) (by decide +kernel) (by decide) (fun c26 => ?_) (fun c26 => ?_)
    · have h := ok_t h c26
      refine g_run hx [(.aload_n 0, 0, 0), (.iconst 1, 1, 0), (.putfield 24, 0, 0), (.aload_n 0, 0, 0), (.iload 5, 0, 0), (.putfield 9, 0, 0), (.aload_n 0, 0, 0), (.iload 6, 0, 0), (.putfield 15, 0, 0), (.aload_n 0, 0, 0), (.iload 4, 0, 0), (.putfield 18, 0, 0)] (pc' := 70) (lo' := [some (.ref 63), some (.ref 10), some (.long v2), none, some (.int v4), some (.int r1), some (.int r2)]) (st' := []) (σ' := sI (sI (sI (sI s2 63 4 1) 63 0 r1) 63 1 r2) 63 2 v4) (by decide +kernel) rfl rfl ?_
      exact g_vret hx hr rfl () rfl (by decide +kernel) (ok_some h)
    · have h := ok_f h c26
      refine g_run hx [(.iload 5, 0, 0), (.aload_n 0, 0, 0), (.getfield 9, 0, 0)] (pc' := 35) (lo' := [some (.ref 63), some (.ref 10), some (.long v2), none, some (.int v4), some (.int r1), some (.int r2)]) (st' := [.int (gI s2 63 0), .int r1]) (σ' := s2) (by decide +kernel) rfl rfl ?_
      refine g_ic_ne hx (off := 35) (tgt := 70) (by decide +kernel) (by decide) (fun c35 => ?_) (fun c35 => ?_)
      · have h := ok_f h c35
        exact g_vret hx hr rfl () rfl (by decide +kernel) (ok_some h)
      · have h := ok_t h c35
        refine g_run hx [(.iload 6, 0, 0), (.aload_n 0, 0, 0), (.getfield 15, 0, 0)] (pc' := 44) (lo' := [some (.ref 63), some (.ref 10), some (.long v2), none, some (.int v4), some (.int r1), some (.int r2)]) (st' := [.int (gI s2 63 1), .int r2]) (σ' := s2) (by decide +kernel) rfl rfl ?_
        refine g_ic_ge hx (off := 26) (tgt := 70) (by decide +kernel) (by decide) (fun c44 => ?_) (fun c44 => ?_)
        · have h := ok_t h c44
          exact g_vret hx hr rfl () rfl (by decide +kernel) (ok_some h)
        · have h := ok_f h c44
          refine g_run hx [(.aload_n 0, 0, 0), (.iconst 1, 1, 0), (.putfield 24, 0, 0), (.aload_n 0, 0, 0), (.iload 5, 0, 0), (.putfield 9, 0, 0), (.aload_n 0, 0, 0), (.iload 6, 0, 0), (.putfield 15, 0, 0), (.aload_n 0, 0, 0), (.iload 4, 0, 0), (.putfield 18, 0, 0)] (pc' := 70) (lo' := [some (.ref 63), some (.ref 10), some (.long v2), none, some (.int v4), some (.int r1), some (.int r2)]) (st' := []) (σ' := sI (sI (sI (sI s2 63 4 1) 63 0 r1) 63 1 r2) 63 2 v4) (by decide +kernel) rfl rfl ?_
          exact g_vret hx hr rfl () rfl (by decide +kernel) (ok_some h)
set_option maxRecDepth 100000 in
theorem s_state_goneCells_64 {y : EX} {N : Nat} {σ : Sg} {P : Int64 × Sg → Prop} (h : ok (f_state_goneCells N 64 σ) P) : Ev y M_state_goneCells 0 [.ref 64] σ rvL P := by
  refine Ev.of mk_state_goneCells (Nat.le_of_ble_eq_true rfl) (fun x hx hc hr => ?_)
  have hx : Cx 7 prog_9_method_4_code x := hx
  have hc : Cc y 1 0 x := hc
  show G x 0 [some (.ref 64)] [] σ
  unfold f_state_goneCells at h
  refine g_run hx [(.aload_n 0, 0, 0), (.getfield 9, 0, 0), (.aload_n 0, 0, 0), (.getfield 15, 0, 0), (.lor, 0, 0)] (pc' := 9) (lo' := [some (.ref 64)]) (st' := [.long ((gL σ 64 0) ||| (gL σ 64 1))]) (σ' := σ) (by decide +kernel) rfl rfl ?_
  exact g_lret hx hr rfl _ rfl (by decide +kernel) (ok_some h)
set_option maxRecDepth 100000 in
theorem s_state_lessen_64 {y : EX} {N : Nat} {v1 : Int64} {σ : Sg} {P : Unit × Sg → Prop} (h : ok (f_state_lessen N 64 v1 σ) P) : Ev y M_state_lessen 0 [.ref 64, .long v1] σ rvN P := by
  refine Ev.of mk_state_lessen (Nat.le_of_ble_eq_true rfl) (fun x hx hc hr => ?_)
  have hx : Cx 7 prog_9_method_12_code x := hx
  have hc : Cc y 5 0 x := hc
  show G x 0 [some (.ref 64), some (.long v1), none, none, none] [] σ
  unfold f_state_lessen at h
  refine g_run hx [(.lload_n 1, 0, 0), (.aload_n 0, 0, 0), (.getfield 9, 0, 0), (.ldc2_w 68, 0, (-1)), (.lxor, 0, 0), (.land, 0, 0), (.lstore_n 3, 0, 0), (.aload_n 0, 0, 0), (.dup, 0, 0), (.getfield 9, 0, 0), (.lload_n 1, 0, 0), (.lxor, 0, 0), (.putfield 9, 0, 0), (.aload_n 0, 0, 0), (.dup, 0, 0), (.getfield 15, 0, 0), (.lload_n 3, 0, 0), (.lxor, 0, 0), (.putfield 15, 0, 0)] (pc' := 31) (lo' := [some (.ref 64), some (.long v1), none, some (.long (v1 &&& ((gL σ 64 0) ^^^ (-1)))), none]) (st' := []) (σ' := sL (sL σ 64 0 ((gL σ 64 0) ^^^ v1)) 64 1 ((gL (sL σ 64 0 ((gL σ 64 0) ^^^ v1)) 64 1) ^^^ (v1 &&& ((gL σ 64 0) ^^^ (-1))))) (by decide +kernel) rfl rfl ?_
  exact g_vret hx hr rfl () rfl (by decide +kernel) (ok_some h)
set_option maxRecDepth 100000 in
theorem s_state_stepTo_64 {y : EX} {N : Nat} {v1 : Int32} {σ : Sg} {P : Unit × Sg → Prop} (h : ok (f_state_stepTo N 64 v1 σ) P) : Ev y M_state_stepTo 2 [.ref 64, .int v1] σ rvN P := by
  refine Ev.of mk_state_stepTo (Nat.le_of_ble_eq_true rfl) (fun x hx hc hr => ?_)
  have hx : Cx 7 prog_9_method_8_code x := hx
  have hc : Cc y 2 2 x := hc
  show G x 0 [some (.ref 64), some (.int v1)] [] σ
  unfold f_state_stepTo at h
  refine g_run hx [(.aload_n 0, 0, 0), (.iload_n 1, 0, 0), (.putfield 22, 0, 0), (.aload_n 0, 0, 0), (.aload_n 0, 0, 0)] (pc' := 7) (lo' := [some (.ref 64), some (.int v1)]) (st' := [.ref 64, .ref 64]) (σ' := sI σ 64 3 v1) (by decide +kernel) rfl rfl ?_
  refine g_callV (rest := [.ref 64]) [] hx hc mk_state_goneCells ln_7_56 rfl (by decide +kernel) (by decide) (Nat.le_of_ble_eq_true rfl) (s_state_goneCells_64 (ok_b h)) (fun r1 s1 h => ?_)
  refine g_run hx [(.iload_n 1, 0, 0), (.iload_n 1, 0, 0)] (pc' := 12) (lo' := [some (.ref 64), some (.int v1)]) (st' := [.int v1, .int v1, .long r1, .ref 64]) (σ' := s1) (by decide +kernel) rfl rfl ?_
  refine g_callN (rest := [.long r1, .ref 64]) [.int v1, .int v1] hx hc mk_x_span ln_7_70 (by decide +kernel) (by decide) (Nat.le_of_ble_eq_true rfl) (s_x_span (ok_b h)) (fun r2 s2 h => ?_)
  refine g_run hx [(.land, 0, 0)] (pc' := 16) (lo' := [some (.ref 64), some (.int v1)]) (st' := [.long (r1 &&& r2), .ref 64]) (σ' := s2) (by decide +kernel) rfl rfl ?_
  refine g_callV (rest := []) [.long (r1 &&& r2)] hx hc mk_state_lessen ln_7_73 rfl (by decide +kernel) (by decide) (Nat.le_of_ble_eq_true rfl) (s_state_lessen_64 (ok_b h)) (fun r3 s3 h => ?_)
  exact g_vret hx hr rfl () rfl (by decide +kernel) (ok_some h)
def f_tours_walkOn_L29 (N : Nat) (rec : Int32 → Int64 → Int64 → Int32 → Int32 → Sg → Option (Unit × Sg)) : Nat → Int32 → Int64 → Int64 → Int32 → Int32 → Int32 → Sg → Option (Unit × Sg)
  | 0, _, _, _, _, _, _, _ => none
  | n + 1, v2, v3, v5, v7, v8, v9, σ =>
    if 1 < v9 then
      some ((), σ)
    else
      if v9 = 0 then
        if (v7 + 1) < 0 then
          f_tours_walkOn_L29 N rec n v2 v3 v5 v7 v8 (v9 + 1) σ
        else
          if (gI σ 10 0) ≤ (v7 + 1) then
            f_tours_walkOn_L29 N rec n v2 v3 v5 v7 v8 (v9 + 1) σ
          else
            (f_state_stepTo N 64 (v7 + 1) (sL (sL σ 64 0 v3) 64 1 v5)).bind fun q4 =>
            (rec (v2 + 1) (gL q4.2 64 0) (gL q4.2 64 1) (v7 + 1) (v8 ||| (v9 <<< (v2 &&& 31))) q4.2).bind fun q5 =>
            f_tours_walkOn_L29 N rec n v2 v3 v5 v7 v8 (v9 + 1) q5.2
      else
        if (v7 - 1) < 0 then
          f_tours_walkOn_L29 N rec n v2 v3 v5 v7 v8 (v9 + 1) σ
        else
          if (gI σ 10 0) ≤ (v7 - 1) then
            f_tours_walkOn_L29 N rec n v2 v3 v5 v7 v8 (v9 + 1) σ
          else
            (f_state_stepTo N 64 (v7 - 1) (sL (sL σ 64 0 v3) 64 1 v5)).bind fun q2 =>
            (rec (v2 + 1) (gL q2.2 64 0) (gL q2.2 64 1) (v7 - 1) (v8 ||| (v9 <<< (v2 &&& 31))) q2.2).bind fun q3 =>
            f_tours_walkOn_L29 N rec n v2 v3 v5 v7 v8 (v9 + 1) q3.2
def f_tours_walkOn_B (N : Nat) (rec : Int32 → Int64 → Int64 → Int32 → Int32 → Sg → Option (Unit × Sg)) (v2 : Int32) (v3 : Int64) (v5 : Int64) (v7 : Int32) (v8 : Int32) (σ : Sg) : Option (Unit × Sg) :=
  if (gI σ 63 3) ≤ v2 then
    (f_tours_compare N (v3 ||| v5) v8 σ).bind fun q1 =>
    some ((), q1.2)
  else
    if v2 < 10 then
      f_tours_walkOn_L29 N rec N v2 v3 v5 v7 v8 0 σ
    else
      (f_tours_compare N (v3 ||| v5) v8 σ).bind fun q6 =>
      some ((), q6.2)
def f_tours_walkOn (N : Nat) : Nat → Int32 → Int64 → Int64 → Int32 → Int32 → Sg → Option (Unit × Sg)
  | 0, _, _, _, _, _, _ => none
  | D + 1, v2, v3, v5, v7, v8, σ => f_tours_walkOn_B N (f_tours_walkOn N D) v2 v3 v5 v7 v8 σ
set_option maxRecDepth 100000 in
theorem s_tours_walkOn_L29 {y : EX} {N D : Nat} {x : CX} {P : Unit × Sg → Prop} (hx : Cx 8 prog_10_method_3_code x) (hc : Cc y 11 (D + 1 + 4) x) (hr : Cr M_tours_walkOn rvN P x) {rec : Int32 → Int64 → Int64 → Int32 → Int32 → Sg → Option (Unit × Sg)} (hrec : ∀ (v2 : Int32) (v3 : Int64) (v5 : Int64) (v7 : Int32) (v8 : Int32) (σ : Sg) (P : Unit × Sg → Prop), ok (rec v2 v3 v5 v7 v8 σ) P → Ev y M_tours_walkOn (D + 4) [.ref 63, .ref 10, .int v2, .long v3, .long v5, .int v7, .int v8] σ rvN P) : ∀ (n : Nat) (v2 : Int32) (v3 : Int64) (v5 : Int64) (v7 : Int32) (v8 : Int32) (v9 : Int32) (σ : Sg), ok (f_tours_walkOn_L29 N rec n v2 v3 v5 v7 v8 v9 σ) P → G x 29 [some (.ref 63), some (.ref 10), some (.int v2), some (.long v3), none, some (.long v5), none, some (.int v7), some (.int v8), some (.int v9), none] [] σ := by
  intro n
  induction n with
  | zero => intro v2 v3 v5 v7 v8 v9 σ h; exact ok_none h
  | succ n ih =>
    intro v2 v3 v5 v7 v8 v9 σ h
    rw [f_tours_walkOn_L29] at h
    refine g_run hx [(.iload 9, 0, 0), (.iconst 1, 1, 0)] (pc' := 32) (lo' := [some (.ref 63), some (.ref 10), some (.int v2), some (.long v3), none, some (.long v5), none, some (.int v7), some (.int v8), some (.int v9), none]) (st' := [.int 1, .int v9]) (σ' := σ) (by decide +kernel) rfl rfl ?_
    refine g_ic_gt hx (off := 98) (tgt := 130) (by decide +kernel) (by decide) (fun c32 => ?_) (fun c32 => ?_)
    · have h := ok_t h c32
      exact g_vret hx hr rfl () rfl (by decide +kernel) (ok_some h)
    · have h := ok_f h c32
      refine g_run hx [(.iload 9, 0, 0)] (pc' := 37) (lo' := [some (.ref 63), some (.ref 10), some (.int v2), some (.long v3), none, some (.long v5), none, some (.int v7), some (.int v8), some (.int v9), none]) (st' := [.int v9]) (σ' := σ) (by decide +kernel) rfl rfl ?_
      refine g_if_ne hx (off := 10) (tgt := 47) (by decide +kernel) (by decide) (fun c37 => ?_) (fun c37 => ?_)
      · have h := ok_f h c37
        refine g_run hx [(.iload 7, 0, 0), (.iconst 1, 1, 0), (.isub, 0, 0), (.istore 10, 0, 0), (.iload 10, 0, 0)] (pc' := 55) (lo' := [some (.ref 63), some (.ref 10), some (.int v2), some (.long v3), none, some (.long v5), none, some (.int v7), some (.int v8), some (.int v9), some (.int (v7 - 1))]) (st' := [.int (v7 - 1)]) (σ' := σ) (by decide +kernel) rfl rfl ?_
        refine g_if_lt hx (off := 69) (tgt := 124) (by decide +kernel) (by decide) (fun c55 => ?_) (fun c55 => ?_)
        · have h := ok_t h c55
          refine g_run hx [(.iinc 9 1, 1, 0)] (pc' := 127) (lo' := [some (.ref 63), some (.ref 10), some (.int v2), some (.long v3), none, some (.long v5), none, some (.int v7), some (.int v8), some (.int (v9 + 1)), some (.int (v7 - 1))]) (st' := []) (σ' := σ) (by decide +kernel) rfl rfl ?_
          refine g_goto hx (off := (-98)) (tgt := 29) (by decide +kernel) (by decide) ?_
          refine g_wk (lo' := [some (.ref 63), some (.ref 10), some (.int v2), some (.long v3), none, some (.long v5), none, some (.int v7), some (.int v8), some (.int (v9 + 1)), none]) ⟨rfl, ⟨rfl, ⟨rfl, ⟨rfl, ⟨rfl, ⟨rfl, ⟨rfl, ⟨rfl, trivial⟩⟩⟩⟩⟩⟩⟩⟩ ?_
          exact ih _ _ _ _ _ _ _ h
        · have h := ok_f h c55
          refine g_run hx [(.iload 10, 0, 0), (.aload_n 1, 0, 0), (.getfield 53, 0, 0)] (pc' := 64) (lo' := [some (.ref 63), some (.ref 10), some (.int v2), some (.long v3), none, some (.long v5), none, some (.int v7), some (.int v8), some (.int v9), some (.int (v7 - 1))]) (st' := [.int (gI σ 10 0), .int (v7 - 1)]) (σ' := σ) (by decide +kernel) rfl rfl ?_
          refine g_ic_ge hx (off := 60) (tgt := 124) (by decide +kernel) (by decide) (fun c64 => ?_) (fun c64 => ?_)
          · have h := ok_t h c64
            refine g_run hx [(.iinc 9 1, 1, 0)] (pc' := 127) (lo' := [some (.ref 63), some (.ref 10), some (.int v2), some (.long v3), none, some (.long v5), none, some (.int v7), some (.int v8), some (.int (v9 + 1)), some (.int (v7 - 1))]) (st' := []) (σ' := σ) (by decide +kernel) rfl rfl ?_
            refine g_goto hx (off := (-98)) (tgt := 29) (by decide +kernel) (by decide) ?_
            refine g_wk (lo' := [some (.ref 63), some (.ref 10), some (.int v2), some (.long v3), none, some (.long v5), none, some (.int v7), some (.int v8), some (.int (v9 + 1)), none]) ⟨rfl, ⟨rfl, ⟨rfl, ⟨rfl, ⟨rfl, ⟨rfl, ⟨rfl, ⟨rfl, trivial⟩⟩⟩⟩⟩⟩⟩⟩ ?_
            exact ih _ _ _ _ _ _ _ h
          · have h := ok_f h c64
            refine g_run hx [(.aload_n 0, 0, 0), (.getfield 31, 0, 0), (.lload_n 3, 0, 0), (.putfield 35, 0, 0), (.aload_n 0, 0, 0), (.getfield 31, 0, 0), (.lload 5, 0, 0), (.putfield 39, 0, 0), (.aload_n 0, 0, 0), (.getfield 31, 0, 0), (.iload 10, 0, 0)] (pc' := 90) (lo' := [some (.ref 63), some (.ref 10), some (.int v2), some (.long v3), none, some (.long v5), none, some (.int v7), some (.int v8), some (.int v9), some (.int (v7 - 1))]) (st' := [.int (v7 - 1), .ref 64]) (σ' := sL (sL σ 64 0 v3) 64 1 v5) (by decide +kernel) rfl rfl ?_
            refine g_callV (rest := []) [.int (v7 - 1)] hx hc mk_state_stepTo ln_8_58 rfl (by decide +kernel) (by omega) (Nat.le_of_ble_eq_true rfl) (s_state_stepTo_64 (ok_b h)) (fun r2 s2 h => ?_)
            refine g_run hx [(.aload_n 0, 0, 0), (.aload_n 1, 0, 0), (.iload_n 2, 0, 0), (.iconst 1, 1, 0), (.iadd, 0, 0), (.aload_n 0, 0, 0), (.getfield 31, 0, 0), (.getfield 35, 0, 0), (.aload_n 0, 0, 0), (.getfield 31, 0, 0), (.getfield 39, 0, 0), (.iload 10, 0, 0), (.iload 8, 0, 0), (.iload 9, 0, 0), (.iload_n 2, 0, 0), (.ishl, 0, 0), (.ior, 0, 0)] (pc' := 121) (lo' := [some (.ref 63), some (.ref 10), some (.int v2), some (.long v3), none, some (.long v5), none, some (.int v7), some (.int v8), some (.int v9), some (.int (v7 - 1))]) (st' := [.int (v8 ||| (v9 <<< (v2 &&& 31))), .int (v7 - 1), .long (gL s2 64 1), .long (gL s2 64 0), .int (v2 + 1), .ref 10, .ref 63]) (σ' := s2) (by decide +kernel) rfl rfl ?_
            refine g_callV (rest := []) [.ref 10, .int (v2 + 1), .long (gL s2 64 0), .long (gL s2 64 1), .int (v7 - 1), .int (v8 ||| (v9 <<< (v2 &&& 31)))] hx hc mk_tours_walkOn ln_8_45 rfl (by decide +kernel) (by omega) (Nat.le_of_ble_eq_true rfl) (hrec _ _ _ _ _ _ _ (ok_b h)) (fun r3 s3 h => ?_)
            refine g_run hx [(.iinc 9 1, 1, 0)] (pc' := 127) (lo' := [some (.ref 63), some (.ref 10), some (.int v2), some (.long v3), none, some (.long v5), none, some (.int v7), some (.int v8), some (.int (v9 + 1)), some (.int (v7 - 1))]) (st' := []) (σ' := s3) (by decide +kernel) rfl rfl ?_
            refine g_goto hx (off := (-98)) (tgt := 29) (by decide +kernel) (by decide) ?_
            refine g_wk (lo' := [some (.ref 63), some (.ref 10), some (.int v2), some (.long v3), none, some (.long v5), none, some (.int v7), some (.int v8), some (.int (v9 + 1)), none]) ⟨rfl, ⟨rfl, ⟨rfl, ⟨rfl, ⟨rfl, ⟨rfl, ⟨rfl, ⟨rfl, trivial⟩⟩⟩⟩⟩⟩⟩⟩ ?_
            exact ih _ _ _ _ _ _ _ h
      · have h := ok_t h c37
        refine g_run hx [(.iload 7, 0, 0), (.iconst 1, 1, 0), (.iadd, 0, 0)] (pc' := 44) (lo' := [some (.ref 63), some (.ref 10), some (.int v2), some (.long v3), none, some (.long v5), none, some (.int v7), some (.int v8), some (.int v9), none]) (st' := [.int (v7 + 1)]) (σ' := σ) (by decide +kernel) rfl rfl ?_
        refine g_goto hx (off := 7) (tgt := 51) (by decide +kernel) (by decide) ?_
        refine g_run hx [(.istore 10, 0, 0), (.iload 10, 0, 0)] (pc' := 55) (lo' := [some (.ref 63), some (.ref 10), some (.int v2), some (.long v3), none, some (.long v5), none, some (.int v7), some (.int v8), some (.int v9), some (.int (v7 + 1))]) (st' := [.int (v7 + 1)]) (σ' := σ) (by decide +kernel) rfl rfl ?_
        refine g_if_lt hx (off := 69) (tgt := 124) (by decide +kernel) (by decide) (fun c55 => ?_) (fun c55 => ?_)
        · have h := ok_t h c55
          refine g_run hx [(.iinc 9 1, 1, 0)] (pc' := 127) (lo' := [some (.ref 63), some (.ref 10), some (.int v2), some (.long v3), none, some (.long v5), none, some (.int v7), some (.int v8), some (.int (v9 + 1)), some (.int (v7 + 1))]) (st' := []) (σ' := σ) (by decide +kernel) rfl rfl ?_
          refine g_goto hx (off := (-98)) (tgt := 29) (by decide +kernel) (by decide) ?_
          refine g_wk (lo' := [some (.ref 63), some (.ref 10), some (.int v2), some (.long v3), none, some (.long v5), none, some (.int v7), some (.int v8), some (.int (v9 + 1)), none]) ⟨rfl, ⟨rfl, ⟨rfl, ⟨rfl, ⟨rfl, ⟨rfl, ⟨rfl, ⟨rfl, trivial⟩⟩⟩⟩⟩⟩⟩⟩ ?_
          exact ih _ _ _ _ _ _ _ h
        · have h := ok_f h c55
          refine g_run hx [(.iload 10, 0, 0), (.aload_n 1, 0, 0), (.getfield 53, 0, 0)] (pc' := 64) (lo' := [some (.ref 63), some (.ref 10), some (.int v2), some (.long v3), none, some (.long v5), none, some (.int v7), some (.int v8), some (.int v9), some (.int (v7 + 1))]) (st' := [.int (gI σ 10 0), .int (v7 + 1)]) (σ' := σ) (by decide +kernel) rfl rfl ?_
          refine g_ic_ge hx (off := 60) (tgt := 124) (by decide +kernel) (by decide) (fun c64 => ?_) (fun c64 => ?_)
          · have h := ok_t h c64
            refine g_run hx [(.iinc 9 1, 1, 0)] (pc' := 127) (lo' := [some (.ref 63), some (.ref 10), some (.int v2), some (.long v3), none, some (.long v5), none, some (.int v7), some (.int v8), some (.int (v9 + 1)), some (.int (v7 + 1))]) (st' := []) (σ' := σ) (by decide +kernel) rfl rfl ?_
            refine g_goto hx (off := (-98)) (tgt := 29) (by decide +kernel) (by decide) ?_
            refine g_wk (lo' := [some (.ref 63), some (.ref 10), some (.int v2), some (.long v3), none, some (.long v5), none, some (.int v7), some (.int v8), some (.int (v9 + 1)), none]) ⟨rfl, ⟨rfl, ⟨rfl, ⟨rfl, ⟨rfl, ⟨rfl, ⟨rfl, ⟨rfl, trivial⟩⟩⟩⟩⟩⟩⟩⟩ ?_
            exact ih _ _ _ _ _ _ _ h
          · have h := ok_f h c64
            refine g_run hx [(.aload_n 0, 0, 0), (.getfield 31, 0, 0), (.lload_n 3, 0, 0), (.putfield 35, 0, 0), (.aload_n 0, 0, 0), (.getfield 31, 0, 0), (.lload 5, 0, 0), (.putfield 39, 0, 0), (.aload_n 0, 0, 0), (.getfield 31, 0, 0), (.iload 10, 0, 0)] (pc' := 90) (lo' := [some (.ref 63), some (.ref 10), some (.int v2), some (.long v3), none, some (.long v5), none, some (.int v7), some (.int v8), some (.int v9), some (.int (v7 + 1))]) (st' := [.int (v7 + 1), .ref 64]) (σ' := sL (sL σ 64 0 v3) 64 1 v5) (by decide +kernel) rfl rfl ?_
            refine g_callV (rest := []) [.int (v7 + 1)] hx hc mk_state_stepTo ln_8_58 rfl (by decide +kernel) (by omega) (Nat.le_of_ble_eq_true rfl) (s_state_stepTo_64 (ok_b h)) (fun r4 s4 h => ?_)
            refine g_run hx [(.aload_n 0, 0, 0), (.aload_n 1, 0, 0), (.iload_n 2, 0, 0), (.iconst 1, 1, 0), (.iadd, 0, 0), (.aload_n 0, 0, 0), (.getfield 31, 0, 0), (.getfield 35, 0, 0), (.aload_n 0, 0, 0), (.getfield 31, 0, 0), (.getfield 39, 0, 0), (.iload 10, 0, 0), (.iload 8, 0, 0), (.iload 9, 0, 0), (.iload_n 2, 0, 0), (.ishl, 0, 0), (.ior, 0, 0)] (pc' := 121) (lo' := [some (.ref 63), some (.ref 10), some (.int v2), some (.long v3), none, some (.long v5), none, some (.int v7), some (.int v8), some (.int v9), some (.int (v7 + 1))]) (st' := [.int (v8 ||| (v9 <<< (v2 &&& 31))), .int (v7 + 1), .long (gL s4 64 1), .long (gL s4 64 0), .int (v2 + 1), .ref 10, .ref 63]) (σ' := s4) (by decide +kernel) rfl rfl ?_
            refine g_callV (rest := []) [.ref 10, .int (v2 + 1), .long (gL s4 64 0), .long (gL s4 64 1), .int (v7 + 1), .int (v8 ||| (v9 <<< (v2 &&& 31)))] hx hc mk_tours_walkOn ln_8_45 rfl (by decide +kernel) (by omega) (Nat.le_of_ble_eq_true rfl) (hrec _ _ _ _ _ _ _ (ok_b h)) (fun r5 s5 h => ?_)
            refine g_run hx [(.iinc 9 1, 1, 0)] (pc' := 127) (lo' := [some (.ref 63), some (.ref 10), some (.int v2), some (.long v3), none, some (.long v5), none, some (.int v7), some (.int v8), some (.int (v9 + 1)), some (.int (v7 + 1))]) (st' := []) (σ' := s5) (by decide +kernel) rfl rfl ?_
            refine g_goto hx (off := (-98)) (tgt := 29) (by decide +kernel) (by decide) ?_
            refine g_wk (lo' := [some (.ref 63), some (.ref 10), some (.int v2), some (.long v3), none, some (.long v5), none, some (.int v7), some (.int v8), some (.int (v9 + 1)), none]) ⟨rfl, ⟨rfl, ⟨rfl, ⟨rfl, ⟨rfl, ⟨rfl, ⟨rfl, ⟨rfl, trivial⟩⟩⟩⟩⟩⟩⟩⟩ ?_
            exact ih _ _ _ _ _ _ _ h
set_option maxRecDepth 100000 in
theorem s_tours_walkOn_B {y : EX} {N D : Nat} {v2 : Int32} {v3 : Int64} {v5 : Int64} {v7 : Int32} {v8 : Int32} {rec : Int32 → Int64 → Int64 → Int32 → Int32 → Sg → Option (Unit × Sg)} (hrec : ∀ (v2 : Int32) (v3 : Int64) (v5 : Int64) (v7 : Int32) (v8 : Int32) (σ : Sg) (P : Unit × Sg → Prop), ok (rec v2 v3 v5 v7 v8 σ) P → Ev y M_tours_walkOn (D + 4) [.ref 63, .ref 10, .int v2, .long v3, .long v5, .int v7, .int v8] σ rvN P) {σ : Sg} {P : Unit × Sg → Prop} (h : ok (f_tours_walkOn_B N rec v2 v3 v5 v7 v8 σ) P) : Ev y M_tours_walkOn (D + 1 + 4) [.ref 63, .ref 10, .int v2, .long v3, .long v5, .int v7, .int v8] σ rvN P := by
  refine Ev.of mk_tours_walkOn (Nat.le_of_ble_eq_true rfl) (fun x hx hc hr => ?_)
  have hx : Cx 8 prog_10_method_3_code x := hx
  have hc : Cc y 11 (D + 1 + 4) x := hc
  show G x 0 [some (.ref 63), some (.ref 10), some (.int v2), some (.long v3), none, some (.long v5), none, some (.int v7), some (.int v8), none, none] [] σ
  unfold f_tours_walkOn_B at h
  refine g_run hx [(.iload_n 2, 0, 0), (.aload_n 0, 0, 0), (.getfield 21, 0, 0)] (pc' := 5) (lo' := [some (.ref 63), some (.ref 10), some (.int v2), some (.long v3), none, some (.long v5), none, some (.int v7), some (.int v8), none, none]) (st' := [.int (gI σ 63 3), .int v2]) (σ' := σ) (by decide +kernel) rfl rfl ?_
  refine g_ic_ge hx (off := 9) (tgt := 14) (by decide +kernel) (by decide) (fun c5 => ?_) (fun c5 => ?_)
  · have h := ok_t h c5
    refine g_run hx [(.aload_n 0, 0, 0), (.aload_n 1, 0, 0), (.lload_n 3, 0, 0), (.lload 5, 0, 0), (.lor, 0, 0), (.iload 8, 0, 0)] (pc' := 22) (lo' := [some (.ref 63), some (.ref 10), some (.int v2), some (.long v3), none, some (.long v5), none, some (.int v7), some (.int v8), none, none]) (st' := [.int v8, .long (v3 ||| v5), .ref 10, .ref 63]) (σ' := σ) (by decide +kernel) rfl rfl ?_
    refine g_callV (rest := []) [.ref 10, .long (v3 ||| v5), .int v8] hx hc mk_tours_compare ln_8_49 rfl (by decide +kernel) (by omega) (Nat.le_of_ble_eq_true rfl) (s_tours_compare (ok_b h)) (fun r1 s1 h => ?_)
    exact g_vret hx hr rfl () rfl (by decide +kernel) (ok_some h)
  · have h := ok_f h c5
    refine g_run hx [(.iload_n 2, 0, 0), (.bipush 10, 10, 0)] (pc' := 11) (lo' := [some (.ref 63), some (.ref 10), some (.int v2), some (.long v3), none, some (.long v5), none, some (.int v7), some (.int v8), none, none]) (st' := [.int 10, .int v2]) (σ' := σ) (by decide +kernel) rfl rfl ?_
    refine g_ic_lt hx (off := 15) (tgt := 26) (by decide +kernel) (by decide) (fun c11 => ?_) (fun c11 => ?_)
    · have h := ok_t h c11
      refine g_run hx [(.iconst 0, 0, 0), (.istore 9, 0, 0)] (pc' := 29) (lo' := [some (.ref 63), some (.ref 10), some (.int v2), some (.long v3), none, some (.long v5), none, some (.int v7), some (.int v8), some (.int 0), none]) (st' := []) (σ' := σ) (by decide +kernel) rfl rfl ?_
      refine s_tours_walkOn_L29 hx hc hr hrec N _ _ _ _ _ _ _ h
    · have h := ok_f h c11
      refine g_run hx [(.aload_n 0, 0, 0), (.aload_n 1, 0, 0), (.lload_n 3, 0, 0), (.lload 5, 0, 0), (.lor, 0, 0), (.iload 8, 0, 0)] (pc' := 22) (lo' := [some (.ref 63), some (.ref 10), some (.int v2), some (.long v3), none, some (.long v5), none, some (.int v7), some (.int v8), none, none]) (st' := [.int v8, .long (v3 ||| v5), .ref 10, .ref 63]) (σ' := σ) (by decide +kernel) rfl rfl ?_
      refine g_callV (rest := []) [.ref 10, .long (v3 ||| v5), .int v8] hx hc mk_tours_compare ln_8_49 rfl (by decide +kernel) (by omega) (Nat.le_of_ble_eq_true rfl) (s_tours_compare (ok_b h)) (fun r6 s6 h => ?_)
      exact g_vret hx hr rfl () rfl (by decide +kernel) (ok_some h)
theorem s_tours_walkOn {y : EX} {N : Nat} : ∀ (D : Nat) (v2 : Int32) (v3 : Int64) (v5 : Int64) (v7 : Int32) (v8 : Int32) (σ : Sg) (P : Unit × Sg → Prop), ok (f_tours_walkOn N D v2 v3 v5 v7 v8 σ) P → Ev y M_tours_walkOn (D + 4) [.ref 63, .ref 10, .int v2, .long v3, .long v5, .int v7, .int v8] σ rvN P := by
  intro D
  induction D with
  | zero => intro v2 v3 v5 v7 v8 σ P h; exact ok_none h
  | succ D ih =>
    intro v2 v3 v5 v7 v8 σ P h
    exact s_tours_walkOn_B ih h
def f_tours_seek (N : Nat) (v3 : Int32) (σ : Sg) : Option (Unit × Sg) :=
  (f_tours_walkOn N 12 0 (gL (sI (sI σ 63 4 0) 63 3 v3) 40 0) (gL (sI (sI σ 63 4 0) 63 3 v3) 40 1) (gI (sI (sI σ 63 4 0) 63 3 v3) 40 3) 0 (sI (sI σ 63 4 0) 63 3 v3)).bind fun q1 =>
  some ((), q1.2)
set_option maxRecDepth 100000 in
theorem s_tours_seek {y : EX} {N : Nat} {v3 : Int32} {σ : Sg} {P : Unit × Sg → Prop} (h : ok (f_tours_seek N v3 σ) P) : Ev y M_tours_seek 17 [.ref 63, .ref 10, .ref 40, .int v3] σ rvN P := by
  refine Ev.of mk_tours_seek (Nat.le_of_ble_eq_true rfl) (fun x hx hc hr => ?_)
  have hx : Cx 8 prog_10_method_2_code x := hx
  have hc : Cc y 4 17 x := hc
  show G x 0 [some (.ref 63), some (.ref 10), some (.ref 40), some (.int v3)] [] σ
  unfold f_tours_seek at h
  refine g_run hx [(.aload_n 0, 0, 0), (.iconst 0, 0, 0), (.putfield 24, 0, 0), (.aload_n 0, 0, 0), (.iload_n 3, 0, 0), (.putfield 21, 0, 0), (.aload_n 0, 0, 0), (.aload_n 1, 0, 0), (.iconst 0, 0, 0), (.aload_n 2, 0, 0), (.getfield 35, 0, 0), (.aload_n 2, 0, 0), (.getfield 39, 0, 0), (.aload_n 2, 0, 0), (.getfield 42, 0, 0), (.iconst 0, 0, 0)] (pc' := 26) (lo' := [some (.ref 63), some (.ref 10), some (.ref 40), some (.int v3)]) (st' := [.int 0, .int (gI (sI (sI σ 63 4 0) 63 3 v3) 40 3), .long (gL (sI (sI σ 63 4 0) 63 3 v3) 40 1), .long (gL (sI (sI σ 63 4 0) 63 3 v3) 40 0), .int 0, .ref 10, .ref 63]) (σ' := sI (sI σ 63 4 0) 63 3 v3) (by decide +kernel) rfl rfl ?_
  refine g_callV (rest := []) [.ref 10, .int 0, .long (gL (sI (sI σ 63 4 0) 63 3 v3) 40 0), .long (gL (sI (sI σ 63 4 0) 63 3 v3) 40 1), .int (gI (sI (sI σ 63 4 0) 63 3 v3) 40 3), .int 0] hx hc mk_tours_walkOn ln_8_45 rfl (by decide +kernel) (by decide) (Nat.le_of_ble_eq_true rfl) (s_tours_walkOn 12 _ _ _ _ _ _ _ (ok_b h)) (fun r1 s1 h => ?_)
  exact g_vret hx hr rfl () rfl (by decide +kernel) (ok_some h)
def f_x_bestTour (N : Nat) (v1 : Int32) (σ : Sg) : Option (Unit × Sg) :=
  (f_tours_seek N v1 σ).bind fun q1 =>
  some ((), q1.2)
set_option maxRecDepth 100000 in
theorem s_x_bestTour {y : EX} {N : Nat} {v1 : Int32} {σ : Sg} {P : Unit × Sg → Prop} (h : ok (f_x_bestTour N v1 σ) P) : Ev y M_x_bestTour 18 [.ref 0, .int v1] σ (rvR 63) P := by
  refine Ev.of mk_x_bestTour (Nat.le_of_ble_eq_true rfl) (fun x hx hc hr => ?_)
  have hx : Cx 9 prog_1_method_76_code x := hx
  have hc : Cc y 2 18 x := hc
  show G x 0 [some (.ref 0), some (.int v1)] [] σ
  unfold f_x_bestTour at h
  refine g_run hx [(.aload_n 0, 0, 0), (.getfield 63, 0, 0), (.aload_n 0, 0, 0), (.getfield 19, 0, 0), (.aload_n 0, 0, 0), (.getfield 26, 0, 0), (.iload_n 1, 0, 0)] (pc' := 13) (lo' := [some (.ref 0), some (.int v1)]) (st' := [.int v1, .ref 40, .ref 10, .ref 63]) (σ' := σ) (by decide +kernel) rfl rfl ?_
  refine g_callV (rest := []) [.ref 10, .ref 40, .int v1] hx hc mk_tours_seek ln_9_398 rfl (by decide +kernel) (by decide) (Nat.le_of_ble_eq_true rfl) (s_tours_seek (ok_b h)) (fun r1 s1 h => ?_)
  refine g_run hx [(.aload_n 0, 0, 0), (.getfield 63, 0, 0)] (pc' := 20) (lo' := [some (.ref 0), some (.int v1)]) (st' := [.ref 63]) (σ' := s1) (by decide +kernel) rfl rfl ?_
  exact g_aret hx hr ⟨_, rfl⟩ () rfl (by decide +kernel) (ok_some h)
def f_x_tour (N : Nat) (v1 : Int32) (σ : Sg) : Option (Int32 × Sg) :=
  (f_x_numberTrouble N v1 10 σ).bind fun q1 =>
  (f_x_granted N q1.1 q1.2).bind fun q2 =>
  if q2.1 = true then
    (f_x_bestTour N v1 q2.2).bind fun q3 =>
    some ((gI q3.2 63 0), q3.2)
  else
    some ((-1), q2.2)
set_option maxRecDepth 100000 in
theorem s_x_tour {y : EX} {N : Nat} {v1 : Int32} {σ : Sg} {P : Int32 × Sg → Prop} (h : ok (f_x_tour N v1 σ) P) : Ev y M_x_tour 19 [.ref 0, .int v1] σ rvI P := by
  refine Ev.of mk_x_tour (Nat.le_of_ble_eq_true rfl) (fun x hx hc hr => ?_)
  have hx : Cx 9 prog_1_method_36_code x := hx
  have hc : Cc y 2 19 x := hc
  show G x 0 [some (.ref 0), some (.int v1)] [] σ
  unfold f_x_tour at h
  refine g_run hx [(.aload_n 0, 0, 0), (.aload_n 0, 0, 0), (.iload_n 1, 0, 0), (.bipush 10, 10, 0)] (pc' := 5) (lo' := [some (.ref 0), some (.int v1)]) (st' := [.int 10, .int v1, .ref 0, .ref 0]) (σ' := σ) (by decide +kernel) rfl rfl ?_
  refine g_callV (rest := [.ref 0]) [.int v1, .int 10] hx hc mk_x_numberTrouble ln_9_197 rfl (by decide +kernel) (by decide) (Nat.le_of_ble_eq_true rfl) (s_x_numberTrouble (ok_b h)) (fun r1 s1 h => ?_)
  refine g_callV (rest := []) [.int r1] hx hc mk_x_granted ln_9_83 rfl (by decide +kernel) (by decide) (Nat.le_of_ble_eq_true rfl) (s_x_granted (ok_b h)) (fun r2 s2 h => ?_)
  refine g_ifb_eq hx (off := 14) (tgt := 25) (by decide +kernel) (by decide) (fun c11 => ?_) (fun c11 => ?_)
  · have h := ok_f h c11
    refine g_run hx [(.iconst (-1), (-1), 0)] (pc' := 26) (lo' := [some (.ref 0), some (.int v1)]) (st' := [.int (-1)]) (σ' := s2) (by decide +kernel) rfl rfl ?_
    exact g_iret hx hr rfl _ rfl (by decide +kernel) (ok_some h)
  · have h := ok_t h c11
    refine g_run hx [(.aload_n 0, 0, 0), (.iload_n 1, 0, 0)] (pc' := 16) (lo' := [some (.ref 0), some (.int v1)]) (st' := [.int v1, .ref 0]) (σ' := s2) (by decide +kernel) rfl rfl ?_
    refine g_callV (rest := []) [.int v1] hx hc mk_x_bestTour ln_9_272 rfl (by decide +kernel) (by decide) (Nat.le_of_ble_eq_true rfl) (s_x_bestTour (ok_b h)) (fun r3 s3 h => ?_)
    refine g_run hx [(.getfield 276, 0, 0)] (pc' := 22) (lo' := [some (.ref 0), some (.int v1)]) (st' := [.int (gI s3 63 0)]) (σ' := s3) (by decide +kernel) rfl rfl ?_
    refine g_goto hx (off := 4) (tgt := 26) (by decide +kernel) (by decide) ?_
    exact g_iret hx hr rfl _ rfl (by decide +kernel) (ok_some h)
def f_tours_standsBehind_L5 (N : Nat) : Nat → Int32 → Int32 → Int32 → Sg → Option (Int32 × Sg)
  | 0, _, _, _, _ => none
  | n + 1, v2, v3, v4, σ =>
    if v2 ≤ v4 then
      some (v3, σ)
    else
      (f_x_bit N (Int32.toInt64 (gI σ 63 2)) v4 σ).bind fun q1 =>
      if q1.1 = true then
        f_tours_standsBehind_L5 N n v2 (v3 + (-1)) (v4 + 1) q1.2
      else
        f_tours_standsBehind_L5 N n v2 (v3 + 1) (v4 + 1) q1.2
def f_tours_standsBehind (N : Nat) (v1 : Int32) (v2 : Int32) (σ : Sg) : Option (Int32 × Sg) :=
  f_tours_standsBehind_L5 N N v2 v1 0 σ
set_option maxRecDepth 100000 in
theorem s_tours_standsBehind_L5 {y : EX} {N : Nat} {x : CX} {P : Int32 × Sg → Prop} (hx : Cx 8 prog_10_method_5_code x) (hc : Cc y 5 1 x) (hr : Cr M_tours_standsBehind rvI P x) : ∀ (n : Nat) (v2 : Int32) (v3 : Int32) (v4 : Int32) (σ : Sg), ok (f_tours_standsBehind_L5 N n v2 v3 v4 σ) P → G x 5 [some (.ref 63), none, some (.int v2), some (.int v3), some (.int v4)] [] σ := by
  intro n
  induction n with
  | zero => intro v2 v3 v4 σ h; exact ok_none h
  | succ n ih =>
    intro v2 v3 v4 σ h
    rw [f_tours_standsBehind_L5] at h
    refine g_run hx [(.iload 4, 0, 0), (.iload_n 2, 0, 0)] (pc' := 8) (lo' := [some (.ref 63), none, some (.int v2), some (.int v3), some (.int v4)]) (st' := [.int v2, .int v4]) (σ' := σ) (by decide +kernel) rfl rfl ?_
    refine g_ic_ge hx (off := 30) (tgt := 38) (by decide +kernel) (by decide) (fun c8 => ?_) (fun c8 => ?_)
    · have h := ok_t h c8
      refine g_run hx [(.iload_n 3, 0, 0)] (pc' := 39) (lo' := [some (.ref 63), none, some (.int v2), some (.int v3), some (.int v4)]) (st' := [.int v3]) (σ' := σ) (by decide +kernel) rfl rfl ?_
      exact g_iret hx hr rfl _ rfl (by decide +kernel) (ok_some h)
    · have h := ok_f h c8
      refine g_run hx [(.iload_n 3, 0, 0), (.aload_n 0, 0, 0), (.getfield 18, 0, 0), (.i2l, 0, 0), (.iload 4, 0, 0)] (pc' := 19) (lo' := [some (.ref 63), none, some (.int v2), some (.int v3), some (.int v4)]) (st' := [.int v4, .long (Int32.toInt64 (gI σ 63 2)), .int v3]) (σ' := σ) (by decide +kernel) rfl rfl ?_
      refine g_callN (rest := [.int v3]) [.long (Int32.toInt64 (gI σ 63 2)), .int v4] hx hc mk_x_bit ln_8_71 (by decide +kernel) (by decide) (Nat.le_of_ble_eq_true rfl) (s_x_bit (ok_b h)) (fun r1 s1 h => ?_)
      refine g_ifb_eq hx (off := 7) (tgt := 29) (by decide +kernel) (by decide) (fun c22 => ?_) (fun c22 => ?_)
      · have h := ok_f h c22
        refine g_run hx [(.iconst 1, 1, 0), (.iadd, 0, 0), (.istore_n 3, 0, 0), (.iinc 4 1, 1, 0)] (pc' := 35) (lo' := [some (.ref 63), none, some (.int v2), some (.int (v3 + 1)), some (.int (v4 + 1))]) (st' := []) (σ' := s1) (by decide +kernel) rfl rfl ?_
        refine g_goto hx (off := (-30)) (tgt := 5) (by decide +kernel) (by decide) ?_
        exact ih _ _ _ _ h
      · have h := ok_t h c22
        refine g_run hx [(.iconst (-1), (-1), 0)] (pc' := 26) (lo' := [some (.ref 63), none, some (.int v2), some (.int v3), some (.int v4)]) (st' := [.int (-1), .int v3]) (σ' := s1) (by decide +kernel) rfl rfl ?_
        refine g_goto hx (off := 4) (tgt := 30) (by decide +kernel) (by decide) ?_
        refine g_run hx [(.iadd, 0, 0), (.istore_n 3, 0, 0), (.iinc 4 1, 1, 0)] (pc' := 35) (lo' := [some (.ref 63), none, some (.int v2), some (.int (v3 + (-1))), some (.int (v4 + 1))]) (st' := []) (σ' := s1) (by decide +kernel) rfl rfl ?_
        refine g_goto hx (off := (-30)) (tgt := 5) (by decide +kernel) (by decide) ?_
        exact ih _ _ _ _ h
set_option maxRecDepth 100000 in
theorem s_tours_standsBehind {y : EX} {N : Nat} {v1 : Int32} {v2 : Int32} {σ : Sg} {P : Int32 × Sg → Prop} (h : ok (f_tours_standsBehind N v1 v2 σ) P) : Ev y M_tours_standsBehind 1 [.ref 63, .int v1, .int v2] σ rvI P := by
  refine Ev.of mk_tours_standsBehind (Nat.le_of_ble_eq_true rfl) (fun x hx hc hr => ?_)
  have hx : Cx 8 prog_10_method_5_code x := hx
  have hc : Cc y 5 1 x := hc
  show G x 0 [some (.ref 63), some (.int v1), some (.int v2), none, none] [] σ
  unfold f_tours_standsBehind at h
  refine g_run hx [(.iload_n 1, 0, 0), (.istore_n 3, 0, 0), (.iconst 0, 0, 0), (.istore 4, 0, 0)] (pc' := 5) (lo' := [some (.ref 63), some (.int v1), some (.int v2), some (.int v1), some (.int 0)]) (st' := []) (σ' := σ) (by decide +kernel) rfl rfl ?_
  refine g_wk (lo' := [some (.ref 63), none, some (.int v2), some (.int v1), some (.int 0)]) ⟨rfl, ⟨rfl, ⟨rfl, ⟨rfl, trivial⟩⟩⟩⟩ ?_
  refine s_tours_standsBehind_L5 hx hc hr N _ _ _ _ h
def f_x_tourAt (N : Nat) (v1 : Int32) (v2 : Int32) (σ : Sg) : Option (Int32 × Sg) :=
  (f_x_numberTrouble N v1 10 σ).bind fun q1 =>
  (f_x_granted N q1.1 q1.2).bind fun q2 =>
  if q2.1 = true then
    if v2 < 0 then
      (f_x_granted N 1 q2.2).bind fun q3 =>
      if q3.1 = true then
        (f_x_bestTour N v1 q3.2).bind fun q4 =>
        (f_tours_standsBehind N (gI q4.2 40 3) v2 q4.2).bind fun q5 =>
        some (q5.1, q5.2)
      else
        some ((-1), q3.2)
    else
      (f_x_granted N (b2i (decide (¬ (v2 ≤ v1)))) q2.2).bind fun q6 =>
      if q6.1 = true then
        (f_x_bestTour N v1 q6.2).bind fun q7 =>
        (f_tours_standsBehind N (gI q7.2 40 3) v2 q7.2).bind fun q8 =>
        some (q8.1, q8.2)
      else
        some ((-1), q6.2)
  else
    some ((-1), q2.2)
set_option maxRecDepth 100000 in
theorem s_x_tourAt {y : EX} {N : Nat} {v1 : Int32} {v2 : Int32} {σ : Sg} {P : Int32 × Sg → Prop} (h : ok (f_x_tourAt N v1 v2 σ) P) : Ev y M_x_tourAt 19 [.ref 0, .int v1, .int v2] σ rvI P := by
  refine Ev.of mk_x_tourAt (Nat.le_of_ble_eq_true rfl) (fun x hx hc hr => ?_)
  have hx : Cx 9 prog_1_method_38_code x := hx
  have hc : Cc y 3 19 x := hc
  show G x 0 [some (.ref 0), some (.int v1), some (.int v2)] [] σ
  unfold f_x_tourAt at h
  refine g_run hx [(.aload_n 0, 0, 0), (.aload_n 0, 0, 0), (.iload_n 1, 0, 0), (.bipush 10, 10, 0)] (pc' := 5) (lo' := [some (.ref 0), some (.int v1), some (.int v2)]) (st' := [.int 10, .int v1, .ref 0, .ref 0]) (σ' := σ) (by decide +kernel) rfl rfl ?_
  refine g_callV (rest := [.ref 0]) [.int v1, .int 10] hx hc mk_x_numberTrouble ln_9_197 rfl (by decide +kernel) (by decide) (Nat.le_of_ble_eq_true rfl) (s_x_numberTrouble (ok_b h)) (fun r1 s1 h => ?_)
  refine g_callV (rest := []) [.int r1] hx hc mk_x_granted ln_9_83 rfl (by decide +kernel) (by decide) (Nat.le_of_ble_eq_true rfl) (s_x_granted (ok_b h)) (fun r2 s2 h => ?_)
  refine g_ifb_ne hx (off := 5) (tgt := 16) (by decide +kernel) (by decide) (fun c11 => ?_) (fun c11 => ?_)
  · have h := ok_t h c11
    refine g_run hx [(.aload_n 0, 0, 0), (.iload_n 2, 0, 0)] (pc' := 18) (lo' := [some (.ref 0), some (.int v1), some (.int v2)]) (st' := [.int v2, .ref 0]) (σ' := s2) (by decide +kernel) rfl rfl ?_
    refine g_if_lt hx (off := 8) (tgt := 26) (by decide +kernel) (by decide) (fun c18 => ?_) (fun c18 => ?_)
    · have h := ok_t h c18
      refine g_run hx [(.iconst 1, 1, 0)] (pc' := 27) (lo' := [some (.ref 0), some (.int v1), some (.int v2)]) (st' := [.int 1, .ref 0]) (σ' := s2) (by decide +kernel) rfl rfl ?_
      refine g_goto hx (off := 4) (tgt := 31) (by decide +kernel) (by decide) ?_
      refine g_callV (rest := []) [.int 1] hx hc mk_x_granted ln_9_83 rfl (by decide +kernel) (by decide) (Nat.le_of_ble_eq_true rfl) (s_x_granted (ok_b h)) (fun r3 s3 h => ?_)
      refine g_ifb_ne hx (off := 5) (tgt := 39) (by decide +kernel) (by decide) (fun c34 => ?_) (fun c34 => ?_)
      · have h := ok_t h c34
        refine g_run hx [(.aload_n 0, 0, 0), (.iload_n 1, 0, 0)] (pc' := 41) (lo' := [some (.ref 0), some (.int v1), some (.int v2)]) (st' := [.int v1, .ref 0]) (σ' := s3) (by decide +kernel) rfl rfl ?_
        refine g_callV (rest := []) [.int v1] hx hc mk_x_bestTour ln_9_272 rfl (by decide +kernel) (by decide) (Nat.le_of_ble_eq_true rfl) (s_x_bestTour (ok_b h)) (fun r4 s4 h => ?_)
        refine g_run hx [(.aload_n 0, 0, 0), (.getfield 26, 0, 0), (.getfield 126, 0, 0), (.iload_n 2, 0, 0)] (pc' := 52) (lo' := [some (.ref 0), some (.int v1), some (.int v2)]) (st' := [.int v2, .int (gI s4 40 3), .ref 63]) (σ' := s4) (by decide +kernel) rfl rfl ?_
        refine g_callV (rest := []) [.int (gI s4 40 3), .int v2] hx hc mk_tours_standsBehind ln_9_282 rfl (by decide +kernel) (by decide) (Nat.le_of_ble_eq_true rfl) (s_tours_standsBehind (ok_b h)) (fun r5 s5 h => ?_)
        exact g_iret hx hr rfl _ rfl (by decide +kernel) (ok_some h)
      · have h := ok_f h c34
        refine g_run hx [(.iconst (-1), (-1), 0)] (pc' := 38) (lo' := [some (.ref 0), some (.int v1), some (.int v2)]) (st' := [.int (-1)]) (σ' := s3) (by decide +kernel) rfl rfl ?_
        exact g_iret hx hr rfl _ rfl (by decide +kernel) (ok_some h)
    · have h := ok_f h c18
      refine g_run hx [(.iload_n 2, 0, 0), (.iload_n 1, 0, 0)] (pc' := 23) (lo' := [some (.ref 0), some (.int v1), some (.int v2)]) (st' := [.int v1, .int v2, .ref 0]) (σ' := s2) (by decide +kernel) rfl rfl ?_
      have hm : G x 31 [some (.ref 0), some (.int v1), some (.int v2)] [.int (b2i (decide (¬ (v2 ≤ v1)))), .ref 0] s2 := by
        refine g_callV (rest := []) [.int (b2i (decide (¬ (v2 ≤ v1))))] hx hc mk_x_granted ln_9_83 rfl (by decide +kernel) (by decide) (Nat.le_of_ble_eq_true rfl) (s_x_granted (ok_b h)) (fun r6 s6 h => ?_)
        refine g_ifb_ne hx (off := 5) (tgt := 39) (by decide +kernel) (by decide) (fun c34 => ?_) (fun c34 => ?_)
        · have h := ok_t h c34
          refine g_run hx [(.aload_n 0, 0, 0), (.iload_n 1, 0, 0)] (pc' := 41) (lo' := [some (.ref 0), some (.int v1), some (.int v2)]) (st' := [.int v1, .ref 0]) (σ' := s6) (by decide +kernel) rfl rfl ?_
          refine g_callV (rest := []) [.int v1] hx hc mk_x_bestTour ln_9_272 rfl (by decide +kernel) (by decide) (Nat.le_of_ble_eq_true rfl) (s_x_bestTour (ok_b h)) (fun r7 s7 h => ?_)
          refine g_run hx [(.aload_n 0, 0, 0), (.getfield 26, 0, 0), (.getfield 126, 0, 0), (.iload_n 2, 0, 0)] (pc' := 52) (lo' := [some (.ref 0), some (.int v1), some (.int v2)]) (st' := [.int v2, .int (gI s7 40 3), .ref 63]) (σ' := s7) (by decide +kernel) rfl rfl ?_
          refine g_callV (rest := []) [.int (gI s7 40 3), .int v2] hx hc mk_tours_standsBehind ln_9_282 rfl (by decide +kernel) (by decide) (Nat.le_of_ble_eq_true rfl) (s_tours_standsBehind (ok_b h)) (fun r8 s8 h => ?_)
          exact g_iret hx hr rfl _ rfl (by decide +kernel) (ok_some h)
        · have h := ok_f h c34
          refine g_run hx [(.iconst (-1), (-1), 0)] (pc' := 38) (lo' := [some (.ref 0), some (.int v1), some (.int v2)]) (st' := [.int (-1)]) (σ' := s6) (by decide +kernel) rfl rfl ?_
          exact g_iret hx hr rfl _ rfl (by decide +kernel) (ok_some h)
      refine g_ic_le hx (off := 7) (tgt := 30) (by decide +kernel) (by decide) (fun c23 => ?_) (fun c23 => ?_)
      · refine g_run hx [(.iconst 0, 0, 0)] (pc' := 31) (lo' := [some (.ref 0), some (.int v1), some (.int v2)]) (st' := [.int 0, .ref 0]) (σ' := s2) (by decide +kernel) rfl rfl ?_
        exact g_bf (fun z => z c23) hm
      · refine g_run hx [(.iconst 1, 1, 0)] (pc' := 27) (lo' := [some (.ref 0), some (.int v1), some (.int v2)]) (st' := [.int 1, .ref 0]) (σ' := s2) (by decide +kernel) rfl rfl ?_
        refine g_goto hx (off := 4) (tgt := 31) (by decide +kernel) (by decide) ?_
        exact g_bt c23 hm
  · have h := ok_f h c11
    refine g_run hx [(.iconst (-1), (-1), 0)] (pc' := 15) (lo' := [some (.ref 0), some (.int v1), some (.int v2)]) (st' := [.int (-1)]) (σ' := s2) (by decide +kernel) rfl rfl ?_
    exact g_iret hx hr rfl _ rfl (by decide +kernel) (ok_some h)
def f_x_tourGone (N : Nat) (v1 : Int32) (σ : Sg) : Option (Int32 × Sg) :=
  (f_x_numberTrouble N v1 10 σ).bind fun q1 =>
  (f_x_granted N q1.1 q1.2).bind fun q2 =>
  if q2.1 = true then
    (f_x_bestTour N v1 q2.2).bind fun q3 =>
    some ((gI q3.2 63 1), q3.2)
  else
    some ((-1), q2.2)
set_option maxRecDepth 100000 in
theorem s_x_tourGone {y : EX} {N : Nat} {v1 : Int32} {σ : Sg} {P : Int32 × Sg → Prop} (h : ok (f_x_tourGone N v1 σ) P) : Ev y M_x_tourGone 19 [.ref 0, .int v1] σ rvI P := by
  refine Ev.of mk_x_tourGone (Nat.le_of_ble_eq_true rfl) (fun x hx hc hr => ?_)
  have hx : Cx 9 prog_1_method_37_code x := hx
  have hc : Cc y 2 19 x := hc
  show G x 0 [some (.ref 0), some (.int v1)] [] σ
  unfold f_x_tourGone at h
  refine g_run hx [(.aload_n 0, 0, 0), (.aload_n 0, 0, 0), (.iload_n 1, 0, 0), (.bipush 10, 10, 0)] (pc' := 5) (lo' := [some (.ref 0), some (.int v1)]) (st' := [.int 10, .int v1, .ref 0, .ref 0]) (σ' := σ) (by decide +kernel) rfl rfl ?_
  refine g_callV (rest := [.ref 0]) [.int v1, .int 10] hx hc mk_x_numberTrouble ln_9_197 rfl (by decide +kernel) (by decide) (Nat.le_of_ble_eq_true rfl) (s_x_numberTrouble (ok_b h)) (fun r1 s1 h => ?_)
  refine g_callV (rest := []) [.int r1] hx hc mk_x_granted ln_9_83 rfl (by decide +kernel) (by decide) (Nat.le_of_ble_eq_true rfl) (s_x_granted (ok_b h)) (fun r2 s2 h => ?_)
  refine g_ifb_eq hx (off := 14) (tgt := 25) (by decide +kernel) (by decide) (fun c11 => ?_) (fun c11 => ?_)
  · have h := ok_f h c11
    refine g_run hx [(.iconst (-1), (-1), 0)] (pc' := 26) (lo' := [some (.ref 0), some (.int v1)]) (st' := [.int (-1)]) (σ' := s2) (by decide +kernel) rfl rfl ?_
    exact g_iret hx hr rfl _ rfl (by decide +kernel) (ok_some h)
  · have h := ok_t h c11
    refine g_run hx [(.aload_n 0, 0, 0), (.iload_n 1, 0, 0)] (pc' := 16) (lo' := [some (.ref 0), some (.int v1)]) (st' := [.int v1, .ref 0]) (σ' := s2) (by decide +kernel) rfl rfl ?_
    refine g_callV (rest := []) [.int v1] hx hc mk_x_bestTour ln_9_272 rfl (by decide +kernel) (by decide) (Nat.le_of_ble_eq_true rfl) (s_x_bestTour (ok_b h)) (fun r3 s3 h => ?_)
    refine g_run hx [(.getfield 279, 0, 0)] (pc' := 22) (lo' := [some (.ref 0), some (.int v1)]) (st' := [.int (gI s3 63 1)]) (σ' := s3) (by decide +kernel) rfl rfl ?_
    refine g_goto hx (off := 4) (tgt := 26) (by decide +kernel) (by decide) ?_
    exact g_iret hx hr rfl _ rfl (by decide +kernel) (ok_some h)
def f_x_trouble (N : Nat) (σ : Sg) : Option (Int32 × Sg) :=
  some ((gI σ 0 10), σ)
set_option maxRecDepth 100000 in
theorem s_x_trouble {y : EX} {N : Nat} {σ : Sg} {P : Int32 × Sg → Prop} (h : ok (f_x_trouble N σ) P) : Ev y M_x_trouble 0 [.ref 0] σ rvI P := by
  refine Ev.of mk_x_trouble (Nat.le_of_ble_eq_true rfl) (fun x hx hc hr => ?_)
  have hx : Cx 9 prog_1_method_62_code x := hx
  have hc : Cc y 1 0 x := hc
  show G x 0 [some (.ref 0)] [] σ
  unfold f_x_trouble at h
  refine g_run hx [(.aload_n 0, 0, 0), (.getfield 74, 0, 0)] (pc' := 4) (lo' := [some (.ref 0)]) (st' := [.int (gI σ 0 10)]) (σ' := σ) (by decide +kernel) rfl rfl ?_
  exact g_iret hx hr rfl _ rfl (by decide +kernel) (ok_some h)
set_option maxRecDepth 100000 in
theorem s_shelf_fetch_43_40 {y : EX} {N : Nat} {v1 : Int32} {σ : Sg} {P : Unit × Sg → Prop} (h : ok (f_shelf_fetch N 16 16 16 16 16 40 44 45 46 47 48 v1 σ) P) : Ev y M_shelf_fetch 1 [.ref 43, .int v1, .ref 40] σ rvN P := by
  refine Ev.of mk_shelf_fetch (Nat.le_of_ble_eq_true rfl) (fun x hx hc hr => ?_)
  have hx : Cx 6 prog_8_method_4_code x := hx
  have hc : Cc y 3 1 x := hc
  show G x 0 [some (.ref 43), some (.int v1), some (.ref 40)] [] σ
  unfold f_shelf_fetch at h
  refine g_run hx [(.aload_n 0, 0, 0), (.iload_n 1, 0, 0)] (pc' := 2) (lo' := [some (.ref 43), some (.int v1), some (.ref 40)]) (st' := [.int v1, .ref 43]) (σ' := σ) (by decide +kernel) rfl rfl ?_
  refine g_callV (rest := []) [.int v1] hx hc mk_shelf_has ln_6_32 rfl (by decide +kernel) (by decide) (Nat.le_of_ble_eq_true rfl) (s_shelf_has_43 (ok_b h)) (fun r1 s1 h => ?_)
  refine g_ifb_eq hx (off := 53) (tgt := 58) (by decide +kernel) (by decide) (fun c5 => ?_) (fun c5 => ?_)
  · have h := ok_f h c5
    exact g_vret hx hr rfl () rfl (by decide +kernel) (ok_some h)
  · have h := ok_t h c5
    refine g_run hx [(.aload_n 2, 0, 0), (.aload_n 0, 0, 0), (.getfield 13, 0, 0), (.iload_n 1, 0, 0)] (pc' := 14) (lo' := [some (.ref 43), some (.int v1), some (.ref 40)]) (st' := [.int v1, .ref 44, .ref 40]) (σ' := s1) (by decide +kernel) rfl rfl ?_
    obtain ⟨c14, h⟩ := ok_g h
    refine g_lald hx (by decide +kernel) (i := 44) (n := 16) rfl c14 ?_
    refine g_run hx [(.putfield 36, 0, 0), (.aload_n 2, 0, 0), (.aload_n 0, 0, 0), (.getfield 19, 0, 0), (.iload_n 1, 0, 0)] (pc' := 24) (lo' := [some (.ref 43), some (.int v1), some (.ref 40)]) (st' := [.int v1, .ref 45, .ref 40]) (σ' := sL s1 40 0 (gM s1 44 v1)) (by decide +kernel) rfl rfl ?_
    obtain ⟨c24, h⟩ := ok_g h
    refine g_lald hx (by decide +kernel) (i := 45) (n := 16) rfl c24 ?_
    refine g_run hx [(.putfield 42, 0, 0), (.aload_n 2, 0, 0), (.aload_n 0, 0, 0), (.getfield 22, 0, 0), (.iload_n 1, 0, 0)] (pc' := 34) (lo' := [some (.ref 43), some (.int v1), some (.ref 40)]) (st' := [.int v1, .ref 46, .ref 40]) (σ' := sL (sL s1 40 0 (gM s1 44 v1)) 40 1 (gM (sL s1 40 0 (gM s1 44 v1)) 45 v1)) (by decide +kernel) rfl rfl ?_
    obtain ⟨c34, h⟩ := ok_g h
    refine g_iald hx (by decide +kernel) (i := 46) (n := 16) rfl c34 ?_
    refine g_run hx [(.putfield 45, 0, 0), (.aload_n 2, 0, 0), (.aload_n 0, 0, 0), (.getfield 26, 0, 0), (.iload_n 1, 0, 0)] (pc' := 44) (lo' := [some (.ref 43), some (.int v1), some (.ref 40)]) (st' := [.int v1, .ref 47, .ref 40]) (σ' := sI (sL (sL s1 40 0 (gM s1 44 v1)) 40 1 (gM (sL s1 40 0 (gM s1 44 v1)) 45 v1)) 40 2 (gA (sL (sL s1 40 0 (gM s1 44 v1)) 40 1 (gM (sL s1 40 0 (gM s1 44 v1)) 45 v1)) 46 v1)) (by decide +kernel) rfl rfl ?_
    obtain ⟨c44, h⟩ := ok_g h
    refine g_iald hx (by decide +kernel) (i := 47) (n := 16) rfl c44 ?_
    refine g_run hx [(.putfield 49, 0, 0), (.aload_n 2, 0, 0), (.aload_n 0, 0, 0), (.getfield 29, 0, 0), (.iload_n 1, 0, 0)] (pc' := 54) (lo' := [some (.ref 43), some (.int v1), some (.ref 40)]) (st' := [.int v1, .ref 48, .ref 40]) (σ' := sI (sI (sL (sL s1 40 0 (gM s1 44 v1)) 40 1 (gM (sL s1 40 0 (gM s1 44 v1)) 45 v1)) 40 2 (gA (sL (sL s1 40 0 (gM s1 44 v1)) 40 1 (gM (sL s1 40 0 (gM s1 44 v1)) 45 v1)) 46 v1)) 40 3 (gA (sI (sL (sL s1 40 0 (gM s1 44 v1)) 40 1 (gM (sL s1 40 0 (gM s1 44 v1)) 45 v1)) 40 2 (gA (sL (sL s1 40 0 (gM s1 44 v1)) 40 1 (gM (sL s1 40 0 (gM s1 44 v1)) 45 v1)) 46 v1)) 47 v1)) (by decide +kernel) rfl rfl ?_
    obtain ⟨c54, h⟩ := ok_g h
    refine g_iald hx (by decide +kernel) (i := 48) (n := 16) rfl c54 ?_
    refine g_run hx [(.putfield 52, 0, 0)] (pc' := 58) (lo' := [some (.ref 43), some (.int v1), some (.ref 40)]) (st' := []) (σ' := sI (sI (sI (sL (sL s1 40 0 (gM s1 44 v1)) 40 1 (gM (sL s1 40 0 (gM s1 44 v1)) 45 v1)) 40 2 (gA (sL (sL s1 40 0 (gM s1 44 v1)) 40 1 (gM (sL s1 40 0 (gM s1 44 v1)) 45 v1)) 46 v1)) 40 3 (gA (sI (sL (sL s1 40 0 (gM s1 44 v1)) 40 1 (gM (sL s1 40 0 (gM s1 44 v1)) 45 v1)) 40 2 (gA (sL (sL s1 40 0 (gM s1 44 v1)) 40 1 (gM (sL s1 40 0 (gM s1 44 v1)) 45 v1)) 46 v1)) 47 v1)) 40 4 (gA (sI (sI (sL (sL s1 40 0 (gM s1 44 v1)) 40 1 (gM (sL s1 40 0 (gM s1 44 v1)) 45 v1)) 40 2 (gA (sL (sL s1 40 0 (gM s1 44 v1)) 40 1 (gM (sL s1 40 0 (gM s1 44 v1)) 45 v1)) 46 v1)) 40 3 (gA (sI (sL (sL s1 40 0 (gM s1 44 v1)) 40 1 (gM (sL s1 40 0 (gM s1 44 v1)) 45 v1)) 40 2 (gA (sL (sL s1 40 0 (gM s1 44 v1)) 40 1 (gM (sL s1 40 0 (gM s1 44 v1)) 45 v1)) 46 v1)) 47 v1)) 48 v1)) (by decide +kernel) rfl rfl ?_
    exact g_vret hx hr rfl () rfl (by decide +kernel) (ok_some h)
def f_history_takeBack (N : Nat) (σ : Sg) : Option (Bool × Sg) :=
  if (gI σ 42 2) = 0 then
    some (false, σ)
  else
    (f_shelf_fetch N 16 16 16 16 16 40 44 45 46 47 48 (gI (sI (sI σ 42 1 ((((gI σ 42 1) + 16) - 1) - (((gI σ 42 1) + 16) - 1) / 16 * 16)) 42 2 ((gI (sI σ 42 1 ((((gI σ 42 1) + 16) - 1) - (((gI σ 42 1) + 16) - 1) / 16 * 16)) 42 2) - 1)) 42 1) (sI (sI σ 42 1 ((((gI σ 42 1) + 16) - 1) - (((gI σ 42 1) + 16) - 1) / 16 * 16)) 42 2 ((gI (sI σ 42 1 ((((gI σ 42 1) + 16) - 1) - (((gI σ 42 1) + 16) - 1) / 16 * 16)) 42 2) - 1))).bind fun q1 =>
    some (true, q1.2)
set_option maxRecDepth 100000 in
theorem s_history_takeBack {y : EX} {N : Nat} {σ : Sg} {P : Bool × Sg → Prop} (h : ok (f_history_takeBack N σ) P) : Ev y M_history_takeBack 2 [.ref 42, .ref 40] σ rvB P := by
  refine Ev.of mk_history_takeBack (Nat.le_of_ble_eq_true rfl) (fun x hx hc hr => ?_)
  have hx : Cx 2 prog_4_method_4_code x := hx
  have hc : Cc y 2 2 x := hc
  show G x 0 [some (.ref 42), some (.ref 40)] [] σ
  unfold f_history_takeBack at h
  refine g_run hx [(.aload_n 0, 0, 0), (.getfield 24, 0, 0)] (pc' := 4) (lo' := [some (.ref 42), some (.ref 40)]) (st' := [.int (gI σ 42 2)]) (σ' := σ) (by decide +kernel) rfl rfl ?_
  refine g_if_ne hx (off := 5) (tgt := 9) (by decide +kernel) (by decide) (fun c4 => ?_) (fun c4 => ?_)
  · have h := ok_f h c4
    refine g_run hx [(.aload_n 0, 0, 0), (.aload_n 0, 0, 0), (.getfield 20, 0, 0), (.bipush 16, 16, 0), (.iadd, 0, 0), (.iconst 1, 1, 0), (.isub, 0, 0), (.bipush 16, 16, 0), (.irem, 0, 0), (.putfield 20, 0, 0), (.aload_n 0, 0, 0), (.dup, 0, 0), (.getfield 24, 0, 0), (.iconst 1, 1, 0), (.isub, 0, 0), (.putfield 24, 0, 0), (.aload_n 0, 0, 0), (.getfield 14, 0, 0), (.aload_n 0, 0, 0), (.getfield 20, 0, 0), (.aload_n 1, 0, 0)] (pc' := 44) (lo' := [some (.ref 42), some (.ref 40)]) (st' := [.ref 40, .int (gI (sI (sI σ 42 1 ((((gI σ 42 1) + 16) - 1) - (((gI σ 42 1) + 16) - 1) / 16 * 16)) 42 2 ((gI (sI σ 42 1 ((((gI σ 42 1) + 16) - 1) - (((gI σ 42 1) + 16) - 1) / 16 * 16)) 42 2) - 1)) 42 1), .ref 43]) (σ' := sI (sI σ 42 1 ((((gI σ 42 1) + 16) - 1) - (((gI σ 42 1) + 16) - 1) / 16 * 16)) 42 2 ((gI (sI σ 42 1 ((((gI σ 42 1) + 16) - 1) - (((gI σ 42 1) + 16) - 1) / 16 * 16)) 42 2) - 1)) (by decide +kernel) rfl rfl ?_
    refine g_callV (rest := []) [.int (gI (sI (sI σ 42 1 ((((gI σ 42 1) + 16) - 1) - (((gI σ 42 1) + 16) - 1) / 16 * 16)) 42 2 ((gI (sI σ 42 1 ((((gI σ 42 1) + 16) - 1) - (((gI σ 42 1) + 16) - 1) / 16 * 16)) 42 2) - 1)) 42 1), .ref 40] hx hc mk_shelf_fetch ln_2_37 rfl (by decide +kernel) (by decide) (Nat.le_of_ble_eq_true rfl) (s_shelf_fetch_43_40 (ok_b h)) (fun r1 s1 h => ?_)
    refine g_run hx [(.iconst 1, 1, 0)] (pc' := 48) (lo' := [some (.ref 42), some (.ref 40)]) (st' := [.int 1]) (σ' := s1) (by decide +kernel) rfl rfl ?_
    exact g_zret (b := true) hx hr rfl true rfl (by decide +kernel) (ok_some h)
  · have h := ok_t h c4
    refine g_run hx [(.iconst 0, 0, 0)] (pc' := 8) (lo' := [some (.ref 42), some (.ref 40)]) (st' := [.int 0]) (σ' := σ) (by decide +kernel) rfl rfl ?_
    exact g_zret (b := false) hx hr rfl false rfl (by decide +kernel) (ok_some h)
def f_x_undo (N : Nat) (σ : Sg) : Option (Bool × Sg) :=
  (f_history_takeBack N σ).bind fun q1 =>
  if q1.1 = true then
    (f_x_granted N 0 q1.2).bind fun q3 =>
    some (q3.1, q3.2)
  else
    (f_x_granted N 6 q1.2).bind fun q2 =>
    some (q2.1, q2.2)
set_option maxRecDepth 100000 in
theorem s_x_undo {y : EX} {N : Nat} {σ : Sg} {P : Bool × Sg → Prop} (h : ok (f_x_undo N σ) P) : Ev y M_x_undo 3 [.ref 0] σ rvB P := by
  refine Ev.of mk_x_undo (Nat.le_of_ble_eq_true rfl) (fun x hx hc hr => ?_)
  have hx : Cx 9 prog_1_method_57_code x := hx
  have hc : Cc y 1 3 x := hc
  show G x 0 [some (.ref 0)] [] σ
  unfold f_x_undo at h
  refine g_run hx [(.aload_n 0, 0, 0), (.aload_n 0, 0, 0), (.getfield 36, 0, 0), (.aload_n 0, 0, 0), (.getfield 26, 0, 0)] (pc' := 9) (lo' := [some (.ref 0)]) (st' := [.ref 40, .ref 42, .ref 0]) (σ' := σ) (by decide +kernel) rfl rfl ?_
  refine g_callV (rest := [.ref 0]) [.ref 40] hx hc mk_history_takeBack ln_9_362 rfl (by decide +kernel) (by decide) (Nat.le_of_ble_eq_true rfl) (s_history_takeBack (ok_b h)) (fun r1 s1 h => ?_)
  refine g_ifb_eq hx (off := 7) (tgt := 19) (by decide +kernel) (by decide) (fun c12 => ?_) (fun c12 => ?_)
  · have h := ok_f h c12
    refine g_run hx [(.bipush 6, 6, 0)] (pc' := 21) (lo' := [some (.ref 0)]) (st' := [.int 6, .ref 0]) (σ' := s1) (by decide +kernel) rfl rfl ?_
    refine g_callV (rest := []) [.int 6] hx hc mk_x_granted ln_9_83 rfl (by decide +kernel) (by decide) (Nat.le_of_ble_eq_true rfl) (s_x_granted (ok_b h)) (fun r2 s2 h => ?_)
    exact g_zret hx hr rfl _ rfl (by decide +kernel) (ok_some h)
  · have h := ok_t h c12
    refine g_run hx [(.iconst 0, 0, 0)] (pc' := 16) (lo' := [some (.ref 0)]) (st' := [.int 0, .ref 0]) (σ' := s1) (by decide +kernel) rfl rfl ?_
    refine g_goto hx (off := 5) (tgt := 21) (by decide +kernel) (by decide) ?_
    refine g_callV (rest := []) [.int 0] hx hc mk_x_granted ln_9_83 rfl (by decide +kernel) (by decide) (Nat.le_of_ble_eq_true rfl) (s_x_granted (ok_b h)) (fun r3 s3 h => ?_)
    exact g_zret hx hr rfl _ rfl (by decide +kernel) (ok_some h)
def f_x_where (N : Nat) (σ : Sg) : Option (Int32 × Sg) :=
  if (gI σ 0 10) = 4 then
    some ((gI σ 1 13), σ)
  else
    some ((-1), σ)
set_option maxRecDepth 100000 in
theorem s_x_where {y : EX} {N : Nat} {σ : Sg} {P : Int32 × Sg → Prop} (h : ok (f_x_where N σ) P) : Ev y M_x_where 0 [.ref 0] σ rvI P := by
  refine Ev.of mk_x_where (Nat.le_of_ble_eq_true rfl) (fun x hx hc hr => ?_)
  have hx : Cx 9 prog_1_method_5_code x := hx
  have hc : Cc y 1 0 x := hc
  show G x 0 [some (.ref 0)] [] σ
  unfold f_x_where at h
  refine g_run hx [(.aload_n 0, 0, 0), (.getfield 74, 0, 0), (.iconst 4, 4, 0)] (pc' := 5) (lo' := [some (.ref 0)]) (st' := [.int 4, .int (gI σ 0 10)]) (σ' := σ) (by decide +kernel) rfl rfl ?_
  refine g_ic_ne hx (off := 13) (tgt := 18) (by decide +kernel) (by decide) (fun c5 => ?_) (fun c5 => ?_)
  · have h := ok_f h c5
    refine g_run hx [(.iconst (-1), (-1), 0)] (pc' := 19) (lo' := [some (.ref 0)]) (st' := [.int (-1)]) (σ' := σ) (by decide +kernel) rfl rfl ?_
    exact g_iret hx hr rfl _ rfl (by decide +kernel) (ok_some h)
  · have h := ok_t h c5
    refine g_run hx [(.aload_n 0, 0, 0), (.getfield 10, 0, 0), (.getfield 107, 0, 0)] (pc' := 15) (lo' := [some (.ref 0)]) (st' := [.int (gI σ 1 13)]) (σ' := σ) (by decide +kernel) rfl rfl ?_
    refine g_goto hx (off := 4) (tgt := 19) (by decide +kernel) (by decide) ?_
    exact g_iret hx hr rfl _ rfl (by decide +kernel) (ok_some h)
def f_x_widest (N : Nat) (σ : Sg) : Option (Int32 × Sg) :=
  (f_x_landTrouble N σ).bind fun q1 =>
  (f_x_granted N q1.1 q1.2).bind fun q2 =>
  if q2.1 = true then
    (f_state_goneCells N 40 q2.2).bind fun q3 =>
    (f_x_longestRun N q3.1 q3.2).bind fun q4 =>
    if q4.1 = (-2) then
      some (0, q4.2)
    else
      (f_state_goneCells N 40 q4.2).bind fun q5 =>
      (f_x_runFrom N q5.1 q4.1 q5.2).bind fun q6 =>
      some (q6.1, q6.2)
  else
    some ((-1), q2.2)
set_option maxRecDepth 100000 in
theorem s_x_widest {y : EX} {N : Nat} {σ : Sg} {P : Int32 × Sg → Prop} (h : ok (f_x_widest N σ) P) : Ev y M_x_widest 3 [.ref 0] σ rvI P := by
  refine Ev.of mk_x_widest (Nat.le_of_ble_eq_true rfl) (fun x hx hc hr => ?_)
  have hx : Cx 9 prog_1_method_15_code x := hx
  have hc : Cc y 2 3 x := hc
  show G x 0 [some (.ref 0), none] [] σ
  unfold f_x_widest at h
  refine g_run hx [(.aload_n 0, 0, 0), (.aload_n 0, 0, 0)] (pc' := 2) (lo' := [some (.ref 0), none]) (st' := [.ref 0, .ref 0]) (σ' := σ) (by decide +kernel) rfl rfl ?_
  refine g_callV (rest := [.ref 0]) [] hx hc mk_x_landTrouble ln_9_158 rfl (by decide +kernel) (by decide) (Nat.le_of_ble_eq_true rfl) (s_x_landTrouble (ok_b h)) (fun r1 s1 h => ?_)
  refine g_callV (rest := []) [.int r1] hx hc mk_x_granted ln_9_83 rfl (by decide +kernel) (by decide) (Nat.le_of_ble_eq_true rfl) (s_x_granted (ok_b h)) (fun r2 s2 h => ?_)
  refine g_ifb_ne hx (off := 5) (tgt := 13) (by decide +kernel) (by decide) (fun c8 => ?_) (fun c8 => ?_)
  · have h := ok_t h c8
    refine g_run hx [(.aload_n 0, 0, 0), (.getfield 26, 0, 0)] (pc' := 17) (lo' := [some (.ref 0), none]) (st' := [.ref 40]) (σ' := s2) (by decide +kernel) rfl rfl ?_
    refine g_callV (rest := []) [] hx hc mk_state_goneCells ln_9_144 rfl (by decide +kernel) (by decide) (Nat.le_of_ble_eq_true rfl) (s_state_goneCells_40 (ok_b h)) (fun r3 s3 h => ?_)
    refine g_callS (rest := []) [.long r3] hx hc mk_x_longestRun ln_9_176 (by decide +kernel) (by decide) (Nat.le_of_ble_eq_true rfl) (s_x_longestRun (ok_b h)) (fun r4 s4 h => ?_)
    refine g_run hx [(.istore_n 1, 0, 0), (.iload_n 1, 0, 0), (.bipush (-2), (-2), 0)] (pc' := 27) (lo' := [some (.ref 0), some (.int r4)]) (st' := [.int (-2), .int r4]) (σ' := s4) (by decide +kernel) rfl rfl ?_
    refine g_ic_ne hx (off := 7) (tgt := 34) (by decide +kernel) (by decide) (fun c27 => ?_) (fun c27 => ?_)
    · have h := ok_f h c27
      refine g_run hx [(.aload_n 0, 0, 0), (.getfield 26, 0, 0)] (pc' := 38) (lo' := [some (.ref 0), some (.int r4)]) (st' := [.ref 40]) (σ' := s4) (by decide +kernel) rfl rfl ?_
      refine g_callV (rest := []) [] hx hc mk_state_goneCells ln_9_144 rfl (by decide +kernel) (by decide) (Nat.le_of_ble_eq_true rfl) (s_state_goneCells_40 (ok_b h)) (fun r5 s5 h => ?_)
      refine g_run hx [(.iload_n 1, 0, 0)] (pc' := 42) (lo' := [some (.ref 0), some (.int r4)]) (st' := [.int r4, .long r5]) (σ' := s5) (by decide +kernel) rfl rfl ?_
      refine g_callS (rest := []) [.long r5, .int r4] hx hc mk_x_runFrom ln_9_179 (by decide +kernel) (by decide) (Nat.le_of_ble_eq_true rfl) (s_x_runFrom (ok_b h)) (fun r6 s6 h => ?_)
      exact g_iret hx hr rfl _ rfl (by decide +kernel) (ok_some h)
    · have h := ok_t h c27
      refine g_run hx [(.iconst 0, 0, 0)] (pc' := 31) (lo' := [some (.ref 0), some (.int r4)]) (st' := [.int 0]) (σ' := s4) (by decide +kernel) rfl rfl ?_
      refine g_goto hx (off := 14) (tgt := 45) (by decide +kernel) (by decide) ?_
      exact g_iret hx hr rfl _ rfl (by decide +kernel) (ok_some h)
  · have h := ok_f h c8
    refine g_run hx [(.iconst (-1), (-1), 0)] (pc' := 12) (lo' := [some (.ref 0), none]) (st' := [.int (-1)]) (σ' := s2) (by decide +kernel) rfl rfl ?_
    exact g_iret hx hr rfl _ rfl (by decide +kernel) (ok_some h)
set_option maxRecDepth 100000 in
theorem s_state_healing_40_10 {y : EX} {N : Nat} {σ : Sg} {P : Int64 × Sg → Prop} (h : ok (f_state_healing N 40 σ) P) : Ev y M_state_healing 2 [.ref 40, .ref 10] σ rvL P := by
  refine Ev.of mk_state_healing (Nat.le_of_ble_eq_true rfl) (fun x hx hc hr => ?_)
  have hx : Cx 7 prog_9_method_9_code x := hx
  have hc : Cc y 4 2 x := hc
  show G x 0 [some (.ref 40), some (.ref 10), none, none] [] σ
  unfold f_state_healing at h
  refine g_run hx [(.aload_n 1, 0, 0)] (pc' := 1) (lo' := [some (.ref 40), some (.ref 10), none, none]) (st' := [.ref 10]) (σ' := σ) (by decide +kernel) rfl rfl ?_
  refine g_callV (rest := []) [] hx hc mk_country_allCells ln_7_77 rfl (by decide +kernel) (by decide) (Nat.le_of_ble_eq_true rfl) (s_country_allCells (ok_b h)) (fun r1 s1 h => ?_)
  refine g_run hx [(.aload_n 0, 0, 0)] (pc' := 5) (lo' := [some (.ref 40), some (.ref 10), none, none]) (st' := [.ref 40, .long r1]) (σ' := s1) (by decide +kernel) rfl rfl ?_
  refine g_callV (rest := [.long r1]) [] hx hc mk_state_goneCells ln_7_56 rfl (by decide +kernel) (by decide) (Nat.le_of_ble_eq_true rfl) (s_state_goneCells_40 (ok_b h)) (fun r2 s2 h => ?_)
  refine g_run hx [(.ldc2_w 68, 0, (-1)), (.lxor, 0, 0), (.land, 0, 0), (.lstore_n 2, 0, 0), (.aload_n 1, 0, 0), (.aload_n 0, 0, 0)] (pc' := 16) (lo' := [some (.ref 40), some (.ref 10), some (.long (r1 &&& (r2 ^^^ (-1)))), none]) (st' := [.ref 40, .ref 10]) (σ' := s2) (by decide +kernel) rfl rfl ?_
  refine g_callV (rest := [.ref 10]) [] hx hc mk_state_goneCells ln_7_56 rfl (by decide +kernel) (by decide) (Nat.le_of_ble_eq_true rfl) (s_state_goneCells_40 (ok_b h)) (fun r3 s3 h => ?_)
  refine g_run hx [(.lload_n 2, 0, 0), (.iconst 1, 1, 0), (.lshl, 0, 0), (.lload_n 2, 0, 0), (.iconst 1, 1, 0), (.lushr, 0, 0), (.lor, 0, 0), (.land, 0, 0)] (pc' := 27) (lo' := [some (.ref 40), some (.ref 10), some (.long (r1 &&& (r2 ^^^ (-1)))), none]) (st' := [.long (r3 &&& (((r1 &&& (r2 ^^^ (-1))) <<< (Int32.toInt64 1 &&& 63)) ||| (UInt64.toInt64 (Int64.toUInt64 (r1 &&& (r2 ^^^ (-1))) >>> (Int64.toUInt64 (Int32.toInt64 1) &&& Int64.toUInt64 63))))), .ref 10]) (σ' := s3) (by decide +kernel) rfl rfl ?_
  refine g_callV (rest := []) [.long (r3 &&& (((r1 &&& (r2 ^^^ (-1))) <<< (Int32.toInt64 1 &&& 63)) ||| (UInt64.toInt64 (Int64.toUInt64 (r1 &&& (r2 ^^^ (-1))) >>> (Int64.toUInt64 (Int32.toInt64 1) &&& Int64.toUInt64 63)))))] hx hc mk_country_healable ln_7_80 rfl (by decide +kernel) (by decide) (Nat.le_of_ble_eq_true rfl) (s_country_healable (ok_b h)) (fun r4 s4 h => ?_)
  exact g_lret hx hr rfl _ rfl (by decide +kernel) (ok_some h)
set_option maxRecDepth 100000 in
theorem s_state_passYear_40_10 {y : EX} {N : Nat} {σ : Sg} {P : Unit × Sg → Prop} (h : ok (f_state_passYear N 40 σ) P) : Ev y M_state_passYear 3 [.ref 40, .ref 10] σ rvN P := by
  refine Ev.of mk_state_passYear (Nat.le_of_ble_eq_true rfl) (fun x hx hc hr => ?_)
  have hx : Cx 7 prog_9_method_10_code x := hx
  have hc : Cc y 2 3 x := hc
  show G x 0 [some (.ref 40), some (.ref 10)] [] σ
  unfold f_state_passYear at h
  refine g_run hx [(.aload_n 0, 0, 0), (.aload_n 0, 0, 0), (.aload_n 1, 0, 0)] (pc' := 3) (lo' := [some (.ref 40), some (.ref 10)]) (st' := [.ref 10, .ref 40, .ref 40]) (σ' := σ) (by decide +kernel) rfl rfl ?_
  refine g_callV (rest := [.ref 40]) [.ref 10] hx hc mk_state_healing ln_7_83 rfl (by decide +kernel) (by decide) (Nat.le_of_ble_eq_true rfl) (s_state_healing_40_10 (ok_b h)) (fun r1 s1 h => ?_)
  refine g_callV (rest := []) [.long r1] hx hc mk_state_lessen ln_7_73 rfl (by decide +kernel) (by decide) (Nat.le_of_ble_eq_true rfl) (s_state_lessen_40 (ok_b h)) (fun r2 s2 h => ?_)
  exact g_vret hx hr rfl () rfl (by decide +kernel) (ok_some h)
def f_x_year (N : Nat) (σ : Sg) : Option (Int32 × Sg) :=
  (f_x_landTrouble N σ).bind fun q1 =>
  (f_x_granted N q1.1 q1.2).bind fun q2 =>
  if q2.1 = true then
    if (gI q2.2 40 4) < 999 then
      (f_x_granted N 0 q2.2).bind fun q3 =>
      if q3.1 = true then
        (f_history_keep N q3.2).bind fun q4 =>
        (f_state_goneCells N 40 q4.2).bind fun q5 =>
        (f_jl_bitCount N q5.1 q5.2).bind fun q6 =>
        (f_state_passYear N 40 q6.2).bind fun q7 =>
        (f_state_goneCells N 40 (sI q7.2 40 4 ((gI q7.2 40 4) + 1))).bind fun q8 =>
        (f_jl_bitCount N q8.1 q8.2).bind fun q9 =>
        some ((q6.1 - q9.1), q9.2)
      else
        some ((-1), q3.2)
    else
      (f_x_granted N 3 q2.2).bind fun q10 =>
      if q10.1 = true then
        (f_history_keep N q10.2).bind fun q11 =>
        (f_state_goneCells N 40 q11.2).bind fun q12 =>
        (f_jl_bitCount N q12.1 q12.2).bind fun q13 =>
        (f_state_passYear N 40 q13.2).bind fun q14 =>
        (f_state_goneCells N 40 (sI q14.2 40 4 ((gI q14.2 40 4) + 1))).bind fun q15 =>
        (f_jl_bitCount N q15.1 q15.2).bind fun q16 =>
        some ((q13.1 - q16.1), q16.2)
      else
        some ((-1), q10.2)
  else
    some ((-1), q2.2)
set_option maxRecDepth 100000 in
theorem s_x_year {y : EX} {N : Nat} {σ : Sg} {P : Int32 × Sg → Prop} (h : ok (f_x_year N σ) P) : Ev y M_x_year 4 [.ref 0] σ rvI P := by
  refine Ev.of mk_x_year (Nat.le_of_ble_eq_true rfl) (fun x hx hc hr => ?_)
  have hx : Cx 9 prog_1_method_55_code x := hx
  have hc : Cc y 2 4 x := hc
  show G x 0 [some (.ref 0), none] [] σ
  unfold f_x_year at h
  refine g_run hx [(.aload_n 0, 0, 0), (.aload_n 0, 0, 0)] (pc' := 2) (lo' := [some (.ref 0), none]) (st' := [.ref 0, .ref 0]) (σ' := σ) (by decide +kernel) rfl rfl ?_
  refine g_callV (rest := [.ref 0]) [] hx hc mk_x_landTrouble ln_9_158 rfl (by decide +kernel) (by decide) (Nat.le_of_ble_eq_true rfl) (s_x_landTrouble (ok_b h)) (fun r1 s1 h => ?_)
  refine g_callV (rest := []) [.int r1] hx hc mk_x_granted ln_9_83 rfl (by decide +kernel) (by decide) (Nat.le_of_ble_eq_true rfl) (s_x_granted (ok_b h)) (fun r2 s2 h => ?_)
  refine g_ifb_ne hx (off := 5) (tgt := 13) (by decide +kernel) (by decide) (fun c8 => ?_) (fun c8 => ?_)
  · have h := ok_t h c8
    refine g_run hx [(.aload_n 0, 0, 0), (.aload_n 0, 0, 0), (.getfield 26, 0, 0), (.getfield 356, 0, 0), (.sipush 999, 999, 0)] (pc' := 24) (lo' := [some (.ref 0), none]) (st' := [.int 999, .int (gI s2 40 4), .ref 0]) (σ' := s2) (by decide +kernel) rfl rfl ?_
    refine g_ic_lt hx (off := 7) (tgt := 31) (by decide +kernel) (by decide) (fun c24 => ?_) (fun c24 => ?_)
    · have h := ok_t h c24
      refine g_run hx [(.iconst 0, 0, 0)] (pc' := 32) (lo' := [some (.ref 0), none]) (st' := [.int 0, .ref 0]) (σ' := s2) (by decide +kernel) rfl rfl ?_
      refine g_callV (rest := []) [.int 0] hx hc mk_x_granted ln_9_83 rfl (by decide +kernel) (by decide) (Nat.le_of_ble_eq_true rfl) (s_x_granted (ok_b h)) (fun r3 s3 h => ?_)
      refine g_ifb_ne hx (off := 5) (tgt := 40) (by decide +kernel) (by decide) (fun c35 => ?_) (fun c35 => ?_)
      · have h := ok_t h c35
        refine g_run hx [(.aload_n 0, 0, 0), (.getfield 36, 0, 0), (.aload_n 0, 0, 0), (.getfield 26, 0, 0)] (pc' := 48) (lo' := [some (.ref 0), none]) (st' := [.ref 40, .ref 42]) (σ' := s3) (by decide +kernel) rfl rfl ?_
        refine g_callV (rest := []) [.ref 40] hx hc mk_history_keep ln_9_344 rfl (by decide +kernel) (by decide) (Nat.le_of_ble_eq_true rfl) (s_history_keep (ok_b h)) (fun r4 s4 h => ?_)
        refine g_run hx [(.aload_n 0, 0, 0), (.getfield 26, 0, 0)] (pc' := 55) (lo' := [some (.ref 0), none]) (st' := [.ref 40]) (σ' := s4) (by decide +kernel) rfl rfl ?_
        refine g_callV (rest := []) [] hx hc mk_state_goneCells ln_9_144 rfl (by decide +kernel) (by decide) (Nat.le_of_ble_eq_true rfl) (s_state_goneCells_40 (ok_b h)) (fun r5 s5 h => ?_)
        refine g_callS (rest := []) [.long r5] hx hc mk_jl_bitCount ln_9_162 (by decide +kernel) (by decide) (Nat.le_of_ble_eq_true rfl) (s_jl_bitCount (ok_b h)) (fun r6 s6 h => ?_)
        refine g_run hx [(.istore_n 1, 0, 0), (.aload_n 0, 0, 0), (.getfield 26, 0, 0), (.aload_n 0, 0, 0), (.getfield 19, 0, 0)] (pc' := 70) (lo' := [some (.ref 0), some (.int r6)]) (st' := [.ref 10, .ref 40]) (σ' := s6) (by decide +kernel) rfl rfl ?_
        refine g_callV (rest := []) [.ref 10] hx hc mk_state_passYear ln_9_208 rfl (by decide +kernel) (by decide) (Nat.le_of_ble_eq_true rfl) (s_state_passYear_40_10 (ok_b h)) (fun r7 s7 h => ?_)
        refine g_run hx [(.aload_n 0, 0, 0), (.getfield 26, 0, 0), (.dup, 0, 0), (.getfield 356, 0, 0), (.iconst 1, 1, 0), (.iadd, 0, 0), (.putfield 356, 0, 0), (.iload_n 1, 0, 0), (.aload_n 0, 0, 0), (.getfield 26, 0, 0)] (pc' := 91) (lo' := [some (.ref 0), some (.int r6)]) (st' := [.ref 40, .int r6]) (σ' := sI s7 40 4 ((gI s7 40 4) + 1)) (by decide +kernel) rfl rfl ?_
        refine g_callV (rest := [.int r6]) [] hx hc mk_state_goneCells ln_9_144 rfl (by decide +kernel) (by decide) (Nat.le_of_ble_eq_true rfl) (s_state_goneCells_40 (ok_b h)) (fun r8 s8 h => ?_)
        refine g_callS (rest := [.int r6]) [.long r8] hx hc mk_jl_bitCount ln_9_162 (by decide +kernel) (by decide) (Nat.le_of_ble_eq_true rfl) (s_jl_bitCount (ok_b h)) (fun r9 s9 h => ?_)
        refine g_run hx [(.isub, 0, 0)] (pc' := 98) (lo' := [some (.ref 0), some (.int r6)]) (st' := [.int (r6 - r9)]) (σ' := s9) (by decide +kernel) rfl rfl ?_
        exact g_iret hx hr rfl _ rfl (by decide +kernel) (ok_some h)
      · have h := ok_f h c35
        refine g_run hx [(.iconst (-1), (-1), 0)] (pc' := 39) (lo' := [some (.ref 0), none]) (st' := [.int (-1)]) (σ' := s3) (by decide +kernel) rfl rfl ?_
        exact g_iret hx hr rfl _ rfl (by decide +kernel) (ok_some h)
    · have h := ok_f h c24
      refine g_run hx [(.iconst 3, 3, 0)] (pc' := 28) (lo' := [some (.ref 0), none]) (st' := [.int 3, .ref 0]) (σ' := s2) (by decide +kernel) rfl rfl ?_
      refine g_goto hx (off := 4) (tgt := 32) (by decide +kernel) (by decide) ?_
      refine g_callV (rest := []) [.int 3] hx hc mk_x_granted ln_9_83 rfl (by decide +kernel) (by decide) (Nat.le_of_ble_eq_true rfl) (s_x_granted (ok_b h)) (fun r10 s10 h => ?_)
      refine g_ifb_ne hx (off := 5) (tgt := 40) (by decide +kernel) (by decide) (fun c35 => ?_) (fun c35 => ?_)
      · have h := ok_t h c35
        refine g_run hx [(.aload_n 0, 0, 0), (.getfield 36, 0, 0), (.aload_n 0, 0, 0), (.getfield 26, 0, 0)] (pc' := 48) (lo' := [some (.ref 0), none]) (st' := [.ref 40, .ref 42]) (σ' := s10) (by decide +kernel) rfl rfl ?_
        refine g_callV (rest := []) [.ref 40] hx hc mk_history_keep ln_9_344 rfl (by decide +kernel) (by decide) (Nat.le_of_ble_eq_true rfl) (s_history_keep (ok_b h)) (fun r11 s11 h => ?_)
        refine g_run hx [(.aload_n 0, 0, 0), (.getfield 26, 0, 0)] (pc' := 55) (lo' := [some (.ref 0), none]) (st' := [.ref 40]) (σ' := s11) (by decide +kernel) rfl rfl ?_
        refine g_callV (rest := []) [] hx hc mk_state_goneCells ln_9_144 rfl (by decide +kernel) (by decide) (Nat.le_of_ble_eq_true rfl) (s_state_goneCells_40 (ok_b h)) (fun r12 s12 h => ?_)
        refine g_callS (rest := []) [.long r12] hx hc mk_jl_bitCount ln_9_162 (by decide +kernel) (by decide) (Nat.le_of_ble_eq_true rfl) (s_jl_bitCount (ok_b h)) (fun r13 s13 h => ?_)
        refine g_run hx [(.istore_n 1, 0, 0), (.aload_n 0, 0, 0), (.getfield 26, 0, 0), (.aload_n 0, 0, 0), (.getfield 19, 0, 0)] (pc' := 70) (lo' := [some (.ref 0), some (.int r13)]) (st' := [.ref 10, .ref 40]) (σ' := s13) (by decide +kernel) rfl rfl ?_
        refine g_callV (rest := []) [.ref 10] hx hc mk_state_passYear ln_9_208 rfl (by decide +kernel) (by decide) (Nat.le_of_ble_eq_true rfl) (s_state_passYear_40_10 (ok_b h)) (fun r14 s14 h => ?_)
        refine g_run hx [(.aload_n 0, 0, 0), (.getfield 26, 0, 0), (.dup, 0, 0), (.getfield 356, 0, 0), (.iconst 1, 1, 0), (.iadd, 0, 0), (.putfield 356, 0, 0), (.iload_n 1, 0, 0), (.aload_n 0, 0, 0), (.getfield 26, 0, 0)] (pc' := 91) (lo' := [some (.ref 0), some (.int r13)]) (st' := [.ref 40, .int r13]) (σ' := sI s14 40 4 ((gI s14 40 4) + 1)) (by decide +kernel) rfl rfl ?_
        refine g_callV (rest := [.int r13]) [] hx hc mk_state_goneCells ln_9_144 rfl (by decide +kernel) (by decide) (Nat.le_of_ble_eq_true rfl) (s_state_goneCells_40 (ok_b h)) (fun r15 s15 h => ?_)
        refine g_callS (rest := [.int r13]) [.long r15] hx hc mk_jl_bitCount ln_9_162 (by decide +kernel) (by decide) (Nat.le_of_ble_eq_true rfl) (s_jl_bitCount (ok_b h)) (fun r16 s16 h => ?_)
        refine g_run hx [(.isub, 0, 0)] (pc' := 98) (lo' := [some (.ref 0), some (.int r13)]) (st' := [.int (r13 - r16)]) (σ' := s16) (by decide +kernel) rfl rfl ?_
        exact g_iret hx hr rfl _ rfl (by decide +kernel) (ok_some h)
      · have h := ok_f h c35
        refine g_run hx [(.iconst (-1), (-1), 0)] (pc' := 39) (lo' := [some (.ref 0), none]) (st' := [.int (-1)]) (σ' := s10) (by decide +kernel) rfl rfl ?_
        exact g_iret hx hr rfl _ rfl (by decide +kernel) (ok_some h)
  · have h := ok_f h c8
    refine g_run hx [(.iconst (-1), (-1), 0)] (pc' := 12) (lo' := [some (.ref 0), none]) (st' := [.int (-1)]) (σ' := s2) (by decide +kernel) rfl rfl ?_
    exact g_iret hx hr rfl _ rfl (by decide +kernel) (ok_some h)
def f_m_anew (N : Nat) (σ : Sg) : Option (Unit × Sg) :=
  some ((), sI (sI σ 66 0 0) 66 11 0)
set_option maxRecDepth 100000 in
theorem s_m_anew {y : EX} {N : Nat} {σ : Sg} {P : Unit × Sg → Prop} (h : ok (f_m_anew N σ) P) : Ev y M_m_anew 0 [.ref 66] σ rvN P := by
  refine Ev.of mk_m_anew (Nat.le_of_ble_eq_true rfl) (fun x hx hc hr => ?_)
  have hx : Cx 10 prog_12_method_3_code x := hx
  have hc : Cc y 1 0 x := hc
  show G x 0 [some (.ref 66)] [] σ
  unfold f_m_anew at h
  refine g_run hx [(.aload_n 0, 0, 0), (.iconst 0, 0, 0), (.putfield 68, 0, 0), (.aload_n 0, 0, 0), (.iconst 0, 0, 0), (.putfield 71, 0, 0)] (pc' := 10) (lo' := [some (.ref 66)]) (st' := []) (σ' := sI (sI σ 66 0 0) 66 11 0) (by decide +kernel) rfl rfl ?_
  exact g_vret hx hr rfl () rfl (by decide +kernel) (ok_some h)
def f_m_no (N : Nat) (v1 : Int32) (σ : Sg) : Option (Int32 × Sg) :=
  some ((-1), sI σ 66 11 v1)
set_option maxRecDepth 100000 in
theorem s_m_no {y : EX} {N : Nat} {v1 : Int32} {σ : Sg} {P : Int32 × Sg → Prop} (h : ok (f_m_no N v1 σ) P) : Ev y M_m_no 0 [.ref 66, .int v1] σ rvI P := by
  refine Ev.of mk_m_no (Nat.le_of_ble_eq_true rfl) (fun x hx hc hr => ?_)
  have hx : Cx 10 prog_12_method_4_code x := hx
  have hc : Cc y 2 0 x := hc
  show G x 0 [some (.ref 66), some (.int v1)] [] σ
  unfold f_m_no at h
  refine g_run hx [(.aload_n 0, 0, 0), (.iload_n 1, 0, 0), (.putfield 71, 0, 0), (.iconst (-1), (-1), 0)] (pc' := 6) (lo' := [some (.ref 66), some (.int v1)]) (st' := [.int (-1)]) (σ' := sI σ 66 11 v1) (by decide +kernel) rfl rfl ?_
  exact g_iret hx hr rfl _ rfl (by decide +kernel) (ok_some h)
def f_m_copy_L3 (N : Nat) (a0 : Nat) (a1 : Nat) (a2 : Nat) (a3 : Nat) : Nat → Int32 → Int32 → Int32 → Int32 → Sg → Option (Unit × Sg)
  | 0, _, _, _, _, _ => none
  | n + 1, v1, v3, v4, v5, σ =>
    if v4 ≤ v5 then
      some ((), σ)
    else
      if vin (v1 + v5) a0 then
      if vin (v3 + v5) a1 then
      f_m_copy_L3 N a0 a1 a2 a3 n v1 v3 v4 (v5 + 1) (sA σ a2 (v3 + v5) (gA σ a3 (v1 + v5)))
      else none
      else none
def f_m_copy (N : Nat) (a0 : Nat) (a1 : Nat) (a2 : Nat) (a3 : Nat) (v1 : Int32) (v3 : Int32) (v4 : Int32) (σ : Sg) : Option (Unit × Sg) :=
  f_m_copy_L3 N a0 a1 a2 a3 N v1 v3 v4 0 σ
set_option maxRecDepth 100000 in
theorem s_m_copy_71_75_L3 {y : EX} {N : Nat} {x : CX} {P : Unit × Sg → Prop} (hx : Cx 10 prog_12_method_8_code x) (hc : Cc y 6 0 x) (hr : Cr M_m_copy rvN P x) : ∀ (n : Nat) (v1 : Int32) (v3 : Int32) (v4 : Int32) (v5 : Int32) (σ : Sg), ok (f_m_copy_L3 N 63 63 75 71 n v1 v3 v4 v5 σ) P → G x 3 [some (.ref 71), some (.int v1), some (.ref 75), some (.int v3), some (.int v4), some (.int v5)] [] σ := by
  intro n
  induction n with
  | zero => intro v1 v3 v4 v5 σ h; exact ok_none h
  | succ n ih =>
    intro v1 v3 v4 v5 σ h
    rw [f_m_copy_L3] at h
    refine g_run hx [(.iload 5, 0, 0), (.iload 4, 0, 0)] (pc' := 7) (lo' := [some (.ref 71), some (.int v1), some (.ref 75), some (.int v3), some (.int v4), some (.int v5)]) (st' := [.int v4, .int v5]) (σ' := σ) (by decide +kernel) rfl rfl ?_
    refine g_ic_ge hx (off := 21) (tgt := 28) (by decide +kernel) (by decide) (fun c7 => ?_) (fun c7 => ?_)
    · have h := ok_t h c7
      exact g_vret hx hr rfl () rfl (by decide +kernel) (ok_some h)
    · have h := ok_f h c7
      refine g_run hx [(.aload_n 2, 0, 0), (.iload_n 3, 0, 0), (.iload 5, 0, 0), (.iadd, 0, 0), (.aload_n 0, 0, 0), (.iload_n 1, 0, 0), (.iload 5, 0, 0), (.iadd, 0, 0)] (pc' := 20) (lo' := [some (.ref 71), some (.int v1), some (.ref 75), some (.int v3), some (.int v4), some (.int v5)]) (st' := [.int (v1 + v5), .ref 71, .int (v3 + v5), .ref 75]) (σ' := σ) (by decide +kernel) rfl rfl ?_
      obtain ⟨c20, h⟩ := ok_g h
      refine g_iald hx (by decide +kernel) (i := 71) (n := 63) rfl c20 ?_
      obtain ⟨c21, h⟩ := ok_g h
      refine g_iast hx (by decide +kernel) (i := 75) (n := 63) rfl c21 ?_
      refine g_run hx [(.iinc 5 1, 1, 0)] (pc' := 25) (lo' := [some (.ref 71), some (.int v1), some (.ref 75), some (.int v3), some (.int v4), some (.int (v5 + 1))]) (st' := []) (σ' := sA σ 75 (v3 + v5) (gA σ 71 (v1 + v5))) (by decide +kernel) rfl rfl ?_
      refine g_goto hx (off := (-22)) (tgt := 3) (by decide +kernel) (by decide) ?_
      exact ih _ _ _ _ _ h
set_option maxRecDepth 100000 in
theorem s_m_copy_71_75 {y : EX} {N : Nat} {v1 : Int32} {v3 : Int32} {v4 : Int32} {σ : Sg} {P : Unit × Sg → Prop} (h : ok (f_m_copy N 63 63 75 71 v1 v3 v4 σ) P) : Ev y M_m_copy 0 [.ref 71, .int v1, .ref 75, .int v3, .int v4] σ rvN P := by
  refine Ev.of mk_m_copy (Nat.le_of_ble_eq_true rfl) (fun x hx hc hr => ?_)
  have hx : Cx 10 prog_12_method_8_code x := hx
  have hc : Cc y 6 0 x := hc
  show G x 0 [some (.ref 71), some (.int v1), some (.ref 75), some (.int v3), some (.int v4), none] [] σ
  unfold f_m_copy at h
  refine g_run hx [(.iconst 0, 0, 0), (.istore 5, 0, 0)] (pc' := 3) (lo' := [some (.ref 71), some (.int v1), some (.ref 75), some (.int v3), some (.int v4), some (.int 0)]) (st' := []) (σ' := σ) (by decide +kernel) rfl rfl ?_
  refine s_m_copy_71_75_L3 hx hc hr N _ _ _ _ _ h
def f_m_hasBit (N : Nat) (v0 : Int32) (v1 : Int32) (σ : Sg) : Option (Bool × Sg) :=
  if ((v0 >>> (v1 &&& 31)) &&& 1) = 1 then
    some (true, σ)
  else
    some (false, σ)
set_option maxRecDepth 100000 in
theorem s_m_hasBit {y : EX} {N : Nat} {v0 : Int32} {v1 : Int32} {σ : Sg} {P : Bool × Sg → Prop} (h : ok (f_m_hasBit N v0 v1 σ) P) : Ev y M_m_hasBit 0 [.int v0, .int v1] σ rvB P := by
  refine Ev.of mk_m_hasBit (Nat.le_of_ble_eq_true rfl) (fun x hx hc hr => ?_)
  have hx : Cx 10 prog_12_method_7_code x := hx
  have hc : Cc y 2 0 x := hc
  show G x 0 [some (.int v0), some (.int v1)] [] σ
  unfold f_m_hasBit at h
  refine g_run hx [(.iload_n 0, 0, 0), (.iload_n 1, 0, 0), (.ishr, 0, 0), (.iconst 1, 1, 0), (.iand, 0, 0), (.iconst 1, 1, 0)] (pc' := 6) (lo' := [some (.int v0), some (.int v1)]) (st' := [.int 1, .int ((v0 >>> (v1 &&& 31)) &&& 1)]) (σ' := σ) (by decide +kernel) rfl rfl ?_
  refine g_ic_ne hx (off := 7) (tgt := 13) (by decide +kernel) (by decide) (fun c6 => ?_) (fun c6 => ?_)
  · have h := ok_f h c6
    refine g_run hx [(.iconst 0, 0, 0)] (pc' := 14) (lo' := [some (.int v0), some (.int v1)]) (st' := [.int 0]) (σ' := σ) (by decide +kernel) rfl rfl ?_
    exact g_zret (b := false) hx hr rfl false rfl (by decide +kernel) (ok_some h)
  · have h := ok_t h c6
    refine g_run hx [(.iconst 1, 1, 0)] (pc' := 10) (lo' := [some (.int v0), some (.int v1)]) (st' := [.int 1]) (σ' := σ) (by decide +kernel) rfl rfl ?_
    refine g_goto hx (off := 4) (tgt := 14) (by decide +kernel) (by decide) ?_
    exact g_zret (b := true) hx hr rfl true rfl (by decide +kernel) (ok_some h)
def f_m_in (N : Nat) (v0 : Int32) (v1 : Int32) (v2 : Int32) (σ : Sg) : Option (Bool × Sg) :=
  if v0 < v1 then
    some (false, σ)
  else
    if v2 < v0 then
      some (false, σ)
    else
      some (true, σ)
set_option maxRecDepth 100000 in
theorem s_m_in {y : EX} {N : Nat} {v0 : Int32} {v1 : Int32} {v2 : Int32} {σ : Sg} {P : Bool × Sg → Prop} (h : ok (f_m_in N v0 v1 v2 σ) P) : Ev y M_m_in 0 [.int v0, .int v1, .int v2] σ rvB P := by
  refine Ev.of mk_m_in (Nat.le_of_ble_eq_true rfl) (fun x hx hc hr => ?_)
  have hx : Cx 10 prog_12_method_6_code x := hx
  have hc : Cc y 3 0 x := hc
  show G x 0 [some (.int v0), some (.int v1), some (.int v2)] [] σ
  unfold f_m_in at h
  refine g_run hx [(.iload_n 0, 0, 0), (.iload_n 1, 0, 0)] (pc' := 2) (lo' := [some (.int v0), some (.int v1), some (.int v2)]) (st' := [.int v1, .int v0]) (σ' := σ) (by decide +kernel) rfl rfl ?_
  refine g_ic_lt hx (off := 12) (tgt := 14) (by decide +kernel) (by decide) (fun c2 => ?_) (fun c2 => ?_)
  · have h := ok_t h c2
    refine g_run hx [(.iconst 0, 0, 0)] (pc' := 15) (lo' := [some (.int v0), some (.int v1), some (.int v2)]) (st' := [.int 0]) (σ' := σ) (by decide +kernel) rfl rfl ?_
    exact g_zret (b := false) hx hr rfl false rfl (by decide +kernel) (ok_some h)
  · have h := ok_f h c2
    refine g_run hx [(.iload_n 0, 0, 0), (.iload_n 2, 0, 0)] (pc' := 7) (lo' := [some (.int v0), some (.int v1), some (.int v2)]) (st' := [.int v2, .int v0]) (σ' := σ) (by decide +kernel) rfl rfl ?_
    refine g_ic_gt hx (off := 7) (tgt := 14) (by decide +kernel) (by decide) (fun c7 => ?_) (fun c7 => ?_)
    · have h := ok_t h c7
      refine g_run hx [(.iconst 0, 0, 0)] (pc' := 15) (lo' := [some (.int v0), some (.int v1), some (.int v2)]) (st' := [.int 0]) (σ' := σ) (by decide +kernel) rfl rfl ?_
      exact g_zret (b := false) hx hr rfl false rfl (by decide +kernel) (ok_some h)
    · have h := ok_f h c7
      refine g_run hx [(.iconst 1, 1, 0)] (pc' := 11) (lo' := [some (.int v0), some (.int v1), some (.int v2)]) (st' := [.int 1]) (σ' := σ) (by decide +kernel) rfl rfl ?_
      refine g_goto hx (off := 4) (tgt := 15) (by decide +kernel) (by decide) ?_
      exact g_zret (b := true) hx hr rfl true rfl (by decide +kernel) (ok_some h)
