set_option maxRecDepth 100000 in
theorem s_numbers_at_8 {y : EX} {N : Nat} {v1 : Int32} {σ : Sg} {P : Int32 × Sg → Prop} (h : ok (f_numbers_at N 8 9 9 v1 σ) P) : Ev y M_numbers_at 0 [.ref 8, .int v1] σ rvI P := by
  refine Ev.of mk_numbers_at (Nat.le_of_ble_eq_true rfl) (fun x hx hc hr => ?_)
  have hx : Cx 3 prog_5_method_3_code x := hx
  have hc : Cc y 2 0 x := hc
  show G x 0 [some (.ref 8), some (.int v1)] [] σ
  unfold f_numbers_at at h
  refine g_run hx [(.iload_n 1, 0, 0)] (pc' := 1) (lo' := [some (.ref 8), some (.int v1)]) (st' := [.int v1]) (σ' := σ) (by decide +kernel) rfl rfl ?_
  refine g_if_lt hx (off := 29) (tgt := 30) (by decide +kernel) (by decide) (fun c1 => ?_) (fun c1 => ?_)
  · have h := ok_t h c1
    refine g_run hx [(.iconst (-1), (-1), 0)] (pc' := 31) (lo' := [some (.ref 8), some (.int v1)]) (st' := [.int (-1)]) (σ' := σ) (by decide +kernel) rfl rfl ?_
    exact g_iret hx hr rfl _ rfl (by decide +kernel) (ok_some h)
  · have h := ok_f h c1
    refine g_run hx [(.iload_n 1, 0, 0), (.aload_n 0, 0, 0), (.getfield 9, 0, 0)] (pc' := 9) (lo' := [some (.ref 8), some (.int v1)]) (st' := [.int (gI σ 8 1), .int v1]) (σ' := σ) (by decide +kernel) rfl rfl ?_
    refine g_ic_ge hx (off := 21) (tgt := 30) (by decide +kernel) (by decide) (fun c9 => ?_) (fun c9 => ?_)
    · have h := ok_t h c9
      refine g_run hx [(.iconst (-1), (-1), 0)] (pc' := 31) (lo' := [some (.ref 8), some (.int v1)]) (st' := [.int (-1)]) (σ' := σ) (by decide +kernel) rfl rfl ?_
      exact g_iret hx hr rfl _ rfl (by decide +kernel) (ok_some h)
    · have h := ok_f h c9
      refine g_run hx [(.iload_n 1, 0, 0), (.aload_n 0, 0, 0), (.getfield 21, 0, 0), (.arraylength, 0, 0)] (pc' := 18) (lo' := [some (.ref 8), some (.int v1)]) (st' := [.int (nI 9), .int v1]) (σ' := σ) (by decide +kernel) rfl rfl ?_
      refine g_ic_ge hx (off := 12) (tgt := 30) (by decide +kernel) (by decide) (fun c18 => ?_) (fun c18 => ?_)
      · have h := ok_t h c18
        refine g_run hx [(.iconst (-1), (-1), 0)] (pc' := 31) (lo' := [some (.ref 8), some (.int v1)]) (st' := [.int (-1)]) (σ' := σ) (by decide +kernel) rfl rfl ?_
        exact g_iret hx hr rfl _ rfl (by decide +kernel) (ok_some h)
      · have h := ok_f h c18
        refine g_run hx [(.aload_n 0, 0, 0), (.getfield 21, 0, 0), (.iload_n 1, 0, 0)] (pc' := 26) (lo' := [some (.ref 8), some (.int v1)]) (st' := [.int v1, .ref 9]) (σ' := σ) (by decide +kernel) rfl rfl ?_
        obtain ⟨c26, h⟩ := ok_g h
        refine g_iald hx (by decide +kernel) (i := 9) (n := 9) rfl c26 ?_
        refine g_goto hx (off := 4) (tgt := 31) (by decide +kernel) (by decide) ?_
        exact g_iret hx hr rfl _ rfl (by decide +kernel) (ok_some h)
set_option maxRecDepth 100000 in
theorem s_numbers_at_26 {y : EX} {N : Nat} {v1 : Int32} {σ : Sg} {P : Int32 × Sg → Prop} (h : ok (f_numbers_at N 26 3 27 v1 σ) P) : Ev y M_numbers_at 0 [.ref 26, .int v1] σ rvI P := by
  refine Ev.of mk_numbers_at (Nat.le_of_ble_eq_true rfl) (fun x hx hc hr => ?_)
  have hx : Cx 3 prog_5_method_3_code x := hx
  have hc : Cc y 2 0 x := hc
  show G x 0 [some (.ref 26), some (.int v1)] [] σ
  unfold f_numbers_at at h
  refine g_run hx [(.iload_n 1, 0, 0)] (pc' := 1) (lo' := [some (.ref 26), some (.int v1)]) (st' := [.int v1]) (σ' := σ) (by decide +kernel) rfl rfl ?_
  refine g_if_lt hx (off := 29) (tgt := 30) (by decide +kernel) (by decide) (fun c1 => ?_) (fun c1 => ?_)
  · have h := ok_t h c1
    refine g_run hx [(.iconst (-1), (-1), 0)] (pc' := 31) (lo' := [some (.ref 26), some (.int v1)]) (st' := [.int (-1)]) (σ' := σ) (by decide +kernel) rfl rfl ?_
    exact g_iret hx hr rfl _ rfl (by decide +kernel) (ok_some h)
  · have h := ok_f h c1
    refine g_run hx [(.iload_n 1, 0, 0), (.aload_n 0, 0, 0), (.getfield 9, 0, 0)] (pc' := 9) (lo' := [some (.ref 26), some (.int v1)]) (st' := [.int (gI σ 26 1), .int v1]) (σ' := σ) (by decide +kernel) rfl rfl ?_
    refine g_ic_ge hx (off := 21) (tgt := 30) (by decide +kernel) (by decide) (fun c9 => ?_) (fun c9 => ?_)
    · have h := ok_t h c9
      refine g_run hx [(.iconst (-1), (-1), 0)] (pc' := 31) (lo' := [some (.ref 26), some (.int v1)]) (st' := [.int (-1)]) (σ' := σ) (by decide +kernel) rfl rfl ?_
      exact g_iret hx hr rfl _ rfl (by decide +kernel) (ok_some h)
    · have h := ok_f h c9
      refine g_run hx [(.iload_n 1, 0, 0), (.aload_n 0, 0, 0), (.getfield 21, 0, 0), (.arraylength, 0, 0)] (pc' := 18) (lo' := [some (.ref 26), some (.int v1)]) (st' := [.int (nI 3), .int v1]) (σ' := σ) (by decide +kernel) rfl rfl ?_
      refine g_ic_ge hx (off := 12) (tgt := 30) (by decide +kernel) (by decide) (fun c18 => ?_) (fun c18 => ?_)
      · have h := ok_t h c18
        refine g_run hx [(.iconst (-1), (-1), 0)] (pc' := 31) (lo' := [some (.ref 26), some (.int v1)]) (st' := [.int (-1)]) (σ' := σ) (by decide +kernel) rfl rfl ?_
        exact g_iret hx hr rfl _ rfl (by decide +kernel) (ok_some h)
      · have h := ok_f h c18
        refine g_run hx [(.aload_n 0, 0, 0), (.getfield 21, 0, 0), (.iload_n 1, 0, 0)] (pc' := 26) (lo' := [some (.ref 26), some (.int v1)]) (st' := [.int v1, .ref 27]) (σ' := σ) (by decide +kernel) rfl rfl ?_
        obtain ⟨c26, h⟩ := ok_g h
        refine g_iald hx (by decide +kernel) (i := 27) (n := 3) rfl c26 ?_
        refine g_goto hx (off := 4) (tgt := 31) (by decide +kernel) (by decide) ?_
        exact g_iret hx hr rfl _ rfl (by decide +kernel) (ok_some h)
set_option maxRecDepth 100000 in
theorem s_country_target_25 {y : EX} {N : Nat} {v1 : Int64} {v3 : Int32} {v4 : Int32} {σ : Sg} {P : Int32 × Sg → Prop} (h : ok (f_country_target N 26 3 27 25 v1 v3 v4 σ) P) : Ev y M_country_target 1 [.ref 25, .long v1, .int v3, .int v4] σ rvI P := by
  refine Ev.of mk_country_target (Nat.le_of_ble_eq_true rfl) (fun x hx hc hr => ?_)
  have hx : Cx 1 prog_3_method_13_code x := hx
  have hc : Cc y 7 1 x := hc
  show G x 0 [some (.ref 25), some (.long v1), none, some (.int v3), some (.int v4), none, none] [] σ
  unfold f_country_target at h
  refine g_run hx [(.aload_n 0, 0, 0), (.getfield 36, 0, 0), (.iload 4, 0, 0), (.iconst 1, 1, 0), (.isub, 0, 0), (.iconst 2, 2, 0), (.idiv, 0, 0)] (pc' := 10) (lo' := [some (.ref 25), some (.long v1), none, some (.int v3), some (.int v4), none, none]) (st' := [.int ((v4 - 1) / 2), .ref 26]) (σ' := σ) (by decide +kernel) rfl rfl ?_
  refine g_callV (rest := []) [.int ((v4 - 1) / 2)] hx hc mk_numbers_at ln_1_81 rfl (by decide +kernel) (by decide) (Nat.le_of_ble_eq_true rfl) (s_numbers_at_26 (ok_b h)) (fun r1 s1 h => ?_)
  refine g_run hx [(.istore 5, 0, 0), (.iload 4, 0, 0), (.iconst 2, 2, 0), (.irem, 0, 0), (.iconst 1, 1, 0)] (pc' := 20) (lo' := [some (.ref 25), some (.long v1), none, some (.int v3), some (.int v4), some (.int r1), none]) (st' := [.int 1, .int (v4 - v4 / 2 * 2)]) (σ' := s1) (by decide +kernel) rfl rfl ?_
  refine g_ic_ne hx (off := 10) (tgt := 30) (by decide +kernel) (by decide) (fun c20 => ?_) (fun c20 => ?_)
  · have h := ok_f h c20
    refine g_run hx [(.iload_n 3, 0, 0), (.iload 5, 0, 0), (.isub, 0, 0), (.istore 6, 0, 0), (.iload 6, 0, 0)] (pc' := 38) (lo' := [some (.ref 25), some (.long v1), none, some (.int v3), some (.int v4), some (.int r1), some (.int (v3 - r1))]) (st' := [.int (v3 - r1)]) (σ' := s1) (by decide +kernel) rfl rfl ?_
    refine g_if_lt hx (off := 21) (tgt := 59) (by decide +kernel) (by decide) (fun c38 => ?_) (fun c38 => ?_)
    · have h := ok_t h c38
      refine g_run hx [(.bipush (-2), (-2), 0)] (pc' := 61) (lo' := [some (.ref 25), some (.long v1), none, some (.int v3), some (.int v4), some (.int r1), some (.int (v3 - r1))]) (st' := [.int (-2)]) (σ' := s1) (by decide +kernel) rfl rfl ?_
      refine g_goto hx (off := 5) (tgt := 66) (by decide +kernel) (by decide) ?_
      exact g_iret hx hr rfl _ rfl (by decide +kernel) (ok_some h)
    · have h := ok_f h c38
      refine g_run hx [(.iload 6, 0, 0), (.aload_n 0, 0, 0), (.getfield 9, 0, 0)] (pc' := 47) (lo' := [some (.ref 25), some (.long v1), none, some (.int v3), some (.int v4), some (.int r1), some (.int (v3 - r1))]) (st' := [.int (gI s1 25 0), .int (v3 - r1)]) (σ' := s1) (by decide +kernel) rfl rfl ?_
      refine g_ic_ge hx (off := 12) (tgt := 59) (by decide +kernel) (by decide) (fun c47 => ?_) (fun c47 => ?_)
      · have h := ok_t h c47
        refine g_run hx [(.bipush (-2), (-2), 0)] (pc' := 61) (lo' := [some (.ref 25), some (.long v1), none, some (.int v3), some (.int v4), some (.int r1), some (.int (v3 - r1))]) (st' := [.int (-2)]) (σ' := s1) (by decide +kernel) rfl rfl ?_
        refine g_goto hx (off := 5) (tgt := 66) (by decide +kernel) (by decide) ?_
        exact g_iret hx hr rfl _ rfl (by decide +kernel) (ok_some h)
      · have h := ok_f h c47
        refine g_run hx [(.lload_n 1, 0, 0), (.iload 6, 0, 0)] (pc' := 53) (lo' := [some (.ref 25), some (.long v1), none, some (.int v3), some (.int v4), some (.int r1), some (.int (v3 - r1))]) (st' := [.int (v3 - r1), .long v1]) (σ' := s1) (by decide +kernel) rfl rfl ?_
        refine g_callN (rest := []) [.long v1, .int (v3 - r1)] hx hc mk_x_bit ln_1_73 (by decide +kernel) (by decide) (Nat.le_of_ble_eq_true rfl) (s_x_bit (ok_b h)) (fun r2 s2 h => ?_)
        refine g_ifb_eq hx (off := 8) (tgt := 64) (by decide +kernel) (by decide) (fun c56 => ?_) (fun c56 => ?_)
        · have h := ok_f h c56
          refine g_run hx [(.iload 6, 0, 0)] (pc' := 66) (lo' := [some (.ref 25), some (.long v1), none, some (.int v3), some (.int v4), some (.int r1), some (.int (v3 - r1))]) (st' := [.int (v3 - r1)]) (σ' := s2) (by decide +kernel) rfl rfl ?_
          exact g_iret hx hr rfl _ rfl (by decide +kernel) (ok_some h)
        · have h := ok_t h c56
          refine g_run hx [(.bipush (-2), (-2), 0)] (pc' := 61) (lo' := [some (.ref 25), some (.long v1), none, some (.int v3), some (.int v4), some (.int r1), some (.int (v3 - r1))]) (st' := [.int (-2)]) (σ' := s2) (by decide +kernel) rfl rfl ?_
          refine g_goto hx (off := 5) (tgt := 66) (by decide +kernel) (by decide) ?_
          exact g_iret hx hr rfl _ rfl (by decide +kernel) (ok_some h)
  · have h := ok_t h c20
    refine g_run hx [(.iload_n 3, 0, 0), (.iload 5, 0, 0), (.iadd, 0, 0)] (pc' := 27) (lo' := [some (.ref 25), some (.long v1), none, some (.int v3), some (.int v4), some (.int r1), none]) (st' := [.int (v3 + r1)]) (σ' := s1) (by decide +kernel) rfl rfl ?_
    refine g_goto hx (off := 7) (tgt := 34) (by decide +kernel) (by decide) ?_
    refine g_run hx [(.istore 6, 0, 0), (.iload 6, 0, 0)] (pc' := 38) (lo' := [some (.ref 25), some (.long v1), none, some (.int v3), some (.int v4), some (.int r1), some (.int (v3 + r1))]) (st' := [.int (v3 + r1)]) (σ' := s1) (by decide +kernel) rfl rfl ?_
    refine g_if_lt hx (off := 21) (tgt := 59) (by decide +kernel) (by decide) (fun c38 => ?_) (fun c38 => ?_)
    · have h := ok_t h c38
      refine g_run hx [(.bipush (-2), (-2), 0)] (pc' := 61) (lo' := [some (.ref 25), some (.long v1), none, some (.int v3), some (.int v4), some (.int r1), some (.int (v3 + r1))]) (st' := [.int (-2)]) (σ' := s1) (by decide +kernel) rfl rfl ?_
      refine g_goto hx (off := 5) (tgt := 66) (by decide +kernel) (by decide) ?_
      exact g_iret hx hr rfl _ rfl (by decide +kernel) (ok_some h)
    · have h := ok_f h c38
      refine g_run hx [(.iload 6, 0, 0), (.aload_n 0, 0, 0), (.getfield 9, 0, 0)] (pc' := 47) (lo' := [some (.ref 25), some (.long v1), none, some (.int v3), some (.int v4), some (.int r1), some (.int (v3 + r1))]) (st' := [.int (gI s1 25 0), .int (v3 + r1)]) (σ' := s1) (by decide +kernel) rfl rfl ?_
      refine g_ic_ge hx (off := 12) (tgt := 59) (by decide +kernel) (by decide) (fun c47 => ?_) (fun c47 => ?_)
      · have h := ok_t h c47
        refine g_run hx [(.bipush (-2), (-2), 0)] (pc' := 61) (lo' := [some (.ref 25), some (.long v1), none, some (.int v3), some (.int v4), some (.int r1), some (.int (v3 + r1))]) (st' := [.int (-2)]) (σ' := s1) (by decide +kernel) rfl rfl ?_
        refine g_goto hx (off := 5) (tgt := 66) (by decide +kernel) (by decide) ?_
        exact g_iret hx hr rfl _ rfl (by decide +kernel) (ok_some h)
      · have h := ok_f h c47
        refine g_run hx [(.lload_n 1, 0, 0), (.iload 6, 0, 0)] (pc' := 53) (lo' := [some (.ref 25), some (.long v1), none, some (.int v3), some (.int v4), some (.int r1), some (.int (v3 + r1))]) (st' := [.int (v3 + r1), .long v1]) (σ' := s1) (by decide +kernel) rfl rfl ?_
        refine g_callN (rest := []) [.long v1, .int (v3 + r1)] hx hc mk_x_bit ln_1_73 (by decide +kernel) (by decide) (Nat.le_of_ble_eq_true rfl) (s_x_bit (ok_b h)) (fun r3 s3 h => ?_)
        refine g_ifb_eq hx (off := 8) (tgt := 64) (by decide +kernel) (by decide) (fun c56 => ?_) (fun c56 => ?_)
        · have h := ok_f h c56
          refine g_run hx [(.iload 6, 0, 0)] (pc' := 66) (lo' := [some (.ref 25), some (.long v1), none, some (.int v3), some (.int v4), some (.int r1), some (.int (v3 + r1))]) (st' := [.int (v3 + r1)]) (σ' := s3) (by decide +kernel) rfl rfl ?_
          exact g_iret hx hr rfl _ rfl (by decide +kernel) (ok_some h)
        · have h := ok_t h c56
          refine g_run hx [(.bipush (-2), (-2), 0)] (pc' := 61) (lo' := [some (.ref 25), some (.long v1), none, some (.int v3), some (.int v4), some (.int r1), some (.int (v3 + r1))]) (st' := [.int (-2)]) (σ' := s3) (by decide +kernel) rfl rfl ?_
          refine g_goto hx (off := 5) (tgt := 66) (by decide +kernel) (by decide) ?_
          exact g_iret hx hr rfl _ rfl (by decide +kernel) (ok_some h)
set_option maxRecDepth 100000 in
theorem s_numbers_add_32 {y : EX} {N : Nat} {v1 : Int32} {σ : Sg} {P : Unit × Sg → Prop} (h : ok (f_numbers_add N 32 8 33 v1 σ) P) : Ev y M_numbers_add 0 [.ref 32, .int v1] σ rvN P := by
  refine Ev.of mk_numbers_add (Nat.le_of_ble_eq_true rfl) (fun x hx hc hr => ?_)
  have hx : Cx 3 prog_5_method_2_code x := hx
  have hc : Cc y 2 0 x := hc
  show G x 0 [some (.ref 32), some (.int v1)] [] σ
  unfold f_numbers_add at h
  refine g_run hx [(.aload_n 0, 0, 0), (.getfield 9, 0, 0)] (pc' := 4) (lo' := [some (.ref 32), some (.int v1)]) (st' := [.int (gI σ 32 1)]) (σ' := σ) (by decide +kernel) rfl rfl ?_
  refine g_if_lt hx (off := 35) (tgt := 39) (by decide +kernel) (by decide) (fun c4 => ?_) (fun c4 => ?_)
  · have h := ok_t h c4
    exact g_vret hx hr rfl () rfl (by decide +kernel) (ok_some h)
  · have h := ok_f h c4
    refine g_run hx [(.aload_n 0, 0, 0), (.getfield 9, 0, 0), (.aload_n 0, 0, 0), (.getfield 21, 0, 0), (.arraylength, 0, 0)] (pc' := 16) (lo' := [some (.ref 32), some (.int v1)]) (st' := [.int (nI 8), .int (gI σ 32 1)]) (σ' := σ) (by decide +kernel) rfl rfl ?_
    refine g_ic_ge hx (off := 23) (tgt := 39) (by decide +kernel) (by decide) (fun c16 => ?_) (fun c16 => ?_)
    · have h := ok_t h c16
      exact g_vret hx hr rfl () rfl (by decide +kernel) (ok_some h)
    · have h := ok_f h c16
      refine g_run hx [(.aload_n 0, 0, 0), (.getfield 21, 0, 0), (.aload_n 0, 0, 0), (.getfield 9, 0, 0), (.iload_n 1, 0, 0)] (pc' := 28) (lo' := [some (.ref 32), some (.int v1)]) (st' := [.int v1, .int (gI σ 32 1), .ref 33]) (σ' := σ) (by decide +kernel) rfl rfl ?_
      obtain ⟨c28, h⟩ := ok_g h
      refine g_iast hx (by decide +kernel) (i := 33) (n := 8) rfl c28 ?_
      refine g_run hx [(.aload_n 0, 0, 0), (.dup, 0, 0), (.getfield 9, 0, 0), (.iconst 1, 1, 0), (.iadd, 0, 0), (.putfield 9, 0, 0)] (pc' := 39) (lo' := [some (.ref 32), some (.int v1)]) (st' := []) (σ' := sI (sA σ 33 (gI σ 32 1) v1) 32 1 ((gI (sA σ 33 (gI σ 32 1) v1) 32 1) + 1)) (by decide +kernel) rfl rfl ?_
      exact g_vret hx hr rfl () rfl (by decide +kernel) (ok_some h)
def f_reader_readStride (N : Nat) (σ : Sg) : Option (Bool × Sg) :=
  (f_reader_nextToken N σ).bind fun q1 =>
  (f_reader_sortHere N q1.2).bind fun q2 =>
  if q2.1 = (-1) then
    (f_reader_nameHere N q2.2).bind fun q3 =>
    (f_numbers_at N 8 9 9 q3.1 q3.2).bind fun q4 =>
    if q4.1 = (-1) then
      (f_reader_fail N 2 q4.2).bind fun q19 =>
      some (q19.1, q19.2)
    else
      (f_reader_nextToken N q4.2).bind fun q5 =>
      (f_reader_isWord N 16 q5.2).bind fun q6 =>
      if q6.1 = true then
        (f_x_digitFor N q4.1 0 q6.2).bind fun q14 =>
        (f_country_target N 26 3 27 25 (gL q14.2 25 14) (gI q14.2 25 13) q14.1 q14.2).bind fun q15 =>
        if q15.1 = (-2) then
          (f_reader_fail N 7 q15.2).bind fun q18 =>
          some (q18.1, q18.2)
        else
          (f_x_inside N (gI q15.2 25 13) q15.1 q15.2).bind fun q16 =>
          (f_numbers_add N 32 8 33 q14.1 (sI (sL q16.2 25 14 ((gL q15.2 25 14) ||| q16.1)) 25 13 q15.1)).bind fun q17 =>
          some (true, q17.2)
      else
        (f_reader_isWord N 17 q6.2).bind fun q7 =>
        if q7.1 = true then
          (f_x_digitFor N q4.1 1 q7.2).bind fun q9 =>
          (f_country_target N 26 3 27 25 (gL q9.2 25 14) (gI q9.2 25 13) q9.1 q9.2).bind fun q10 =>
          if q10.1 = (-2) then
            (f_reader_fail N 7 q10.2).bind fun q13 =>
            some (q13.1, q13.2)
          else
            (f_x_inside N (gI q10.2 25 13) q10.1 q10.2).bind fun q11 =>
            (f_numbers_add N 32 8 33 q9.1 (sI (sL q11.2 25 14 ((gL q10.2 25 14) ||| q11.1)) 25 13 q10.1)).bind fun q12 =>
            some (true, q12.2)
        else
          (f_reader_fail N 1 q7.2).bind fun q8 =>
          some (q8.1, q8.2)
  else
    (f_reader_fail N 1 q2.2).bind fun q20 =>
    some (q20.1, q20.2)
set_option maxRecDepth 100000 in
theorem s_reader_readStride {y : EX} {N : Nat} {σ : Sg} {P : Bool × Sg → Prop} (h : ok (f_reader_readStride N σ) P) : Ev y M_reader_readStride 6 [.ref 1] σ rvB P := by
  refine Ev.of mk_reader_readStride (Nat.le_of_ble_eq_true rfl) (fun x hx hc hr => ?_)
  have hx : Cx 5 prog_7_method_12_code x := hx
  have hc : Cc y 5 6 x := hc
  show G x 0 [some (.ref 1), none, none, none, none] [] σ
  unfold f_reader_readStride at h
  refine g_run hx [(.aload_n 0, 0, 0)] (pc' := 1) (lo' := [some (.ref 1), none, none, none, none]) (st' := [.ref 1]) (σ' := σ) (by decide +kernel) rfl rfl ?_
  refine g_callV (rest := []) [] hx hc mk_reader_nextToken ln_5_69 rfl (by decide +kernel) (by decide) (Nat.le_of_ble_eq_true rfl) (s_reader_nextToken (ok_b h)) (fun r1 s1 h => ?_)
  refine g_run hx [(.aload_n 0, 0, 0)] (pc' := 5) (lo' := [some (.ref 1), none, none, none, none]) (st' := [.ref 1]) (σ' := s1) (by decide +kernel) rfl rfl ?_
  refine g_callV (rest := []) [] hx hc mk_reader_sortHere ln_5_98 rfl (by decide +kernel) (by decide) (Nat.le_of_ble_eq_true rfl) (s_reader_sortHere (ok_b h)) (fun r2 s2 h => ?_)
  refine g_run hx [(.iconst (-1), (-1), 0)] (pc' := 9) (lo' := [some (.ref 1), none, none, none, none]) (st' := [.int (-1), .int r2]) (σ' := s2) (by decide +kernel) rfl rfl ?_
  refine g_ic_eq hx (off := 9) (tgt := 18) (by decide +kernel) (by decide) (fun c9 => ?_) (fun c9 => ?_)
  · have h := ok_t h c9
    refine g_run hx [(.aload_n 0, 0, 0), (.getfield 57, 0, 0), (.aload_n 0, 0, 0)] (pc' := 23) (lo' := [some (.ref 1), none, none, none, none]) (st' := [.ref 1, .ref 8]) (σ' := s2) (by decide +kernel) rfl rfl ?_
    refine g_callV (rest := [.ref 8]) [] hx hc mk_reader_nameHere ln_5_197 rfl (by decide +kernel) (by decide) (Nat.le_of_ble_eq_true rfl) (s_reader_nameHere (ok_b h)) (fun r3 s3 h => ?_)
    refine g_callV (rest := []) [.int r3] hx hc mk_numbers_at ln_5_200 rfl (by decide +kernel) (by decide) (Nat.le_of_ble_eq_true rfl) (s_numbers_at_8 (ok_b h)) (fun r4 s4 h => ?_)
    refine g_run hx [(.istore_n 1, 0, 0), (.iload_n 1, 0, 0), (.iconst (-1), (-1), 0)] (pc' := 32) (lo' := [some (.ref 1), some (.int r4), none, none, none]) (st' := [.int (-1), .int r4]) (σ' := s4) (by decide +kernel) rfl rfl ?_
    refine g_ic_ne hx (off := 9) (tgt := 41) (by decide +kernel) (by decide) (fun c32 => ?_) (fun c32 => ?_)
    · have h := ok_f h c32
      refine g_run hx [(.aload_n 0, 0, 0)] (pc' := 42) (lo' := [some (.ref 1), some (.int r4), none, none, none]) (st' := [.ref 1]) (σ' := s4) (by decide +kernel) rfl rfl ?_
      refine g_callV (rest := []) [] hx hc mk_reader_nextToken ln_5_69 rfl (by decide +kernel) (by decide) (Nat.le_of_ble_eq_true rfl) (s_reader_nextToken (ok_b h)) (fun r5 s5 h => ?_)
      refine g_run hx [(.aload_n 0, 0, 0)] (pc' := 46) (lo' := [some (.ref 1), some (.int r4), none, none, none]) (st' := [.ref 1]) (σ' := s5) (by decide +kernel) rfl rfl ?_
      refine g_ldcS (idx := 202) (sid := 16) hx hc (by decide) (by decide +kernel) ?_
      refine g_callV (rest := []) [.ref (100 + 16)] hx hc mk_reader_isWord ln_5_163 rfl (by decide +kernel) (by decide) (Nat.le_of_ble_eq_true rfl) (s_reader_isWord (by decide) (ok_b h)) (fun r6 s6 h => ?_)
      refine g_ifb_eq hx (off := 7) (tgt := 58) (by decide +kernel) (by decide) (fun c51 => ?_) (fun c51 => ?_)
      · have h := ok_f h c51
        refine g_run hx [(.aload_n 0, 0, 0)] (pc' := 59) (lo' := [some (.ref 1), some (.int r4), none, none, none]) (st' := [.ref 1]) (σ' := s6) (by decide +kernel) rfl rfl ?_
        refine g_ldcS (idx := 204) (sid := 17) hx hc (by decide) (by decide +kernel) ?_
        refine g_callV (rest := []) [.ref (100 + 17)] hx hc mk_reader_isWord ln_5_163 rfl (by decide +kernel) (by decide) (Nat.le_of_ble_eq_true rfl) (s_reader_isWord (by decide) (ok_b h)) (fun r7 s7 h => ?_)
        refine g_ifb_eq hx (off := 7) (tgt := 71) (by decide +kernel) (by decide) (fun c64 => ?_) (fun c64 => ?_)
        · have h := ok_f h c64
          refine g_run hx [(.bipush (-2), (-2), 0), (.istore_n 2, 0, 0), (.iload_n 2, 0, 0), (.bipush (-2), (-2), 0)] (pc' := 77) (lo' := [some (.ref 1), some (.int r4), some (.int (-2)), none, none]) (st' := [.int (-2), .int (-2)]) (σ' := s7) (by decide +kernel) rfl rfl ?_
          refine g_ic_ne hx (off := 9) (tgt := 86) (by decide +kernel) (by decide) (fun c => absurd c (by decide)) (fun _ => ?_)
          refine g_run hx [(.aload_n 0, 0, 0), (.iconst 1, 1, 0)] (pc' := 82) (lo' := [some (.ref 1), some (.int r4), some (.int (-2)), none, none]) (st' := [.int 1, .ref 1]) (σ' := s7) (by decide +kernel) rfl rfl ?_
          refine g_callV (rest := []) [.int 1] hx hc mk_reader_fail ln_5_91 rfl (by decide +kernel) (by decide) (Nat.le_of_ble_eq_true rfl) (s_reader_fail (ok_b h)) (fun r8 s8 h => ?_)
          exact g_zret hx hr rfl _ rfl (by decide +kernel) (ok_some h)
        · have h := ok_t h c64
          refine g_run hx [(.iconst 1, 1, 0)] (pc' := 68) (lo' := [some (.ref 1), some (.int r4), none, none, none]) (st' := [.int 1]) (σ' := s7) (by decide +kernel) rfl rfl ?_
          refine g_goto hx (off := 5) (tgt := 73) (by decide +kernel) (by decide) ?_
          refine g_run hx [(.istore_n 2, 0, 0), (.iload_n 2, 0, 0), (.bipush (-2), (-2), 0)] (pc' := 77) (lo' := [some (.ref 1), some (.int r4), some (.int 1), none, none]) (st' := [.int (-2), .int 1]) (σ' := s7) (by decide +kernel) rfl rfl ?_
          refine g_ic_ne hx (off := 9) (tgt := 86) (by decide +kernel) (by decide) (fun _ => ?_) (fun c => absurd c (by decide))
          refine g_run hx [(.iload_n 1, 0, 0), (.iload_n 2, 0, 0)] (pc' := 88) (lo' := [some (.ref 1), some (.int r4), some (.int 1), none, none]) (st' := [.int 1, .int r4]) (σ' := s7) (by decide +kernel) rfl rfl ?_
          refine g_callN (rest := []) [.int r4, .int 1] hx hc mk_x_digitFor ln_5_206 (by decide +kernel) (by decide) (Nat.le_of_ble_eq_true rfl) (s_x_digitFor (ok_b h)) (fun r9 s9 h => ?_)
          refine g_run hx [(.istore_n 3, 0, 0), (.aload_n 0, 0, 0), (.getfield 37, 0, 0), (.aload_n 0, 0, 0), (.getfield 37, 0, 0), (.getfield 209, 0, 0), (.aload_n 0, 0, 0), (.getfield 37, 0, 0), (.getfield 149, 0, 0), (.iload_n 3, 0, 0)] (pc' := 111) (lo' := [some (.ref 1), some (.int r4), some (.int 1), some (.int r9), none]) (st' := [.int r9, .int (gI s9 25 13), .long (gL s9 25 14), .ref 25]) (σ' := s9) (by decide +kernel) rfl rfl ?_
          refine g_callV (rest := []) [.long (gL s9 25 14), .int (gI s9 25 13), .int r9] hx hc mk_country_target ln_5_213 rfl (by decide +kernel) (by decide) (Nat.le_of_ble_eq_true rfl) (s_country_target_25 (ok_b h)) (fun r10 s10 h => ?_)
          refine g_run hx [(.istore 4, 0, 0), (.iload 4, 0, 0), (.bipush (-2), (-2), 0)] (pc' := 120) (lo' := [some (.ref 1), some (.int r4), some (.int 1), some (.int r9), some (.int r10)]) (st' := [.int (-2), .int r10]) (σ' := s10) (by decide +kernel) rfl rfl ?_
          refine g_ic_ne hx (off := 10) (tgt := 130) (by decide +kernel) (by decide) (fun c120 => ?_) (fun c120 => ?_)
          · have h := ok_f h c120
            refine g_run hx [(.aload_n 0, 0, 0), (.getfield 37, 0, 0), (.dup, 0, 0), (.getfield 209, 0, 0), (.aload_n 0, 0, 0), (.getfield 37, 0, 0), (.getfield 149, 0, 0), (.iload 4, 0, 0)] (pc' := 147) (lo' := [some (.ref 1), some (.int r4), some (.int 1), some (.int r9), some (.int r10)]) (st' := [.int r10, .int (gI s10 25 13), .long (gL s10 25 14), .ref 25]) (σ' := s10) (by decide +kernel) rfl rfl ?_
            refine g_callN (rest := [.long (gL s10 25 14), .ref 25]) [.int (gI s10 25 13), .int r10] hx hc mk_x_inside ln_5_217 (by decide +kernel) (by decide) (Nat.le_of_ble_eq_true rfl) (s_x_inside (ok_b h)) (fun r11 s11 h => ?_)
            refine g_run hx [(.lor, 0, 0), (.putfield 209, 0, 0), (.aload_n 0, 0, 0), (.getfield 37, 0, 0), (.iload 4, 0, 0), (.putfield 149, 0, 0), (.aload_n 0, 0, 0), (.getfield 37, 0, 0), (.getfield 220, 0, 0), (.iload_n 3, 0, 0)] (pc' := 171) (lo' := [some (.ref 1), some (.int r4), some (.int 1), some (.int r9), some (.int r10)]) (st' := [.int r9, .ref 32]) (σ' := sI (sL s11 25 14 ((gL s10 25 14) ||| r11)) 25 13 r10) (by decide +kernel) rfl rfl ?_
            refine g_callV (rest := []) [.int r9] hx hc mk_numbers_add ln_5_181 rfl (by decide +kernel) (by decide) (Nat.le_of_ble_eq_true rfl) (s_numbers_add_32 (ok_b h)) (fun r12 s12 h => ?_)
            refine g_run hx [(.iconst 1, 1, 0)] (pc' := 175) (lo' := [some (.ref 1), some (.int r4), some (.int 1), some (.int r9), some (.int r10)]) (st' := [.int 1]) (σ' := s12) (by decide +kernel) rfl rfl ?_
            exact g_zret (b := true) hx hr rfl true rfl (by decide +kernel) (ok_some h)
          · have h := ok_t h c120
            refine g_run hx [(.aload_n 0, 0, 0), (.bipush 7, 7, 0)] (pc' := 126) (lo' := [some (.ref 1), some (.int r4), some (.int 1), some (.int r9), some (.int r10)]) (st' := [.int 7, .ref 1]) (σ' := s10) (by decide +kernel) rfl rfl ?_
            refine g_callV (rest := []) [.int 7] hx hc mk_reader_fail ln_5_91 rfl (by decide +kernel) (by decide) (Nat.le_of_ble_eq_true rfl) (s_reader_fail (ok_b h)) (fun r13 s13 h => ?_)
            exact g_zret hx hr rfl _ rfl (by decide +kernel) (ok_some h)
      · have h := ok_t h c51
        refine g_run hx [(.iconst 0, 0, 0)] (pc' := 55) (lo' := [some (.ref 1), some (.int r4), none, none, none]) (st' := [.int 0]) (σ' := s6) (by decide +kernel) rfl rfl ?_
        refine g_goto hx (off := 18) (tgt := 73) (by decide +kernel) (by decide) ?_
        refine g_run hx [(.istore_n 2, 0, 0), (.iload_n 2, 0, 0), (.bipush (-2), (-2), 0)] (pc' := 77) (lo' := [some (.ref 1), some (.int r4), some (.int 0), none, none]) (st' := [.int (-2), .int 0]) (σ' := s6) (by decide +kernel) rfl rfl ?_
        refine g_ic_ne hx (off := 9) (tgt := 86) (by decide +kernel) (by decide) (fun _ => ?_) (fun c => absurd c (by decide))
        refine g_run hx [(.iload_n 1, 0, 0), (.iload_n 2, 0, 0)] (pc' := 88) (lo' := [some (.ref 1), some (.int r4), some (.int 0), none, none]) (st' := [.int 0, .int r4]) (σ' := s6) (by decide +kernel) rfl rfl ?_
        refine g_callN (rest := []) [.int r4, .int 0] hx hc mk_x_digitFor ln_5_206 (by decide +kernel) (by decide) (Nat.le_of_ble_eq_true rfl) (s_x_digitFor (ok_b h)) (fun r14 s14 h => ?_)
        refine g_run hx [(.istore_n 3, 0, 0), (.aload_n 0, 0, 0), (.getfield 37, 0, 0), (.aload_n 0, 0, 0), (.getfield 37, 0, 0), (.getfield 209, 0, 0), (.aload_n 0, 0, 0), (.getfield 37, 0, 0), (.getfield 149, 0, 0), (.iload_n 3, 0, 0)] (pc' := 111) (lo' := [some (.ref 1), some (.int r4), some (.int 0), some (.int r14), none]) (st' := [.int r14, .int (gI s14 25 13), .long (gL s14 25 14), .ref 25]) (σ' := s14) (by decide +kernel) rfl rfl ?_
        refine g_callV (rest := []) [.long (gL s14 25 14), .int (gI s14 25 13), .int r14] hx hc mk_country_target ln_5_213 rfl (by decide +kernel) (by decide) (Nat.le_of_ble_eq_true rfl) (s_country_target_25 (ok_b h)) (fun r15 s15 h => ?_)
        refine g_run hx [(.istore 4, 0, 0), (.iload 4, 0, 0), (.bipush (-2), (-2), 0)] (pc' := 120) (lo' := [some (.ref 1), some (.int r4), some (.int 0), some (.int r14), some (.int r15)]) (st' := [.int (-2), .int r15]) (σ' := s15) (by decide +kernel) rfl rfl ?_
        refine g_ic_ne hx (off := 10) (tgt := 130) (by decide +kernel) (by decide) (fun c120 => ?_) (fun c120 => ?_)
        · have h := ok_f h c120
          refine g_run hx [(.aload_n 0, 0, 0), (.getfield 37, 0, 0), (.dup, 0, 0), (.getfield 209, 0, 0), (.aload_n 0, 0, 0), (.getfield 37, 0, 0), (.getfield 149, 0, 0), (.iload 4, 0, 0)] (pc' := 147) (lo' := [some (.ref 1), some (.int r4), some (.int 0), some (.int r14), some (.int r15)]) (st' := [.int r15, .int (gI s15 25 13), .long (gL s15 25 14), .ref 25]) (σ' := s15) (by decide +kernel) rfl rfl ?_
          refine g_callN (rest := [.long (gL s15 25 14), .ref 25]) [.int (gI s15 25 13), .int r15] hx hc mk_x_inside ln_5_217 (by decide +kernel) (by decide) (Nat.le_of_ble_eq_true rfl) (s_x_inside (ok_b h)) (fun r16 s16 h => ?_)
          refine g_run hx [(.lor, 0, 0), (.putfield 209, 0, 0), (.aload_n 0, 0, 0), (.getfield 37, 0, 0), (.iload 4, 0, 0), (.putfield 149, 0, 0), (.aload_n 0, 0, 0), (.getfield 37, 0, 0), (.getfield 220, 0, 0), (.iload_n 3, 0, 0)] (pc' := 171) (lo' := [some (.ref 1), some (.int r4), some (.int 0), some (.int r14), some (.int r15)]) (st' := [.int r14, .ref 32]) (σ' := sI (sL s16 25 14 ((gL s15 25 14) ||| r16)) 25 13 r15) (by decide +kernel) rfl rfl ?_
          refine g_callV (rest := []) [.int r14] hx hc mk_numbers_add ln_5_181 rfl (by decide +kernel) (by decide) (Nat.le_of_ble_eq_true rfl) (s_numbers_add_32 (ok_b h)) (fun r17 s17 h => ?_)
          refine g_run hx [(.iconst 1, 1, 0)] (pc' := 175) (lo' := [some (.ref 1), some (.int r4), some (.int 0), some (.int r14), some (.int r15)]) (st' := [.int 1]) (σ' := s17) (by decide +kernel) rfl rfl ?_
          exact g_zret (b := true) hx hr rfl true rfl (by decide +kernel) (ok_some h)
        · have h := ok_t h c120
          refine g_run hx [(.aload_n 0, 0, 0), (.bipush 7, 7, 0)] (pc' := 126) (lo' := [some (.ref 1), some (.int r4), some (.int 0), some (.int r14), some (.int r15)]) (st' := [.int 7, .ref 1]) (σ' := s15) (by decide +kernel) rfl rfl ?_
          refine g_callV (rest := []) [.int 7] hx hc mk_reader_fail ln_5_91 rfl (by decide +kernel) (by decide) (Nat.le_of_ble_eq_true rfl) (s_reader_fail (ok_b h)) (fun r18 s18 h => ?_)
          exact g_zret hx hr rfl _ rfl (by decide +kernel) (ok_some h)
    · have h := ok_t h c32
      refine g_run hx [(.aload_n 0, 0, 0), (.iconst 2, 2, 0)] (pc' := 37) (lo' := [some (.ref 1), some (.int r4), none, none, none]) (st' := [.int 2, .ref 1]) (σ' := s4) (by decide +kernel) rfl rfl ?_
      refine g_callV (rest := []) [.int 2] hx hc mk_reader_fail ln_5_91 rfl (by decide +kernel) (by decide) (Nat.le_of_ble_eq_true rfl) (s_reader_fail (ok_b h)) (fun r19 s19 h => ?_)
      exact g_zret hx hr rfl _ rfl (by decide +kernel) (ok_some h)
  · have h := ok_f h c9
    refine g_run hx [(.aload_n 0, 0, 0), (.iconst 1, 1, 0)] (pc' := 14) (lo' := [some (.ref 1), none, none, none, none]) (st' := [.int 1, .ref 1]) (σ' := s2) (by decide +kernel) rfl rfl ?_
    refine g_callV (rest := []) [.int 1] hx hc mk_reader_fail ln_5_91 rfl (by decide +kernel) (by decide) (Nat.le_of_ble_eq_true rfl) (s_reader_fail (ok_b h)) (fun r20 s20 h => ?_)
    exact g_zret hx hr rfl _ rfl (by decide +kernel) (ok_some h)
set_option maxRecDepth 100000 in
theorem s_numbers_at_34 {y : EX} {N : Nat} {v1 : Int32} {σ : Sg} {P : Int32 × Sg → Prop} (h : ok (f_numbers_at N 34 4 35 v1 σ) P) : Ev y M_numbers_at 0 [.ref 34, .int v1] σ rvI P := by
  refine Ev.of mk_numbers_at (Nat.le_of_ble_eq_true rfl) (fun x hx hc hr => ?_)
  have hx : Cx 3 prog_5_method_3_code x := hx
  have hc : Cc y 2 0 x := hc
  show G x 0 [some (.ref 34), some (.int v1)] [] σ
  unfold f_numbers_at at h
  refine g_run hx [(.iload_n 1, 0, 0)] (pc' := 1) (lo' := [some (.ref 34), some (.int v1)]) (st' := [.int v1]) (σ' := σ) (by decide +kernel) rfl rfl ?_
  refine g_if_lt hx (off := 29) (tgt := 30) (by decide +kernel) (by decide) (fun c1 => ?_) (fun c1 => ?_)
  · have h := ok_t h c1
    refine g_run hx [(.iconst (-1), (-1), 0)] (pc' := 31) (lo' := [some (.ref 34), some (.int v1)]) (st' := [.int (-1)]) (σ' := σ) (by decide +kernel) rfl rfl ?_
    exact g_iret hx hr rfl _ rfl (by decide +kernel) (ok_some h)
  · have h := ok_f h c1
    refine g_run hx [(.iload_n 1, 0, 0), (.aload_n 0, 0, 0), (.getfield 9, 0, 0)] (pc' := 9) (lo' := [some (.ref 34), some (.int v1)]) (st' := [.int (gI σ 34 1), .int v1]) (σ' := σ) (by decide +kernel) rfl rfl ?_
    refine g_ic_ge hx (off := 21) (tgt := 30) (by decide +kernel) (by decide) (fun c9 => ?_) (fun c9 => ?_)
    · have h := ok_t h c9
      refine g_run hx [(.iconst (-1), (-1), 0)] (pc' := 31) (lo' := [some (.ref 34), some (.int v1)]) (st' := [.int (-1)]) (σ' := σ) (by decide +kernel) rfl rfl ?_
      exact g_iret hx hr rfl _ rfl (by decide +kernel) (ok_some h)
    · have h := ok_f h c9
      refine g_run hx [(.iload_n 1, 0, 0), (.aload_n 0, 0, 0), (.getfield 21, 0, 0), (.arraylength, 0, 0)] (pc' := 18) (lo' := [some (.ref 34), some (.int v1)]) (st' := [.int (nI 4), .int v1]) (σ' := σ) (by decide +kernel) rfl rfl ?_
      refine g_ic_ge hx (off := 12) (tgt := 30) (by decide +kernel) (by decide) (fun c18 => ?_) (fun c18 => ?_)
      · have h := ok_t h c18
        refine g_run hx [(.iconst (-1), (-1), 0)] (pc' := 31) (lo' := [some (.ref 34), some (.int v1)]) (st' := [.int (-1)]) (σ' := σ) (by decide +kernel) rfl rfl ?_
        exact g_iret hx hr rfl _ rfl (by decide +kernel) (ok_some h)
      · have h := ok_f h c18
        refine g_run hx [(.aload_n 0, 0, 0), (.getfield 21, 0, 0), (.iload_n 1, 0, 0)] (pc' := 26) (lo' := [some (.ref 34), some (.int v1)]) (st' := [.int v1, .ref 35]) (σ' := σ) (by decide +kernel) rfl rfl ?_
        obtain ⟨c26, h⟩ := ok_g h
        refine g_iald hx (by decide +kernel) (i := 35) (n := 4) rfl c26 ?_
        refine g_goto hx (off := 4) (tgt := 31) (by decide +kernel) (by decide) ?_
        exact g_iret hx hr rfl _ rfl (by decide +kernel) (ok_some h)
set_option maxRecDepth 100000 in
theorem s_numbers_indexOf_34_L2 {y : EX} {N : Nat} {x : CX} {P : Int32 × Sg → Prop} (hx : Cx 3 prog_5_method_4_code x) (hc : Cc y 3 1 x) (hr : Cr M_numbers_indexOf rvI P x) : ∀ (n : Nat) (v1 : Int32) (v2 : Int32) (σ : Sg), ok (f_numbers_indexOf_L2 N 34 4 35 n v1 v2 σ) P → G x 2 [some (.ref 34), some (.int v1), some (.int v2)] [] σ := by
  intro n
  induction n with
  | zero => intro v1 v2 σ h; exact ok_none h
  | succ n ih =>
    intro v1 v2 σ h
    rw [f_numbers_indexOf_L2] at h
    refine g_run hx [(.iload_n 2, 0, 0), (.aload_n 0, 0, 0), (.getfield 9, 0, 0)] (pc' := 7) (lo' := [some (.ref 34), some (.int v1), some (.int v2)]) (st' := [.int (gI σ 34 1), .int v2]) (σ' := σ) (by decide +kernel) rfl rfl ?_
    refine g_ic_ge hx (off := 20) (tgt := 27) (by decide +kernel) (by decide) (fun c7 => ?_) (fun c7 => ?_)
    · have h := ok_t h c7
      refine g_run hx [(.bipush (-2), (-2), 0)] (pc' := 29) (lo' := [some (.ref 34), some (.int v1), some (.int v2)]) (st' := [.int (-2)]) (σ' := σ) (by decide +kernel) rfl rfl ?_
      exact g_iret hx hr rfl _ rfl (by decide +kernel) (ok_some h)
    · have h := ok_f h c7
      refine g_run hx [(.aload_n 0, 0, 0), (.iload_n 2, 0, 0)] (pc' := 12) (lo' := [some (.ref 34), some (.int v1), some (.int v2)]) (st' := [.int v2, .ref 34]) (σ' := σ) (by decide +kernel) rfl rfl ?_
      refine g_callV (rest := []) [.int v2] hx hc mk_numbers_at ln_3_25 rfl (by decide +kernel) (by decide) (Nat.le_of_ble_eq_true rfl) (s_numbers_at_34 (ok_b h)) (fun r1 s1 h => ?_)
      refine g_run hx [(.iload_n 1, 0, 0)] (pc' := 16) (lo' := [some (.ref 34), some (.int v1), some (.int v2)]) (st' := [.int v1, .int r1]) (σ' := s1) (by decide +kernel) rfl rfl ?_
      refine g_ic_ne hx (off := 5) (tgt := 21) (by decide +kernel) (by decide) (fun c16 => ?_) (fun c16 => ?_)
      · have h := ok_f h c16
        refine g_run hx [(.iinc 2 1, 1, 0)] (pc' := 24) (lo' := [some (.ref 34), some (.int v1), some (.int (v2 + 1))]) (st' := []) (σ' := s1) (by decide +kernel) rfl rfl ?_
        refine g_goto hx (off := (-22)) (tgt := 2) (by decide +kernel) (by decide) ?_
        exact ih _ _ _ h
      · have h := ok_t h c16
        refine g_run hx [(.iload_n 2, 0, 0)] (pc' := 20) (lo' := [some (.ref 34), some (.int v1), some (.int v2)]) (st' := [.int v2]) (σ' := s1) (by decide +kernel) rfl rfl ?_
        exact g_iret hx hr rfl _ rfl (by decide +kernel) (ok_some h)
set_option maxRecDepth 100000 in
theorem s_numbers_indexOf_34 {y : EX} {N : Nat} {v1 : Int32} {σ : Sg} {P : Int32 × Sg → Prop} (h : ok (f_numbers_indexOf N 34 4 35 v1 σ) P) : Ev y M_numbers_indexOf 1 [.ref 34, .int v1] σ rvI P := by
  refine Ev.of mk_numbers_indexOf (Nat.le_of_ble_eq_true rfl) (fun x hx hc hr => ?_)
  have hx : Cx 3 prog_5_method_4_code x := hx
  have hc : Cc y 3 1 x := hc
  show G x 0 [some (.ref 34), some (.int v1), none] [] σ
  unfold f_numbers_indexOf at h
  refine g_run hx [(.iconst 0, 0, 0), (.istore_n 2, 0, 0)] (pc' := 2) (lo' := [some (.ref 34), some (.int v1), some (.int 0)]) (st' := []) (σ' := σ) (by decide +kernel) rfl rfl ?_
  refine s_numbers_indexOf_34_L2 hx hc hr N _ _ _ h
set_option maxRecDepth 100000 in
theorem s_numbers_add_34 {y : EX} {N : Nat} {v1 : Int32} {σ : Sg} {P : Unit × Sg → Prop} (h : ok (f_numbers_add N 34 4 35 v1 σ) P) : Ev y M_numbers_add 0 [.ref 34, .int v1] σ rvN P := by
  refine Ev.of mk_numbers_add (Nat.le_of_ble_eq_true rfl) (fun x hx hc hr => ?_)
  have hx : Cx 3 prog_5_method_2_code x := hx
  have hc : Cc y 2 0 x := hc
  show G x 0 [some (.ref 34), some (.int v1)] [] σ
  unfold f_numbers_add at h
  refine g_run hx [(.aload_n 0, 0, 0), (.getfield 9, 0, 0)] (pc' := 4) (lo' := [some (.ref 34), some (.int v1)]) (st' := [.int (gI σ 34 1)]) (σ' := σ) (by decide +kernel) rfl rfl ?_
  refine g_if_lt hx (off := 35) (tgt := 39) (by decide +kernel) (by decide) (fun c4 => ?_) (fun c4 => ?_)
  · have h := ok_t h c4
    exact g_vret hx hr rfl () rfl (by decide +kernel) (ok_some h)
  · have h := ok_f h c4
    refine g_run hx [(.aload_n 0, 0, 0), (.getfield 9, 0, 0), (.aload_n 0, 0, 0), (.getfield 21, 0, 0), (.arraylength, 0, 0)] (pc' := 16) (lo' := [some (.ref 34), some (.int v1)]) (st' := [.int (nI 4), .int (gI σ 34 1)]) (σ' := σ) (by decide +kernel) rfl rfl ?_
    refine g_ic_ge hx (off := 23) (tgt := 39) (by decide +kernel) (by decide) (fun c16 => ?_) (fun c16 => ?_)
    · have h := ok_t h c16
      exact g_vret hx hr rfl () rfl (by decide +kernel) (ok_some h)
    · have h := ok_f h c16
      refine g_run hx [(.aload_n 0, 0, 0), (.getfield 21, 0, 0), (.aload_n 0, 0, 0), (.getfield 9, 0, 0), (.iload_n 1, 0, 0)] (pc' := 28) (lo' := [some (.ref 34), some (.int v1)]) (st' := [.int v1, .int (gI σ 34 1), .ref 35]) (σ' := σ) (by decide +kernel) rfl rfl ?_
      obtain ⟨c28, h⟩ := ok_g h
      refine g_iast hx (by decide +kernel) (i := 35) (n := 4) rfl c28 ?_
      refine g_run hx [(.aload_n 0, 0, 0), (.dup, 0, 0), (.getfield 9, 0, 0), (.iconst 1, 1, 0), (.iadd, 0, 0), (.putfield 9, 0, 0)] (pc' := 39) (lo' := [some (.ref 34), some (.int v1)]) (st' := []) (σ' := sI (sA σ 35 (gI σ 34 1) v1) 34 1 ((gI (sA σ 35 (gI σ 34 1) v1) 34 1) + 1)) (by decide +kernel) rfl rfl ?_
      exact g_vret hx hr rfl () rfl (by decide +kernel) (ok_some h)
def f_reader_readUnsure (N : Nat) (σ : Sg) : Option (Bool × Sg) :=
  (f_reader_expectWhole N 1 (gI σ 32 1) σ).bind fun q1 =>
  if q1.1 = true then
    (f_numbers_indexOf N 34 4 35 ((gI q1.2 1 6) - 1) q1.2).bind fun q2 =>
    if q2.1 = (-2) then
      (f_numbers_add N 34 4 35 ((gI q2.2 1 6) - 1) q2.2).bind fun q3 =>
      some (true, q3.2)
    else
      (f_reader_fail N 3 q2.2).bind fun q4 =>
      some (q4.1, q4.2)
  else
    some (false, q1.2)
set_option maxRecDepth 100000 in
theorem s_reader_readUnsure {y : EX} {N : Nat} {σ : Sg} {P : Bool × Sg → Prop} (h : ok (f_reader_readUnsure N σ) P) : Ev y M_reader_readUnsure 3 [.ref 1] σ rvB P := by
  refine Ev.of mk_reader_readUnsure (Nat.le_of_ble_eq_true rfl) (fun x hx hc hr => ?_)
  have hx : Cx 5 prog_7_method_13_code x := hx
  have hc : Cc y 1 3 x := hc
  show G x 0 [some (.ref 1)] [] σ
  unfold f_reader_readUnsure at h
  refine g_run hx [(.aload_n 0, 0, 0), (.iconst 1, 1, 0), (.aload_n 0, 0, 0), (.getfield 37, 0, 0), (.getfield 220, 0, 0), (.getfield 88, 0, 0)] (pc' := 12) (lo' := [some (.ref 1)]) (st' := [.int (gI σ 32 1), .int 1, .ref 1]) (σ' := σ) (by decide +kernel) rfl rfl ?_
  refine g_callV (rest := []) [.int 1, .int (gI σ 32 1)] hx hc mk_reader_expectWhole ln_5_135 rfl (by decide +kernel) (by decide) (Nat.le_of_ble_eq_true rfl) (s_reader_expectWhole (ok_b h)) (fun r1 s1 h => ?_)
  refine g_ifb_ne hx (off := 5) (tgt := 20) (by decide +kernel) (by decide) (fun c15 => ?_) (fun c15 => ?_)
  · have h := ok_t h c15
    refine g_run hx [(.aload_n 0, 0, 0), (.getfield 37, 0, 0), (.getfield 223, 0, 0), (.aload_n 0, 0, 0), (.getfield 31, 0, 0), (.iconst 1, 1, 0), (.isub, 0, 0)] (pc' := 33) (lo' := [some (.ref 1)]) (st' := [.int ((gI s1 1 6) - 1), .ref 34]) (σ' := s1) (by decide +kernel) rfl rfl ?_
    refine g_callV (rest := []) [.int ((gI s1 1 6) - 1)] hx hc mk_numbers_indexOf ln_5_226 rfl (by decide +kernel) (by decide) (Nat.le_of_ble_eq_true rfl) (s_numbers_indexOf_34 (ok_b h)) (fun r2 s2 h => ?_)
    refine g_run hx [(.bipush (-2), (-2), 0)] (pc' := 38) (lo' := [some (.ref 1)]) (st' := [.int (-2), .int r2]) (σ' := s2) (by decide +kernel) rfl rfl ?_
    refine g_ic_eq hx (off := 9) (tgt := 47) (by decide +kernel) (by decide) (fun c38 => ?_) (fun c38 => ?_)
    · have h := ok_t h c38
      refine g_run hx [(.aload_n 0, 0, 0), (.getfield 37, 0, 0), (.getfield 223, 0, 0), (.aload_n 0, 0, 0), (.getfield 31, 0, 0), (.iconst 1, 1, 0), (.isub, 0, 0)] (pc' := 60) (lo' := [some (.ref 1)]) (st' := [.int ((gI s2 1 6) - 1), .ref 34]) (σ' := s2) (by decide +kernel) rfl rfl ?_
      refine g_callV (rest := []) [.int ((gI s2 1 6) - 1)] hx hc mk_numbers_add ln_5_181 rfl (by decide +kernel) (by decide) (Nat.le_of_ble_eq_true rfl) (s_numbers_add_34 (ok_b h)) (fun r3 s3 h => ?_)
      refine g_run hx [(.iconst 1, 1, 0)] (pc' := 64) (lo' := [some (.ref 1)]) (st' := [.int 1]) (σ' := s3) (by decide +kernel) rfl rfl ?_
      exact g_zret (b := true) hx hr rfl true rfl (by decide +kernel) (ok_some h)
    · have h := ok_f h c38
      refine g_run hx [(.aload_n 0, 0, 0), (.iconst 3, 3, 0)] (pc' := 43) (lo' := [some (.ref 1)]) (st' := [.int 3, .ref 1]) (σ' := s2) (by decide +kernel) rfl rfl ?_
      refine g_callV (rest := []) [.int 3] hx hc mk_reader_fail ln_5_91 rfl (by decide +kernel) (by decide) (Nat.le_of_ble_eq_true rfl) (s_reader_fail (ok_b h)) (fun r4 s4 h => ?_)
      exact g_zret hx hr rfl _ rfl (by decide +kernel) (ok_some h)
  · have h := ok_f h c15
    refine g_run hx [(.iconst 0, 0, 0)] (pc' := 19) (lo' := [some (.ref 1)]) (st' := [.int 0]) (σ' := s1) (by decide +kernel) rfl rfl ?_
    exact g_zret (b := false) hx hr rfl false rfl (by decide +kernel) (ok_some h)
set_option maxRecDepth 100000 in
theorem s_numbers_at_36 {y : EX} {N : Nat} {v1 : Int32} {σ : Sg} {P : Int32 × Sg → Prop} (h : ok (f_numbers_at N 36 6 37 v1 σ) P) : Ev y M_numbers_at 0 [.ref 36, .int v1] σ rvI P := by
  refine Ev.of mk_numbers_at (Nat.le_of_ble_eq_true rfl) (fun x hx hc hr => ?_)
  have hx : Cx 3 prog_5_method_3_code x := hx
  have hc : Cc y 2 0 x := hc
  show G x 0 [some (.ref 36), some (.int v1)] [] σ
  unfold f_numbers_at at h
  refine g_run hx [(.iload_n 1, 0, 0)] (pc' := 1) (lo' := [some (.ref 36), some (.int v1)]) (st' := [.int v1]) (σ' := σ) (by decide +kernel) rfl rfl ?_
  refine g_if_lt hx (off := 29) (tgt := 30) (by decide +kernel) (by decide) (fun c1 => ?_) (fun c1 => ?_)
  · have h := ok_t h c1
    refine g_run hx [(.iconst (-1), (-1), 0)] (pc' := 31) (lo' := [some (.ref 36), some (.int v1)]) (st' := [.int (-1)]) (σ' := σ) (by decide +kernel) rfl rfl ?_
    exact g_iret hx hr rfl _ rfl (by decide +kernel) (ok_some h)
  · have h := ok_f h c1
    refine g_run hx [(.iload_n 1, 0, 0), (.aload_n 0, 0, 0), (.getfield 9, 0, 0)] (pc' := 9) (lo' := [some (.ref 36), some (.int v1)]) (st' := [.int (gI σ 36 1), .int v1]) (σ' := σ) (by decide +kernel) rfl rfl ?_
    refine g_ic_ge hx (off := 21) (tgt := 30) (by decide +kernel) (by decide) (fun c9 => ?_) (fun c9 => ?_)
    · have h := ok_t h c9
      refine g_run hx [(.iconst (-1), (-1), 0)] (pc' := 31) (lo' := [some (.ref 36), some (.int v1)]) (st' := [.int (-1)]) (σ' := σ) (by decide +kernel) rfl rfl ?_
      exact g_iret hx hr rfl _ rfl (by decide +kernel) (ok_some h)
    · have h := ok_f h c9
      refine g_run hx [(.iload_n 1, 0, 0), (.aload_n 0, 0, 0), (.getfield 21, 0, 0), (.arraylength, 0, 0)] (pc' := 18) (lo' := [some (.ref 36), some (.int v1)]) (st' := [.int (nI 6), .int v1]) (σ' := σ) (by decide +kernel) rfl rfl ?_
      refine g_ic_ge hx (off := 12) (tgt := 30) (by decide +kernel) (by decide) (fun c18 => ?_) (fun c18 => ?_)
      · have h := ok_t h c18
        refine g_run hx [(.iconst (-1), (-1), 0)] (pc' := 31) (lo' := [some (.ref 36), some (.int v1)]) (st' := [.int (-1)]) (σ' := σ) (by decide +kernel) rfl rfl ?_
        exact g_iret hx hr rfl _ rfl (by decide +kernel) (ok_some h)
      · have h := ok_f h c18
        refine g_run hx [(.aload_n 0, 0, 0), (.getfield 21, 0, 0), (.iload_n 1, 0, 0)] (pc' := 26) (lo' := [some (.ref 36), some (.int v1)]) (st' := [.int v1, .ref 37]) (σ' := σ) (by decide +kernel) rfl rfl ?_
        obtain ⟨c26, h⟩ := ok_g h
        refine g_iald hx (by decide +kernel) (i := 37) (n := 6) rfl c26 ?_
        refine g_goto hx (off := 4) (tgt := 31) (by decide +kernel) (by decide) ?_
        exact g_iret hx hr rfl _ rfl (by decide +kernel) (ok_some h)
set_option maxRecDepth 100000 in
theorem s_numbers_indexOf_36_L2 {y : EX} {N : Nat} {x : CX} {P : Int32 × Sg → Prop} (hx : Cx 3 prog_5_method_4_code x) (hc : Cc y 3 1 x) (hr : Cr M_numbers_indexOf rvI P x) : ∀ (n : Nat) (v1 : Int32) (v2 : Int32) (σ : Sg), ok (f_numbers_indexOf_L2 N 36 6 37 n v1 v2 σ) P → G x 2 [some (.ref 36), some (.int v1), some (.int v2)] [] σ := by
  intro n
  induction n with
  | zero => intro v1 v2 σ h; exact ok_none h
  | succ n ih =>
    intro v1 v2 σ h
    rw [f_numbers_indexOf_L2] at h
    refine g_run hx [(.iload_n 2, 0, 0), (.aload_n 0, 0, 0), (.getfield 9, 0, 0)] (pc' := 7) (lo' := [some (.ref 36), some (.int v1), some (.int v2)]) (st' := [.int (gI σ 36 1), .int v2]) (σ' := σ) (by decide +kernel) rfl rfl ?_
    refine g_ic_ge hx (off := 20) (tgt := 27) (by decide +kernel) (by decide) (fun c7 => ?_) (fun c7 => ?_)
    · have h := ok_t h c7
      refine g_run hx [(.bipush (-2), (-2), 0)] (pc' := 29) (lo' := [some (.ref 36), some (.int v1), some (.int v2)]) (st' := [.int (-2)]) (σ' := σ) (by decide +kernel) rfl rfl ?_
      exact g_iret hx hr rfl _ rfl (by decide +kernel) (ok_some h)
    · have h := ok_f h c7
      refine g_run hx [(.aload_n 0, 0, 0), (.iload_n 2, 0, 0)] (pc' := 12) (lo' := [some (.ref 36), some (.int v1), some (.int v2)]) (st' := [.int v2, .ref 36]) (σ' := σ) (by decide +kernel) rfl rfl ?_
      refine g_callV (rest := []) [.int v2] hx hc mk_numbers_at ln_3_25 rfl (by decide +kernel) (by decide) (Nat.le_of_ble_eq_true rfl) (s_numbers_at_36 (ok_b h)) (fun r1 s1 h => ?_)
      refine g_run hx [(.iload_n 1, 0, 0)] (pc' := 16) (lo' := [some (.ref 36), some (.int v1), some (.int v2)]) (st' := [.int v1, .int r1]) (σ' := s1) (by decide +kernel) rfl rfl ?_
      refine g_ic_ne hx (off := 5) (tgt := 21) (by decide +kernel) (by decide) (fun c16 => ?_) (fun c16 => ?_)
      · have h := ok_f h c16
        refine g_run hx [(.iinc 2 1, 1, 0)] (pc' := 24) (lo' := [some (.ref 36), some (.int v1), some (.int (v2 + 1))]) (st' := []) (σ' := s1) (by decide +kernel) rfl rfl ?_
        refine g_goto hx (off := (-22)) (tgt := 2) (by decide +kernel) (by decide) ?_
        exact ih _ _ _ h
      · have h := ok_t h c16
        refine g_run hx [(.iload_n 2, 0, 0)] (pc' := 20) (lo' := [some (.ref 36), some (.int v1), some (.int v2)]) (st' := [.int v2]) (σ' := s1) (by decide +kernel) rfl rfl ?_
        exact g_iret hx hr rfl _ rfl (by decide +kernel) (ok_some h)
set_option maxRecDepth 100000 in
theorem s_numbers_indexOf_36 {y : EX} {N : Nat} {v1 : Int32} {σ : Sg} {P : Int32 × Sg → Prop} (h : ok (f_numbers_indexOf N 36 6 37 v1 σ) P) : Ev y M_numbers_indexOf 1 [.ref 36, .int v1] σ rvI P := by
  refine Ev.of mk_numbers_indexOf (Nat.le_of_ble_eq_true rfl) (fun x hx hc hr => ?_)
  have hx : Cx 3 prog_5_method_4_code x := hx
  have hc : Cc y 3 1 x := hc
  show G x 0 [some (.ref 36), some (.int v1), none] [] σ
  unfold f_numbers_indexOf at h
  refine g_run hx [(.iconst 0, 0, 0), (.istore_n 2, 0, 0)] (pc' := 2) (lo' := [some (.ref 36), some (.int v1), some (.int 0)]) (st' := []) (σ' := σ) (by decide +kernel) rfl rfl ?_
  refine s_numbers_indexOf_36_L2 hx hc hr N _ _ _ h
set_option maxRecDepth 100000 in
theorem s_numbers_add_36 {y : EX} {N : Nat} {v1 : Int32} {σ : Sg} {P : Unit × Sg → Prop} (h : ok (f_numbers_add N 36 6 37 v1 σ) P) : Ev y M_numbers_add 0 [.ref 36, .int v1] σ rvN P := by
  refine Ev.of mk_numbers_add (Nat.le_of_ble_eq_true rfl) (fun x hx hc hr => ?_)
  have hx : Cx 3 prog_5_method_2_code x := hx
  have hc : Cc y 2 0 x := hc
  show G x 0 [some (.ref 36), some (.int v1)] [] σ
  unfold f_numbers_add at h
  refine g_run hx [(.aload_n 0, 0, 0), (.getfield 9, 0, 0)] (pc' := 4) (lo' := [some (.ref 36), some (.int v1)]) (st' := [.int (gI σ 36 1)]) (σ' := σ) (by decide +kernel) rfl rfl ?_
  refine g_if_lt hx (off := 35) (tgt := 39) (by decide +kernel) (by decide) (fun c4 => ?_) (fun c4 => ?_)
  · have h := ok_t h c4
    exact g_vret hx hr rfl () rfl (by decide +kernel) (ok_some h)
  · have h := ok_f h c4
    refine g_run hx [(.aload_n 0, 0, 0), (.getfield 9, 0, 0), (.aload_n 0, 0, 0), (.getfield 21, 0, 0), (.arraylength, 0, 0)] (pc' := 16) (lo' := [some (.ref 36), some (.int v1)]) (st' := [.int (nI 6), .int (gI σ 36 1)]) (σ' := σ) (by decide +kernel) rfl rfl ?_
    refine g_ic_ge hx (off := 23) (tgt := 39) (by decide +kernel) (by decide) (fun c16 => ?_) (fun c16 => ?_)
    · have h := ok_t h c16
      exact g_vret hx hr rfl () rfl (by decide +kernel) (ok_some h)
    · have h := ok_f h c16
      refine g_run hx [(.aload_n 0, 0, 0), (.getfield 21, 0, 0), (.aload_n 0, 0, 0), (.getfield 9, 0, 0), (.iload_n 1, 0, 0)] (pc' := 28) (lo' := [some (.ref 36), some (.int v1)]) (st' := [.int v1, .int (gI σ 36 1), .ref 37]) (σ' := σ) (by decide +kernel) rfl rfl ?_
      obtain ⟨c28, h⟩ := ok_g h
      refine g_iast hx (by decide +kernel) (i := 37) (n := 6) rfl c28 ?_
      refine g_run hx [(.aload_n 0, 0, 0), (.dup, 0, 0), (.getfield 9, 0, 0), (.iconst 1, 1, 0), (.iadd, 0, 0), (.putfield 9, 0, 0)] (pc' := 39) (lo' := [some (.ref 36), some (.int v1)]) (st' := []) (σ' := sI (sA σ 37 (gI σ 36 1) v1) 36 1 ((gI (sA σ 37 (gI σ 36 1) v1) 36 1) + 1)) (by decide +kernel) rfl rfl ?_
      exact g_vret hx hr rfl () rfl (by decide +kernel) (ok_some h)
set_option maxRecDepth 100000 in
theorem s_numbers_add_38 {y : EX} {N : Nat} {v1 : Int32} {σ : Sg} {P : Unit × Sg → Prop} (h : ok (f_numbers_add N 38 6 39 v1 σ) P) : Ev y M_numbers_add 0 [.ref 38, .int v1] σ rvN P := by
  refine Ev.of mk_numbers_add (Nat.le_of_ble_eq_true rfl) (fun x hx hc hr => ?_)
  have hx : Cx 3 prog_5_method_2_code x := hx
  have hc : Cc y 2 0 x := hc
  show G x 0 [some (.ref 38), some (.int v1)] [] σ
  unfold f_numbers_add at h
  refine g_run hx [(.aload_n 0, 0, 0), (.getfield 9, 0, 0)] (pc' := 4) (lo' := [some (.ref 38), some (.int v1)]) (st' := [.int (gI σ 38 1)]) (σ' := σ) (by decide +kernel) rfl rfl ?_
  refine g_if_lt hx (off := 35) (tgt := 39) (by decide +kernel) (by decide) (fun c4 => ?_) (fun c4 => ?_)
  · have h := ok_t h c4
    exact g_vret hx hr rfl () rfl (by decide +kernel) (ok_some h)
  · have h := ok_f h c4
    refine g_run hx [(.aload_n 0, 0, 0), (.getfield 9, 0, 0), (.aload_n 0, 0, 0), (.getfield 21, 0, 0), (.arraylength, 0, 0)] (pc' := 16) (lo' := [some (.ref 38), some (.int v1)]) (st' := [.int (nI 6), .int (gI σ 38 1)]) (σ' := σ) (by decide +kernel) rfl rfl ?_
    refine g_ic_ge hx (off := 23) (tgt := 39) (by decide +kernel) (by decide) (fun c16 => ?_) (fun c16 => ?_)
    · have h := ok_t h c16
      exact g_vret hx hr rfl () rfl (by decide +kernel) (ok_some h)
    · have h := ok_f h c16
      refine g_run hx [(.aload_n 0, 0, 0), (.getfield 21, 0, 0), (.aload_n 0, 0, 0), (.getfield 9, 0, 0), (.iload_n 1, 0, 0)] (pc' := 28) (lo' := [some (.ref 38), some (.int v1)]) (st' := [.int v1, .int (gI σ 38 1), .ref 39]) (σ' := σ) (by decide +kernel) rfl rfl ?_
      obtain ⟨c28, h⟩ := ok_g h
      refine g_iast hx (by decide +kernel) (i := 39) (n := 6) rfl c28 ?_
      refine g_run hx [(.aload_n 0, 0, 0), (.dup, 0, 0), (.getfield 9, 0, 0), (.iconst 1, 1, 0), (.iadd, 0, 0), (.putfield 9, 0, 0)] (pc' := 39) (lo' := [some (.ref 38), some (.int v1)]) (st' := []) (σ' := sI (sA σ 39 (gI σ 38 1) v1) 38 1 ((gI (sA σ 39 (gI σ 38 1) v1) 38 1) + 1)) (by decide +kernel) rfl rfl ?_
      exact g_vret hx hr rfl () rfl (by decide +kernel) (ok_some h)
def f_reader_readSeen (N : Nat) (σ : Sg) : Option (Bool × Sg) :=
  (f_reader_expectCell N 0 σ).bind fun q1 =>
  if q1.1 = true then
    (f_numbers_indexOf N 36 6 37 (gI q1.2 1 6) q1.2).bind fun q2 =>
    if q2.1 = (-2) then
      (f_numbers_add N 36 6 37 (gI q2.2 1 6) q2.2).bind fun q3 =>
      (f_reader_nextToken N q3.2).bind fun q4 =>
      (f_reader_isWord N 18 q4.2).bind fun q5 =>
      if q5.1 = true then
        (f_numbers_add N 38 6 39 1 q5.2).bind fun q9 =>
        some (true, q9.2)
      else
        (f_reader_isWord N 19 q5.2).bind fun q6 =>
        if q6.1 = true then
          (f_numbers_add N 38 6 39 0 q6.2).bind fun q8 =>
          some (true, q8.2)
        else
          (f_reader_fail N 1 q6.2).bind fun q7 =>
          some (q7.1, q7.2)
    else
      (f_reader_fail N 3 q2.2).bind fun q10 =>
      some (q10.1, q10.2)
  else
    some (false, q1.2)
set_option maxRecDepth 100000 in
theorem s_reader_readSeen {y : EX} {N : Nat} {σ : Sg} {P : Bool × Sg → Prop} (h : ok (f_reader_readSeen N σ) P) : Ev y M_reader_readSeen 5 [.ref 1] σ rvB P := by
  refine Ev.of mk_reader_readSeen (Nat.le_of_ble_eq_true rfl) (fun x hx hc hr => ?_)
  have hx : Cx 5 prog_7_method_14_code x := hx
  have hc : Cc y 2 5 x := hc
  show G x 0 [some (.ref 1), none] [] σ
  unfold f_reader_readSeen at h
  refine g_run hx [(.aload_n 0, 0, 0), (.iconst 0, 0, 0)] (pc' := 2) (lo' := [some (.ref 1), none]) (st' := [.int 0, .ref 1]) (σ' := σ) (by decide +kernel) rfl rfl ?_
  refine g_callV (rest := []) [.int 0] hx hc mk_reader_expectCell ln_5_143 rfl (by decide +kernel) (by decide) (Nat.le_of_ble_eq_true rfl) (s_reader_expectCell (ok_b h)) (fun r1 s1 h => ?_)
  refine g_ifb_ne hx (off := 5) (tgt := 10) (by decide +kernel) (by decide) (fun c5 => ?_) (fun c5 => ?_)
  · have h := ok_t h c5
    refine g_run hx [(.aload_n 0, 0, 0), (.getfield 37, 0, 0), (.getfield 229, 0, 0), (.aload_n 0, 0, 0), (.getfield 31, 0, 0)] (pc' := 21) (lo' := [some (.ref 1), none]) (st' := [.int (gI s1 1 6), .ref 36]) (σ' := s1) (by decide +kernel) rfl rfl ?_
    refine g_callV (rest := []) [.int (gI s1 1 6)] hx hc mk_numbers_indexOf ln_5_226 rfl (by decide +kernel) (by decide) (Nat.le_of_ble_eq_true rfl) (s_numbers_indexOf_36 (ok_b h)) (fun r2 s2 h => ?_)
    refine g_run hx [(.bipush (-2), (-2), 0)] (pc' := 26) (lo' := [some (.ref 1), none]) (st' := [.int (-2), .int r2]) (σ' := s2) (by decide +kernel) rfl rfl ?_
    refine g_ic_eq hx (off := 9) (tgt := 35) (by decide +kernel) (by decide) (fun c26 => ?_) (fun c26 => ?_)
    · have h := ok_t h c26
      refine g_run hx [(.aload_n 0, 0, 0), (.getfield 37, 0, 0), (.getfield 229, 0, 0), (.aload_n 0, 0, 0), (.getfield 31, 0, 0)] (pc' := 46) (lo' := [some (.ref 1), none]) (st' := [.int (gI s2 1 6), .ref 36]) (σ' := s2) (by decide +kernel) rfl rfl ?_
      refine g_callV (rest := []) [.int (gI s2 1 6)] hx hc mk_numbers_add ln_5_181 rfl (by decide +kernel) (by decide) (Nat.le_of_ble_eq_true rfl) (s_numbers_add_36 (ok_b h)) (fun r3 s3 h => ?_)
      refine g_run hx [(.aload_n 0, 0, 0)] (pc' := 50) (lo' := [some (.ref 1), none]) (st' := [.ref 1]) (σ' := s3) (by decide +kernel) rfl rfl ?_
      refine g_callV (rest := []) [] hx hc mk_reader_nextToken ln_5_69 rfl (by decide +kernel) (by decide) (Nat.le_of_ble_eq_true rfl) (s_reader_nextToken (ok_b h)) (fun r4 s4 h => ?_)
      refine g_run hx [(.aload_n 0, 0, 0)] (pc' := 54) (lo' := [some (.ref 1), none]) (st' := [.ref 1]) (σ' := s4) (by decide +kernel) rfl rfl ?_
      refine g_ldcS (idx := 232) (sid := 18) hx hc (by decide) (by decide +kernel) ?_
      refine g_callV (rest := []) [.ref (100 + 18)] hx hc mk_reader_isWord ln_5_163 rfl (by decide +kernel) (by decide) (Nat.le_of_ble_eq_true rfl) (s_reader_isWord (by decide) (ok_b h)) (fun r5 s5 h => ?_)
      refine g_ifb_eq hx (off := 7) (tgt := 66) (by decide +kernel) (by decide) (fun c59 => ?_) (fun c59 => ?_)
      · have h := ok_f h c59
        refine g_run hx [(.aload_n 0, 0, 0)] (pc' := 67) (lo' := [some (.ref 1), none]) (st' := [.ref 1]) (σ' := s5) (by decide +kernel) rfl rfl ?_
        refine g_ldcS (idx := 234) (sid := 19) hx hc (by decide) (by decide +kernel) ?_
        refine g_callV (rest := []) [.ref (100 + 19)] hx hc mk_reader_isWord ln_5_163 rfl (by decide +kernel) (by decide) (Nat.le_of_ble_eq_true rfl) (s_reader_isWord (by decide) (ok_b h)) (fun r6 s6 h => ?_)
        refine g_ifb_eq hx (off := 7) (tgt := 79) (by decide +kernel) (by decide) (fun c72 => ?_) (fun c72 => ?_)
        · have h := ok_f h c72
          refine g_run hx [(.bipush (-2), (-2), 0), (.istore_n 1, 0, 0), (.iload_n 1, 0, 0), (.bipush (-2), (-2), 0)] (pc' := 85) (lo' := [some (.ref 1), some (.int (-2))]) (st' := [.int (-2), .int (-2)]) (σ' := s6) (by decide +kernel) rfl rfl ?_
          refine g_ic_ne hx (off := 9) (tgt := 94) (by decide +kernel) (by decide) (fun c => absurd c (by decide)) (fun _ => ?_)
          refine g_run hx [(.aload_n 0, 0, 0), (.iconst 1, 1, 0)] (pc' := 90) (lo' := [some (.ref 1), some (.int (-2))]) (st' := [.int 1, .ref 1]) (σ' := s6) (by decide +kernel) rfl rfl ?_
          refine g_callV (rest := []) [.int 1] hx hc mk_reader_fail ln_5_91 rfl (by decide +kernel) (by decide) (Nat.le_of_ble_eq_true rfl) (s_reader_fail (ok_b h)) (fun r7 s7 h => ?_)
          exact g_zret hx hr rfl _ rfl (by decide +kernel) (ok_some h)
        · have h := ok_t h c72
          refine g_run hx [(.iconst 0, 0, 0)] (pc' := 76) (lo' := [some (.ref 1), none]) (st' := [.int 0]) (σ' := s6) (by decide +kernel) rfl rfl ?_
          refine g_goto hx (off := 5) (tgt := 81) (by decide +kernel) (by decide) ?_
          refine g_run hx [(.istore_n 1, 0, 0), (.iload_n 1, 0, 0), (.bipush (-2), (-2), 0)] (pc' := 85) (lo' := [some (.ref 1), some (.int 0)]) (st' := [.int (-2), .int 0]) (σ' := s6) (by decide +kernel) rfl rfl ?_
          refine g_ic_ne hx (off := 9) (tgt := 94) (by decide +kernel) (by decide) (fun _ => ?_) (fun c => absurd c (by decide))
          refine g_run hx [(.aload_n 0, 0, 0), (.getfield 37, 0, 0), (.getfield 236, 0, 0), (.iload_n 1, 0, 0)] (pc' := 102) (lo' := [some (.ref 1), some (.int 0)]) (st' := [.int 0, .ref 38]) (σ' := s6) (by decide +kernel) rfl rfl ?_
          refine g_callV (rest := []) [.int 0] hx hc mk_numbers_add ln_5_181 rfl (by decide +kernel) (by decide) (Nat.le_of_ble_eq_true rfl) (s_numbers_add_38 (ok_b h)) (fun r8 s8 h => ?_)
          refine g_run hx [(.iconst 1, 1, 0)] (pc' := 106) (lo' := [some (.ref 1), some (.int 0)]) (st' := [.int 1]) (σ' := s8) (by decide +kernel) rfl rfl ?_
          exact g_zret (b := true) hx hr rfl true rfl (by decide +kernel) (ok_some h)
      · have h := ok_t h c59
        refine g_run hx [(.iconst 1, 1, 0)] (pc' := 63) (lo' := [some (.ref 1), none]) (st' := [.int 1]) (σ' := s5) (by decide +kernel) rfl rfl ?_
        refine g_goto hx (off := 18) (tgt := 81) (by decide +kernel) (by decide) ?_
        refine g_run hx [(.istore_n 1, 0, 0), (.iload_n 1, 0, 0), (.bipush (-2), (-2), 0)] (pc' := 85) (lo' := [some (.ref 1), some (.int 1)]) (st' := [.int (-2), .int 1]) (σ' := s5) (by decide +kernel) rfl rfl ?_
        refine g_ic_ne hx (off := 9) (tgt := 94) (by decide +kernel) (by decide) (fun _ => ?_) (fun c => absurd c (by decide))
        refine g_run hx [(.aload_n 0, 0, 0), (.getfield 37, 0, 0), (.getfield 236, 0, 0), (.iload_n 1, 0, 0)] (pc' := 102) (lo' := [some (.ref 1), some (.int 1)]) (st' := [.int 1, .ref 38]) (σ' := s5) (by decide +kernel) rfl rfl ?_
        refine g_callV (rest := []) [.int 1] hx hc mk_numbers_add ln_5_181 rfl (by decide +kernel) (by decide) (Nat.le_of_ble_eq_true rfl) (s_numbers_add_38 (ok_b h)) (fun r9 s9 h => ?_)
        refine g_run hx [(.iconst 1, 1, 0)] (pc' := 106) (lo' := [some (.ref 1), some (.int 1)]) (st' := [.int 1]) (σ' := s9) (by decide +kernel) rfl rfl ?_
        exact g_zret (b := true) hx hr rfl true rfl (by decide +kernel) (ok_some h)
    · have h := ok_f h c26
      refine g_run hx [(.aload_n 0, 0, 0), (.iconst 3, 3, 0)] (pc' := 31) (lo' := [some (.ref 1), none]) (st' := [.int 3, .ref 1]) (σ' := s2) (by decide +kernel) rfl rfl ?_
      refine g_callV (rest := []) [.int 3] hx hc mk_reader_fail ln_5_91 rfl (by decide +kernel) (by decide) (Nat.le_of_ble_eq_true rfl) (s_reader_fail (ok_b h)) (fun r10 s10 h => ?_)
      exact g_zret hx hr rfl _ rfl (by decide +kernel) (ok_some h)
  · have h := ok_f h c5
    refine g_run hx [(.iconst 0, 0, 0)] (pc' := 9) (lo' := [some (.ref 1), none]) (st' := [.int 0]) (σ' := s1) (by decide +kernel) rfl rfl ?_
    exact g_zret (b := false) hx hr rfl false rfl (by decide +kernel) (ok_some h)
def f_reader_readLine (N : Nat) (σ : Sg) : Option (Bool × Sg) :=
  (f_reader_sortHere N σ).bind fun q1 =>
  (f_reader_headFits N q1.1 q1.2).bind fun q2 =>
  if q2.1 = true then
    if q1.1 = 0 then
      (f_reader_readLand N q2.2).bind fun q3 =>
      some (q3.1, q3.2)
    else if q1.1 = 1 then
      (f_reader_readGround N q2.2).bind fun q4 =>
      some (q4.1, q4.2)
    else if q1.1 = 2 then
      (f_reader_readBoots N q2.2).bind fun q5 =>
      some (q5.1, q5.2)
    else if q1.1 = 3 then
      (f_reader_readPlace N q2.2).bind fun q6 =>
      some (q6.1, q6.2)
    else if q1.1 = 4 then
      (f_reader_readStride N q2.2).bind fun q7 =>
      some (q7.1, q7.2)
    else if q1.1 = 5 then
      (f_reader_readUnsure N q2.2).bind fun q8 =>
      some (q8.1, q8.2)
    else 
      (f_reader_readSeen N q2.2).bind fun q9 =>
      some (q9.1, q9.2)
  else
    some (false, q2.2)
set_option maxRecDepth 100000 in
theorem s_reader_readLine {y : EX} {N : Nat} {σ : Sg} {P : Bool × Sg → Prop} (h : ok (f_reader_readLine N σ) P) : Ev y M_reader_readLine 8 [.ref 1] σ rvB P := by
  refine Ev.of mk_reader_readLine (Nat.le_of_ble_eq_true rfl) (fun x hx hc hr => ?_)
  have hx : Cx 5 prog_7_method_6_code x := hx
  have hc : Cc y 2 8 x := hc
  show G x 0 [some (.ref 1), none] [] σ
  unfold f_reader_readLine at h
  refine g_run hx [(.aload_n 0, 0, 0)] (pc' := 1) (lo' := [some (.ref 1), none]) (st' := [.ref 1]) (σ' := σ) (by decide +kernel) rfl rfl ?_
  refine g_callV (rest := []) [] hx hc mk_reader_sortHere ln_5_98 rfl (by decide +kernel) (by decide) (Nat.le_of_ble_eq_true rfl) (s_reader_sortHere (ok_b h)) (fun r1 s1 h => ?_)
  refine g_run hx [(.istore_n 1, 0, 0), (.aload_n 0, 0, 0), (.iload_n 1, 0, 0)] (pc' := 7) (lo' := [some (.ref 1), some (.int r1)]) (st' := [.int r1, .ref 1]) (σ' := s1) (by decide +kernel) rfl rfl ?_
  refine g_callV (rest := []) [.int r1] hx hc mk_reader_headFits ln_5_102 rfl (by decide +kernel) (by decide) (Nat.le_of_ble_eq_true rfl) (s_reader_headFits (ok_b h)) (fun r2 s2 h => ?_)
  refine g_ifb_ne hx (off := 5) (tgt := 15) (by decide +kernel) (by decide) (fun c10 => ?_) (fun c10 => ?_)
  · have h := ok_t h c10
    refine g_run hx [(.iload_n 1, 0, 0)] (pc' := 16) (lo' := [some (.ref 1), some (.int r1)]) (st' := [.int r1]) (σ' := s2) (by decide +kernel) rfl rfl ?_
    by_cases c16_0 : r1 = 0
    · have h := ok_t h c16_0
      refine g_tin hx (dflt := 70) (lo := 0) (hi := 5) (offs := #[40, 45, 50, 55, 60, 65]) (len := 40) (off := 40) (tgt := 56) (v := 0) (by decide +kernel) c16_0 (by decide +kernel) (by decide +kernel) (by decide +kernel) (by decide) ?_
      refine g_run hx [(.aload_n 0, 0, 0)] (pc' := 57) (lo' := [some (.ref 1), some (.int r1)]) (st' := [.ref 1]) (σ' := s2) (by decide +kernel) rfl rfl ?_
      refine g_callV (rest := []) [] hx hc mk_reader_readLand ln_5_105 rfl (by decide +kernel) (by decide) (Nat.le_of_ble_eq_true rfl) (s_reader_readLand (ok_b h)) (fun r3 s3 h => ?_)
      exact g_zret hx hr rfl _ rfl (by decide +kernel) (ok_some h)
    have h := ok_f h c16_0
    by_cases c16_1 : r1 = 1
    · have h := ok_t h c16_1
      refine g_tin hx (dflt := 70) (lo := 0) (hi := 5) (offs := #[40, 45, 50, 55, 60, 65]) (len := 40) (off := 45) (tgt := 61) (v := 1) (by decide +kernel) c16_1 (by decide +kernel) (by decide +kernel) (by decide +kernel) (by decide) ?_
      refine g_run hx [(.aload_n 0, 0, 0)] (pc' := 62) (lo' := [some (.ref 1), some (.int r1)]) (st' := [.ref 1]) (σ' := s2) (by decide +kernel) rfl rfl ?_
      refine g_callV (rest := []) [] hx hc mk_reader_readGround ln_5_108 rfl (by decide +kernel) (by decide) (Nat.le_of_ble_eq_true rfl) (s_reader_readGround (ok_b h)) (fun r4 s4 h => ?_)
      exact g_zret hx hr rfl _ rfl (by decide +kernel) (ok_some h)
    have h := ok_f h c16_1
    by_cases c16_2 : r1 = 2
    · have h := ok_t h c16_2
      refine g_tin hx (dflt := 70) (lo := 0) (hi := 5) (offs := #[40, 45, 50, 55, 60, 65]) (len := 40) (off := 50) (tgt := 66) (v := 2) (by decide +kernel) c16_2 (by decide +kernel) (by decide +kernel) (by decide +kernel) (by decide) ?_
      refine g_run hx [(.aload_n 0, 0, 0)] (pc' := 67) (lo' := [some (.ref 1), some (.int r1)]) (st' := [.ref 1]) (σ' := s2) (by decide +kernel) rfl rfl ?_
      refine g_callV (rest := []) [] hx hc mk_reader_readBoots ln_5_111 rfl (by decide +kernel) (by decide) (Nat.le_of_ble_eq_true rfl) (s_reader_readBoots (ok_b h)) (fun r5 s5 h => ?_)
      exact g_zret hx hr rfl _ rfl (by decide +kernel) (ok_some h)
    have h := ok_f h c16_2
    by_cases c16_3 : r1 = 3
    · have h := ok_t h c16_3
      refine g_tin hx (dflt := 70) (lo := 0) (hi := 5) (offs := #[40, 45, 50, 55, 60, 65]) (len := 40) (off := 55) (tgt := 71) (v := 3) (by decide +kernel) c16_3 (by decide +kernel) (by decide +kernel) (by decide +kernel) (by decide) ?_
      refine g_run hx [(.aload_n 0, 0, 0)] (pc' := 72) (lo' := [some (.ref 1), some (.int r1)]) (st' := [.ref 1]) (σ' := s2) (by decide +kernel) rfl rfl ?_
      refine g_callV (rest := []) [] hx hc mk_reader_readPlace ln_5_114 rfl (by decide +kernel) (by decide) (Nat.le_of_ble_eq_true rfl) (s_reader_readPlace (ok_b h)) (fun r6 s6 h => ?_)
      exact g_zret hx hr rfl _ rfl (by decide +kernel) (ok_some h)
    have h := ok_f h c16_3
    by_cases c16_4 : r1 = 4
    · have h := ok_t h c16_4
      refine g_tin hx (dflt := 70) (lo := 0) (hi := 5) (offs := #[40, 45, 50, 55, 60, 65]) (len := 40) (off := 60) (tgt := 76) (v := 4) (by decide +kernel) c16_4 (by decide +kernel) (by decide +kernel) (by decide +kernel) (by decide) ?_
      refine g_run hx [(.aload_n 0, 0, 0)] (pc' := 77) (lo' := [some (.ref 1), some (.int r1)]) (st' := [.ref 1]) (σ' := s2) (by decide +kernel) rfl rfl ?_
      refine g_callV (rest := []) [] hx hc mk_reader_readStride ln_5_117 rfl (by decide +kernel) (by decide) (Nat.le_of_ble_eq_true rfl) (s_reader_readStride (ok_b h)) (fun r7 s7 h => ?_)
      exact g_zret hx hr rfl _ rfl (by decide +kernel) (ok_some h)
    have h := ok_f h c16_4
    by_cases c16_5 : r1 = 5
    · have h := ok_t h c16_5
      refine g_tin hx (dflt := 70) (lo := 0) (hi := 5) (offs := #[40, 45, 50, 55, 60, 65]) (len := 40) (off := 65) (tgt := 81) (v := 5) (by decide +kernel) c16_5 (by decide +kernel) (by decide +kernel) (by decide +kernel) (by decide) ?_
      refine g_run hx [(.aload_n 0, 0, 0)] (pc' := 82) (lo' := [some (.ref 1), some (.int r1)]) (st' := [.ref 1]) (σ' := s2) (by decide +kernel) rfl rfl ?_
      refine g_callV (rest := []) [] hx hc mk_reader_readUnsure ln_5_120 rfl (by decide +kernel) (by decide) (Nat.le_of_ble_eq_true rfl) (s_reader_readUnsure (ok_b h)) (fun r8 s8 h => ?_)
      exact g_zret hx hr rfl _ rfl (by decide +kernel) (ok_some h)
    have h := ok_f h c16_5
    refine g_tout hx (dflt := 70) (n := 6) (offs := #[40, 45, 50, 55, 60, 65]) (len := 40) (tgt := 86) (by decide +kernel) (by decide) (sw_ne ⟨c16_0, c16_1, c16_2, c16_3, c16_4, c16_5, trivial⟩) (by decide) ?_
    refine g_run hx [(.aload_n 0, 0, 0)] (pc' := 87) (lo' := [some (.ref 1), some (.int r1)]) (st' := [.ref 1]) (σ' := s2) (by decide +kernel) rfl rfl ?_
    refine g_callV (rest := []) [] hx hc mk_reader_readSeen ln_5_123 rfl (by decide +kernel) (by decide) (Nat.le_of_ble_eq_true rfl) (s_reader_readSeen (ok_b h)) (fun r9 s9 h => ?_)
    exact g_zret hx hr rfl _ rfl (by decide +kernel) (ok_some h)
  · have h := ok_f h c10
    refine g_run hx [(.iconst 0, 0, 0)] (pc' := 14) (lo' := [some (.ref 1), some (.int r1)]) (st' := [.int 0]) (σ' := s2) (by decide +kernel) rfl rfl ?_
    exact g_zret (b := false) hx hr rfl false rfl (by decide +kernel) (ok_some h)
def f_reader_endText (N : Nat) (σ : Sg) : Option (Unit × Sg) :=
  if (gI σ 1 3) = 0 then
    if (gI σ 26 1) = 0 then
      (f_reader_fail N 6 σ).bind fun q1 =>
      some ((), q1.2)
    else
      some ((), σ)
  else
    (f_reader_fail N 1 σ).bind fun q2 =>
    some ((), q2.2)
set_option maxRecDepth 100000 in
theorem s_reader_endText {y : EX} {N : Nat} {σ : Sg} {P : Unit × Sg → Prop} (h : ok (f_reader_endText N σ) P) : Ev y M_reader_endText 1 [.ref 1] σ rvN P := by
  refine Ev.of mk_reader_endText (Nat.le_of_ble_eq_true rfl) (fun x hx hc hr => ?_)
  have hx : Cx 5 prog_7_method_5_code x := hx
  have hc : Cc y 1 1 x := hc
  show G x 0 [some (.ref 1)] [] σ
  unfold f_reader_endText at h
  refine g_run hx [(.aload_n 0, 0, 0), (.getfield 22, 0, 0)] (pc' := 4) (lo' := [some (.ref 1)]) (st' := [.int (gI σ 1 3)]) (σ' := σ) (by decide +kernel) rfl rfl ?_
  refine g_if_eq hx (off := 12) (tgt := 16) (by decide +kernel) (by decide) (fun c4 => ?_) (fun c4 => ?_)
  · have h := ok_t h c4
    refine g_run hx [(.aload_n 0, 0, 0), (.getfield 37, 0, 0), (.getfield 95, 0, 0), (.getfield 88, 0, 0)] (pc' := 26) (lo' := [some (.ref 1)]) (st' := [.int (gI σ 26 1)]) (σ' := σ) (by decide +kernel) rfl rfl ?_
    refine g_if_ne hx (off := 10) (tgt := 36) (by decide +kernel) (by decide) (fun c26 => ?_) (fun c26 => ?_)
    · have h := ok_f h c26
      exact g_vret hx hr rfl () rfl (by decide +kernel) (ok_some h)
    · have h := ok_t h c26
      refine g_run hx [(.aload_n 0, 0, 0), (.bipush 6, 6, 0)] (pc' := 32) (lo' := [some (.ref 1)]) (st' := [.int 6, .ref 1]) (σ' := σ) (by decide +kernel) rfl rfl ?_
      refine g_callV (rest := []) [.int 6] hx hc mk_reader_fail ln_5_91 rfl (by decide +kernel) (by decide) (Nat.le_of_ble_eq_true rfl) (s_reader_fail (ok_b h)) (fun r1 s1 h => ?_)
      refine g_run hx [(.pop, 0, 0)] (pc' := 36) (lo' := [some (.ref 1)]) (st' := []) (σ' := s1) (by decide +kernel) rfl rfl ?_
      exact g_vret hx hr rfl () rfl (by decide +kernel) (ok_some h)
  · have h := ok_f h c4
    refine g_run hx [(.aload_n 0, 0, 0), (.iconst 1, 1, 0)] (pc' := 9) (lo' := [some (.ref 1)]) (st' := [.int 1, .ref 1]) (σ' := σ) (by decide +kernel) rfl rfl ?_
    refine g_callV (rest := []) [.int 1] hx hc mk_reader_fail ln_5_91 rfl (by decide +kernel) (by decide) (Nat.le_of_ble_eq_true rfl) (s_reader_fail (ok_b h)) (fun r2 s2 h => ?_)
    refine g_run hx [(.pop, 0, 0)] (pc' := 13) (lo' := [some (.ref 1)]) (st' := []) (σ' := s2) (by decide +kernel) rfl rfl ?_
    refine g_goto hx (off := 23) (tgt := 36) (by decide +kernel) (by decide) ?_
    exact g_vret hx hr rfl () rfl (by decide +kernel) (ok_some h)
def f_reader_read_L7 (N : Nat) : Nat → Int32 → Sg → Option (Unit × Sg)
  | 0, _, _ => none
  | n + 1, v2, σ =>
    if (gI σ 1 2) < v2 then
      some ((), σ)
    else
      (f_reader_nextToken N σ).bind fun q2 =>
      (f_reader_readLine N q2.2).bind fun q3 =>
      if q3.1 = true then
        (f_reader_nextToken N q3.2).bind fun q4 =>
        if (gI q4.2 1 3) = 3 then
          f_reader_read_L7 N n (v2 + 1) q4.2
        else
          (f_reader_endText N q4.2).bind fun q5 =>
          some ((), q5.2)
      else
        some ((), q3.2)
def f_reader_read (N : Nat) (v1 : Int32) (σ : Sg) : Option (Unit × Sg) :=
  (f_reader_begin N v1 σ).bind fun q1 =>
  f_reader_read_L7 N N 0 q1.2
set_option maxRecDepth 100000 in
theorem s_reader_read_L7 {y : EX} {N : Nat} {x : CX} {P : Unit × Sg → Prop} (hx : Cx 5 prog_7_method_3_code x) (hc : Cc y 3 9 x) (hr : Cr M_reader_read rvN P x) : ∀ (n : Nat) (v2 : Int32) (σ : Sg), ok (f_reader_read_L7 N n v2 σ) P → G x 7 [some (.ref 1), none, some (.int v2)] [] σ := by
  intro n
  induction n with
  | zero => intro v2 σ h; exact ok_none h
  | succ n ih =>
    intro v2 σ h
    rw [f_reader_read_L7] at h
    refine g_run hx [(.iload_n 2, 0, 0), (.aload_n 0, 0, 0), (.getfield 19, 0, 0)] (pc' := 12) (lo' := [some (.ref 1), none, some (.int v2)]) (st' := [.int (gI σ 1 2), .int v2]) (σ' := σ) (by decide +kernel) rfl rfl ?_
    refine g_ic_gt hx (off := 38) (tgt := 50) (by decide +kernel) (by decide) (fun c12 => ?_) (fun c12 => ?_)
    · have h := ok_t h c12
      exact g_vret hx hr rfl () rfl (by decide +kernel) (ok_some h)
    · have h := ok_f h c12
      refine g_run hx [(.aload_n 0, 0, 0)] (pc' := 16) (lo' := [some (.ref 1), none, some (.int v2)]) (st' := [.ref 1]) (σ' := σ) (by decide +kernel) rfl rfl ?_
      refine g_callV (rest := []) [] hx hc mk_reader_nextToken ln_5_69 rfl (by decide +kernel) (by decide) (Nat.le_of_ble_eq_true rfl) (s_reader_nextToken (ok_b h)) (fun r2 s2 h => ?_)
      refine g_run hx [(.aload_n 0, 0, 0)] (pc' := 20) (lo' := [some (.ref 1), none, some (.int v2)]) (st' := [.ref 1]) (σ' := s2) (by decide +kernel) rfl rfl ?_
      refine g_callV (rest := []) [] hx hc mk_reader_readLine ln_5_72 rfl (by decide +kernel) (by decide) (Nat.le_of_ble_eq_true rfl) (s_reader_readLine (ok_b h)) (fun r3 s3 h => ?_)
      refine g_ifb_ne hx (off := 4) (tgt := 27) (by decide +kernel) (by decide) (fun c23 => ?_) (fun c23 => ?_)
      · have h := ok_t h c23
        refine g_run hx [(.aload_n 0, 0, 0)] (pc' := 28) (lo' := [some (.ref 1), none, some (.int v2)]) (st' := [.ref 1]) (σ' := s3) (by decide +kernel) rfl rfl ?_
        refine g_callV (rest := []) [] hx hc mk_reader_nextToken ln_5_69 rfl (by decide +kernel) (by decide) (Nat.le_of_ble_eq_true rfl) (s_reader_nextToken (ok_b h)) (fun r4 s4 h => ?_)
        refine g_run hx [(.aload_n 0, 0, 0), (.getfield 22, 0, 0), (.iconst 3, 3, 0)] (pc' := 36) (lo' := [some (.ref 1), none, some (.int v2)]) (st' := [.int 3, .int (gI s4 1 3)]) (σ' := s4) (by decide +kernel) rfl rfl ?_
        refine g_ic_eq hx (off := 8) (tgt := 44) (by decide +kernel) (by decide) (fun c36 => ?_) (fun c36 => ?_)
        · have h := ok_t h c36
          refine g_run hx [(.iinc 2 1, 1, 0)] (pc' := 47) (lo' := [some (.ref 1), none, some (.int (v2 + 1))]) (st' := []) (σ' := s4) (by decide +kernel) rfl rfl ?_
          refine g_goto hx (off := (-40)) (tgt := 7) (by decide +kernel) (by decide) ?_
          exact ih _ _ h
        · have h := ok_f h c36
          refine g_run hx [(.aload_n 0, 0, 0)] (pc' := 40) (lo' := [some (.ref 1), none, some (.int v2)]) (st' := [.ref 1]) (σ' := s4) (by decide +kernel) rfl rfl ?_
          refine g_callV (rest := []) [] hx hc mk_reader_endText ln_5_76 rfl (by decide +kernel) (by decide) (Nat.le_of_ble_eq_true rfl) (s_reader_endText (ok_b h)) (fun r5 s5 h => ?_)
          exact g_vret hx hr rfl () rfl (by decide +kernel) (ok_some h)
      · have h := ok_f h c23
        exact g_vret hx hr rfl () rfl (by decide +kernel) (ok_some h)
set_option maxRecDepth 100000 in
theorem s_reader_read {y : EX} {N : Nat} {v1 : Int32} {σ : Sg} {P : Unit × Sg → Prop} (h : ok (f_reader_read N v1 σ) P) : Ev y M_reader_read 9 [.ref 1, .int v1] σ rvN P := by
  refine Ev.of mk_reader_read (Nat.le_of_ble_eq_true rfl) (fun x hx hc hr => ?_)
  have hx : Cx 5 prog_7_method_3_code x := hx
  have hc : Cc y 3 9 x := hc
  show G x 0 [some (.ref 1), some (.int v1), none] [] σ
  unfold f_reader_read at h
  refine g_run hx [(.aload_n 0, 0, 0), (.iload_n 1, 0, 0)] (pc' := 2) (lo' := [some (.ref 1), some (.int v1), none]) (st' := [.int v1, .ref 1]) (σ' := σ) (by decide +kernel) rfl rfl ?_
  refine g_callV (rest := []) [.int v1] hx hc mk_reader_begin ln_5_66 rfl (by decide +kernel) (by decide) (Nat.le_of_ble_eq_true rfl) (s_reader_begin (ok_b h)) (fun r1 s1 h => ?_)
  refine g_run hx [(.iconst 0, 0, 0), (.istore_n 2, 0, 0)] (pc' := 7) (lo' := [some (.ref 1), some (.int v1), some (.int 0)]) (st' := []) (σ' := s1) (by decide +kernel) rfl rfl ?_
  refine g_wk (lo' := [some (.ref 1), none, some (.int 0)]) ⟨rfl, ⟨rfl, trivial⟩⟩ ?_
  refine s_reader_read_L7 hx hc hr N _ _ h
def f_x_leads (N : Nat) (v1 : Int32) (v2 : Int32) (σ : Sg) : Option (Int32 × Sg) :=
  (f_x_strideTrouble N v1 v2 σ).bind fun q1 =>
  (f_x_granted N q1.1 q1.2).bind fun q2 =>
  if q2.1 = true then
    (f_x_targetNow N v1 v2 q2.2).bind fun q3 =>
    some (q3.1, q3.2)
  else
    some ((-1), q2.2)
set_option maxRecDepth 100000 in
theorem s_x_leads {y : EX} {N : Nat} {v1 : Int32} {v2 : Int32} {σ : Sg} {P : Int32 × Sg → Prop} (h : ok (f_x_leads N v1 v2 σ) P) : Ev y M_x_leads 3 [.ref 0, .int v1, .int v2] σ rvI P := by
  refine Ev.of mk_x_leads (Nat.le_of_ble_eq_true rfl) (fun x hx hc hr => ?_)
  have hx : Cx 9 prog_1_method_23_code x := hx
  have hc : Cc y 3 3 x := hc
  show G x 0 [some (.ref 0), some (.int v1), some (.int v2)] [] σ
  unfold f_x_leads at h
  refine g_run hx [(.aload_n 0, 0, 0), (.aload_n 0, 0, 0), (.iload_n 1, 0, 0), (.iload_n 2, 0, 0)] (pc' := 4) (lo' := [some (.ref 0), some (.int v1), some (.int v2)]) (st' := [.int v2, .int v1, .ref 0, .ref 0]) (σ' := σ) (by decide +kernel) rfl rfl ?_
  refine g_callV (rest := [.ref 0]) [.int v1, .int v2] hx hc mk_x_strideTrouble ln_9_215 rfl (by decide +kernel) (by decide) (Nat.le_of_ble_eq_true rfl) (s_x_strideTrouble (ok_b h)) (fun r1 s1 h => ?_)
  refine g_callV (rest := []) [.int r1] hx hc mk_x_granted ln_9_83 rfl (by decide +kernel) (by decide) (Nat.le_of_ble_eq_true rfl) (s_x_granted (ok_b h)) (fun r2 s2 h => ?_)
  refine g_ifb_eq hx (off := 12) (tgt := 22) (by decide +kernel) (by decide) (fun c10 => ?_) (fun c10 => ?_)
  · have h := ok_f h c10
    refine g_run hx [(.iconst (-1), (-1), 0)] (pc' := 23) (lo' := [some (.ref 0), some (.int v1), some (.int v2)]) (st' := [.int (-1)]) (σ' := s2) (by decide +kernel) rfl rfl ?_
    exact g_iret hx hr rfl _ rfl (by decide +kernel) (ok_some h)
  · have h := ok_t h c10
    refine g_run hx [(.aload_n 0, 0, 0), (.iload_n 1, 0, 0), (.iload_n 2, 0, 0)] (pc' := 16) (lo' := [some (.ref 0), some (.int v1), some (.int v2)]) (st' := [.int v2, .int v1, .ref 0]) (σ' := s2) (by decide +kernel) rfl rfl ?_
    refine g_callV (rest := []) [.int v1, .int v2] hx hc mk_x_targetNow ln_9_218 rfl (by decide +kernel) (by decide) (Nat.le_of_ble_eq_true rfl) (s_x_targetNow (ok_b h)) (fun r3 s3 h => ?_)
    refine g_goto hx (off := 4) (tgt := 23) (by decide +kernel) (by decide) ?_
    exact g_iret hx hr rfl _ rfl (by decide +kernel) (ok_some h)
def f_x_runFrom_L5 (N : Nat) : Nat → Int64 → Int32 → Int32 → Sg → Option (Int32 × Sg)
  | 0, _, _, _, _ => none
  | n + 1, v0, v3, v4, σ =>
    if 60 ≤ v4 then
      some (v3, σ)
    else
      (f_x_bit N v0 v4 σ).bind fun q1 =>
      if q1.1 = true then
        f_x_runFrom_L5 N n v0 (v3 + 1) (v4 + 1) q1.2
      else
        some (v3, q1.2)
def f_x_runFrom (N : Nat) (v0 : Int64) (v2 : Int32) (σ : Sg) : Option (Int32 × Sg) :=
  f_x_runFrom_L5 N N v0 0 v2 σ
set_option maxRecDepth 100000 in
theorem s_x_runFrom_L5 {y : EX} {N : Nat} {x : CX} {P : Int32 × Sg → Prop} (hx : Cx 9 prog_1_method_86_code x) (hc : Cc y 5 1 x) (hr : Cr M_x_runFrom rvI P x) : ∀ (n : Nat) (v0 : Int64) (v3 : Int32) (v4 : Int32) (σ : Sg), ok (f_x_runFrom_L5 N n v0 v3 v4 σ) P → G x 5 [some (.long v0), none, none, some (.int v3), some (.int v4)] [] σ := by
  intro n
  induction n with
  | zero => intro v0 v3 v4 σ h; exact ok_none h
  | succ n ih =>
    intro v0 v3 v4 σ h
    rw [f_x_runFrom_L5] at h
    refine g_run hx [(.iload 4, 0, 0), (.bipush 60, 60, 0)] (pc' := 9) (lo' := [some (.long v0), none, none, some (.int v3), some (.int v4)]) (st' := [.int 60, .int v4]) (σ' := σ) (by decide +kernel) rfl rfl ?_
    refine g_ic_ge hx (off := 21) (tgt := 30) (by decide +kernel) (by decide) (fun c9 => ?_) (fun c9 => ?_)
    · have h := ok_t h c9
      refine g_run hx [(.iload_n 3, 0, 0)] (pc' := 31) (lo' := [some (.long v0), none, none, some (.int v3), some (.int v4)]) (st' := [.int v3]) (σ' := σ) (by decide +kernel) rfl rfl ?_
      exact g_iret hx hr rfl _ rfl (by decide +kernel) (ok_some h)
    · have h := ok_f h c9
      refine g_run hx [(.lload_n 0, 0, 0), (.iload 4, 0, 0)] (pc' := 15) (lo' := [some (.long v0), none, none, some (.int v3), some (.int v4)]) (st' := [.int v4, .long v0]) (σ' := σ) (by decide +kernel) rfl rfl ?_
      refine g_callS (rest := []) [.long v0, .int v4] hx hc mk_x_bit ln_9_411 (by decide +kernel) (by decide) (Nat.le_of_ble_eq_true rfl) (s_x_bit (ok_b h)) (fun r1 s1 h => ?_)
      refine g_ifb_eq hx (off := 12) (tgt := 30) (by decide +kernel) (by decide) (fun c18 => ?_) (fun c18 => ?_)
      · have h := ok_f h c18
        refine g_run hx [(.iload_n 3, 0, 0)] (pc' := 31) (lo' := [some (.long v0), none, none, some (.int v3), some (.int v4)]) (st' := [.int v3]) (σ' := s1) (by decide +kernel) rfl rfl ?_
        exact g_iret hx hr rfl _ rfl (by decide +kernel) (ok_some h)
      · have h := ok_t h c18
        refine g_run hx [(.iinc 3 1, 1, 0), (.iinc 4 1, 1, 0)] (pc' := 27) (lo' := [some (.long v0), none, none, some (.int (v3 + 1)), some (.int (v4 + 1))]) (st' := []) (σ' := s1) (by decide +kernel) rfl rfl ?_
        refine g_goto hx (off := (-22)) (tgt := 5) (by decide +kernel) (by decide) ?_
        exact ih _ _ _ _ h
set_option maxRecDepth 100000 in
theorem s_x_runFrom {y : EX} {N : Nat} {v0 : Int64} {v2 : Int32} {σ : Sg} {P : Int32 × Sg → Prop} (h : ok (f_x_runFrom N v0 v2 σ) P) : Ev y M_x_runFrom 1 [.long v0, .int v2] σ rvI P := by
  refine Ev.of mk_x_runFrom (Nat.le_of_ble_eq_true rfl) (fun x hx hc hr => ?_)
  have hx : Cx 9 prog_1_method_86_code x := hx
  have hc : Cc y 5 1 x := hc
  show G x 0 [some (.long v0), none, some (.int v2), none, none] [] σ
  unfold f_x_runFrom at h
  refine g_run hx [(.iconst 0, 0, 0), (.istore_n 3, 0, 0), (.iload_n 2, 0, 0), (.istore 4, 0, 0)] (pc' := 5) (lo' := [some (.long v0), none, some (.int v2), some (.int 0), some (.int v2)]) (st' := []) (σ' := σ) (by decide +kernel) rfl rfl ?_
  refine g_wk (lo' := [some (.long v0), none, none, some (.int 0), some (.int v2)]) ⟨rfl, ⟨rfl, ⟨rfl, trivial⟩⟩⟩ ?_
  refine s_x_runFrom_L5 hx hc hr N _ _ _ _ h
def f_x_longestRun_L8 (N : Nat) : Nat → Int64 → Int32 → Int32 → Int32 → Sg → Option (Int32 × Sg)
  | 0, _, _, _, _, _ => none
  | n + 1, v0, v2, v3, v4, σ =>
    if 60 ≤ v4 then
      some (v2, σ)
    else
      (f_x_runFrom N v0 v4 σ).bind fun q1 =>
      if q1.1 ≤ v3 then
        f_x_longestRun_L8 N n v0 v2 v3 (v4 + (q1.1 + 1)) q1.2
      else
        f_x_longestRun_L8 N n v0 v4 q1.1 (v4 + (q1.1 + 1)) q1.2
def f_x_longestRun (N : Nat) (v0 : Int64) (σ : Sg) : Option (Int32 × Sg) :=
  f_x_longestRun_L8 N N v0 (-2) 0 0 σ
set_option maxRecDepth 100000 in
theorem s_x_longestRun_L8 {y : EX} {N : Nat} {x : CX} {P : Int32 × Sg → Prop} (hx : Cx 9 prog_1_method_87_code x) (hc : Cc y 6 2 x) (hr : Cr M_x_longestRun rvI P x) : ∀ (n : Nat) (v0 : Int64) (v2 : Int32) (v3 : Int32) (v4 : Int32) (σ : Sg), ok (f_x_longestRun_L8 N n v0 v2 v3 v4 σ) P → G x 8 [some (.long v0), none, some (.int v2), some (.int v3), some (.int v4), none] [] σ := by
  intro n
  induction n with
  | zero => intro v0 v2 v3 v4 σ h; exact ok_none h
  | succ n ih =>
    intro v0 v2 v3 v4 σ h
    rw [f_x_longestRun_L8] at h
    refine g_run hx [(.iload 4, 0, 0), (.bipush 60, 60, 0)] (pc' := 12) (lo' := [some (.long v0), none, some (.int v2), some (.int v3), some (.int v4), none]) (st' := [.int 60, .int v4]) (σ' := σ) (by decide +kernel) rfl rfl ?_
    refine g_ic_ge hx (off := 35) (tgt := 47) (by decide +kernel) (by decide) (fun c12 => ?_) (fun c12 => ?_)
    · have h := ok_t h c12
      refine g_run hx [(.iload_n 2, 0, 0)] (pc' := 48) (lo' := [some (.long v0), none, some (.int v2), some (.int v3), some (.int v4), none]) (st' := [.int v2]) (σ' := σ) (by decide +kernel) rfl rfl ?_
      exact g_iret hx hr rfl _ rfl (by decide +kernel) (ok_some h)
    · have h := ok_f h c12
      refine g_run hx [(.lload_n 0, 0, 0), (.iload 4, 0, 0)] (pc' := 18) (lo' := [some (.long v0), none, some (.int v2), some (.int v3), some (.int v4), none]) (st' := [.int v4, .long v0]) (σ' := σ) (by decide +kernel) rfl rfl ?_
      refine g_callS (rest := []) [.long v0, .int v4] hx hc mk_x_runFrom ln_9_179 (by decide +kernel) (by decide) (Nat.le_of_ble_eq_true rfl) (s_x_runFrom (ok_b h)) (fun r1 s1 h => ?_)
      refine g_run hx [(.istore 5, 0, 0), (.iload 5, 0, 0), (.iload_n 3, 0, 0)] (pc' := 26) (lo' := [some (.long v0), none, some (.int v2), some (.int v3), some (.int v4), some (.int r1)]) (st' := [.int v3, .int r1]) (σ' := s1) (by decide +kernel) rfl rfl ?_
      refine g_ic_le hx (off := 9) (tgt := 35) (by decide +kernel) (by decide) (fun c26 => ?_) (fun c26 => ?_)
      · have h := ok_t h c26
        refine g_run hx [(.iload 4, 0, 0), (.iload 5, 0, 0), (.iconst 1, 1, 0), (.iadd, 0, 0), (.iadd, 0, 0), (.istore 4, 0, 0)] (pc' := 44) (lo' := [some (.long v0), none, some (.int v2), some (.int v3), some (.int (v4 + (r1 + 1))), some (.int r1)]) (st' := []) (σ' := s1) (by decide +kernel) rfl rfl ?_
        refine g_goto hx (off := (-36)) (tgt := 8) (by decide +kernel) (by decide) ?_
        refine g_wk (lo' := [some (.long v0), none, some (.int v2), some (.int v3), some (.int (v4 + (r1 + 1))), none]) ⟨rfl, ⟨rfl, ⟨rfl, ⟨rfl, trivial⟩⟩⟩⟩ ?_
        exact ih _ _ _ _ _ h
      · have h := ok_f h c26
        refine g_run hx [(.iload 5, 0, 0), (.istore_n 3, 0, 0), (.iload 4, 0, 0), (.istore_n 2, 0, 0), (.iload 4, 0, 0), (.iload 5, 0, 0), (.iconst 1, 1, 0), (.iadd, 0, 0), (.iadd, 0, 0), (.istore 4, 0, 0)] (pc' := 44) (lo' := [some (.long v0), none, some (.int v4), some (.int r1), some (.int (v4 + (r1 + 1))), some (.int r1)]) (st' := []) (σ' := s1) (by decide +kernel) rfl rfl ?_
        refine g_goto hx (off := (-36)) (tgt := 8) (by decide +kernel) (by decide) ?_
        refine g_wk (lo' := [some (.long v0), none, some (.int v4), some (.int r1), some (.int (v4 + (r1 + 1))), none]) ⟨rfl, ⟨rfl, ⟨rfl, ⟨rfl, trivial⟩⟩⟩⟩ ?_
        exact ih _ _ _ _ _ h
set_option maxRecDepth 100000 in
theorem s_x_longestRun {y : EX} {N : Nat} {v0 : Int64} {σ : Sg} {P : Int32 × Sg → Prop} (h : ok (f_x_longestRun N v0 σ) P) : Ev y M_x_longestRun 2 [.long v0] σ rvI P := by
  refine Ev.of mk_x_longestRun (Nat.le_of_ble_eq_true rfl) (fun x hx hc hr => ?_)
  have hx : Cx 9 prog_1_method_87_code x := hx
  have hc : Cc y 6 2 x := hc
  show G x 0 [some (.long v0), none, none, none, none, none] [] σ
  unfold f_x_longestRun at h
  refine g_run hx [(.bipush (-2), (-2), 0), (.istore_n 2, 0, 0), (.iconst 0, 0, 0), (.istore_n 3, 0, 0), (.iconst 0, 0, 0), (.istore 4, 0, 0)] (pc' := 8) (lo' := [some (.long v0), none, some (.int (-2)), some (.int 0), some (.int 0), none]) (st' := []) (σ' := σ) (by decide +kernel) rfl rfl ?_
  refine s_x_longestRun_L8 hx hc hr N _ _ _ _ _ h
