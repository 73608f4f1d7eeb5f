set_option maxRecDepth 100000 in
theorem s_numbers_add_36 {y : EX} {N : Nat} {v1 : Int32} {σ : Sg} {P : Unit × Sg → Prop} (h : ok (f_numbers_add N 36 6 37 v1 σ) P) : Ev y M_numbers_add 0 [.ref 36, .int v1] σ rvN P := by
  refine Ev.of mk_numbers_add (Nat.le_of_ble_eq_true rfl) (fun x hx hc hr => ?_)
  have hx : Cx 3 prog_5_method_2_code x := hx
  have hc : Cc y 2 0 x := hc
  show G x 0 [some (.ref 36), some (.int v1)] [] σ
  unfold f_numbers_add at h
  refine g_run hx [(.aload_n 0, 0, 0), (.getfield 9, 0, 0)] (pc' := 4) (lo' := [some (.ref 36), some (.int v1)]) (st' := [.int (gI σ 36 1)]) (σ' := σ) (by decide +kernel) rfl rfl ?_
  refine g_if_lt hx (off := 35) (tgt := 39) (by decide +kernel) (by decide) (fun c4 => ?_) (fun c4 => ?_)
  · have h := ok_t h c4
    exact g_vret hx hr rfl () rfl (by decide +kernel) (ok_some h)
  · have h := ok_f h c4
    refine g_run hx [(.aload_n 0, 0, 0), (.getfield 9, 0, 0), (.aload_n 0, 0, 0), (.getfield 21, 0, 0), (.arraylength, 0, 0)] (pc' := 16) (lo' := [some (.ref 36), some (.int v1)]) (st' := [.int (nI 6), .int (gI σ 36 1)]) (σ' := σ) (by decide +kernel) rfl rfl ?_
    refine g_ic_ge hx (off := 23) (tgt := 39) (by decide +kernel) (by decide) (fun c16 => ?_) (fun c16 => ?_)
    · have h := ok_t h c16
      exact g_vret hx hr rfl () rfl (by decide +kernel) (ok_some h)
    · have h := ok_f h c16
      refine g_run hx [(.aload_n 0, 0, 0), (.getfield 21, 0, 0), (.aload_n 0, 0, 0), (.getfield 9, 0, 0), (.iload_n 1, 0, 0)] (pc' := 28) (lo' := [some (.ref 36), some (.int v1)]) (st' := [.int v1, .int (gI σ 36 1), .ref 37]) (σ' := σ) (by decide +kernel) rfl rfl ?_
      obtain ⟨c28, h⟩ := ok_g h
      refine g_iast hx (by decide +kernel) (i := 37) (n := 6) rfl c28 ?_
      refine g_run hx [(.aload_n 0, 0, 0), (.dup, 0, 0), (.getfield 9, 0, 0), (.iconst 1, 1, 0), (.iadd, 0, 0), (.putfield 9, 0, 0)] (pc' := 39) (lo' := [some (.ref 36), some (.int v1)]) (st' := []) (σ' := sI (sA σ 37 (gI σ 36 1) v1) 36 1 ((gI (sA σ 37 (gI σ 36 1) v1) 36 1) + 1)) (by decide +kernel) rfl rfl ?_
      exact g_vret hx hr rfl () rfl (by decide +kernel) (ok_some h)
set_option maxRecDepth 100000 in
theorem s_numbers_add_38 {y : EX} {N : Nat} {v1 : Int32} {σ : Sg} {P : Unit × Sg → Prop} (h : ok (f_numbers_add N 38 6 39 v1 σ) P) : Ev y M_numbers_add 0 [.ref 38, .int v1] σ rvN P := by
  refine Ev.of mk_numbers_add (Nat.le_of_ble_eq_true rfl) (fun x hx hc hr => ?_)
  have hx : Cx 3 prog_5_method_2_code x := hx
  have hc : Cc y 2 0 x := hc
  show G x 0 [some (.ref 38), some (.int v1)] [] σ
  unfold f_numbers_add at h
  refine g_run hx [(.aload_n 0, 0, 0), (.getfield 9, 0, 0)] (pc' := 4) (lo' := [some (.ref 38), some (.int v1)]) (st' := [.int (gI σ 38 1)]) (σ' := σ) (by decide +kernel) rfl rfl ?_
  refine g_if_lt hx (off := 35) (tgt := 39) (by decide +kernel) (by decide) (fun c4 => ?_) (fun c4 => ?_)
  · have h := ok_t h c4
    exact g_vret hx hr rfl () rfl (by decide +kernel) (ok_some h)
  · have h := ok_f h c4
    refine g_run hx [(.aload_n 0, 0, 0), (.getfield 9, 0, 0), (.aload_n 0, 0, 0), (.getfield 21, 0, 0), (.arraylength, 0, 0)] (pc' := 16) (lo' := [some (.ref 38), some (.int v1)]) (st' := [.int (nI 6), .int (gI σ 38 1)]) (σ' := σ) (by decide +kernel) rfl rfl ?_
    refine g_ic_ge hx (off := 23) (tgt := 39) (by decide +kernel) (by decide) (fun c16 => ?_) (fun c16 => ?_)
    · have h := ok_t h c16
      exact g_vret hx hr rfl () rfl (by decide +kernel) (ok_some h)
    · have h := ok_f h c16
      refine g_run hx [(.aload_n 0, 0, 0), (.getfield 21, 0, 0), (.aload_n 0, 0, 0), (.getfield 9, 0, 0), (.iload_n 1, 0, 0)] (pc' := 28) (lo' := [some (.ref 38), some (.int v1)]) (st' := [.int v1, .int (gI σ 38 1), .ref 39]) (σ' := σ) (by decide +kernel) rfl rfl ?_
      obtain ⟨c28, h⟩ := ok_g h
      refine g_iast hx (by decide +kernel) (i := 39) (n := 6) rfl c28 ?_
      refine g_run hx [(.aload_n 0, 0, 0), (.dup, 0, 0), (.getfield 9, 0, 0), (.iconst 1, 1, 0), (.iadd, 0, 0), (.putfield 9, 0, 0)] (pc' := 39) (lo' := [some (.ref 38), some (.int v1)]) (st' := []) (σ' := sI (sA σ 39 (gI σ 38 1) v1) 38 1 ((gI (sA σ 39 (gI σ 38 1) v1) 38 1) + 1)) (by decide +kernel) rfl rfl ?_
      exact g_vret hx hr rfl () rfl (by decide +kernel) (ok_some h)
def f_reader_readSeen (N : Nat) (σ : Sg) : Option (Bool × Sg) :=
  (f_reader_expectCell N 0 σ).bind fun q1 =>
  if q1.1 = true then
    (f_numbers_indexOf N 36 6 37 (gI q1.2 1 6) q1.2).bind fun q2 =>
    if q2.1 = (-2) then
      (f_numbers_add N 36 6 37 (gI q2.2 1 6) q2.2).bind fun q3 =>
      (f_reader_nextToken N q3.2).bind fun q4 =>
      (f_reader_isWord N 18 q4.2).bind fun q5 =>
      if q5.1 = true then
        (f_numbers_add N 38 6 39 1 q5.2).bind fun q9 =>
        some (true, q9.2)
      else
        (f_reader_isWord N 19 q5.2).bind fun q6 =>
        if q6.1 = true then
          (f_numbers_add N 38 6 39 0 q6.2).bind fun q8 =>
          some (true, q8.2)
        else
          (f_reader_fail N 1 q6.2).bind fun q7 =>
          some (q7.1, q7.2)
    else
      (f_reader_fail N 3 q2.2).bind fun q10 =>
      some (q10.1, q10.2)
  else
    some (false, q1.2)
set_option maxRecDepth 100000 in
theorem s_reader_readSeen {y : EX} {N : Nat} {σ : Sg} {P : Bool × Sg → Prop} (h : ok (f_reader_readSeen N σ) P) : Ev y M_reader_readSeen 5 [.ref 1] σ rvB P := by
  refine Ev.of mk_reader_readSeen (Nat.le_of_ble_eq_true rfl) (fun x hx hc hr => ?_)
  have hx : Cx 5 prog_7_method_14_code x := hx
  have hc : Cc y 2 5 x := hc
  show G x 0 [some (.ref 1), none] [] σ
  unfold f_reader_readSeen at h
  refine g_run hx [(.aload_n 0, 0, 0), (.iconst 0, 0, 0)] (pc' := 2) (lo' := [some (.ref 1), none]) (st' := [.int 0, .ref 1]) (σ' := σ) (by decide +kernel) rfl rfl ?_
  refine g_callV (rest := []) [.int 0] hx hc mk_reader_expectCell ln_5_143 rfl (by decide +kernel) (by decide) (Nat.le_of_ble_eq_true rfl) (s_reader_expectCell (ok_b h)) (fun r1 s1 h => ?_)
  refine g_ifb_ne hx (off := 5) (tgt := 10) (by decide +kernel) (by decide) (fun c5 => ?_) (fun c5 => ?_)
  · have h := ok_t h c5
    refine g_run hx [(.aload_n 0, 0, 0), (.getfield 37, 0, 0), (.getfield 229, 0, 0), (.aload_n 0, 0, 0), (.getfield 31, 0, 0)] (pc' := 21) (lo' := [some (.ref 1), none]) (st' := [.int (gI s1 1 6), .ref 36]) (σ' := s1) (by decide +kernel) rfl rfl ?_
    refine g_callV (rest := []) [.int (gI s1 1 6)] hx hc mk_numbers_indexOf ln_5_226 rfl (by decide +kernel) (by decide) (Nat.le_of_ble_eq_true rfl) (s_numbers_indexOf_36 (ok_b h)) (fun r2 s2 h => ?_)
    refine g_run hx [(.bipush (-2), (-2), 0)] (pc' := 26) (lo' := [some (.ref 1), none]) (st' := [.int (-2), .int r2]) (σ' := s2) (by decide +kernel) rfl rfl ?_
    refine g_ic_eq hx (off := 9) (tgt := 35) (by decide +kernel) (by decide) (fun c26 => ?_) (fun c26 => ?_)
    · have h := ok_t h c26
      refine g_run hx [(.aload_n 0, 0, 0), (.getfield 37, 0, 0), (.getfield 229, 0, 0), (.aload_n 0, 0, 0), (.getfield 31, 0, 0)] (pc' := 46) (lo' := [some (.ref 1), none]) (st' := [.int (gI s2 1 6), .ref 36]) (σ' := s2) (by decide +kernel) rfl rfl ?_
      refine g_callV (rest := []) [.int (gI s2 1 6)] hx hc mk_numbers_add ln_5_181 rfl (by decide +kernel) (by decide) (Nat.le_of_ble_eq_true rfl) (s_numbers_add_36 (ok_b h)) (fun r3 s3 h => ?_)
      refine g_run hx [(.aload_n 0, 0, 0)] (pc' := 50) (lo' := [some (.ref 1), none]) (st' := [.ref 1]) (σ' := s3) (by decide +kernel) rfl rfl ?_
      refine g_callV (rest := []) [] hx hc mk_reader_nextToken ln_5_69 rfl (by decide +kernel) (by decide) (Nat.le_of_ble_eq_true rfl) (s_reader_nextToken (ok_b h)) (fun r4 s4 h => ?_)
      refine g_run hx [(.aload_n 0, 0, 0)] (pc' := 54) (lo' := [some (.ref 1), none]) (st' := [.ref 1]) (σ' := s4) (by decide +kernel) rfl rfl ?_
      refine g_ldcS (idx := 232) (sid := 18) hx hc (by decide) (by decide +kernel) ?_
      refine g_callV (rest := []) [.ref (100 + 18)] hx hc mk_reader_isWord ln_5_163 rfl (by decide +kernel) (by decide) (Nat.le_of_ble_eq_true rfl) (s_reader_isWord (by decide) (ok_b h)) (fun r5 s5 h => ?_)
      refine g_ifb_eq hx (off := 7) (tgt := 66) (by decide +kernel) (by decide) (fun c59 => ?_) (fun c59 => ?_)
      · have h := ok_f h c59
        refine g_run hx [(.aload_n 0, 0, 0)] (pc' := 67) (lo' := [some (.ref 1), none]) (st' := [.ref 1]) (σ' := s5) (by decide +kernel) rfl rfl ?_
        refine g_ldcS (idx := 234) (sid := 19) hx hc (by decide) (by decide +kernel) ?_
        refine g_callV (rest := []) [.ref (100 + 19)] hx hc mk_reader_isWord ln_5_163 rfl (by decide +kernel) (by decide) (Nat.le_of_ble_eq_true rfl) (s_reader_isWord (by decide) (ok_b h)) (fun r6 s6 h => ?_)
        refine g_ifb_eq hx (off := 7) (tgt := 79) (by decide +kernel) (by decide) (fun c72 => ?_) (fun c72 => ?_)
        · have h := ok_f h c72
          refine g_run hx [(.bipush (-2), (-2), 0), (.istore_n 1, 0, 0), (.iload_n 1, 0, 0), (.bipush (-2), (-2), 0)] (pc' := 85) (lo' := [some (.ref 1), some (.int (-2))]) (st' := [.int (-2), .int (-2)]) (σ' := s6) (by decide +kernel) rfl rfl ?_
          refine g_ic_ne hx (off := 9) (tgt := 94) (by decide +kernel) (by decide) (fun c => absurd c (by decide)) (fun _ => ?_)
          refine g_run hx [(.aload_n 0, 0, 0), (.iconst 1, 1, 0)] (pc' := 90) (lo' := [some (.ref 1), some (.int (-2))]) (st' := [.int 1, .ref 1]) (σ' := s6) (by decide +kernel) rfl rfl ?_
          refine g_callV (rest := []) [.int 1] hx hc mk_reader_fail ln_5_91 rfl (by decide +kernel) (by decide) (Nat.le_of_ble_eq_true rfl) (s_reader_fail (ok_b h)) (fun r7 s7 h => ?_)
          exact g_zret hx hr rfl _ rfl (by decide +kernel) (ok_some h)
        · have h := ok_t h c72
          refine g_run hx [(.iconst 0, 0, 0)] (pc' := 76) (lo' := [some (.ref 1), none]) (st' := [.int 0]) (σ' := s6) (by decide +kernel) rfl rfl ?_
          refine g_goto hx (off := 5) (tgt := 81) (by decide +kernel) (by decide) ?_
          refine g_run hx [(.istore_n 1, 0, 0), (.iload_n 1, 0, 0), (.bipush (-2), (-2), 0)] (pc' := 85) (lo' := [some (.ref 1), some (.int 0)]) (st' := [.int (-2), .int 0]) (σ' := s6) (by decide +kernel) rfl rfl ?_
          refine g_ic_ne hx (off := 9) (tgt := 94) (by decide +kernel) (by decide) (fun _ => ?_) (fun c => absurd c (by decide))
          refine g_run hx [(.aload_n 0, 0, 0), (.getfield 37, 0, 0), (.getfield 236, 0, 0), (.iload_n 1, 0, 0)] (pc' := 102) (lo' := [some (.ref 1), some (.int 0)]) (st' := [.int 0, .ref 38]) (σ' := s6) (by decide +kernel) rfl rfl ?_
          refine g_callV (rest := []) [.int 0] hx hc mk_numbers_add ln_5_181 rfl (by decide +kernel) (by decide) (Nat.le_of_ble_eq_true rfl) (s_numbers_add_38 (ok_b h)) (fun r8 s8 h => ?_)
          refine g_run hx [(.iconst 1, 1, 0)] (pc' := 106) (lo' := [some (.ref 1), some (.int 0)]) (st' := [.int 1]) (σ' := s8) (by decide +kernel) rfl rfl ?_
          exact g_zret (b := true) hx hr rfl true rfl (by decide +kernel) (ok_some h)
      · have h := ok_t h c59
        refine g_run hx [(.iconst 1, 1, 0)] (pc' := 63) (lo' := [some (.ref 1), none]) (st' := [.int 1]) (σ' := s5) (by decide +kernel) rfl rfl ?_
        refine g_goto hx (off := 18) (tgt := 81) (by decide +kernel) (by decide) ?_
        refine g_run hx [(.istore_n 1, 0, 0), (.iload_n 1, 0, 0), (.bipush (-2), (-2), 0)] (pc' := 85) (lo' := [some (.ref 1), some (.int 1)]) (st' := [.int (-2), .int 1]) (σ' := s5) (by decide +kernel) rfl rfl ?_
        refine g_ic_ne hx (off := 9) (tgt := 94) (by decide +kernel) (by decide) (fun _ => ?_) (fun c => absurd c (by decide))
        refine g_run hx [(.aload_n 0, 0, 0), (.getfield 37, 0, 0), (.getfield 236, 0, 0), (.iload_n 1, 0, 0)] (pc' := 102) (lo' := [some (.ref 1), some (.int 1)]) (st' := [.int 1, .ref 38]) (σ' := s5) (by decide +kernel) rfl rfl ?_
        refine g_callV (rest := []) [.int 1] hx hc mk_numbers_add ln_5_181 rfl (by decide +kernel) (by decide) (Nat.le_of_ble_eq_true rfl) (s_numbers_add_38 (ok_b h)) (fun r9 s9 h => ?_)
        refine g_run hx [(.iconst 1, 1, 0)] (pc' := 106) (lo' := [some (.ref 1), some (.int 1)]) (st' := [.int 1]) (σ' := s9) (by decide +kernel) rfl rfl ?_
        exact g_zret (b := true) hx hr rfl true rfl (by decide +kernel) (ok_some h)
    · have h := ok_f h c26
      refine g_run hx [(.aload_n 0, 0, 0), (.iconst 3, 3, 0)] (pc' := 31) (lo' := [some (.ref 1), none]) (st' := [.int 3, .ref 1]) (σ' := s2) (by decide +kernel) rfl rfl ?_
      refine g_callV (rest := []) [.int 3] hx hc mk_reader_fail ln_5_91 rfl (by decide +kernel) (by decide) (Nat.le_of_ble_eq_true rfl) (s_reader_fail (ok_b h)) (fun r10 s10 h => ?_)
      exact g_zret hx hr rfl _ rfl (by decide +kernel) (ok_some h)
  · have h := ok_f h c5
    refine g_run hx [(.iconst 0, 0, 0)] (pc' := 9) (lo' := [some (.ref 1), none]) (st' := [.int 0]) (σ' := s1) (by decide +kernel) rfl rfl ?_
    exact g_zret (b := false) hx hr rfl false rfl (by decide +kernel) (ok_some h)
def f_reader_readLine (N : Nat) (σ : Sg) : Option (Bool × Sg) :=
  (f_reader_sortHere N σ).bind fun q1 =>
  (f_reader_headFits N q1.1 q1.2).bind fun q2 =>
  if q2.1 = true then
    if q1.1 = 0 then
      (f_reader_readLand N q2.2).bind fun q3 =>
      some (q3.1, q3.2)
    else if q1.1 = 1 then
      (f_reader_readGround N q2.2).bind fun q4 =>
      some (q4.1, q4.2)
    else if q1.1 = 2 then
      (f_reader_readBoots N q2.2).bind fun q5 =>
      some (q5.1, q5.2)
    else if q1.1 = 3 then
      (f_reader_readPlace N q2.2).bind fun q6 =>
      some (q6.1, q6.2)
    else if q1.1 = 4 then
      (f_reader_readStride N q2.2).bind fun q7 =>
      some (q7.1, q7.2)
    else if q1.1 = 5 then
      (f_reader_readUnsure N q2.2).bind fun q8 =>
      some (q8.1, q8.2)
    else 
      (f_reader_readSeen N q2.2).bind fun q9 =>
      some (q9.1, q9.2)
  else
    some (false, q2.2)
set_option maxRecDepth 100000 in
theorem s_reader_readLine {y : EX} {N : Nat} {σ : Sg} {P : Bool × Sg → Prop} (h : ok (f_reader_readLine N σ) P) : Ev y M_reader_readLine 8 [.ref 1] σ rvB P := by
  refine Ev.of mk_reader_readLine (Nat.le_of_ble_eq_true rfl) (fun x hx hc hr => ?_)
  have hx : Cx 5 prog_7_method_6_code x := hx
  have hc : Cc y 2 8 x := hc
  show G x 0 [some (.ref 1), none] [] σ
  unfold f_reader_readLine at h
  refine g_run hx [(.aload_n 0, 0, 0)] (pc' := 1) (lo' := [some (.ref 1), none]) (st' := [.ref 1]) (σ' := σ) (by decide +kernel) rfl rfl ?_
  refine g_callV (rest := []) [] hx hc mk_reader_sortHere ln_5_98 rfl (by decide +kernel) (by decide) (Nat.le_of_ble_eq_true rfl) (s_reader_sortHere (ok_b h)) (fun r1 s1 h => ?_)
  refine g_run hx [(.istore_n 1, 0, 0), (.aload_n 0, 0, 0), (.iload_n 1, 0, 0)] (pc' := 7) (lo' := [some (.ref 1), some (.int r1)]) (st' := [.int r1, .ref 1]) (σ' := s1) (by decide +kernel) rfl rfl ?_
  refine g_callV (rest := []) [.int r1] hx hc mk_reader_headFits ln_5_102 rfl (by decide +kernel) (by decide) (Nat.le_of_ble_eq_true rfl) (s_reader_headFits (ok_b h)) (fun r2 s2 h => ?_)
  refine g_ifb_ne hx (off := 5) (tgt := 15) (by decide +kernel) (by decide) (fun c10 => ?_) (fun c10 => ?_)
  · have h := ok_t h c10
    refine g_run hx [(.iload_n 1, 0, 0)] (pc' := 16) (lo' := [some (.ref 1), some (.int r1)]) (st' := [.int r1]) (σ' := s2) (by decide +kernel) rfl rfl ?_
    by_cases c16_0 : r1 = 0
    · have h := ok_t h c16_0
      refine g_tin hx (dflt := 70) (lo := 0) (hi := 5) (offs := #[40, 45, 50, 55, 60, 65]) (len := 40) (off := 40) (tgt := 56) (v := 0) (by decide +kernel) c16_0 (by decide +kernel) (by decide +kernel) (by decide +kernel) (by decide) ?_
      refine g_run hx [(.aload_n 0, 0, 0)] (pc' := 57) (lo' := [some (.ref 1), some (.int r1)]) (st' := [.ref 1]) (σ' := s2) (by decide +kernel) rfl rfl ?_
      refine g_callV (rest := []) [] hx hc mk_reader_readLand ln_5_105 rfl (by decide +kernel) (by decide) (Nat.le_of_ble_eq_true rfl) (s_reader_readLand (ok_b h)) (fun r3 s3 h => ?_)
      exact g_zret hx hr rfl _ rfl (by decide +kernel) (ok_some h)
    have h := ok_f h c16_0
    by_cases c16_1 : r1 = 1
    · have h := ok_t h c16_1
      refine g_tin hx (dflt := 70) (lo := 0) (hi := 5) (offs := #[40, 45, 50, 55, 60, 65]) (len := 40) (off := 45) (tgt := 61) (v := 1) (by decide +kernel) c16_1 (by decide +kernel) (by decide +kernel) (by decide +kernel) (by decide) ?_
      refine g_run hx [(.aload_n 0, 0, 0)] (pc' := 62) (lo' := [some (.ref 1), some (.int r1)]) (st' := [.ref 1]) (σ' := s2) (by decide +kernel) rfl rfl ?_
      refine g_callV (rest := []) [] hx hc mk_reader_readGround ln_5_108 rfl (by decide +kernel) (by decide) (Nat.le_of_ble_eq_true rfl) (s_reader_readGround (ok_b h)) (fun r4 s4 h => ?_)
      exact g_zret hx hr rfl _ rfl (by decide +kernel) (ok_some h)
    have h := ok_f h c16_1
    by_cases c16_2 : r1 = 2
    · have h := ok_t h c16_2
      refine g_tin hx (dflt := 70) (lo := 0) (hi := 5) (offs := #[40, 45, 50, 55, 60, 65]) (len := 40) (off := 50) (tgt := 66) (v := 2) (by decide +kernel) c16_2 (by decide +kernel) (by decide +kernel) (by decide +kernel) (by decide) ?_
      refine g_run hx [(.aload_n 0, 0, 0)] (pc' := 67) (lo' := [some (.ref 1), some (.int r1)]) (st' := [.ref 1]) (σ' := s2) (by decide +kernel) rfl rfl ?_
      refine g_callV (rest := []) [] hx hc mk_reader_readBoots ln_5_111 rfl (by decide +kernel) (by decide) (Nat.le_of_ble_eq_true rfl) (s_reader_readBoots (ok_b h)) (fun r5 s5 h => ?_)
      exact g_zret hx hr rfl _ rfl (by decide +kernel) (ok_some h)
    have h := ok_f h c16_2
    by_cases c16_3 : r1 = 3
    · have h := ok_t h c16_3
      refine g_tin hx (dflt := 70) (lo := 0) (hi := 5) (offs := #[40, 45, 50, 55, 60, 65]) (len := 40) (off := 55) (tgt := 71) (v := 3) (by decide +kernel) c16_3 (by decide +kernel) (by decide +kernel) (by decide +kernel) (by decide) ?_
      refine g_run hx [(.aload_n 0, 0, 0)] (pc' := 72) (lo' := [some (.ref 1), some (.int r1)]) (st' := [.ref 1]) (σ' := s2) (by decide +kernel) rfl rfl ?_
      refine g_callV (rest := []) [] hx hc mk_reader_readPlace ln_5_114 rfl (by decide +kernel) (by decide) (Nat.le_of_ble_eq_true rfl) (s_reader_readPlace (ok_b h)) (fun r6 s6 h => ?_)
      exact g_zret hx hr rfl _ rfl (by decide +kernel) (ok_some h)
    have h := ok_f h c16_3
    by_cases c16_4 : r1 = 4
    · have h := ok_t h c16_4
      refine g_tin hx (dflt := 70) (lo := 0) (hi := 5) (offs := #[40, 45, 50, 55, 60, 65]) (len := 40) (off := 60) (tgt := 76) (v := 4) (by decide +kernel) c16_4 (by decide +kernel) (by decide +kernel) (by decide +kernel) (by decide) ?_
      refine g_run hx [(.aload_n 0, 0, 0)] (pc' := 77) (lo' := [some (.ref 1), some (.int r1)]) (st' := [.ref 1]) (σ' := s2) (by decide +kernel) rfl rfl ?_
      refine g_callV (rest := []) [] hx hc mk_reader_readStride ln_5_117 rfl (by decide +kernel) (by decide) (Nat.le_of_ble_eq_true rfl) (s_reader_readStride (ok_b h)) (fun r7 s7 h => ?_)
      exact g_zret hx hr rfl _ rfl (by decide +kernel) (ok_some h)
    have h := ok_f h c16_4
    by_cases c16_5 : r1 = 5
    · have h := ok_t h c16_5
      refine g_tin hx (dflt := 70) (lo := 0) (hi := 5) (offs := #[40, 45, 50, 55, 60, 65]) (len := 40) (off := 65) (tgt := 81) (v := 5) (by decide +kernel) c16_5 (by decide +kernel) (by decide +kernel) (by decide +kernel) (by decide) ?_
      refine g_run hx [(.aload_n 0, 0, 0)] (pc' := 82) (lo' := [some (.ref 1), some (.int r1)]) (st' := [.ref 1]) (σ' := s2) (by decide +kernel) rfl rfl ?_
      refine g_callV (rest := []) [] hx hc mk_reader_readUnsure ln_5_120 rfl (by decide +kernel) (by decide) (Nat.le_of_ble_eq_true rfl) (s_reader_readUnsure (ok_b h)) (fun r8 s8 h => ?_)
      exact g_zret hx hr rfl _ rfl (by decide +kernel) (ok_some h)
    have h := ok_f h c16_5
    refine g_tout hx (dflt := 70) (n := 6) (offs := #[40, 45, 50, 55, 60, 65]) (len := 40) (tgt := 86) (by decide +kernel) (by decide) (sw_ne ⟨c16_0, c16_1, c16_2, c16_3, c16_4, c16_5, trivial⟩) (by decide) ?_
    refine g_run hx [(.aload_n 0, 0, 0)] (pc' := 87) (lo' := [some (.ref 1), some (.int r1)]) (st' := [.ref 1]) (σ' := s2) (by decide +kernel) rfl rfl ?_
    refine g_callV (rest := []) [] hx hc mk_reader_readSeen ln_5_123 rfl (by decide +kernel) (by decide) (Nat.le_of_ble_eq_true rfl) (s_reader_readSeen (ok_b h)) (fun r9 s9 h => ?_)
    exact g_zret hx hr rfl _ rfl (by decide +kernel) (ok_some h)
  · have h := ok_f h c10
    refine g_run hx [(.iconst 0, 0, 0)] (pc' := 14) (lo' := [some (.ref 1), some (.int r1)]) (st' := [.int 0]) (σ' := s2) (by decide +kernel) rfl rfl ?_
    exact g_zret (b := false) hx hr rfl false rfl (by decide +kernel) (ok_some h)
def f_reader_endText (N : Nat) (σ : Sg) : Option (Unit × Sg) :=
  if (gI σ 1 3) = 0 then
    if (gI σ 26 1) = 0 then
      (f_reader_fail N 6 σ).bind fun q1 =>
      some ((), q1.2)
    else
      some ((), σ)
  else
    (f_reader_fail N 1 σ).bind fun q2 =>
    some ((), q2.2)
set_option maxRecDepth 100000 in
theorem s_reader_endText {y : EX} {N : Nat} {σ : Sg} {P : Unit × Sg → Prop} (h : ok (f_reader_endText N σ) P) : Ev y M_reader_endText 1 [.ref 1] σ rvN P := by
  refine Ev.of mk_reader_endText (Nat.le_of_ble_eq_true rfl) (fun x hx hc hr => ?_)
  have hx : Cx 5 prog_7_method_5_code x := hx
  have hc : Cc y 1 1 x := hc
  show G x 0 [some (.ref 1)] [] σ
  unfold f_reader_endText at h
  refine g_run hx [(.aload_n 0, 0, 0), (.getfield 22, 0, 0)] (pc' := 4) (lo' := [some (.ref 1)]) (st' := [.int (gI σ 1 3)]) (σ' := σ) (by decide +kernel) rfl rfl ?_
  refine g_if_eq hx (off := 12) (tgt := 16) (by decide +kernel) (by decide) (fun c4 => ?_) (fun c4 => ?_)
  · have h := ok_t h c4
    refine g_run hx [(.aload_n 0, 0, 0), (.getfield 37, 0, 0), (.getfield 95, 0, 0), (.getfield 88, 0, 0)] (pc' := 26) (lo' := [some (.ref 1)]) (st' := [.int (gI σ 26 1)]) (σ' := σ) (by decide +kernel) rfl rfl ?_
    refine g_if_ne hx (off := 10) (tgt := 36) (by decide +kernel) (by decide) (fun c26 => ?_) (fun c26 => ?_)
    · have h := ok_f h c26
      exact g_vret hx hr rfl () rfl (by decide +kernel) (ok_some h)
    · have h := ok_t h c26
      refine g_run hx [(.aload_n 0, 0, 0), (.bipush 6, 6, 0)] (pc' := 32) (lo' := [some (.ref 1)]) (st' := [.int 6, .ref 1]) (σ' := σ) (by decide +kernel) rfl rfl ?_
      refine g_callV (rest := []) [.int 6] hx hc mk_reader_fail ln_5_91 rfl (by decide +kernel) (by decide) (Nat.le_of_ble_eq_true rfl) (s_reader_fail (ok_b h)) (fun r1 s1 h => ?_)
      refine g_run hx [(.pop, 0, 0)] (pc' := 36) (lo' := [some (.ref 1)]) (st' := []) (σ' := s1) (by decide +kernel) rfl rfl ?_
      exact g_vret hx hr rfl () rfl (by decide +kernel) (ok_some h)
  · have h := ok_f h c4
    refine g_run hx [(.aload_n 0, 0, 0), (.iconst 1, 1, 0)] (pc' := 9) (lo' := [some (.ref 1)]) (st' := [.int 1, .ref 1]) (σ' := σ) (by decide +kernel) rfl rfl ?_
    refine g_callV (rest := []) [.int 1] hx hc mk_reader_fail ln_5_91 rfl (by decide +kernel) (by decide) (Nat.le_of_ble_eq_true rfl) (s_reader_fail (ok_b h)) (fun r2 s2 h => ?_)
    refine g_run hx [(.pop, 0, 0)] (pc' := 13) (lo' := [some (.ref 1)]) (st' := []) (σ' := s2) (by decide +kernel) rfl rfl ?_
    refine g_goto hx (off := 23) (tgt := 36) (by decide +kernel) (by decide) ?_
    exact g_vret hx hr rfl () rfl (by decide +kernel) (ok_some h)
def f_reader_read_L7 (N : Nat) : Nat → Int32 → Sg → Option (Unit × Sg)
  | 0, _, _ => none
  | n + 1, v2, σ =>
    if (gI σ 1 2) < v2 then
      some ((), σ)
    else
      (f_reader_nextToken N σ).bind fun q2 =>
      (f_reader_readLine N q2.2).bind fun q3 =>
      if q3.1 = true then
        (f_reader_nextToken N q3.2).bind fun q4 =>
        if (gI q4.2 1 3) = 3 then
          f_reader_read_L7 N n (v2 + 1) q4.2
        else
          (f_reader_endText N q4.2).bind fun q5 =>
          some ((), q5.2)
      else
        some ((), q3.2)
def f_reader_read (N : Nat) (v1 : Int32) (σ : Sg) : Option (Unit × Sg) :=
  (f_reader_begin N v1 σ).bind fun q1 =>
  f_reader_read_L7 N N 0 q1.2
set_option maxRecDepth 100000 in
theorem s_reader_read_L7 {y : EX} {N : Nat} {x : CX} {P : Unit × Sg → Prop} (hx : Cx 5 prog_7_method_3_code x) (hc : Cc y 3 9 x) (hr : Cr M_reader_read rvN P x) : ∀ (n : Nat) (v2 : Int32) (σ : Sg), ok (f_reader_read_L7 N n v2 σ) P → G x 7 [some (.ref 1), none, some (.int v2)] [] σ := by
  intro n
  induction n with
  | zero => intro v2 σ h; exact ok_none h
  | succ n ih =>
    intro v2 σ h
    rw [f_reader_read_L7] at h
    refine g_run hx [(.iload_n 2, 0, 0), (.aload_n 0, 0, 0), (.getfield 19, 0, 0)] (pc' := 12) (lo' := [some (.ref 1), none, some (.int v2)]) (st' := [.int (gI σ 1 2), .int v2]) (σ' := σ) (by decide +kernel) rfl rfl ?_
    refine g_ic_gt hx (off := 38) (tgt := 50) (by decide +kernel) (by decide) (fun c12 => ?_) (fun c12 => ?_)
    · have h := ok_t h c12
      exact g_vret hx hr rfl () rfl (by decide +kernel) (ok_some h)
    · have h := ok_f h c12
      refine g_run hx [(.aload_n 0, 0, 0)] (pc' := 16) (lo' := [some (.ref 1), none, some (.int v2)]) (st' := [.ref 1]) (σ' := σ) (by decide +kernel) rfl rfl ?_
      refine g_callV (rest := []) [] hx hc mk_reader_nextToken ln_5_69 rfl (by decide +kernel) (by decide) (Nat.le_of_ble_eq_true rfl) (s_reader_nextToken (ok_b h)) (fun r2 s2 h => ?_)
      refine g_run hx [(.aload_n 0, 0, 0)] (pc' := 20) (lo' := [some (.ref 1), none, some (.int v2)]) (st' := [.ref 1]) (σ' := s2) (by decide +kernel) rfl rfl ?_
      refine g_callV (rest := []) [] hx hc mk_reader_readLine ln_5_72 rfl (by decide +kernel) (by decide) (Nat.le_of_ble_eq_true rfl) (s_reader_readLine (ok_b h)) (fun r3 s3 h => ?_)
      refine g_ifb_ne hx (off := 4) (tgt := 27) (by decide +kernel) (by decide) (fun c23 => ?_) (fun c23 => ?_)
      · have h := ok_t h c23
        refine g_run hx [(.aload_n 0, 0, 0)] (pc' := 28) (lo' := [some (.ref 1), none, some (.int v2)]) (st' := [.ref 1]) (σ' := s3) (by decide +kernel) rfl rfl ?_
        refine g_callV (rest := []) [] hx hc mk_reader_nextToken ln_5_69 rfl (by decide +kernel) (by decide) (Nat.le_of_ble_eq_true rfl) (s_reader_nextToken (ok_b h)) (fun r4 s4 h => ?_)
        refine g_run hx [(.aload_n 0, 0, 0), (.getfield 22, 0, 0), (.iconst 3, 3, 0)] (pc' := 36) (lo' := [some (.ref 1), none, some (.int v2)]) (st' := [.int 3, .int (gI s4 1 3)]) (σ' := s4) (by decide +kernel) rfl rfl ?_
        refine g_ic_eq hx (off := 8) (tgt := 44) (by decide +kernel) (by decide) (fun c36 => ?_) (fun c36 => ?_)
        · have h := ok_t h c36
          refine g_run hx [(.iinc 2 1, 1, 0)] (pc' := 47) (lo' := [some (.ref 1), none, some (.int (v2 + 1))]) (st' := []) (σ' := s4) (by decide +kernel) rfl rfl ?_
          refine g_goto hx (off := (-40)) (tgt := 7) (by decide +kernel) (by decide) ?_
          exact ih _ _ h
        · have h := ok_f h c36
          refine g_run hx [(.aload_n 0, 0, 0)] (pc' := 40) (lo' := [some (.ref 1), none, some (.int v2)]) (st' := [.ref 1]) (σ' := s4) (by decide +kernel) rfl rfl ?_
          refine g_callV (rest := []) [] hx hc mk_reader_endText ln_5_76 rfl (by decide +kernel) (by decide) (Nat.le_of_ble_eq_true rfl) (s_reader_endText (ok_b h)) (fun r5 s5 h => ?_)
          exact g_vret hx hr rfl () rfl (by decide +kernel) (ok_some h)
      · have h := ok_f h c23
        exact g_vret hx hr rfl () rfl (by decide +kernel) (ok_some h)
set_option maxRecDepth 100000 in
theorem s_reader_read {y : EX} {N : Nat} {v1 : Int32} {σ : Sg} {P : Unit × Sg → Prop} (h : ok (f_reader_read N v1 σ) P) : Ev y M_reader_read 9 [.ref 1, .int v1] σ rvN P := by
  refine Ev.of mk_reader_read (Nat.le_of_ble_eq_true rfl) (fun x hx hc hr => ?_)
  have hx : Cx 5 prog_7_method_3_code x := hx
  have hc : Cc y 3 9 x := hc
  show G x 0 [some (.ref 1), some (.int v1), none] [] σ
  unfold f_reader_read at h
  refine g_run hx [(.aload_n 0, 0, 0), (.iload_n 1, 0, 0)] (pc' := 2) (lo' := [some (.ref 1), some (.int v1), none]) (st' := [.int v1, .ref 1]) (σ' := σ) (by decide +kernel) rfl rfl ?_
  refine g_callV (rest := []) [.int v1] hx hc mk_reader_begin ln_5_66 rfl (by decide +kernel) (by decide) (Nat.le_of_ble_eq_true rfl) (s_reader_begin (ok_b h)) (fun r1 s1 h => ?_)
  refine g_run hx [(.iconst 0, 0, 0), (.istore_n 2, 0, 0)] (pc' := 7) (lo' := [some (.ref 1), some (.int v1), some (.int 0)]) (st' := []) (σ' := s1) (by decide +kernel) rfl rfl ?_
  refine g_wk (lo' := [some (.ref 1), none, some (.int 0)]) ⟨rfl, ⟨rfl, trivial⟩⟩ ?_
  refine s_reader_read_L7 hx hc hr N _ _ h
def f_state_begin (N : Nat) (σ : Sg) : Option (Unit × Sg) :=
  (f_country_lowDepth N (gL σ 10 14) σ).bind fun q1 =>
  (f_country_highDepth N (gL (sL q1.2 40 0 q1.1) 10 14) (sL q1.2 40 0 q1.1)).bind fun q2 =>
  some ((), sI (sI (sI (sL q2.2 40 1 q2.1) 40 2 (gI (sL q2.2 40 1 q2.1) 10 13)) 40 3 (gI (sI (sL q2.2 40 1 q2.1) 40 2 (gI (sL q2.2 40 1 q2.1) 10 13)) 10 3)) 40 4 0)
set_option maxRecDepth 100000 in
theorem s_state_begin {y : EX} {N : Nat} {σ : Sg} {P : Unit × Sg → Prop} (h : ok (f_state_begin N σ) P) : Ev y M_state_begin 1 [.ref 40, .ref 10] σ rvN P := by
  refine Ev.of mk_state_begin (Nat.le_of_ble_eq_true rfl) (fun x hx hc hr => ?_)
  have hx : Cx 7 prog_9_method_2_code x := hx
  have hc : Cc y 2 1 x := hc
  show G x 0 [some (.ref 40), some (.ref 10)] [] σ
  unfold f_state_begin at h
  refine g_run hx [(.aload_n 0, 0, 0), (.aload_n 1, 0, 0), (.aload_n 1, 0, 0), (.getfield 28, 0, 0)] (pc' := 6) (lo' := [some (.ref 40), some (.ref 10)]) (st' := [.long (gL σ 10 14), .ref 10, .ref 40]) (σ' := σ) (by decide +kernel) rfl rfl ?_
  refine g_callV (rest := [.ref 40]) [.long (gL σ 10 14)] hx hc mk_country_lowDepth ln_7_33 rfl (by decide +kernel) (by decide) (Nat.le_of_ble_eq_true rfl) (s_country_lowDepth (ok_b h)) (fun r1 s1 h => ?_)
  refine g_run hx [(.putfield 9, 0, 0), (.aload_n 0, 0, 0), (.aload_n 1, 0, 0), (.aload_n 1, 0, 0), (.getfield 28, 0, 0)] (pc' := 18) (lo' := [some (.ref 40), some (.ref 10)]) (st' := [.long (gL (sL s1 40 0 r1) 10 14), .ref 10, .ref 40]) (σ' := sL s1 40 0 r1) (by decide +kernel) rfl rfl ?_
  refine g_callV (rest := [.ref 40]) [.long (gL (sL s1 40 0 r1) 10 14)] hx hc mk_country_highDepth ln_7_37 rfl (by decide +kernel) (by decide) (Nat.le_of_ble_eq_true rfl) (s_country_highDepth (ok_b h)) (fun r2 s2 h => ?_)
  refine g_run hx [(.putfield 15, 0, 0), (.aload_n 0, 0, 0), (.aload_n 1, 0, 0), (.getfield 40, 0, 0), (.putfield 18, 0, 0), (.aload_n 0, 0, 0), (.aload_n 1, 0, 0), (.getfield 43, 0, 0), (.putfield 22, 0, 0), (.aload_n 0, 0, 0), (.iconst 0, 0, 0), (.putfield 25, 0, 0)] (pc' := 45) (lo' := [some (.ref 40), some (.ref 10)]) (st' := []) (σ' := sI (sI (sI (sL s2 40 1 r2) 40 2 (gI (sL s2 40 1 r2) 10 13)) 40 3 (gI (sI (sL s2 40 1 r2) 40 2 (gI (sL s2 40 1 r2) 10 13)) 10 3)) 40 4 0) (by decide +kernel) rfl rfl ?_
  exact g_vret hx hr rfl () rfl (by decide +kernel) (ok_some h)
def f_paths_forget (N : Nat) (σ : Sg) : Option (Unit × Sg) :=
  some ((), sI σ 55 7 0)
set_option maxRecDepth 100000 in
theorem s_paths_forget {y : EX} {N : Nat} {σ : Sg} {P : Unit × Sg → Prop} (h : ok (f_paths_forget N σ) P) : Ev y M_paths_forget 0 [.ref 55] σ rvN P := by
  refine Ev.of mk_paths_forget (Nat.le_of_ble_eq_true rfl) (fun x hx hc hr => ?_)
  have hx : Cx 4 prog_6_method_2_code x := hx
  have hc : Cc y 1 0 x := hc
  show G x 0 [some (.ref 55)] [] σ
  unfold f_paths_forget at h
  refine g_run hx [(.aload_n 0, 0, 0), (.aconst_null, 0, 0), (.putfield 34, 0, 0)] (pc' := 5) (lo' := [some (.ref 55)]) (st' := []) (σ' := sI σ 55 7 0) (by decide +kernel) rfl rfl ?_
  exact g_vret hx hr rfl () rfl (by decide +kernel) (ok_some h)
