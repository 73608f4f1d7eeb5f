def f_reader_expect (N : Nat) (w1 : Nat) (σ : Sg) : Option (Bool × Sg) :=
  (f_reader_nextToken N σ).bind fun q1 =>
  (f_reader_isWord N w1 q1.2).bind fun q2 =>
  if q2.1 = true then
    some (true, q2.2)
  else
    (f_reader_fail N 1 q2.2).bind fun q3 =>
    if q3.1 = true then
      some (true, q3.2)
    else
      some (false, q3.2)
set_option maxRecDepth 100000 in
theorem s_reader_expect {y : EX} {N : Nat} {w1 : Nat} (hw1 : w1 < 20) {σ : Sg} {P : Bool × Sg → Prop} (h : ok (f_reader_expect N w1 σ) P) : Ev y M_reader_expect 5 [.ref 1, .ref (100 + w1)] σ rvB P := by
  refine Ev.of mk_reader_expect (Nat.le_of_ble_eq_true rfl) (fun x hx hc hr => ?_)
  have hx : Cx 5 prog_7_method_16_code x := hx
  have hc : Cc y 2 5 x := hc
  show G x 0 [some (.ref 1), some (.ref (100 + w1))] [] σ
  unfold f_reader_expect at h
  refine g_run hx [(.aload_n 0, 0, 0)] (pc' := 1) (lo' := [some (.ref 1), some (.ref (100 + w1))]) (st' := [.ref 1]) (σ' := σ) (by decide +kernel) rfl rfl ?_
  refine g_callV (rest := []) [] hx hc mk_reader_nextToken ln_5_69 rfl (by decide +kernel) (by decide) (Nat.le_of_ble_eq_true rfl) (s_reader_nextToken (ok_b h)) (fun r1 s1 h => ?_)
  refine g_run hx [(.aload_n 0, 0, 0), (.aload_n 1, 0, 0)] (pc' := 6) (lo' := [some (.ref 1), some (.ref (100 + w1))]) (st' := [.ref (100 + w1), .ref 1]) (σ' := s1) (by decide +kernel) rfl rfl ?_
  refine g_callV (rest := []) [.ref (100 + w1)] hx hc mk_reader_isWord ln_5_163 rfl (by decide +kernel) (by decide) (Nat.le_of_ble_eq_true rfl) (s_reader_isWord hw1 (ok_b h)) (fun r2 s2 h => ?_)
  refine g_ifb_ne hx (off := 11) (tgt := 20) (by decide +kernel) (by decide) (fun c9 => ?_) (fun c9 => ?_)
  · have h := ok_t h c9
    refine g_run hx [(.iconst 1, 1, 0)] (pc' := 21) (lo' := [some (.ref 1), some (.ref (100 + w1))]) (st' := [.int 1]) (σ' := s2) (by decide +kernel) rfl rfl ?_
    refine g_goto hx (off := 4) (tgt := 25) (by decide +kernel) (by decide) ?_
    exact g_zret (b := true) hx hr rfl true rfl (by decide +kernel) (ok_some h)
  · have h := ok_f h c9
    refine g_run hx [(.aload_n 0, 0, 0), (.iconst 1, 1, 0)] (pc' := 14) (lo' := [some (.ref 1), some (.ref (100 + w1))]) (st' := [.int 1, .ref 1]) (σ' := s2) (by decide +kernel) rfl rfl ?_
    refine g_callV (rest := []) [.int 1] hx hc mk_reader_fail ln_5_91 rfl (by decide +kernel) (by decide) (Nat.le_of_ble_eq_true rfl) (s_reader_fail (ok_b h)) (fun r3 s3 h => ?_)
    refine g_ifb_eq hx (off := 7) (tgt := 24) (by decide +kernel) (by decide) (fun c17 => ?_) (fun c17 => ?_)
    · have h := ok_f h c17
      refine g_run hx [(.iconst 0, 0, 0)] (pc' := 25) (lo' := [some (.ref 1), some (.ref (100 + w1))]) (st' := [.int 0]) (σ' := s3) (by decide +kernel) rfl rfl ?_
      exact g_zret (b := false) hx hr rfl false rfl (by decide +kernel) (ok_some h)
    · have h := ok_t h c17
      refine g_run hx [(.iconst 1, 1, 0)] (pc' := 21) (lo' := [some (.ref 1), some (.ref (100 + w1))]) (st' := [.int 1]) (σ' := s3) (by decide +kernel) rfl rfl ?_
      refine g_goto hx (off := 4) (tgt := 25) (by decide +kernel) (by decide) ?_
      exact g_zret (b := true) hx hr rfl true rfl (by decide +kernel) (ok_some h)
def f_reader_expectWhole (N : Nat) (v1 : Int32) (v2 : Int32) (σ : Sg) : Option (Bool × Sg) :=
  (f_reader_nextToken N σ).bind fun q1 =>
  if (gI q1.2 1 3) = 2 then
    if (gI q1.2 1 6) < v1 then
      (f_reader_fail N 4 q1.2).bind fun q2 =>
      if q2.1 = true then
        some (true, q2.2)
      else
        some (false, q2.2)
    else
      if (gI q1.2 1 6) ≤ v2 then
        some (true, q1.2)
      else
        (f_reader_fail N 4 q1.2).bind fun q3 =>
        if q3.1 = true then
          some (true, q3.2)
        else
          some (false, q3.2)
  else
    (f_reader_fail N 1 q1.2).bind fun q4 =>
    some (q4.1, q4.2)
set_option maxRecDepth 100000 in
theorem s_reader_expectWhole {y : EX} {N : Nat} {v1 : Int32} {v2 : Int32} {σ : Sg} {P : Bool × Sg → Prop} (h : ok (f_reader_expectWhole N v1 v2 σ) P) : Ev y M_reader_expectWhole 2 [.ref 1, .int v1, .int v2] σ rvB P := by
  refine Ev.of mk_reader_expectWhole (Nat.le_of_ble_eq_true rfl) (fun x hx hc hr => ?_)
  have hx : Cx 5 prog_7_method_17_code x := hx
  have hc : Cc y 3 2 x := hc
  show G x 0 [some (.ref 1), some (.int v1), some (.int v2)] [] σ
  unfold f_reader_expectWhole at h
  refine g_run hx [(.aload_n 0, 0, 0)] (pc' := 1) (lo' := [some (.ref 1), some (.int v1), some (.int v2)]) (st' := [.ref 1]) (σ' := σ) (by decide +kernel) rfl rfl ?_
  refine g_callV (rest := []) [] hx hc mk_reader_nextToken ln_5_69 rfl (by decide +kernel) (by decide) (Nat.le_of_ble_eq_true rfl) (s_reader_nextToken (ok_b h)) (fun r1 s1 h => ?_)
  refine g_run hx [(.aload_n 0, 0, 0), (.getfield 22, 0, 0), (.iconst 2, 2, 0)] (pc' := 9) (lo' := [some (.ref 1), some (.int v1), some (.int v2)]) (st' := [.int 2, .int (gI s1 1 3)]) (σ' := s1) (by decide +kernel) rfl rfl ?_
  refine g_ic_eq hx (off := 9) (tgt := 18) (by decide +kernel) (by decide) (fun c9 => ?_) (fun c9 => ?_)
  · have h := ok_t h c9
    refine g_run hx [(.aload_n 0, 0, 0), (.getfield 31, 0, 0), (.iload_n 1, 0, 0)] (pc' := 23) (lo' := [some (.ref 1), some (.int v1), some (.int v2)]) (st' := [.int v1, .int (gI s1 1 6)]) (σ' := s1) (by decide +kernel) rfl rfl ?_
    refine g_ic_lt hx (off := 11) (tgt := 34) (by decide +kernel) (by decide) (fun c23 => ?_) (fun c23 => ?_)
    · have h := ok_t h c23
      refine g_run hx [(.aload_n 0, 0, 0), (.iconst 4, 4, 0)] (pc' := 36) (lo' := [some (.ref 1), some (.int v1), some (.int v2)]) (st' := [.int 4, .ref 1]) (σ' := s1) (by decide +kernel) rfl rfl ?_
      refine g_callV (rest := []) [.int 4] hx hc mk_reader_fail ln_5_91 rfl (by decide +kernel) (by decide) (Nat.le_of_ble_eq_true rfl) (s_reader_fail (ok_b h)) (fun r2 s2 h => ?_)
      refine g_ifb_eq hx (off := 7) (tgt := 46) (by decide +kernel) (by decide) (fun c39 => ?_) (fun c39 => ?_)
      · have h := ok_f h c39
        refine g_run hx [(.iconst 0, 0, 0)] (pc' := 47) (lo' := [some (.ref 1), some (.int v1), some (.int v2)]) (st' := [.int 0]) (σ' := s2) (by decide +kernel) rfl rfl ?_
        exact g_zret (b := false) hx hr rfl false rfl (by decide +kernel) (ok_some h)
      · have h := ok_t h c39
        refine g_run hx [(.iconst 1, 1, 0)] (pc' := 43) (lo' := [some (.ref 1), some (.int v1), some (.int v2)]) (st' := [.int 1]) (σ' := s2) (by decide +kernel) rfl rfl ?_
        refine g_goto hx (off := 4) (tgt := 47) (by decide +kernel) (by decide) ?_
        exact g_zret (b := true) hx hr rfl true rfl (by decide +kernel) (ok_some h)
    · have h := ok_f h c23
      refine g_run hx [(.aload_n 0, 0, 0), (.getfield 31, 0, 0), (.iload_n 2, 0, 0)] (pc' := 31) (lo' := [some (.ref 1), some (.int v1), some (.int v2)]) (st' := [.int v2, .int (gI s1 1 6)]) (σ' := s1) (by decide +kernel) rfl rfl ?_
      refine g_ic_le hx (off := 11) (tgt := 42) (by decide +kernel) (by decide) (fun c31 => ?_) (fun c31 => ?_)
      · have h := ok_t h c31
        refine g_run hx [(.iconst 1, 1, 0)] (pc' := 43) (lo' := [some (.ref 1), some (.int v1), some (.int v2)]) (st' := [.int 1]) (σ' := s1) (by decide +kernel) rfl rfl ?_
        refine g_goto hx (off := 4) (tgt := 47) (by decide +kernel) (by decide) ?_
        exact g_zret (b := true) hx hr rfl true rfl (by decide +kernel) (ok_some h)
      · have h := ok_f h c31
        refine g_run hx [(.aload_n 0, 0, 0), (.iconst 4, 4, 0)] (pc' := 36) (lo' := [some (.ref 1), some (.int v1), some (.int v2)]) (st' := [.int 4, .ref 1]) (σ' := s1) (by decide +kernel) rfl rfl ?_
        refine g_callV (rest := []) [.int 4] hx hc mk_reader_fail ln_5_91 rfl (by decide +kernel) (by decide) (Nat.le_of_ble_eq_true rfl) (s_reader_fail (ok_b h)) (fun r3 s3 h => ?_)
        refine g_ifb_eq hx (off := 7) (tgt := 46) (by decide +kernel) (by decide) (fun c39 => ?_) (fun c39 => ?_)
        · have h := ok_f h c39
          refine g_run hx [(.iconst 0, 0, 0)] (pc' := 47) (lo' := [some (.ref 1), some (.int v1), some (.int v2)]) (st' := [.int 0]) (σ' := s3) (by decide +kernel) rfl rfl ?_
          exact g_zret (b := false) hx hr rfl false rfl (by decide +kernel) (ok_some h)
        · have h := ok_t h c39
          refine g_run hx [(.iconst 1, 1, 0)] (pc' := 43) (lo' := [some (.ref 1), some (.int v1), some (.int v2)]) (st' := [.int 1]) (σ' := s3) (by decide +kernel) rfl rfl ?_
          refine g_goto hx (off := 4) (tgt := 47) (by decide +kernel) (by decide) ?_
          exact g_zret (b := true) hx hr rfl true rfl (by decide +kernel) (ok_some h)
  · have h := ok_f h c9
    refine g_run hx [(.aload_n 0, 0, 0), (.iconst 1, 1, 0)] (pc' := 14) (lo' := [some (.ref 1), some (.int v1), some (.int v2)]) (st' := [.int 1, .ref 1]) (σ' := s1) (by decide +kernel) rfl rfl ?_
    refine g_callV (rest := []) [.int 1] hx hc mk_reader_fail ln_5_91 rfl (by decide +kernel) (by decide) (Nat.le_of_ble_eq_true rfl) (s_reader_fail (ok_b h)) (fun r4 s4 h => ?_)
    exact g_zret hx hr rfl _ rfl (by decide +kernel) (ok_some h)
def f_reader_expectCell (N : Nat) (v1 : Int32) (σ : Sg) : Option (Bool × Sg) :=
  (f_reader_expectWhole N v1 ((gI σ 25 0) - 1) σ).bind fun q1 =>
  some (q1.1, q1.2)
set_option maxRecDepth 100000 in
theorem s_reader_expectCell {y : EX} {N : Nat} {v1 : Int32} {σ : Sg} {P : Bool × Sg → Prop} (h : ok (f_reader_expectCell N v1 σ) P) : Ev y M_reader_expectCell 3 [.ref 1, .int v1] σ rvB P := by
  refine Ev.of mk_reader_expectCell (Nat.le_of_ble_eq_true rfl) (fun x hx hc hr => ?_)
  have hx : Cx 5 prog_7_method_18_code x := hx
  have hc : Cc y 2 3 x := hc
  show G x 0 [some (.ref 1), some (.int v1)] [] σ
  unfold f_reader_expectCell at h
  refine g_run hx [(.aload_n 0, 0, 0), (.iload_n 1, 0, 0), (.aload_n 0, 0, 0), (.getfield 37, 0, 0), (.getfield 139, 0, 0), (.iconst 1, 1, 0), (.isub, 0, 0)] (pc' := 11) (lo' := [some (.ref 1), some (.int v1)]) (st' := [.int ((gI σ 25 0) - 1), .int v1, .ref 1]) (σ' := σ) (by decide +kernel) rfl rfl ?_
  refine g_callV (rest := []) [.int v1, .int ((gI σ 25 0) - 1)] hx hc mk_reader_expectWhole ln_5_135 rfl (by decide +kernel) (by decide) (Nat.le_of_ble_eq_true rfl) (s_reader_expectWhole (ok_b h)) (fun r1 s1 h => ?_)
  exact g_zret hx hr rfl _ rfl (by decide +kernel) (ok_some h)
def f_reader_readLand (N : Nat) (σ : Sg) : Option (Bool × Sg) :=
  (f_reader_expect N 7 σ).bind fun q1 =>
  if q1.1 = true then
    (f_reader_expectWhole N 8 60 q1.2).bind fun q2 =>
    if q2.1 = true then
      (f_reader_expect N 8 (sI q2.2 25 0 (gI q2.2 1 6))).bind fun q3 =>
      if q3.1 = true then
        (f_reader_expectCell N 0 q3.2).bind fun q4 =>
        if q4.1 = true then
          (f_reader_expect N 9 (sI (sI q4.2 25 2 (gI q4.2 1 6)) 25 13 (gI (sI q4.2 25 2 (gI q4.2 1 6)) 1 6))).bind fun q5 =>
          if q5.1 = true then
            (f_reader_expectCell N 0 q5.2).bind fun q6 =>
            if q6.1 = true then
              (f_reader_expect N 10 (sI q6.2 25 3 (gI q6.2 1 6))).bind fun q7 =>
              if q7.1 = true then
                (f_reader_expectWhole N 0 100 q7.2).bind fun q8 =>
                if q8.1 = true then
                  some (true, sI q8.2 25 1 (gI q8.2 1 6))
                else
                  some (false, q8.2)
              else
                some (false, q7.2)
            else
              some (false, q6.2)
          else
            some (false, q5.2)
        else
          some (false, q4.2)
      else
        some (false, q3.2)
    else
      some (false, q2.2)
  else
    some (false, q1.2)
set_option maxRecDepth 100000 in
theorem s_reader_readLand {y : EX} {N : Nat} {σ : Sg} {P : Bool × Sg → Prop} (h : ok (f_reader_readLand N σ) P) : Ev y M_reader_readLand 6 [.ref 1] σ rvB P := by
  refine Ev.of mk_reader_readLand (Nat.le_of_ble_eq_true rfl) (fun x hx hc hr => ?_)
  have hx : Cx 5 prog_7_method_8_code x := hx
  have hc : Cc y 1 6 x := hc
  show G x 0 [some (.ref 1)] [] σ
  unfold f_reader_readLand at h
  refine g_run hx [(.aload_n 0, 0, 0)] (pc' := 1) (lo' := [some (.ref 1)]) (st' := [.ref 1]) (σ' := σ) (by decide +kernel) rfl rfl ?_
  refine g_ldcS (idx := 129) (sid := 7) hx hc (by decide) (by decide +kernel) ?_
  refine g_callV (rest := []) [.ref (100 + 7)] hx hc mk_reader_expect ln_5_131 rfl (by decide +kernel) (by decide) (Nat.le_of_ble_eq_true rfl) (s_reader_expect (by decide) (ok_b h)) (fun r1 s1 h => ?_)
  refine g_ifb_eq hx (off := 14) (tgt := 20) (by decide +kernel) (by decide) (fun c6 => ?_) (fun c6 => ?_)
  · have h := ok_f h c6
    refine g_run hx [(.iconst 0, 0, 0)] (pc' := 21) (lo' := [some (.ref 1)]) (st' := [.int 0]) (σ' := s1) (by decide +kernel) rfl rfl ?_
    exact g_zret (b := false) hx hr rfl false rfl (by decide +kernel) (ok_some h)
  · have h := ok_t h c6
    refine g_run hx [(.aload_n 0, 0, 0), (.bipush 8, 8, 0), (.bipush 60, 60, 0)] (pc' := 14) (lo' := [some (.ref 1)]) (st' := [.int 60, .int 8, .ref 1]) (σ' := s1) (by decide +kernel) rfl rfl ?_
    refine g_callV (rest := []) [.int 8, .int 60] hx hc mk_reader_expectWhole ln_5_135 rfl (by decide +kernel) (by decide) (Nat.le_of_ble_eq_true rfl) (s_reader_expectWhole (ok_b h)) (fun r2 s2 h => ?_)
    refine g_ifb_ne hx (off := 5) (tgt := 22) (by decide +kernel) (by decide) (fun c17 => ?_) (fun c17 => ?_)
    · have h := ok_t h c17
      refine g_run hx [(.aload_n 0, 0, 0), (.getfield 37, 0, 0), (.aload_n 0, 0, 0), (.getfield 31, 0, 0), (.putfield 139, 0, 0), (.aload_n 0, 0, 0)] (pc' := 34) (lo' := [some (.ref 1)]) (st' := [.ref 1]) (σ' := sI s2 25 0 (gI s2 1 6)) (by decide +kernel) rfl rfl ?_
      refine g_ldcS (idx := 141) (sid := 8) hx hc (by decide) (by decide +kernel) ?_
      refine g_callV (rest := []) [.ref (100 + 8)] hx hc mk_reader_expect ln_5_131 rfl (by decide +kernel) (by decide) (Nat.le_of_ble_eq_true rfl) (s_reader_expect (by decide) (ok_b h)) (fun r3 s3 h => ?_)
      refine g_ifb_eq hx (off := 11) (tgt := 50) (by decide +kernel) (by decide) (fun c39 => ?_) (fun c39 => ?_)
      · have h := ok_f h c39
        refine g_run hx [(.iconst 0, 0, 0)] (pc' := 51) (lo' := [some (.ref 1)]) (st' := [.int 0]) (σ' := s3) (by decide +kernel) rfl rfl ?_
        exact g_zret (b := false) hx hr rfl false rfl (by decide +kernel) (ok_some h)
      · have h := ok_t h c39
        refine g_run hx [(.aload_n 0, 0, 0), (.iconst 0, 0, 0)] (pc' := 44) (lo' := [some (.ref 1)]) (st' := [.int 0, .ref 1]) (σ' := s3) (by decide +kernel) rfl rfl ?_
        refine g_callV (rest := []) [.int 0] hx hc mk_reader_expectCell ln_5_143 rfl (by decide +kernel) (by decide) (Nat.le_of_ble_eq_true rfl) (s_reader_expectCell (ok_b h)) (fun r4 s4 h => ?_)
        refine g_ifb_ne hx (off := 5) (tgt := 52) (by decide +kernel) (by decide) (fun c47 => ?_) (fun c47 => ?_)
        · have h := ok_t h c47
          refine g_run hx [(.aload_n 0, 0, 0), (.getfield 37, 0, 0), (.aload_n 0, 0, 0), (.getfield 31, 0, 0), (.putfield 146, 0, 0), (.aload_n 0, 0, 0), (.getfield 37, 0, 0), (.aload_n 0, 0, 0), (.getfield 31, 0, 0), (.putfield 149, 0, 0), (.aload_n 0, 0, 0)] (pc' := 75) (lo' := [some (.ref 1)]) (st' := [.ref 1]) (σ' := sI (sI s4 25 2 (gI s4 1 6)) 25 13 (gI (sI s4 25 2 (gI s4 1 6)) 1 6)) (by decide +kernel) rfl rfl ?_
          refine g_ldcS (idx := 152) (sid := 9) hx hc (by decide) (by decide +kernel) ?_
          refine g_callV (rest := []) [.ref (100 + 9)] hx hc mk_reader_expect ln_5_131 rfl (by decide +kernel) (by decide) (Nat.le_of_ble_eq_true rfl) (s_reader_expect (by decide) (ok_b h)) (fun r5 s5 h => ?_)
          refine g_ifb_eq hx (off := 11) (tgt := 91) (by decide +kernel) (by decide) (fun c80 => ?_) (fun c80 => ?_)
          · have h := ok_f h c80
            refine g_run hx [(.iconst 0, 0, 0)] (pc' := 92) (lo' := [some (.ref 1)]) (st' := [.int 0]) (σ' := s5) (by decide +kernel) rfl rfl ?_
            exact g_zret (b := false) hx hr rfl false rfl (by decide +kernel) (ok_some h)
          · have h := ok_t h c80
            refine g_run hx [(.aload_n 0, 0, 0), (.iconst 0, 0, 0)] (pc' := 85) (lo' := [some (.ref 1)]) (st' := [.int 0, .ref 1]) (σ' := s5) (by decide +kernel) rfl rfl ?_
            refine g_callV (rest := []) [.int 0] hx hc mk_reader_expectCell ln_5_143 rfl (by decide +kernel) (by decide) (Nat.le_of_ble_eq_true rfl) (s_reader_expectCell (ok_b h)) (fun r6 s6 h => ?_)
            refine g_ifb_ne hx (off := 5) (tgt := 93) (by decide +kernel) (by decide) (fun c88 => ?_) (fun c88 => ?_)
            · have h := ok_t h c88
              refine g_run hx [(.aload_n 0, 0, 0), (.getfield 37, 0, 0), (.aload_n 0, 0, 0), (.getfield 31, 0, 0), (.putfield 154, 0, 0), (.aload_n 0, 0, 0)] (pc' := 105) (lo' := [some (.ref 1)]) (st' := [.ref 1]) (σ' := sI s6 25 3 (gI s6 1 6)) (by decide +kernel) rfl rfl ?_
              refine g_ldcS (idx := 157) (sid := 10) hx hc (by decide) (by decide +kernel) ?_
              refine g_callV (rest := []) [.ref (100 + 10)] hx hc mk_reader_expect ln_5_131 rfl (by decide +kernel) (by decide) (Nat.le_of_ble_eq_true rfl) (s_reader_expect (by decide) (ok_b h)) (fun r7 s7 h => ?_)
              refine g_ifb_eq hx (off := 13) (tgt := 123) (by decide +kernel) (by decide) (fun c110 => ?_) (fun c110 => ?_)
              · have h := ok_f h c110
                refine g_run hx [(.iconst 0, 0, 0)] (pc' := 124) (lo' := [some (.ref 1)]) (st' := [.int 0]) (σ' := s7) (by decide +kernel) rfl rfl ?_
                exact g_zret (b := false) hx hr rfl false rfl (by decide +kernel) (ok_some h)
              · have h := ok_t h c110
                refine g_run hx [(.aload_n 0, 0, 0), (.iconst 0, 0, 0), (.bipush 100, 100, 0)] (pc' := 117) (lo' := [some (.ref 1)]) (st' := [.int 100, .int 0, .ref 1]) (σ' := s7) (by decide +kernel) rfl rfl ?_
                refine g_callV (rest := []) [.int 0, .int 100] hx hc mk_reader_expectWhole ln_5_135 rfl (by decide +kernel) (by decide) (Nat.le_of_ble_eq_true rfl) (s_reader_expectWhole (ok_b h)) (fun r8 s8 h => ?_)
                refine g_ifb_ne hx (off := 5) (tgt := 125) (by decide +kernel) (by decide) (fun c120 => ?_) (fun c120 => ?_)
                · have h := ok_t h c120
                  refine g_run hx [(.aload_n 0, 0, 0), (.getfield 37, 0, 0), (.aload_n 0, 0, 0), (.getfield 31, 0, 0), (.putfield 159, 0, 0), (.iconst 1, 1, 0)] (pc' := 137) (lo' := [some (.ref 1)]) (st' := [.int 1]) (σ' := sI s8 25 1 (gI s8 1 6)) (by decide +kernel) rfl rfl ?_
                  exact g_zret (b := true) hx hr rfl true rfl (by decide +kernel) (ok_some h)
                · have h := ok_f h c120
                  refine g_run hx [(.iconst 0, 0, 0)] (pc' := 124) (lo' := [some (.ref 1)]) (st' := [.int 0]) (σ' := s8) (by decide +kernel) rfl rfl ?_
                  exact g_zret (b := false) hx hr rfl false rfl (by decide +kernel) (ok_some h)
            · have h := ok_f h c88
              refine g_run hx [(.iconst 0, 0, 0)] (pc' := 92) (lo' := [some (.ref 1)]) (st' := [.int 0]) (σ' := s6) (by decide +kernel) rfl rfl ?_
              exact g_zret (b := false) hx hr rfl false rfl (by decide +kernel) (ok_some h)
        · have h := ok_f h c47
          refine g_run hx [(.iconst 0, 0, 0)] (pc' := 51) (lo' := [some (.ref 1)]) (st' := [.int 0]) (σ' := s4) (by decide +kernel) rfl rfl ?_
          exact g_zret (b := false) hx hr rfl false rfl (by decide +kernel) (ok_some h)
    · have h := ok_f h c17
      refine g_run hx [(.iconst 0, 0, 0)] (pc' := 21) (lo' := [some (.ref 1)]) (st' := [.int 0]) (σ' := s2) (by decide +kernel) rfl rfl ?_
      exact g_zret (b := false) hx hr rfl false rfl (by decide +kernel) (ok_some h)
def f_country_setGround (N : Nat) (v1 : Int32) (v2 : Int64) (σ : Sg) : Option (Unit × Sg) :=
  if v1 = 1 then
    if v1 = 2 then
      some ((), sL (sL σ 25 4 ((gL σ 25 4) ||| v2)) 25 5 ((gL (sL σ 25 4 ((gL σ 25 4) ||| v2)) 25 5) ||| v2))
    else
      some ((), sL (sL σ 25 4 ((gL σ 25 4) ||| v2)) 25 5 ((gL (sL σ 25 4 ((gL σ 25 4) ||| v2)) 25 5) &&& (v2 ^^^ (-1))))
  else
    if v1 = 2 then
      some ((), sL (sL σ 25 4 ((gL σ 25 4) &&& (v2 ^^^ (-1)))) 25 5 ((gL (sL σ 25 4 ((gL σ 25 4) &&& (v2 ^^^ (-1)))) 25 5) ||| v2))
    else
      some ((), sL (sL σ 25 4 ((gL σ 25 4) &&& (v2 ^^^ (-1)))) 25 5 ((gL (sL σ 25 4 ((gL σ 25 4) &&& (v2 ^^^ (-1)))) 25 5) &&& (v2 ^^^ (-1))))
set_option maxRecDepth 100000 in
theorem s_country_setGround {y : EX} {N : Nat} {v1 : Int32} {v2 : Int64} {σ : Sg} {P : Unit × Sg → Prop} (h : ok (f_country_setGround N v1 v2 σ) P) : Ev y M_country_setGround 0 [.ref 25, .int v1, .long v2] σ rvN P := by
  refine Ev.of mk_country_setGround (Nat.le_of_ble_eq_true rfl) (fun x hx hc hr => ?_)
  have hx : Cx 1 prog_3_method_4_code x := hx
  have hc : Cc y 4 0 x := hc
  show G x 0 [some (.ref 25), some (.int v1), some (.long v2), none] [] σ
  unfold f_country_setGround at h
  refine g_run hx [(.aload_n 0, 0, 0), (.iload_n 1, 0, 0), (.iconst 1, 1, 0)] (pc' := 3) (lo' := [some (.ref 25), some (.int v1), some (.long v2), none]) (st' := [.int 1, .int v1, .ref 25]) (σ' := σ) (by decide +kernel) rfl rfl ?_
  refine g_ic_ne hx (off := 12) (tgt := 15) (by decide +kernel) (by decide) (fun c3 => ?_) (fun c3 => ?_)
  · have h := ok_f h c3
    refine g_run hx [(.aload_n 0, 0, 0), (.getfield 24, 0, 0), (.lload_n 2, 0, 0), (.ldc2_w 71, 0, (-1)), (.lxor, 0, 0), (.land, 0, 0), (.putfield 24, 0, 0), (.aload_n 0, 0, 0), (.iload_n 1, 0, 0), (.iconst 2, 2, 0)] (pc' := 31) (lo' := [some (.ref 25), some (.int v1), some (.long v2), none]) (st' := [.int 2, .int v1, .ref 25]) (σ' := sL σ 25 4 ((gL σ 25 4) &&& (v2 ^^^ (-1)))) (by decide +kernel) rfl rfl ?_
    refine g_ic_ne hx (off := 12) (tgt := 43) (by decide +kernel) (by decide) (fun c31 => ?_) (fun c31 => ?_)
    · have h := ok_f h c31
      refine g_run hx [(.aload_n 0, 0, 0), (.getfield 28, 0, 0), (.lload_n 2, 0, 0), (.ldc2_w 71, 0, (-1)), (.lxor, 0, 0), (.land, 0, 0), (.putfield 28, 0, 0)] (pc' := 56) (lo' := [some (.ref 25), some (.int v1), some (.long v2), none]) (st' := []) (σ' := sL (sL σ 25 4 ((gL σ 25 4) &&& (v2 ^^^ (-1)))) 25 5 ((gL (sL σ 25 4 ((gL σ 25 4) &&& (v2 ^^^ (-1)))) 25 5) &&& (v2 ^^^ (-1)))) (by decide +kernel) rfl rfl ?_
      exact g_vret hx hr rfl () rfl (by decide +kernel) (ok_some h)
    · have h := ok_t h c31
      refine g_run hx [(.aload_n 0, 0, 0), (.getfield 28, 0, 0), (.lload_n 2, 0, 0), (.lor, 0, 0)] (pc' := 40) (lo' := [some (.ref 25), some (.int v1), some (.long v2), none]) (st' := [.long ((gL (sL σ 25 4 ((gL σ 25 4) &&& (v2 ^^^ (-1)))) 25 5) ||| v2), .ref 25]) (σ' := sL σ 25 4 ((gL σ 25 4) &&& (v2 ^^^ (-1)))) (by decide +kernel) rfl rfl ?_
      refine g_goto hx (off := 13) (tgt := 53) (by decide +kernel) (by decide) ?_
      refine g_run hx [(.putfield 28, 0, 0)] (pc' := 56) (lo' := [some (.ref 25), some (.int v1), some (.long v2), none]) (st' := []) (σ' := sL (sL σ 25 4 ((gL σ 25 4) &&& (v2 ^^^ (-1)))) 25 5 ((gL (sL σ 25 4 ((gL σ 25 4) &&& (v2 ^^^ (-1)))) 25 5) ||| v2)) (by decide +kernel) rfl rfl ?_
      exact g_vret hx hr rfl () rfl (by decide +kernel) (ok_some h)
  · have h := ok_t h c3
    refine g_run hx [(.aload_n 0, 0, 0), (.getfield 24, 0, 0), (.lload_n 2, 0, 0), (.lor, 0, 0)] (pc' := 12) (lo' := [some (.ref 25), some (.int v1), some (.long v2), none]) (st' := [.long ((gL σ 25 4) ||| v2), .ref 25]) (σ' := σ) (by decide +kernel) rfl rfl ?_
    refine g_goto hx (off := 13) (tgt := 25) (by decide +kernel) (by decide) ?_
    refine g_run hx [(.putfield 24, 0, 0), (.aload_n 0, 0, 0), (.iload_n 1, 0, 0), (.iconst 2, 2, 0)] (pc' := 31) (lo' := [some (.ref 25), some (.int v1), some (.long v2), none]) (st' := [.int 2, .int v1, .ref 25]) (σ' := sL σ 25 4 ((gL σ 25 4) ||| v2)) (by decide +kernel) rfl rfl ?_
    refine g_ic_ne hx (off := 12) (tgt := 43) (by decide +kernel) (by decide) (fun c31 => ?_) (fun c31 => ?_)
    · have h := ok_f h c31
      refine g_run hx [(.aload_n 0, 0, 0), (.getfield 28, 0, 0), (.lload_n 2, 0, 0), (.ldc2_w 71, 0, (-1)), (.lxor, 0, 0), (.land, 0, 0), (.putfield 28, 0, 0)] (pc' := 56) (lo' := [some (.ref 25), some (.int v1), some (.long v2), none]) (st' := []) (σ' := sL (sL σ 25 4 ((gL σ 25 4) ||| v2)) 25 5 ((gL (sL σ 25 4 ((gL σ 25 4) ||| v2)) 25 5) &&& (v2 ^^^ (-1)))) (by decide +kernel) rfl rfl ?_
      exact g_vret hx hr rfl () rfl (by decide +kernel) (ok_some h)
    · have h := ok_t h c31
      refine g_run hx [(.aload_n 0, 0, 0), (.getfield 28, 0, 0), (.lload_n 2, 0, 0), (.lor, 0, 0)] (pc' := 40) (lo' := [some (.ref 25), some (.int v1), some (.long v2), none]) (st' := [.long ((gL (sL σ 25 4 ((gL σ 25 4) ||| v2)) 25 5) ||| v2), .ref 25]) (σ' := sL σ 25 4 ((gL σ 25 4) ||| v2)) (by decide +kernel) rfl rfl ?_
      refine g_goto hx (off := 13) (tgt := 53) (by decide +kernel) (by decide) ?_
      refine g_run hx [(.putfield 28, 0, 0)] (pc' := 56) (lo' := [some (.ref 25), some (.int v1), some (.long v2), none]) (st' := []) (σ' := sL (sL σ 25 4 ((gL σ 25 4) ||| v2)) 25 5 ((gL (sL σ 25 4 ((gL σ 25 4) ||| v2)) 25 5) ||| v2)) (by decide +kernel) rfl rfl ?_
      exact g_vret hx hr rfl () rfl (by decide +kernel) (ok_some h)
def f_reader_readGround (N : Nat) (σ : Sg) : Option (Bool × Sg) :=
  (f_reader_nextToken N σ).bind fun q1 =>
  (f_reader_isWord N 11 q1.2).bind fun q2 =>
  if q2.1 = true then
    (f_reader_expectCell N 0 q2.2).bind fun q14 =>
    if q14.1 = true then
      (f_reader_expectCell N (gI q14.2 1 6) q14.2).bind fun q15 =>
      if q15.1 = true then
        (f_x_span N (gI q14.2 1 6) (gI q15.2 1 6) q15.2).bind fun q16 =>
        (f_country_setGround N 0 q16.1 q16.2).bind fun q17 =>
        some (true, q17.2)
      else
        some (false, q15.2)
    else
      some (false, q14.2)
  else
    (f_reader_isWord N 12 q2.2).bind fun q3 =>
    if q3.1 = true then
      (f_reader_expectCell N 0 q3.2).bind fun q10 =>
      if q10.1 = true then
        (f_reader_expectCell N (gI q10.2 1 6) q10.2).bind fun q11 =>
        if q11.1 = true then
          (f_x_span N (gI q10.2 1 6) (gI q11.2 1 6) q11.2).bind fun q12 =>
          (f_country_setGround N 1 q12.1 q12.2).bind fun q13 =>
          some (true, q13.2)
        else
          some (false, q11.2)
      else
        some (false, q10.2)
    else
      (f_reader_isWord N 13 q3.2).bind fun q4 =>
      if q4.1 = true then
        (f_reader_expectCell N 0 q4.2).bind fun q6 =>
        if q6.1 = true then
          (f_reader_expectCell N (gI q6.2 1 6) q6.2).bind fun q7 =>
          if q7.1 = true then
            (f_x_span N (gI q6.2 1 6) (gI q7.2 1 6) q7.2).bind fun q8 =>
            (f_country_setGround N 2 q8.1 q8.2).bind fun q9 =>
            some (true, q9.2)
          else
            some (false, q7.2)
        else
          some (false, q6.2)
      else
        (f_reader_fail N 1 q4.2).bind fun q5 =>
        some (q5.1, q5.2)
set_option maxRecDepth 100000 in
theorem s_reader_readGround {y : EX} {N : Nat} {σ : Sg} {P : Bool × Sg → Prop} (h : ok (f_reader_readGround N σ) P) : Ev y M_reader_readGround 5 [.ref 1] σ rvB P := by
  refine Ev.of mk_reader_readGround (Nat.le_of_ble_eq_true rfl) (fun x hx hc hr => ?_)
  have hx : Cx 5 prog_7_method_9_code x := hx
  have hc : Cc y 3 5 x := hc
  show G x 0 [some (.ref 1), none, none] [] σ
  unfold f_reader_readGround at h
  refine g_run hx [(.aload_n 0, 0, 0)] (pc' := 1) (lo' := [some (.ref 1), none, none]) (st' := [.ref 1]) (σ' := σ) (by decide +kernel) rfl rfl ?_
  refine g_callV (rest := []) [] hx hc mk_reader_nextToken ln_5_69 rfl (by decide +kernel) (by decide) (Nat.le_of_ble_eq_true rfl) (s_reader_nextToken (ok_b h)) (fun r1 s1 h => ?_)
  refine g_run hx [(.aload_n 0, 0, 0)] (pc' := 5) (lo' := [some (.ref 1), none, none]) (st' := [.ref 1]) (σ' := s1) (by decide +kernel) rfl rfl ?_
  refine g_ldcS (idx := 161) (sid := 11) hx hc (by decide) (by decide +kernel) ?_
  refine g_callV (rest := []) [.ref (100 + 11)] hx hc mk_reader_isWord ln_5_163 rfl (by decide +kernel) (by decide) (Nat.le_of_ble_eq_true rfl) (s_reader_isWord (by decide) (ok_b h)) (fun r2 s2 h => ?_)
  refine g_ifb_eq hx (off := 7) (tgt := 17) (by decide +kernel) (by decide) (fun c10 => ?_) (fun c10 => ?_)
  · have h := ok_f h c10
    refine g_run hx [(.aload_n 0, 0, 0)] (pc' := 18) (lo' := [some (.ref 1), none, none]) (st' := [.ref 1]) (σ' := s2) (by decide +kernel) rfl rfl ?_
    refine g_ldcS (idx := 166) (sid := 12) hx hc (by decide) (by decide +kernel) ?_
    refine g_callV (rest := []) [.ref (100 + 12)] hx hc mk_reader_isWord ln_5_163 rfl (by decide +kernel) (by decide) (Nat.le_of_ble_eq_true rfl) (s_reader_isWord (by decide) (ok_b h)) (fun r3 s3 h => ?_)
    refine g_ifb_eq hx (off := 7) (tgt := 30) (by decide +kernel) (by decide) (fun c23 => ?_) (fun c23 => ?_)
    · have h := ok_f h c23
      refine g_run hx [(.aload_n 0, 0, 0)] (pc' := 31) (lo' := [some (.ref 1), none, none]) (st' := [.ref 1]) (σ' := s3) (by decide +kernel) rfl rfl ?_
      refine g_ldcS (idx := 168) (sid := 13) hx hc (by decide) (by decide +kernel) ?_
      refine g_callV (rest := []) [.ref (100 + 13)] hx hc mk_reader_isWord ln_5_163 rfl (by decide +kernel) (by decide) (Nat.le_of_ble_eq_true rfl) (s_reader_isWord (by decide) (ok_b h)) (fun r4 s4 h => ?_)
      refine g_ifb_eq hx (off := 7) (tgt := 43) (by decide +kernel) (by decide) (fun c36 => ?_) (fun c36 => ?_)
      · have h := ok_f h c36
        refine g_run hx [(.bipush (-2), (-2), 0), (.istore_n 1, 0, 0), (.iload_n 1, 0, 0), (.bipush (-2), (-2), 0)] (pc' := 49) (lo' := [some (.ref 1), some (.int (-2)), none]) (st' := [.int (-2), .int (-2)]) (σ' := s4) (by decide +kernel) rfl rfl ?_
        refine g_ic_ne hx (off := 9) (tgt := 58) (by decide +kernel) (by decide) (fun c => absurd c (by decide)) (fun _ => ?_)
        refine g_run hx [(.aload_n 0, 0, 0), (.iconst 1, 1, 0)] (pc' := 54) (lo' := [some (.ref 1), some (.int (-2)), none]) (st' := [.int 1, .ref 1]) (σ' := s4) (by decide +kernel) rfl rfl ?_
        refine g_callV (rest := []) [.int 1] hx hc mk_reader_fail ln_5_91 rfl (by decide +kernel) (by decide) (Nat.le_of_ble_eq_true rfl) (s_reader_fail (ok_b h)) (fun r5 s5 h => ?_)
        exact g_zret hx hr rfl _ rfl (by decide +kernel) (ok_some h)
      · have h := ok_t h c36
        refine g_run hx [(.iconst 2, 2, 0)] (pc' := 40) (lo' := [some (.ref 1), none, none]) (st' := [.int 2]) (σ' := s4) (by decide +kernel) rfl rfl ?_
        refine g_goto hx (off := 5) (tgt := 45) (by decide +kernel) (by decide) ?_
        refine g_run hx [(.istore_n 1, 0, 0), (.iload_n 1, 0, 0), (.bipush (-2), (-2), 0)] (pc' := 49) (lo' := [some (.ref 1), some (.int 2), none]) (st' := [.int (-2), .int 2]) (σ' := s4) (by decide +kernel) rfl rfl ?_
        refine g_ic_ne hx (off := 9) (tgt := 58) (by decide +kernel) (by decide) (fun _ => ?_) (fun c => absurd c (by decide))
        refine g_run hx [(.aload_n 0, 0, 0), (.iconst 0, 0, 0)] (pc' := 60) (lo' := [some (.ref 1), some (.int 2), none]) (st' := [.int 0, .ref 1]) (σ' := s4) (by decide +kernel) rfl rfl ?_
        refine g_callV (rest := []) [.int 0] hx hc mk_reader_expectCell ln_5_143 rfl (by decide +kernel) (by decide) (Nat.le_of_ble_eq_true rfl) (s_reader_expectCell (ok_b h)) (fun r6 s6 h => ?_)
        refine g_ifb_ne hx (off := 5) (tgt := 68) (by decide +kernel) (by decide) (fun c63 => ?_) (fun c63 => ?_)
        · have h := ok_t h c63
          refine g_run hx [(.aload_n 0, 0, 0), (.getfield 31, 0, 0), (.istore_n 2, 0, 0), (.aload_n 0, 0, 0), (.iload_n 2, 0, 0)] (pc' := 75) (lo' := [some (.ref 1), some (.int 2), some (.int (gI s6 1 6))]) (st' := [.int (gI s6 1 6), .ref 1]) (σ' := s6) (by decide +kernel) rfl rfl ?_
          refine g_callV (rest := []) [.int (gI s6 1 6)] hx hc mk_reader_expectCell ln_5_143 rfl (by decide +kernel) (by decide) (Nat.le_of_ble_eq_true rfl) (s_reader_expectCell (ok_b h)) (fun r7 s7 h => ?_)
          refine g_ifb_ne hx (off := 5) (tgt := 83) (by decide +kernel) (by decide) (fun c78 => ?_) (fun c78 => ?_)
          · have h := ok_t h c78
            refine g_run hx [(.aload_n 0, 0, 0), (.getfield 37, 0, 0), (.iload_n 1, 0, 0), (.iload_n 2, 0, 0), (.aload_n 0, 0, 0), (.getfield 31, 0, 0)] (pc' := 93) (lo' := [some (.ref 1), some (.int 2), some (.int (gI s6 1 6))]) (st' := [.int (gI s7 1 6), .int (gI s6 1 6), .int 2, .ref 25]) (σ' := s7) (by decide +kernel) rfl rfl ?_
            refine g_callN (rest := [.int 2, .ref 25]) [.int (gI s6 1 6), .int (gI s7 1 6)] hx hc mk_x_span ln_5_170 (by decide +kernel) (by decide) (Nat.le_of_ble_eq_true rfl) (s_x_span (ok_b h)) (fun r8 s8 h => ?_)
            refine g_callV (rest := []) [.int 2, .long r8] hx hc mk_country_setGround ln_5_174 rfl (by decide +kernel) (by decide) (Nat.le_of_ble_eq_true rfl) (s_country_setGround (ok_b h)) (fun r9 s9 h => ?_)
            refine g_run hx [(.iconst 1, 1, 0)] (pc' := 100) (lo' := [some (.ref 1), some (.int 2), some (.int (gI s6 1 6))]) (st' := [.int 1]) (σ' := s9) (by decide +kernel) rfl rfl ?_
            exact g_zret (b := true) hx hr rfl true rfl (by decide +kernel) (ok_some h)
          · have h := ok_f h c78
            refine g_run hx [(.iconst 0, 0, 0)] (pc' := 82) (lo' := [some (.ref 1), some (.int 2), some (.int (gI s6 1 6))]) (st' := [.int 0]) (σ' := s7) (by decide +kernel) rfl rfl ?_
            exact g_zret (b := false) hx hr rfl false rfl (by decide +kernel) (ok_some h)
        · have h := ok_f h c63
          refine g_run hx [(.iconst 0, 0, 0)] (pc' := 67) (lo' := [some (.ref 1), some (.int 2), none]) (st' := [.int 0]) (σ' := s6) (by decide +kernel) rfl rfl ?_
          exact g_zret (b := false) hx hr rfl false rfl (by decide +kernel) (ok_some h)
    · have h := ok_t h c23
      refine g_run hx [(.iconst 1, 1, 0)] (pc' := 27) (lo' := [some (.ref 1), none, none]) (st' := [.int 1]) (σ' := s3) (by decide +kernel) rfl rfl ?_
      refine g_goto hx (off := 18) (tgt := 45) (by decide +kernel) (by decide) ?_
      refine g_run hx [(.istore_n 1, 0, 0), (.iload_n 1, 0, 0), (.bipush (-2), (-2), 0)] (pc' := 49) (lo' := [some (.ref 1), some (.int 1), none]) (st' := [.int (-2), .int 1]) (σ' := s3) (by decide +kernel) rfl rfl ?_
      refine g_ic_ne hx (off := 9) (tgt := 58) (by decide +kernel) (by decide) (fun _ => ?_) (fun c => absurd c (by decide))
      refine g_run hx [(.aload_n 0, 0, 0), (.iconst 0, 0, 0)] (pc' := 60) (lo' := [some (.ref 1), some (.int 1), none]) (st' := [.int 0, .ref 1]) (σ' := s3) (by decide +kernel) rfl rfl ?_
      refine g_callV (rest := []) [.int 0] hx hc mk_reader_expectCell ln_5_143 rfl (by decide +kernel) (by decide) (Nat.le_of_ble_eq_true rfl) (s_reader_expectCell (ok_b h)) (fun r10 s10 h => ?_)
      refine g_ifb_ne hx (off := 5) (tgt := 68) (by decide +kernel) (by decide) (fun c63 => ?_) (fun c63 => ?_)
      · have h := ok_t h c63
        refine g_run hx [(.aload_n 0, 0, 0), (.getfield 31, 0, 0), (.istore_n 2, 0, 0), (.aload_n 0, 0, 0), (.iload_n 2, 0, 0)] (pc' := 75) (lo' := [some (.ref 1), some (.int 1), some (.int (gI s10 1 6))]) (st' := [.int (gI s10 1 6), .ref 1]) (σ' := s10) (by decide +kernel) rfl rfl ?_
        refine g_callV (rest := []) [.int (gI s10 1 6)] hx hc mk_reader_expectCell ln_5_143 rfl (by decide +kernel) (by decide) (Nat.le_of_ble_eq_true rfl) (s_reader_expectCell (ok_b h)) (fun r11 s11 h => ?_)
        refine g_ifb_ne hx (off := 5) (tgt := 83) (by decide +kernel) (by decide) (fun c78 => ?_) (fun c78 => ?_)
        · have h := ok_t h c78
          refine g_run hx [(.aload_n 0, 0, 0), (.getfield 37, 0, 0), (.iload_n 1, 0, 0), (.iload_n 2, 0, 0), (.aload_n 0, 0, 0), (.getfield 31, 0, 0)] (pc' := 93) (lo' := [some (.ref 1), some (.int 1), some (.int (gI s10 1 6))]) (st' := [.int (gI s11 1 6), .int (gI s10 1 6), .int 1, .ref 25]) (σ' := s11) (by decide +kernel) rfl rfl ?_
          refine g_callN (rest := [.int 1, .ref 25]) [.int (gI s10 1 6), .int (gI s11 1 6)] hx hc mk_x_span ln_5_170 (by decide +kernel) (by decide) (Nat.le_of_ble_eq_true rfl) (s_x_span (ok_b h)) (fun r12 s12 h => ?_)
          refine g_callV (rest := []) [.int 1, .long r12] hx hc mk_country_setGround ln_5_174 rfl (by decide +kernel) (by decide) (Nat.le_of_ble_eq_true rfl) (s_country_setGround (ok_b h)) (fun r13 s13 h => ?_)
          refine g_run hx [(.iconst 1, 1, 0)] (pc' := 100) (lo' := [some (.ref 1), some (.int 1), some (.int (gI s10 1 6))]) (st' := [.int 1]) (σ' := s13) (by decide +kernel) rfl rfl ?_
          exact g_zret (b := true) hx hr rfl true rfl (by decide +kernel) (ok_some h)
        · have h := ok_f h c78
          refine g_run hx [(.iconst 0, 0, 0)] (pc' := 82) (lo' := [some (.ref 1), some (.int 1), some (.int (gI s10 1 6))]) (st' := [.int 0]) (σ' := s11) (by decide +kernel) rfl rfl ?_
          exact g_zret (b := false) hx hr rfl false rfl (by decide +kernel) (ok_some h)
      · have h := ok_f h c63
        refine g_run hx [(.iconst 0, 0, 0)] (pc' := 67) (lo' := [some (.ref 1), some (.int 1), none]) (st' := [.int 0]) (σ' := s10) (by decide +kernel) rfl rfl ?_
        exact g_zret (b := false) hx hr rfl false rfl (by decide +kernel) (ok_some h)
  · have h := ok_t h c10
    refine g_run hx [(.iconst 0, 0, 0)] (pc' := 14) (lo' := [some (.ref 1), none, none]) (st' := [.int 0]) (σ' := s2) (by decide +kernel) rfl rfl ?_
    refine g_goto hx (off := 31) (tgt := 45) (by decide +kernel) (by decide) ?_
    refine g_run hx [(.istore_n 1, 0, 0), (.iload_n 1, 0, 0), (.bipush (-2), (-2), 0)] (pc' := 49) (lo' := [some (.ref 1), some (.int 0), none]) (st' := [.int (-2), .int 0]) (σ' := s2) (by decide +kernel) rfl rfl ?_
    refine g_ic_ne hx (off := 9) (tgt := 58) (by decide +kernel) (by decide) (fun _ => ?_) (fun c => absurd c (by decide))
    refine g_run hx [(.aload_n 0, 0, 0), (.iconst 0, 0, 0)] (pc' := 60) (lo' := [some (.ref 1), some (.int 0), none]) (st' := [.int 0, .ref 1]) (σ' := s2) (by decide +kernel) rfl rfl ?_
    refine g_callV (rest := []) [.int 0] hx hc mk_reader_expectCell ln_5_143 rfl (by decide +kernel) (by decide) (Nat.le_of_ble_eq_true rfl) (s_reader_expectCell (ok_b h)) (fun r14 s14 h => ?_)
    refine g_ifb_ne hx (off := 5) (tgt := 68) (by decide +kernel) (by decide) (fun c63 => ?_) (fun c63 => ?_)
    · have h := ok_t h c63
      refine g_run hx [(.aload_n 0, 0, 0), (.getfield 31, 0, 0), (.istore_n 2, 0, 0), (.aload_n 0, 0, 0), (.iload_n 2, 0, 0)] (pc' := 75) (lo' := [some (.ref 1), some (.int 0), some (.int (gI s14 1 6))]) (st' := [.int (gI s14 1 6), .ref 1]) (σ' := s14) (by decide +kernel) rfl rfl ?_
      refine g_callV (rest := []) [.int (gI s14 1 6)] hx hc mk_reader_expectCell ln_5_143 rfl (by decide +kernel) (by decide) (Nat.le_of_ble_eq_true rfl) (s_reader_expectCell (ok_b h)) (fun r15 s15 h => ?_)
      refine g_ifb_ne hx (off := 5) (tgt := 83) (by decide +kernel) (by decide) (fun c78 => ?_) (fun c78 => ?_)
      · have h := ok_t h c78
        refine g_run hx [(.aload_n 0, 0, 0), (.getfield 37, 0, 0), (.iload_n 1, 0, 0), (.iload_n 2, 0, 0), (.aload_n 0, 0, 0), (.getfield 31, 0, 0)] (pc' := 93) (lo' := [some (.ref 1), some (.int 0), some (.int (gI s14 1 6))]) (st' := [.int (gI s15 1 6), .int (gI s14 1 6), .int 0, .ref 25]) (σ' := s15) (by decide +kernel) rfl rfl ?_
        refine g_callN (rest := [.int 0, .ref 25]) [.int (gI s14 1 6), .int (gI s15 1 6)] hx hc mk_x_span ln_5_170 (by decide +kernel) (by decide) (Nat.le_of_ble_eq_true rfl) (s_x_span (ok_b h)) (fun r16 s16 h => ?_)
        refine g_callV (rest := []) [.int 0, .long r16] hx hc mk_country_setGround ln_5_174 rfl (by decide +kernel) (by decide) (Nat.le_of_ble_eq_true rfl) (s_country_setGround (ok_b h)) (fun r17 s17 h => ?_)
        refine g_run hx [(.iconst 1, 1, 0)] (pc' := 100) (lo' := [some (.ref 1), some (.int 0), some (.int (gI s14 1 6))]) (st' := [.int 1]) (σ' := s17) (by decide +kernel) rfl rfl ?_
        exact g_zret (b := true) hx hr rfl true rfl (by decide +kernel) (ok_some h)
      · have h := ok_f h c78
        refine g_run hx [(.iconst 0, 0, 0)] (pc' := 82) (lo' := [some (.ref 1), some (.int 0), some (.int (gI s14 1 6))]) (st' := [.int 0]) (σ' := s15) (by decide +kernel) rfl rfl ?_
        exact g_zret (b := false) hx hr rfl false rfl (by decide +kernel) (ok_some h)
    · have h := ok_f h c63
      refine g_run hx [(.iconst 0, 0, 0)] (pc' := 67) (lo' := [some (.ref 1), some (.int 0), none]) (st' := [.int 0]) (σ' := s14) (by decide +kernel) rfl rfl ?_
      exact g_zret (b := false) hx hr rfl false rfl (by decide +kernel) (ok_some h)
set_option maxRecDepth 100000 in
theorem s_numbers_at_4 {y : EX} {N : Nat} {v1 : Int32} {σ : Sg} {P : Int32 × Sg → Prop} (h : ok (f_numbers_at N 4 9 5 v1 σ) P) : Ev y M_numbers_at 0 [.ref 4, .int v1] σ rvI P := by
  refine Ev.of mk_numbers_at (Nat.le_of_ble_eq_true rfl) (fun x hx hc hr => ?_)
  have hx : Cx 3 prog_5_method_3_code x := hx
  have hc : Cc y 2 0 x := hc
  show G x 0 [some (.ref 4), some (.int v1)] [] σ
  unfold f_numbers_at at h
  refine g_run hx [(.iload_n 1, 0, 0)] (pc' := 1) (lo' := [some (.ref 4), some (.int v1)]) (st' := [.int v1]) (σ' := σ) (by decide +kernel) rfl rfl ?_
  refine g_if_lt hx (off := 29) (tgt := 30) (by decide +kernel) (by decide) (fun c1 => ?_) (fun c1 => ?_)
  · have h := ok_t h c1
    refine g_run hx [(.iconst (-1), (-1), 0)] (pc' := 31) (lo' := [some (.ref 4), some (.int v1)]) (st' := [.int (-1)]) (σ' := σ) (by decide +kernel) rfl rfl ?_
    exact g_iret hx hr rfl _ rfl (by decide +kernel) (ok_some h)
  · have h := ok_f h c1
    refine g_run hx [(.iload_n 1, 0, 0), (.aload_n 0, 0, 0), (.getfield 9, 0, 0)] (pc' := 9) (lo' := [some (.ref 4), some (.int v1)]) (st' := [.int (gI σ 4 1), .int v1]) (σ' := σ) (by decide +kernel) rfl rfl ?_
    refine g_ic_ge hx (off := 21) (tgt := 30) (by decide +kernel) (by decide) (fun c9 => ?_) (fun c9 => ?_)
    · have h := ok_t h c9
      refine g_run hx [(.iconst (-1), (-1), 0)] (pc' := 31) (lo' := [some (.ref 4), some (.int v1)]) (st' := [.int (-1)]) (σ' := σ) (by decide +kernel) rfl rfl ?_
      exact g_iret hx hr rfl _ rfl (by decide +kernel) (ok_some h)
    · have h := ok_f h c9
      refine g_run hx [(.iload_n 1, 0, 0), (.aload_n 0, 0, 0), (.getfield 21, 0, 0), (.arraylength, 0, 0)] (pc' := 18) (lo' := [some (.ref 4), some (.int v1)]) (st' := [.int (nI 9), .int v1]) (σ' := σ) (by decide +kernel) rfl rfl ?_
      refine g_ic_ge hx (off := 12) (tgt := 30) (by decide +kernel) (by decide) (fun c18 => ?_) (fun c18 => ?_)
      · have h := ok_t h c18
        refine g_run hx [(.iconst (-1), (-1), 0)] (pc' := 31) (lo' := [some (.ref 4), some (.int v1)]) (st' := [.int (-1)]) (σ' := σ) (by decide +kernel) rfl rfl ?_
        exact g_iret hx hr rfl _ rfl (by decide +kernel) (ok_some h)
      · have h := ok_f h c18
        refine g_run hx [(.aload_n 0, 0, 0), (.getfield 21, 0, 0), (.iload_n 1, 0, 0)] (pc' := 26) (lo' := [some (.ref 4), some (.int v1)]) (st' := [.int v1, .ref 5]) (σ' := σ) (by decide +kernel) rfl rfl ?_
        obtain ⟨c26, h⟩ := ok_g h
        refine g_iald hx (by decide +kernel) (i := 5) (n := 9) rfl c26 ?_
        refine g_goto hx (off := 4) (tgt := 31) (by decide +kernel) (by decide) ?_
        exact g_iret hx hr rfl _ rfl (by decide +kernel) (ok_some h)
set_option maxRecDepth 100000 in
theorem s_numbers_at_6 {y : EX} {N : Nat} {v1 : Int32} {σ : Sg} {P : Int32 × Sg → Prop} (h : ok (f_numbers_at N 6 9 7 v1 σ) P) : Ev y M_numbers_at 0 [.ref 6, .int v1] σ rvI P := by
  refine Ev.of mk_numbers_at (Nat.le_of_ble_eq_true rfl) (fun x hx hc hr => ?_)
  have hx : Cx 3 prog_5_method_3_code x := hx
  have hc : Cc y 2 0 x := hc
  show G x 0 [some (.ref 6), some (.int v1)] [] σ
  unfold f_numbers_at at h
  refine g_run hx [(.iload_n 1, 0, 0)] (pc' := 1) (lo' := [some (.ref 6), some (.int v1)]) (st' := [.int v1]) (σ' := σ) (by decide +kernel) rfl rfl ?_
  refine g_if_lt hx (off := 29) (tgt := 30) (by decide +kernel) (by decide) (fun c1 => ?_) (fun c1 => ?_)
  · have h := ok_t h c1
    refine g_run hx [(.iconst (-1), (-1), 0)] (pc' := 31) (lo' := [some (.ref 6), some (.int v1)]) (st' := [.int (-1)]) (σ' := σ) (by decide +kernel) rfl rfl ?_
    exact g_iret hx hr rfl _ rfl (by decide +kernel) (ok_some h)
  · have h := ok_f h c1
    refine g_run hx [(.iload_n 1, 0, 0), (.aload_n 0, 0, 0), (.getfield 9, 0, 0)] (pc' := 9) (lo' := [some (.ref 6), some (.int v1)]) (st' := [.int (gI σ 6 1), .int v1]) (σ' := σ) (by decide +kernel) rfl rfl ?_
    refine g_ic_ge hx (off := 21) (tgt := 30) (by decide +kernel) (by decide) (fun c9 => ?_) (fun c9 => ?_)
    · have h := ok_t h c9
      refine g_run hx [(.iconst (-1), (-1), 0)] (pc' := 31) (lo' := [some (.ref 6), some (.int v1)]) (st' := [.int (-1)]) (σ' := σ) (by decide +kernel) rfl rfl ?_
      exact g_iret hx hr rfl _ rfl (by decide +kernel) (ok_some h)
    · have h := ok_f h c9
      refine g_run hx [(.iload_n 1, 0, 0), (.aload_n 0, 0, 0), (.getfield 21, 0, 0), (.arraylength, 0, 0)] (pc' := 18) (lo' := [some (.ref 6), some (.int v1)]) (st' := [.int (nI 9), .int v1]) (σ' := σ) (by decide +kernel) rfl rfl ?_
      refine g_ic_ge hx (off := 12) (tgt := 30) (by decide +kernel) (by decide) (fun c18 => ?_) (fun c18 => ?_)
      · have h := ok_t h c18
        refine g_run hx [(.iconst (-1), (-1), 0)] (pc' := 31) (lo' := [some (.ref 6), some (.int v1)]) (st' := [.int (-1)]) (σ' := σ) (by decide +kernel) rfl rfl ?_
        exact g_iret hx hr rfl _ rfl (by decide +kernel) (ok_some h)
      · have h := ok_f h c18
        refine g_run hx [(.aload_n 0, 0, 0), (.getfield 21, 0, 0), (.iload_n 1, 0, 0)] (pc' := 26) (lo' := [some (.ref 6), some (.int v1)]) (st' := [.int v1, .ref 7]) (σ' := σ) (by decide +kernel) rfl rfl ?_
        obtain ⟨c26, h⟩ := ok_g h
        refine g_iald hx (by decide +kernel) (i := 7) (n := 9) rfl c26 ?_
        refine g_goto hx (off := 4) (tgt := 31) (by decide +kernel) (by decide) ?_
        exact g_iret hx hr rfl _ rfl (by decide +kernel) (ok_some h)
def f_reader_isLike_L19 (N : Nat) : Nat → Int32 → Int32 → Sg → Option (Bool × Sg)
  | 0, _, _, _ => none
  | n + 1, v1, v3, σ =>
    if ((gI σ 1 5) - (gI σ 1 4)) ≤ v3 then
      some (true, σ)
    else
      (f_reader_byteAt N (v1 + v3) σ).bind fun q1 =>
      (f_reader_byteAt N ((gI q1.2 1 4) + v3) q1.2).bind fun q2 =>
      if q1.1 = q2.1 then
        f_reader_isLike_L19 N n v1 (v3 + 1) q2.2
      else
        some (false, q2.2)
def f_reader_isLike (N : Nat) (v1 : Int32) (v2 : Int32) (σ : Sg) : Option (Bool × Sg) :=
  if (v2 - v1) = ((gI σ 1 5) - (gI σ 1 4)) then
    f_reader_isLike_L19 N N v1 0 σ
  else
    some (false, σ)
set_option maxRecDepth 100000 in
theorem s_reader_isLike_L19 {y : EX} {N : Nat} {x : CX} {P : Bool × Sg → Prop} (hx : Cx 5 prog_7_method_21_code x) (hc : Cc y 4 1 x) (hr : Cr M_reader_isLike rvB P x) : ∀ (n : Nat) (v1 : Int32) (v3 : Int32) (σ : Sg), ok (f_reader_isLike_L19 N n v1 v3 σ) P → G x 19 [some (.ref 1), some (.int v1), none, some (.int v3)] [] σ := by
  intro n
  induction n with
  | zero => intro v1 v3 σ h; exact ok_none h
  | succ n ih =>
    intro v1 v3 σ h
    rw [f_reader_isLike_L19] at h
    refine g_run hx [(.iload_n 3, 0, 0), (.aload_n 0, 0, 0), (.getfield 28, 0, 0), (.aload_n 0, 0, 0), (.getfield 25, 0, 0), (.isub, 0, 0)] (pc' := 29) (lo' := [some (.ref 1), some (.int v1), none, some (.int v3)]) (st' := [.int ((gI σ 1 5) - (gI σ 1 4)), .int v3]) (σ' := σ) (by decide +kernel) rfl rfl ?_
    refine g_ic_ge hx (off := 31) (tgt := 60) (by decide +kernel) (by decide) (fun c29 => ?_) (fun c29 => ?_)
    · have h := ok_t h c29
      refine g_run hx [(.iconst 1, 1, 0)] (pc' := 61) (lo' := [some (.ref 1), some (.int v1), none, some (.int v3)]) (st' := [.int 1]) (σ' := σ) (by decide +kernel) rfl rfl ?_
      exact g_zret (b := true) hx hr rfl true rfl (by decide +kernel) (ok_some h)
    · have h := ok_f h c29
      refine g_run hx [(.aload_n 0, 0, 0), (.iload_n 1, 0, 0), (.iload_n 3, 0, 0), (.iadd, 0, 0)] (pc' := 36) (lo' := [some (.ref 1), some (.int v1), none, some (.int v3)]) (st' := [.int (v1 + v3), .ref 1]) (σ' := σ) (by decide +kernel) rfl rfl ?_
      refine g_callV (rest := []) [.int (v1 + v3)] hx hc mk_reader_byteAt ln_5_242 rfl (by decide +kernel) (by decide) (Nat.le_of_ble_eq_true rfl) (s_reader_byteAt (ok_b h)) (fun r1 s1 h => ?_)
      refine g_run hx [(.aload_n 0, 0, 0), (.aload_n 0, 0, 0), (.getfield 25, 0, 0), (.iload_n 3, 0, 0), (.iadd, 0, 0)] (pc' := 46) (lo' := [some (.ref 1), some (.int v1), none, some (.int v3)]) (st' := [.int ((gI s1 1 4) + v3), .ref 1, .int r1]) (σ' := s1) (by decide +kernel) rfl rfl ?_
      refine g_callV (rest := [.int r1]) [.int ((gI s1 1 4) + v3)] hx hc mk_reader_byteAt ln_5_242 rfl (by decide +kernel) (by decide) (Nat.le_of_ble_eq_true rfl) (s_reader_byteAt (ok_b h)) (fun r2 s2 h => ?_)
      refine g_ic_eq hx (off := 5) (tgt := 54) (by decide +kernel) (by decide) (fun c49 => ?_) (fun c49 => ?_)
      · have h := ok_t h c49
        refine g_run hx [(.iinc 3 1, 1, 0)] (pc' := 57) (lo' := [some (.ref 1), some (.int v1), none, some (.int (v3 + 1))]) (st' := []) (σ' := s2) (by decide +kernel) rfl rfl ?_
        refine g_goto hx (off := (-38)) (tgt := 19) (by decide +kernel) (by decide) ?_
        exact ih _ _ _ h
      · have h := ok_f h c49
        refine g_run hx [(.iconst 0, 0, 0)] (pc' := 53) (lo' := [some (.ref 1), some (.int v1), none, some (.int v3)]) (st' := [.int 0]) (σ' := s2) (by decide +kernel) rfl rfl ?_
        exact g_zret (b := false) hx hr rfl false rfl (by decide +kernel) (ok_some h)
set_option maxRecDepth 100000 in
theorem s_reader_isLike {y : EX} {N : Nat} {v1 : Int32} {v2 : Int32} {σ : Sg} {P : Bool × Sg → Prop} (h : ok (f_reader_isLike N v1 v2 σ) P) : Ev y M_reader_isLike 1 [.ref 1, .int v1, .int v2] σ rvB P := by
  refine Ev.of mk_reader_isLike (Nat.le_of_ble_eq_true rfl) (fun x hx hc hr => ?_)
  have hx : Cx 5 prog_7_method_21_code x := hx
  have hc : Cc y 4 1 x := hc
  show G x 0 [some (.ref 1), some (.int v1), some (.int v2), none] [] σ
  unfold f_reader_isLike at h
  refine g_run hx [(.iload_n 2, 0, 0), (.iload_n 1, 0, 0), (.isub, 0, 0), (.aload_n 0, 0, 0), (.getfield 28, 0, 0), (.aload_n 0, 0, 0), (.getfield 25, 0, 0), (.isub, 0, 0)] (pc' := 12) (lo' := [some (.ref 1), some (.int v1), some (.int v2), none]) (st' := [.int ((gI σ 1 5) - (gI σ 1 4)), .int (v2 - v1)]) (σ' := σ) (by decide +kernel) rfl rfl ?_
  refine g_ic_eq hx (off := 5) (tgt := 17) (by decide +kernel) (by decide) (fun c12 => ?_) (fun c12 => ?_)
  · have h := ok_t h c12
    refine g_run hx [(.iconst 0, 0, 0), (.istore_n 3, 0, 0)] (pc' := 19) (lo' := [some (.ref 1), some (.int v1), some (.int v2), some (.int 0)]) (st' := []) (σ' := σ) (by decide +kernel) rfl rfl ?_
    refine g_wk (lo' := [some (.ref 1), some (.int v1), none, some (.int 0)]) ⟨rfl, ⟨rfl, ⟨rfl, trivial⟩⟩⟩ ?_
    refine s_reader_isLike_L19 hx hc hr N _ _ _ h
  · have h := ok_f h c12
    refine g_run hx [(.iconst 0, 0, 0)] (pc' := 16) (lo' := [some (.ref 1), some (.int v1), some (.int v2), none]) (st' := [.int 0]) (σ' := σ) (by decide +kernel) rfl rfl ?_
    exact g_zret (b := false) hx hr rfl false rfl (by decide +kernel) (ok_some h)
def f_reader_nameHere_L2 (N : Nat) : Nat → Int32 → Sg → Option (Int32 × Sg)
  | 0, _, _ => none
  | n + 1, v1, σ =>
    if (gI σ 4 1) ≤ v1 then
      some ((-1), σ)
    else
      (f_numbers_at N 4 9 5 v1 σ).bind fun q1 =>
      (f_numbers_at N 6 9 7 v1 q1.2).bind fun q2 =>
      (f_reader_isLike N q1.1 q2.1 q2.2).bind fun q3 =>
      if q3.1 = true then
        some (v1, q3.2)
      else
        f_reader_nameHere_L2 N n (v1 + 1) q3.2
def f_reader_nameHere (N : Nat) (σ : Sg) : Option (Int32 × Sg) :=
  f_reader_nameHere_L2 N N 0 σ
set_option maxRecDepth 100000 in
theorem s_reader_nameHere_L2 {y : EX} {N : Nat} {x : CX} {P : Int32 × Sg → Prop} (hx : Cx 5 prog_7_method_20_code x) (hc : Cc y 2 2 x) (hr : Cr M_reader_nameHere rvI P x) : ∀ (n : Nat) (v1 : Int32) (σ : Sg), ok (f_reader_nameHere_L2 N n v1 σ) P → G x 2 [some (.ref 1), some (.int v1)] [] σ := by
  intro n
  induction n with
  | zero => intro v1 σ h; exact ok_none h
  | succ n ih =>
    intro v1 σ h
    rw [f_reader_nameHere_L2] at h
    refine g_run hx [(.iload_n 1, 0, 0), (.aload_n 0, 0, 0), (.getfield 50, 0, 0), (.getfield 88, 0, 0)] (pc' := 10) (lo' := [some (.ref 1), some (.int v1)]) (st' := [.int (gI σ 4 1), .int v1]) (σ' := σ) (by decide +kernel) rfl rfl ?_
    refine g_ic_ge hx (off := 34) (tgt := 44) (by decide +kernel) (by decide) (fun c10 => ?_) (fun c10 => ?_)
    · have h := ok_t h c10
      refine g_run hx [(.iconst (-1), (-1), 0)] (pc' := 45) (lo' := [some (.ref 1), some (.int v1)]) (st' := [.int (-1)]) (σ' := σ) (by decide +kernel) rfl rfl ?_
      exact g_iret hx hr rfl _ rfl (by decide +kernel) (ok_some h)
    · have h := ok_f h c10
      refine g_run hx [(.aload_n 0, 0, 0), (.aload_n 0, 0, 0), (.getfield 50, 0, 0), (.iload_n 1, 0, 0)] (pc' := 19) (lo' := [some (.ref 1), some (.int v1)]) (st' := [.int v1, .ref 4, .ref 1]) (σ' := σ) (by decide +kernel) rfl rfl ?_
      refine g_callV (rest := [.ref 1]) [.int v1] hx hc mk_numbers_at ln_5_200 rfl (by decide +kernel) (by decide) (Nat.le_of_ble_eq_true rfl) (s_numbers_at_4 (ok_b h)) (fun r1 s1 h => ?_)
      refine g_run hx [(.aload_n 0, 0, 0), (.getfield 54, 0, 0), (.iload_n 1, 0, 0)] (pc' := 27) (lo' := [some (.ref 1), some (.int v1)]) (st' := [.int v1, .ref 6, .int r1, .ref 1]) (σ' := s1) (by decide +kernel) rfl rfl ?_
      refine g_callV (rest := [.int r1, .ref 1]) [.int v1] hx hc mk_numbers_at ln_5_200 rfl (by decide +kernel) (by decide) (Nat.le_of_ble_eq_true rfl) (s_numbers_at_6 (ok_b h)) (fun r2 s2 h => ?_)
      refine g_callV (rest := []) [.int r1, .int r2] hx hc mk_reader_isLike ln_5_239 rfl (by decide +kernel) (by decide) (Nat.le_of_ble_eq_true rfl) (s_reader_isLike (ok_b h)) (fun r3 s3 h => ?_)
      refine g_ifb_eq hx (off := 5) (tgt := 38) (by decide +kernel) (by decide) (fun c33 => ?_) (fun c33 => ?_)
      · have h := ok_f h c33
        refine g_run hx [(.iinc 1 1, 1, 0)] (pc' := 41) (lo' := [some (.ref 1), some (.int (v1 + 1))]) (st' := []) (σ' := s3) (by decide +kernel) rfl rfl ?_
        refine g_goto hx (off := (-39)) (tgt := 2) (by decide +kernel) (by decide) ?_
        exact ih _ _ h
      · have h := ok_t h c33
        refine g_run hx [(.iload_n 1, 0, 0)] (pc' := 37) (lo' := [some (.ref 1), some (.int v1)]) (st' := [.int v1]) (σ' := s3) (by decide +kernel) rfl rfl ?_
        exact g_iret hx hr rfl _ rfl (by decide +kernel) (ok_some h)
set_option maxRecDepth 100000 in
theorem s_reader_nameHere {y : EX} {N : Nat} {σ : Sg} {P : Int32 × Sg → Prop} (h : ok (f_reader_nameHere N σ) P) : Ev y M_reader_nameHere 2 [.ref 1] σ rvI P := by
  refine Ev.of mk_reader_nameHere (Nat.le_of_ble_eq_true rfl) (fun x hx hc hr => ?_)
  have hx : Cx 5 prog_7_method_20_code x := hx
  have hc : Cc y 2 2 x := hc
  show G x 0 [some (.ref 1), none] [] σ
  unfold f_reader_nameHere at h
  refine g_run hx [(.iconst 0, 0, 0), (.istore_n 1, 0, 0)] (pc' := 2) (lo' := [some (.ref 1), some (.int 0)]) (st' := []) (σ' := σ) (by decide +kernel) rfl rfl ?_
  refine s_reader_nameHere_L2 hx hc hr N _ _ h
def f_numbers_add (N : Nat) (a0 : Nat) (a1 : Nat) (a2 : Nat) (v1 : Int32) (σ : Sg) : Option (Unit × Sg) :=
  if (gI σ a0 1) < 0 then
    some ((), σ)
  else
    if (nI a1) ≤ (gI σ a0 1) then
      some ((), σ)
    else
      if vin (gI σ a0 1) a1 then
      some ((), sI (sA σ a2 (gI σ a0 1) v1) a0 1 ((gI (sA σ a2 (gI σ a0 1) v1) a0 1) + 1))
      else none
set_option maxRecDepth 100000 in
theorem s_numbers_add_4 {y : EX} {N : Nat} {v1 : Int32} {σ : Sg} {P : Unit × Sg → Prop} (h : ok (f_numbers_add N 4 9 5 v1 σ) P) : Ev y M_numbers_add 0 [.ref 4, .int v1] σ rvN P := by
  refine Ev.of mk_numbers_add (Nat.le_of_ble_eq_true rfl) (fun x hx hc hr => ?_)
  have hx : Cx 3 prog_5_method_2_code x := hx
  have hc : Cc y 2 0 x := hc
  show G x 0 [some (.ref 4), some (.int v1)] [] σ
  unfold f_numbers_add at h
  refine g_run hx [(.aload_n 0, 0, 0), (.getfield 9, 0, 0)] (pc' := 4) (lo' := [some (.ref 4), some (.int v1)]) (st' := [.int (gI σ 4 1)]) (σ' := σ) (by decide +kernel) rfl rfl ?_
  refine g_if_lt hx (off := 35) (tgt := 39) (by decide +kernel) (by decide) (fun c4 => ?_) (fun c4 => ?_)
  · have h := ok_t h c4
    exact g_vret hx hr rfl () rfl (by decide +kernel) (ok_some h)
  · have h := ok_f h c4
    refine g_run hx [(.aload_n 0, 0, 0), (.getfield 9, 0, 0), (.aload_n 0, 0, 0), (.getfield 21, 0, 0), (.arraylength, 0, 0)] (pc' := 16) (lo' := [some (.ref 4), some (.int v1)]) (st' := [.int (nI 9), .int (gI σ 4 1)]) (σ' := σ) (by decide +kernel) rfl rfl ?_
    refine g_ic_ge hx (off := 23) (tgt := 39) (by decide +kernel) (by decide) (fun c16 => ?_) (fun c16 => ?_)
    · have h := ok_t h c16
      exact g_vret hx hr rfl () rfl (by decide +kernel) (ok_some h)
    · have h := ok_f h c16
      refine g_run hx [(.aload_n 0, 0, 0), (.getfield 21, 0, 0), (.aload_n 0, 0, 0), (.getfield 9, 0, 0), (.iload_n 1, 0, 0)] (pc' := 28) (lo' := [some (.ref 4), some (.int v1)]) (st' := [.int v1, .int (gI σ 4 1), .ref 5]) (σ' := σ) (by decide +kernel) rfl rfl ?_
      obtain ⟨c28, h⟩ := ok_g h
      refine g_iast hx (by decide +kernel) (i := 5) (n := 9) rfl c28 ?_
      refine g_run hx [(.aload_n 0, 0, 0), (.dup, 0, 0), (.getfield 9, 0, 0), (.iconst 1, 1, 0), (.iadd, 0, 0), (.putfield 9, 0, 0)] (pc' := 39) (lo' := [some (.ref 4), some (.int v1)]) (st' := []) (σ' := sI (sA σ 5 (gI σ 4 1) v1) 4 1 ((gI (sA σ 5 (gI σ 4 1) v1) 4 1) + 1)) (by decide +kernel) rfl rfl ?_
      exact g_vret hx hr rfl () rfl (by decide +kernel) (ok_some h)
set_option maxRecDepth 100000 in
theorem s_numbers_add_6 {y : EX} {N : Nat} {v1 : Int32} {σ : Sg} {P : Unit × Sg → Prop} (h : ok (f_numbers_add N 6 9 7 v1 σ) P) : Ev y M_numbers_add 0 [.ref 6, .int v1] σ rvN P := by
  refine Ev.of mk_numbers_add (Nat.le_of_ble_eq_true rfl) (fun x hx hc hr => ?_)
  have hx : Cx 3 prog_5_method_2_code x := hx
  have hc : Cc y 2 0 x := hc
  show G x 0 [some (.ref 6), some (.int v1)] [] σ
  unfold f_numbers_add at h
  refine g_run hx [(.aload_n 0, 0, 0), (.getfield 9, 0, 0)] (pc' := 4) (lo' := [some (.ref 6), some (.int v1)]) (st' := [.int (gI σ 6 1)]) (σ' := σ) (by decide +kernel) rfl rfl ?_
  refine g_if_lt hx (off := 35) (tgt := 39) (by decide +kernel) (by decide) (fun c4 => ?_) (fun c4 => ?_)
  · have h := ok_t h c4
    exact g_vret hx hr rfl () rfl (by decide +kernel) (ok_some h)
  · have h := ok_f h c4
    refine g_run hx [(.aload_n 0, 0, 0), (.getfield 9, 0, 0), (.aload_n 0, 0, 0), (.getfield 21, 0, 0), (.arraylength, 0, 0)] (pc' := 16) (lo' := [some (.ref 6), some (.int v1)]) (st' := [.int (nI 9), .int (gI σ 6 1)]) (σ' := σ) (by decide +kernel) rfl rfl ?_
    refine g_ic_ge hx (off := 23) (tgt := 39) (by decide +kernel) (by decide) (fun c16 => ?_) (fun c16 => ?_)
    · have h := ok_t h c16
      exact g_vret hx hr rfl () rfl (by decide +kernel) (ok_some h)
    · have h := ok_f h c16
      refine g_run hx [(.aload_n 0, 0, 0), (.getfield 21, 0, 0), (.aload_n 0, 0, 0), (.getfield 9, 0, 0), (.iload_n 1, 0, 0)] (pc' := 28) (lo' := [some (.ref 6), some (.int v1)]) (st' := [.int v1, .int (gI σ 6 1), .ref 7]) (σ' := σ) (by decide +kernel) rfl rfl ?_
      obtain ⟨c28, h⟩ := ok_g h
      refine g_iast hx (by decide +kernel) (i := 7) (n := 9) rfl c28 ?_
      refine g_run hx [(.aload_n 0, 0, 0), (.dup, 0, 0), (.getfield 9, 0, 0), (.iconst 1, 1, 0), (.iadd, 0, 0), (.putfield 9, 0, 0)] (pc' := 39) (lo' := [some (.ref 6), some (.int v1)]) (st' := []) (σ' := sI (sA σ 7 (gI σ 6 1) v1) 6 1 ((gI (sA σ 7 (gI σ 6 1) v1) 6 1) + 1)) (by decide +kernel) rfl rfl ?_
      exact g_vret hx hr rfl () rfl (by decide +kernel) (ok_some h)
set_option maxRecDepth 100000 in
theorem s_numbers_add_8 {y : EX} {N : Nat} {v1 : Int32} {σ : Sg} {P : Unit × Sg → Prop} (h : ok (f_numbers_add N 8 9 9 v1 σ) P) : Ev y M_numbers_add 0 [.ref 8, .int v1] σ rvN P := by
  refine Ev.of mk_numbers_add (Nat.le_of_ble_eq_true rfl) (fun x hx hc hr => ?_)
  have hx : Cx 3 prog_5_method_2_code x := hx
  have hc : Cc y 2 0 x := hc
  show G x 0 [some (.ref 8), some (.int v1)] [] σ
  unfold f_numbers_add at h
  refine g_run hx [(.aload_n 0, 0, 0), (.getfield 9, 0, 0)] (pc' := 4) (lo' := [some (.ref 8), some (.int v1)]) (st' := [.int (gI σ 8 1)]) (σ' := σ) (by decide +kernel) rfl rfl ?_
  refine g_if_lt hx (off := 35) (tgt := 39) (by decide +kernel) (by decide) (fun c4 => ?_) (fun c4 => ?_)
  · have h := ok_t h c4
    exact g_vret hx hr rfl () rfl (by decide +kernel) (ok_some h)
  · have h := ok_f h c4
    refine g_run hx [(.aload_n 0, 0, 0), (.getfield 9, 0, 0), (.aload_n 0, 0, 0), (.getfield 21, 0, 0), (.arraylength, 0, 0)] (pc' := 16) (lo' := [some (.ref 8), some (.int v1)]) (st' := [.int (nI 9), .int (gI σ 8 1)]) (σ' := σ) (by decide +kernel) rfl rfl ?_
    refine g_ic_ge hx (off := 23) (tgt := 39) (by decide +kernel) (by decide) (fun c16 => ?_) (fun c16 => ?_)
    · have h := ok_t h c16
      exact g_vret hx hr rfl () rfl (by decide +kernel) (ok_some h)
    · have h := ok_f h c16
      refine g_run hx [(.aload_n 0, 0, 0), (.getfield 21, 0, 0), (.aload_n 0, 0, 0), (.getfield 9, 0, 0), (.iload_n 1, 0, 0)] (pc' := 28) (lo' := [some (.ref 8), some (.int v1)]) (st' := [.int v1, .int (gI σ 8 1), .ref 9]) (σ' := σ) (by decide +kernel) rfl rfl ?_
      obtain ⟨c28, h⟩ := ok_g h
      refine g_iast hx (by decide +kernel) (i := 9) (n := 9) rfl c28 ?_
      refine g_run hx [(.aload_n 0, 0, 0), (.dup, 0, 0), (.getfield 9, 0, 0), (.iconst 1, 1, 0), (.iadd, 0, 0), (.putfield 9, 0, 0)] (pc' := 39) (lo' := [some (.ref 8), some (.int v1)]) (st' := []) (σ' := sI (sA σ 9 (gI σ 8 1) v1) 8 1 ((gI (sA σ 9 (gI σ 8 1) v1) 8 1) + 1)) (by decide +kernel) rfl rfl ?_
      exact g_vret hx hr rfl () rfl (by decide +kernel) (ok_some h)
def f_reader_expectNewName (N : Nat) (v1 : Int32) (σ : Sg) : Option (Bool × Sg) :=
  (f_reader_nextToken N σ).bind fun q1 =>
  (f_reader_sortHere N q1.2).bind fun q2 =>
  if q2.1 = (-1) then
    (f_reader_nameHere N q2.2).bind fun q3 =>
    if q3.1 = (-1) then
      (f_numbers_add N 4 9 5 (gI q3.2 1 4) q3.2).bind fun q4 =>
      (f_numbers_add N 6 9 7 (gI q4.2 1 5) q4.2).bind fun q5 =>
      (f_numbers_add N 8 9 9 v1 q5.2).bind fun q6 =>
      some (true, q6.2)
    else
      (f_reader_fail N 3 q3.2).bind fun q7 =>
      some (q7.1, q7.2)
  else
    (f_reader_fail N 1 q2.2).bind fun q8 =>
    some (q8.1, q8.2)
set_option maxRecDepth 100000 in
theorem s_reader_expectNewName {y : EX} {N : Nat} {v1 : Int32} {σ : Sg} {P : Bool × Sg → Prop} (h : ok (f_reader_expectNewName N v1 σ) P) : Ev y M_reader_expectNewName 6 [.ref 1, .int v1] σ rvB P := by
  refine Ev.of mk_reader_expectNewName (Nat.le_of_ble_eq_true rfl) (fun x hx hc hr => ?_)
  have hx : Cx 5 prog_7_method_19_code x := hx
  have hc : Cc y 2 6 x := hc
  show G x 0 [some (.ref 1), some (.int v1)] [] σ
  unfold f_reader_expectNewName at h
  refine g_run hx [(.aload_n 0, 0, 0)] (pc' := 1) (lo' := [some (.ref 1), some (.int v1)]) (st' := [.ref 1]) (σ' := σ) (by decide +kernel) rfl rfl ?_
  refine g_callV (rest := []) [] hx hc mk_reader_nextToken ln_5_69 rfl (by decide +kernel) (by decide) (Nat.le_of_ble_eq_true rfl) (s_reader_nextToken (ok_b h)) (fun r1 s1 h => ?_)
  refine g_run hx [(.aload_n 0, 0, 0)] (pc' := 5) (lo' := [some (.ref 1), some (.int v1)]) (st' := [.ref 1]) (σ' := s1) (by decide +kernel) rfl rfl ?_
  refine g_callV (rest := []) [] hx hc mk_reader_sortHere ln_5_98 rfl (by decide +kernel) (by decide) (Nat.le_of_ble_eq_true rfl) (s_reader_sortHere (ok_b h)) (fun r2 s2 h => ?_)
  refine g_run hx [(.iconst (-1), (-1), 0)] (pc' := 9) (lo' := [some (.ref 1), some (.int v1)]) (st' := [.int (-1), .int r2]) (σ' := s2) (by decide +kernel) rfl rfl ?_
  refine g_ic_eq hx (off := 9) (tgt := 18) (by decide +kernel) (by decide) (fun c9 => ?_) (fun c9 => ?_)
  · have h := ok_t h c9
    refine g_run hx [(.aload_n 0, 0, 0)] (pc' := 19) (lo' := [some (.ref 1), some (.int v1)]) (st' := [.ref 1]) (σ' := s2) (by decide +kernel) rfl rfl ?_
    refine g_callV (rest := []) [] hx hc mk_reader_nameHere ln_5_197 rfl (by decide +kernel) (by decide) (Nat.le_of_ble_eq_true rfl) (s_reader_nameHere (ok_b h)) (fun r3 s3 h => ?_)
    refine g_run hx [(.iconst (-1), (-1), 0)] (pc' := 23) (lo' := [some (.ref 1), some (.int v1)]) (st' := [.int (-1), .int r3]) (σ' := s3) (by decide +kernel) rfl rfl ?_
    refine g_ic_eq hx (off := 9) (tgt := 32) (by decide +kernel) (by decide) (fun c23 => ?_) (fun c23 => ?_)
    · have h := ok_t h c23
      refine g_run hx [(.aload_n 0, 0, 0), (.getfield 50, 0, 0), (.aload_n 0, 0, 0), (.getfield 25, 0, 0)] (pc' := 40) (lo' := [some (.ref 1), some (.int v1)]) (st' := [.int (gI s3 1 4), .ref 4]) (σ' := s3) (by decide +kernel) rfl rfl ?_
      refine g_callV (rest := []) [.int (gI s3 1 4)] hx hc mk_numbers_add ln_5_181 rfl (by decide +kernel) (by decide) (Nat.le_of_ble_eq_true rfl) (s_numbers_add_4 (ok_b h)) (fun r4 s4 h => ?_)
      refine g_run hx [(.aload_n 0, 0, 0), (.getfield 54, 0, 0), (.aload_n 0, 0, 0), (.getfield 28, 0, 0)] (pc' := 51) (lo' := [some (.ref 1), some (.int v1)]) (st' := [.int (gI s4 1 5), .ref 6]) (σ' := s4) (by decide +kernel) rfl rfl ?_
      refine g_callV (rest := []) [.int (gI s4 1 5)] hx hc mk_numbers_add ln_5_181 rfl (by decide +kernel) (by decide) (Nat.le_of_ble_eq_true rfl) (s_numbers_add_6 (ok_b h)) (fun r5 s5 h => ?_)
      refine g_run hx [(.aload_n 0, 0, 0), (.getfield 57, 0, 0), (.iload_n 1, 0, 0)] (pc' := 59) (lo' := [some (.ref 1), some (.int v1)]) (st' := [.int v1, .ref 8]) (σ' := s5) (by decide +kernel) rfl rfl ?_
      refine g_callV (rest := []) [.int v1] hx hc mk_numbers_add ln_5_181 rfl (by decide +kernel) (by decide) (Nat.le_of_ble_eq_true rfl) (s_numbers_add_8 (ok_b h)) (fun r6 s6 h => ?_)
      refine g_run hx [(.iconst 1, 1, 0)] (pc' := 63) (lo' := [some (.ref 1), some (.int v1)]) (st' := [.int 1]) (σ' := s6) (by decide +kernel) rfl rfl ?_
      exact g_zret (b := true) hx hr rfl true rfl (by decide +kernel) (ok_some h)
    · have h := ok_f h c23
      refine g_run hx [(.aload_n 0, 0, 0), (.iconst 3, 3, 0)] (pc' := 28) (lo' := [some (.ref 1), some (.int v1)]) (st' := [.int 3, .ref 1]) (σ' := s3) (by decide +kernel) rfl rfl ?_
      refine g_callV (rest := []) [.int 3] hx hc mk_reader_fail ln_5_91 rfl (by decide +kernel) (by decide) (Nat.le_of_ble_eq_true rfl) (s_reader_fail (ok_b h)) (fun r7 s7 h => ?_)
      exact g_zret hx hr rfl _ rfl (by decide +kernel) (ok_some h)
  · have h := ok_f h c9
    refine g_run hx [(.aload_n 0, 0, 0), (.iconst 1, 1, 0)] (pc' := 14) (lo' := [some (.ref 1), some (.int v1)]) (st' := [.int 1, .ref 1]) (σ' := s2) (by decide +kernel) rfl rfl ?_
    refine g_callV (rest := []) [.int 1] hx hc mk_reader_fail ln_5_91 rfl (by decide +kernel) (by decide) (Nat.le_of_ble_eq_true rfl) (s_reader_fail (ok_b h)) (fun r8 s8 h => ?_)
    exact g_zret hx hr rfl _ rfl (by decide +kernel) (ok_some h)
set_option maxRecDepth 100000 in
theorem s_numbers_add_26 {y : EX} {N : Nat} {v1 : Int32} {σ : Sg} {P : Unit × Sg → Prop} (h : ok (f_numbers_add N 26 3 27 v1 σ) P) : Ev y M_numbers_add 0 [.ref 26, .int v1] σ rvN P := by
  refine Ev.of mk_numbers_add (Nat.le_of_ble_eq_true rfl) (fun x hx hc hr => ?_)
  have hx : Cx 3 prog_5_method_2_code x := hx
  have hc : Cc y 2 0 x := hc
  show G x 0 [some (.ref 26), some (.int v1)] [] σ
  unfold f_numbers_add at h
  refine g_run hx [(.aload_n 0, 0, 0), (.getfield 9, 0, 0)] (pc' := 4) (lo' := [some (.ref 26), some (.int v1)]) (st' := [.int (gI σ 26 1)]) (σ' := σ) (by decide +kernel) rfl rfl ?_
  refine g_if_lt hx (off := 35) (tgt := 39) (by decide +kernel) (by decide) (fun c4 => ?_) (fun c4 => ?_)
  · have h := ok_t h c4
    exact g_vret hx hr rfl () rfl (by decide +kernel) (ok_some h)
  · have h := ok_f h c4
    refine g_run hx [(.aload_n 0, 0, 0), (.getfield 9, 0, 0), (.aload_n 0, 0, 0), (.getfield 21, 0, 0), (.arraylength, 0, 0)] (pc' := 16) (lo' := [some (.ref 26), some (.int v1)]) (st' := [.int (nI 3), .int (gI σ 26 1)]) (σ' := σ) (by decide +kernel) rfl rfl ?_
    refine g_ic_ge hx (off := 23) (tgt := 39) (by decide +kernel) (by decide) (fun c16 => ?_) (fun c16 => ?_)
    · have h := ok_t h c16
      exact g_vret hx hr rfl () rfl (by decide +kernel) (ok_some h)
    · have h := ok_f h c16
      refine g_run hx [(.aload_n 0, 0, 0), (.getfield 21, 0, 0), (.aload_n 0, 0, 0), (.getfield 9, 0, 0), (.iload_n 1, 0, 0)] (pc' := 28) (lo' := [some (.ref 26), some (.int v1)]) (st' := [.int v1, .int (gI σ 26 1), .ref 27]) (σ' := σ) (by decide +kernel) rfl rfl ?_
      obtain ⟨c28, h⟩ := ok_g h
      refine g_iast hx (by decide +kernel) (i := 27) (n := 3) rfl c28 ?_
      refine g_run hx [(.aload_n 0, 0, 0), (.dup, 0, 0), (.getfield 9, 0, 0), (.iconst 1, 1, 0), (.iadd, 0, 0), (.putfield 9, 0, 0)] (pc' := 39) (lo' := [some (.ref 26), some (.int v1)]) (st' := []) (σ' := sI (sA σ 27 (gI σ 26 1) v1) 26 1 ((gI (sA σ 27 (gI σ 26 1) v1) 26 1) + 1)) (by decide +kernel) rfl rfl ?_
      exact g_vret hx hr rfl () rfl (by decide +kernel) (ok_some h)
def f_reader_readBoots (N : Nat) (σ : Sg) : Option (Bool × Sg) :=
  (f_reader_expectNewName N (gI σ 26 1) σ).bind fun q1 =>
  if q1.1 = true then
    (f_reader_expectWhole N 2 9 q1.2).bind fun q2 =>
    if q2.1 = true then
      (f_numbers_add N 26 3 27 (gI q2.2 1 6) q2.2).bind fun q3 =>
      some (true, q3.2)
    else
      some (false, q2.2)
  else
    some (false, q1.2)
set_option maxRecDepth 100000 in
theorem s_reader_readBoots {y : EX} {N : Nat} {σ : Sg} {P : Bool × Sg → Prop} (h : ok (f_reader_readBoots N σ) P) : Ev y M_reader_readBoots 7 [.ref 1] σ rvB P := by
  refine Ev.of mk_reader_readBoots (Nat.le_of_ble_eq_true rfl) (fun x hx hc hr => ?_)
  have hx : Cx 5 prog_7_method_10_code x := hx
  have hc : Cc y 1 7 x := hc
  show G x 0 [some (.ref 1)] [] σ
  unfold f_reader_readBoots at h
  refine g_run hx [(.aload_n 0, 0, 0), (.aload_n 0, 0, 0), (.getfield 37, 0, 0), (.getfield 95, 0, 0), (.getfield 88, 0, 0)] (pc' := 11) (lo' := [some (.ref 1)]) (st' := [.int (gI σ 26 1), .ref 1]) (σ' := σ) (by decide +kernel) rfl rfl ?_
  refine g_callV (rest := []) [.int (gI σ 26 1)] hx hc mk_reader_expectNewName ln_5_178 rfl (by decide +kernel) (by decide) (Nat.le_of_ble_eq_true rfl) (s_reader_expectNewName (ok_b h)) (fun r1 s1 h => ?_)
  refine g_ifb_eq hx (off := 13) (tgt := 27) (by decide +kernel) (by decide) (fun c14 => ?_) (fun c14 => ?_)
  · have h := ok_f h c14
    refine g_run hx [(.iconst 0, 0, 0)] (pc' := 28) (lo' := [some (.ref 1)]) (st' := [.int 0]) (σ' := s1) (by decide +kernel) rfl rfl ?_
    exact g_zret (b := false) hx hr rfl false rfl (by decide +kernel) (ok_some h)
  · have h := ok_t h c14
    refine g_run hx [(.aload_n 0, 0, 0), (.iconst 2, 2, 0), (.bipush 9, 9, 0)] (pc' := 21) (lo' := [some (.ref 1)]) (st' := [.int 9, .int 2, .ref 1]) (σ' := s1) (by decide +kernel) rfl rfl ?_
    refine g_callV (rest := []) [.int 2, .int 9] hx hc mk_reader_expectWhole ln_5_135 rfl (by decide +kernel) (by decide) (Nat.le_of_ble_eq_true rfl) (s_reader_expectWhole (ok_b h)) (fun r2 s2 h => ?_)
    refine g_ifb_ne hx (off := 5) (tgt := 29) (by decide +kernel) (by decide) (fun c24 => ?_) (fun c24 => ?_)
    · have h := ok_t h c24
      refine g_run hx [(.aload_n 0, 0, 0), (.getfield 37, 0, 0), (.getfield 95, 0, 0), (.aload_n 0, 0, 0), (.getfield 31, 0, 0)] (pc' := 40) (lo' := [some (.ref 1)]) (st' := [.int (gI s2 1 6), .ref 26]) (σ' := s2) (by decide +kernel) rfl rfl ?_
      refine g_callV (rest := []) [.int (gI s2 1 6)] hx hc mk_numbers_add ln_5_181 rfl (by decide +kernel) (by decide) (Nat.le_of_ble_eq_true rfl) (s_numbers_add_26 (ok_b h)) (fun r3 s3 h => ?_)
      refine g_run hx [(.iconst 1, 1, 0)] (pc' := 44) (lo' := [some (.ref 1)]) (st' := [.int 1]) (σ' := s3) (by decide +kernel) rfl rfl ?_
      exact g_zret (b := true) hx hr rfl true rfl (by decide +kernel) (ok_some h)
    · have h := ok_f h c24
      refine g_run hx [(.iconst 0, 0, 0)] (pc' := 28) (lo' := [some (.ref 1)]) (st' := [.int 0]) (σ' := s2) (by decide +kernel) rfl rfl ?_
      exact g_zret (b := false) hx hr rfl false rfl (by decide +kernel) (ok_some h)
set_option maxRecDepth 100000 in
theorem s_numbers_at_28 {y : EX} {N : Nat} {v1 : Int32} {σ : Sg} {P : Int32 × Sg → Prop} (h : ok (f_numbers_at N 28 6 29 v1 σ) P) : Ev y M_numbers_at 0 [.ref 28, .int v1] σ rvI P := by
  refine Ev.of mk_numbers_at (Nat.le_of_ble_eq_true rfl) (fun x hx hc hr => ?_)
  have hx : Cx 3 prog_5_method_3_code x := hx
  have hc : Cc y 2 0 x := hc
  show G x 0 [some (.ref 28), some (.int v1)] [] σ
  unfold f_numbers_at at h
  refine g_run hx [(.iload_n 1, 0, 0)] (pc' := 1) (lo' := [some (.ref 28), some (.int v1)]) (st' := [.int v1]) (σ' := σ) (by decide +kernel) rfl rfl ?_
  refine g_if_lt hx (off := 29) (tgt := 30) (by decide +kernel) (by decide) (fun c1 => ?_) (fun c1 => ?_)
  · have h := ok_t h c1
    refine g_run hx [(.iconst (-1), (-1), 0)] (pc' := 31) (lo' := [some (.ref 28), some (.int v1)]) (st' := [.int (-1)]) (σ' := σ) (by decide +kernel) rfl rfl ?_
    exact g_iret hx hr rfl _ rfl (by decide +kernel) (ok_some h)
  · have h := ok_f h c1
    refine g_run hx [(.iload_n 1, 0, 0), (.aload_n 0, 0, 0), (.getfield 9, 0, 0)] (pc' := 9) (lo' := [some (.ref 28), some (.int v1)]) (st' := [.int (gI σ 28 1), .int v1]) (σ' := σ) (by decide +kernel) rfl rfl ?_
    refine g_ic_ge hx (off := 21) (tgt := 30) (by decide +kernel) (by decide) (fun c9 => ?_) (fun c9 => ?_)
    · have h := ok_t h c9
      refine g_run hx [(.iconst (-1), (-1), 0)] (pc' := 31) (lo' := [some (.ref 28), some (.int v1)]) (st' := [.int (-1)]) (σ' := σ) (by decide +kernel) rfl rfl ?_
      exact g_iret hx hr rfl _ rfl (by decide +kernel) (ok_some h)
    · have h := ok_f h c9
      refine g_run hx [(.iload_n 1, 0, 0), (.aload_n 0, 0, 0), (.getfield 21, 0, 0), (.arraylength, 0, 0)] (pc' := 18) (lo' := [some (.ref 28), some (.int v1)]) (st' := [.int (nI 6), .int v1]) (σ' := σ) (by decide +kernel) rfl rfl ?_
      refine g_ic_ge hx (off := 12) (tgt := 30) (by decide +kernel) (by decide) (fun c18 => ?_) (fun c18 => ?_)
      · have h := ok_t h c18
        refine g_run hx [(.iconst (-1), (-1), 0)] (pc' := 31) (lo' := [some (.ref 28), some (.int v1)]) (st' := [.int (-1)]) (σ' := σ) (by decide +kernel) rfl rfl ?_
        exact g_iret hx hr rfl _ rfl (by decide +kernel) (ok_some h)
      · have h := ok_f h c18
        refine g_run hx [(.aload_n 0, 0, 0), (.getfield 21, 0, 0), (.iload_n 1, 0, 0)] (pc' := 26) (lo' := [some (.ref 28), some (.int v1)]) (st' := [.int v1, .ref 29]) (σ' := σ) (by decide +kernel) rfl rfl ?_
        obtain ⟨c26, h⟩ := ok_g h
        refine g_iald hx (by decide +kernel) (i := 29) (n := 6) rfl c26 ?_
        refine g_goto hx (off := 4) (tgt := 31) (by decide +kernel) (by decide) ?_
        exact g_iret hx hr rfl _ rfl (by decide +kernel) (ok_some h)
set_option maxRecDepth 100000 in
theorem s_numbers_indexOf_28_L2 {y : EX} {N : Nat} {x : CX} {P : Int32 × Sg → Prop} (hx : Cx 3 prog_5_method_4_code x) (hc : Cc y 3 1 x) (hr : Cr M_numbers_indexOf rvI P x) : ∀ (n : Nat) (v1 : Int32) (v2 : Int32) (σ : Sg), ok (f_numbers_indexOf_L2 N 28 6 29 n v1 v2 σ) P → G x 2 [some (.ref 28), some (.int v1), some (.int v2)] [] σ := by
  intro n
  induction n with
  | zero => intro v1 v2 σ h; exact ok_none h
  | succ n ih =>
    intro v1 v2 σ h
    rw [f_numbers_indexOf_L2] at h
    refine g_run hx [(.iload_n 2, 0, 0), (.aload_n 0, 0, 0), (.getfield 9, 0, 0)] (pc' := 7) (lo' := [some (.ref 28), some (.int v1), some (.int v2)]) (st' := [.int (gI σ 28 1), .int v2]) (σ' := σ) (by decide +kernel) rfl rfl ?_
    refine g_ic_ge hx (off := 20) (tgt := 27) (by decide +kernel) (by decide) (fun c7 => ?_) (fun c7 => ?_)
    · have h := ok_t h c7
      refine g_run hx [(.bipush (-2), (-2), 0)] (pc' := 29) (lo' := [some (.ref 28), some (.int v1), some (.int v2)]) (st' := [.int (-2)]) (σ' := σ) (by decide +kernel) rfl rfl ?_
      exact g_iret hx hr rfl _ rfl (by decide +kernel) (ok_some h)
    · have h := ok_f h c7
      refine g_run hx [(.aload_n 0, 0, 0), (.iload_n 2, 0, 0)] (pc' := 12) (lo' := [some (.ref 28), some (.int v1), some (.int v2)]) (st' := [.int v2, .ref 28]) (σ' := σ) (by decide +kernel) rfl rfl ?_
      refine g_callV (rest := []) [.int v2] hx hc mk_numbers_at ln_3_25 rfl (by decide +kernel) (by decide) (Nat.le_of_ble_eq_true rfl) (s_numbers_at_28 (ok_b h)) (fun r1 s1 h => ?_)
      refine g_run hx [(.iload_n 1, 0, 0)] (pc' := 16) (lo' := [some (.ref 28), some (.int v1), some (.int v2)]) (st' := [.int v1, .int r1]) (σ' := s1) (by decide +kernel) rfl rfl ?_
      refine g_ic_ne hx (off := 5) (tgt := 21) (by decide +kernel) (by decide) (fun c16 => ?_) (fun c16 => ?_)
      · have h := ok_f h c16
        refine g_run hx [(.iinc 2 1, 1, 0)] (pc' := 24) (lo' := [some (.ref 28), some (.int v1), some (.int (v2 + 1))]) (st' := []) (σ' := s1) (by decide +kernel) rfl rfl ?_
        refine g_goto hx (off := (-22)) (tgt := 2) (by decide +kernel) (by decide) ?_
        exact ih _ _ _ h
      · have h := ok_t h c16
        refine g_run hx [(.iload_n 2, 0, 0)] (pc' := 20) (lo' := [some (.ref 28), some (.int v1), some (.int v2)]) (st' := [.int v2]) (σ' := s1) (by decide +kernel) rfl rfl ?_
        exact g_iret hx hr rfl _ rfl (by decide +kernel) (ok_some h)
set_option maxRecDepth 100000 in
theorem s_numbers_indexOf_28 {y : EX} {N : Nat} {v1 : Int32} {σ : Sg} {P : Int32 × Sg → Prop} (h : ok (f_numbers_indexOf N 28 6 29 v1 σ) P) : Ev y M_numbers_indexOf 1 [.ref 28, .int v1] σ rvI P := by
  refine Ev.of mk_numbers_indexOf (Nat.le_of_ble_eq_true rfl) (fun x hx hc hr => ?_)
  have hx : Cx 3 prog_5_method_4_code x := hx
  have hc : Cc y 3 1 x := hc
  show G x 0 [some (.ref 28), some (.int v1), none] [] σ
  unfold f_numbers_indexOf at h
  refine g_run hx [(.iconst 0, 0, 0), (.istore_n 2, 0, 0)] (pc' := 2) (lo' := [some (.ref 28), some (.int v1), some (.int 0)]) (st' := []) (σ' := σ) (by decide +kernel) rfl rfl ?_
  refine s_numbers_indexOf_28_L2 hx hc hr N _ _ _ h
set_option maxRecDepth 100000 in
theorem s_country_placeAt_25 {y : EX} {N : Nat} {v1 : Int32} {σ : Sg} {P : Int32 × Sg → Prop} (h : ok (f_country_placeAt N 28 6 29 v1 σ) P) : Ev y M_country_placeAt 2 [.ref 25, .int v1] σ rvI P := by
  refine Ev.of mk_country_placeAt (Nat.le_of_ble_eq_true rfl) (fun x hx hc hr => ?_)
  have hx : Cx 1 prog_3_method_9_code x := hx
  have hc : Cc y 2 2 x := hc
  show G x 0 [some (.ref 25), some (.int v1)] [] σ
  unfold f_country_placeAt at h
  refine g_run hx [(.aload_n 0, 0, 0), (.getfield 40, 0, 0), (.iload_n 1, 0, 0)] (pc' := 5) (lo' := [some (.ref 25), some (.int v1)]) (st' := [.int v1, .ref 28]) (σ' := σ) (by decide +kernel) rfl rfl ?_
  refine g_callV (rest := []) [.int v1] hx hc mk_numbers_indexOf ln_1_77 rfl (by decide +kernel) (by decide) (Nat.le_of_ble_eq_true rfl) (s_numbers_indexOf_28 (ok_b h)) (fun r1 s1 h => ?_)
  exact g_iret hx hr rfl _ rfl (by decide +kernel) (ok_some h)
set_option maxRecDepth 100000 in
theorem s_numbers_add_28 {y : EX} {N : Nat} {v1 : Int32} {σ : Sg} {P : Unit × Sg → Prop} (h : ok (f_numbers_add N 28 6 29 v1 σ) P) : Ev y M_numbers_add 0 [.ref 28, .int v1] σ rvN P := by
  refine Ev.of mk_numbers_add (Nat.le_of_ble_eq_true rfl) (fun x hx hc hr => ?_)
  have hx : Cx 3 prog_5_method_2_code x := hx
  have hc : Cc y 2 0 x := hc
  show G x 0 [some (.ref 28), some (.int v1)] [] σ
  unfold f_numbers_add at h
  refine g_run hx [(.aload_n 0, 0, 0), (.getfield 9, 0, 0)] (pc' := 4) (lo' := [some (.ref 28), some (.int v1)]) (st' := [.int (gI σ 28 1)]) (σ' := σ) (by decide +kernel) rfl rfl ?_
  refine g_if_lt hx (off := 35) (tgt := 39) (by decide +kernel) (by decide) (fun c4 => ?_) (fun c4 => ?_)
  · have h := ok_t h c4
    exact g_vret hx hr rfl () rfl (by decide +kernel) (ok_some h)
  · have h := ok_f h c4
    refine g_run hx [(.aload_n 0, 0, 0), (.getfield 9, 0, 0), (.aload_n 0, 0, 0), (.getfield 21, 0, 0), (.arraylength, 0, 0)] (pc' := 16) (lo' := [some (.ref 28), some (.int v1)]) (st' := [.int (nI 6), .int (gI σ 28 1)]) (σ' := σ) (by decide +kernel) rfl rfl ?_
    refine g_ic_ge hx (off := 23) (tgt := 39) (by decide +kernel) (by decide) (fun c16 => ?_) (fun c16 => ?_)
    · have h := ok_t h c16
      exact g_vret hx hr rfl () rfl (by decide +kernel) (ok_some h)
    · have h := ok_f h c16
      refine g_run hx [(.aload_n 0, 0, 0), (.getfield 21, 0, 0), (.aload_n 0, 0, 0), (.getfield 9, 0, 0), (.iload_n 1, 0, 0)] (pc' := 28) (lo' := [some (.ref 28), some (.int v1)]) (st' := [.int v1, .int (gI σ 28 1), .ref 29]) (σ' := σ) (by decide +kernel) rfl rfl ?_
      obtain ⟨c28, h⟩ := ok_g h
      refine g_iast hx (by decide +kernel) (i := 29) (n := 6) rfl c28 ?_
      refine g_run hx [(.aload_n 0, 0, 0), (.dup, 0, 0), (.getfield 9, 0, 0), (.iconst 1, 1, 0), (.iadd, 0, 0), (.putfield 9, 0, 0)] (pc' := 39) (lo' := [some (.ref 28), some (.int v1)]) (st' := []) (σ' := sI (sA σ 29 (gI σ 28 1) v1) 28 1 ((gI (sA σ 29 (gI σ 28 1) v1) 28 1) + 1)) (by decide +kernel) rfl rfl ?_
      exact g_vret hx hr rfl () rfl (by decide +kernel) (ok_some h)
set_option maxRecDepth 100000 in
theorem s_numbers_add_30 {y : EX} {N : Nat} {v1 : Int32} {σ : Sg} {P : Unit × Sg → Prop} (h : ok (f_numbers_add N 30 6 31 v1 σ) P) : Ev y M_numbers_add 0 [.ref 30, .int v1] σ rvN P := by
  refine Ev.of mk_numbers_add (Nat.le_of_ble_eq_true rfl) (fun x hx hc hr => ?_)
  have hx : Cx 3 prog_5_method_2_code x := hx
  have hc : Cc y 2 0 x := hc
  show G x 0 [some (.ref 30), some (.int v1)] [] σ
  unfold f_numbers_add at h
  refine g_run hx [(.aload_n 0, 0, 0), (.getfield 9, 0, 0)] (pc' := 4) (lo' := [some (.ref 30), some (.int v1)]) (st' := [.int (gI σ 30 1)]) (σ' := σ) (by decide +kernel) rfl rfl ?_
  refine g_if_lt hx (off := 35) (tgt := 39) (by decide +kernel) (by decide) (fun c4 => ?_) (fun c4 => ?_)
  · have h := ok_t h c4
    exact g_vret hx hr rfl () rfl (by decide +kernel) (ok_some h)
  · have h := ok_f h c4
    refine g_run hx [(.aload_n 0, 0, 0), (.getfield 9, 0, 0), (.aload_n 0, 0, 0), (.getfield 21, 0, 0), (.arraylength, 0, 0)] (pc' := 16) (lo' := [some (.ref 30), some (.int v1)]) (st' := [.int (nI 6), .int (gI σ 30 1)]) (σ' := σ) (by decide +kernel) rfl rfl ?_
    refine g_ic_ge hx (off := 23) (tgt := 39) (by decide +kernel) (by decide) (fun c16 => ?_) (fun c16 => ?_)
    · have h := ok_t h c16
      exact g_vret hx hr rfl () rfl (by decide +kernel) (ok_some h)
    · have h := ok_f h c16
      refine g_run hx [(.aload_n 0, 0, 0), (.getfield 21, 0, 0), (.aload_n 0, 0, 0), (.getfield 9, 0, 0), (.iload_n 1, 0, 0)] (pc' := 28) (lo' := [some (.ref 30), some (.int v1)]) (st' := [.int v1, .int (gI σ 30 1), .ref 31]) (σ' := σ) (by decide +kernel) rfl rfl ?_
      obtain ⟨c28, h⟩ := ok_g h
      refine g_iast hx (by decide +kernel) (i := 31) (n := 6) rfl c28 ?_
      refine g_run hx [(.aload_n 0, 0, 0), (.dup, 0, 0), (.getfield 9, 0, 0), (.iconst 1, 1, 0), (.iadd, 0, 0), (.putfield 9, 0, 0)] (pc' := 39) (lo' := [some (.ref 30), some (.int v1)]) (st' := []) (σ' := sI (sA σ 31 (gI σ 30 1) v1) 30 1 ((gI (sA σ 31 (gI σ 30 1) v1) 30 1) + 1)) (by decide +kernel) rfl rfl ?_
      exact g_vret hx hr rfl () rfl (by decide +kernel) (ok_some h)
def f_reader_readPlace (N : Nat) (σ : Sg) : Option (Bool × Sg) :=
  (f_reader_expectNewName N (-1) σ).bind fun q1 =>
  if q1.1 = true then
    (f_reader_expect N 14 q1.2).bind fun q2 =>
    if q2.1 = true then
      (f_reader_expectCell N 0 q2.2).bind fun q3 =>
      if q3.1 = true then
        (f_country_placeAt N 28 6 29 (gI q3.2 1 6) q3.2).bind fun q4 =>
        if q4.1 = (-2) then
          (f_numbers_add N 28 6 29 (gI q4.2 1 6) q4.2).bind fun q5 =>
          (f_reader_expect N 15 q5.2).bind fun q6 =>
          if q6.1 = true then
            (f_reader_expectWhole N 1 99 q6.2).bind fun q7 =>
            if q7.1 = true then
              (f_numbers_add N 30 6 31 (gI q7.2 1 6) q7.2).bind fun q8 =>
              some (true, q8.2)
            else
              some (false, q7.2)
          else
            some (false, q6.2)
        else
          (f_reader_fail N 3 q4.2).bind fun q9 =>
          some (q9.1, q9.2)
      else
        some (false, q3.2)
    else
      some (false, q2.2)
  else
    some (false, q1.2)
set_option maxRecDepth 100000 in
theorem s_reader_readPlace {y : EX} {N : Nat} {σ : Sg} {P : Bool × Sg → Prop} (h : ok (f_reader_readPlace N σ) P) : Ev y M_reader_readPlace 7 [.ref 1] σ rvB P := by
  refine Ev.of mk_reader_readPlace (Nat.le_of_ble_eq_true rfl) (fun x hx hc hr => ?_)
  have hx : Cx 5 prog_7_method_11_code x := hx
  have hc : Cc y 1 7 x := hc
  show G x 0 [some (.ref 1)] [] σ
  unfold f_reader_readPlace at h
  refine g_run hx [(.aload_n 0, 0, 0), (.iconst (-1), (-1), 0)] (pc' := 2) (lo' := [some (.ref 1)]) (st' := [.int (-1), .ref 1]) (σ' := σ) (by decide +kernel) rfl rfl ?_
  refine g_callV (rest := []) [.int (-1)] hx hc mk_reader_expectNewName ln_5_178 rfl (by decide +kernel) (by decide) (Nat.le_of_ble_eq_true rfl) (s_reader_expectNewName (ok_b h)) (fun r1 s1 h => ?_)
  refine g_ifb_eq hx (off := 20) (tgt := 25) (by decide +kernel) (by decide) (fun c5 => ?_) (fun c5 => ?_)
  · have h := ok_f h c5
    refine g_run hx [(.iconst 0, 0, 0)] (pc' := 26) (lo' := [some (.ref 1)]) (st' := [.int 0]) (σ' := s1) (by decide +kernel) rfl rfl ?_
    exact g_zret (b := false) hx hr rfl false rfl (by decide +kernel) (ok_some h)
  · have h := ok_t h c5
    refine g_run hx [(.aload_n 0, 0, 0)] (pc' := 9) (lo' := [some (.ref 1)]) (st' := [.ref 1]) (σ' := s1) (by decide +kernel) rfl rfl ?_
    refine g_ldcS (idx := 184) (sid := 14) hx hc (by decide) (by decide +kernel) ?_
    refine g_callV (rest := []) [.ref (100 + 14)] hx hc mk_reader_expect ln_5_131 rfl (by decide +kernel) (by decide) (Nat.le_of_ble_eq_true rfl) (s_reader_expect (by decide) (ok_b h)) (fun r2 s2 h => ?_)
    refine g_ifb_eq hx (off := 11) (tgt := 25) (by decide +kernel) (by decide) (fun c14 => ?_) (fun c14 => ?_)
    · have h := ok_f h c14
      refine g_run hx [(.iconst 0, 0, 0)] (pc' := 26) (lo' := [some (.ref 1)]) (st' := [.int 0]) (σ' := s2) (by decide +kernel) rfl rfl ?_
      exact g_zret (b := false) hx hr rfl false rfl (by decide +kernel) (ok_some h)
    · have h := ok_t h c14
      refine g_run hx [(.aload_n 0, 0, 0), (.iconst 0, 0, 0)] (pc' := 19) (lo' := [some (.ref 1)]) (st' := [.int 0, .ref 1]) (σ' := s2) (by decide +kernel) rfl rfl ?_
      refine g_callV (rest := []) [.int 0] hx hc mk_reader_expectCell ln_5_143 rfl (by decide +kernel) (by decide) (Nat.le_of_ble_eq_true rfl) (s_reader_expectCell (ok_b h)) (fun r3 s3 h => ?_)
      refine g_ifb_ne hx (off := 5) (tgt := 27) (by decide +kernel) (by decide) (fun c22 => ?_) (fun c22 => ?_)
      · have h := ok_t h c22
        refine g_run hx [(.aload_n 0, 0, 0), (.getfield 37, 0, 0), (.aload_n 0, 0, 0), (.getfield 31, 0, 0)] (pc' := 35) (lo' := [some (.ref 1)]) (st' := [.int (gI s3 1 6), .ref 25]) (σ' := s3) (by decide +kernel) rfl rfl ?_
        refine g_callV (rest := []) [.int (gI s3 1 6)] hx hc mk_country_placeAt ln_5_186 rfl (by decide +kernel) (by decide) (Nat.le_of_ble_eq_true rfl) (s_country_placeAt_25 (ok_b h)) (fun r4 s4 h => ?_)
        refine g_run hx [(.bipush (-2), (-2), 0)] (pc' := 40) (lo' := [some (.ref 1)]) (st' := [.int (-2), .int r4]) (σ' := s4) (by decide +kernel) rfl rfl ?_
        refine g_ic_eq hx (off := 9) (tgt := 49) (by decide +kernel) (by decide) (fun c40 => ?_) (fun c40 => ?_)
        · have h := ok_t h c40
          refine g_run hx [(.aload_n 0, 0, 0), (.getfield 37, 0, 0), (.getfield 190, 0, 0), (.aload_n 0, 0, 0), (.getfield 31, 0, 0)] (pc' := 60) (lo' := [some (.ref 1)]) (st' := [.int (gI s4 1 6), .ref 28]) (σ' := s4) (by decide +kernel) rfl rfl ?_
          refine g_callV (rest := []) [.int (gI s4 1 6)] hx hc mk_numbers_add ln_5_181 rfl (by decide +kernel) (by decide) (Nat.le_of_ble_eq_true rfl) (s_numbers_add_28 (ok_b h)) (fun r5 s5 h => ?_)
          refine g_run hx [(.aload_n 0, 0, 0)] (pc' := 64) (lo' := [some (.ref 1)]) (st' := [.ref 1]) (σ' := s5) (by decide +kernel) rfl rfl ?_
          refine g_ldcS (idx := 193) (sid := 15) hx hc (by decide) (by decide +kernel) ?_
          refine g_callV (rest := []) [.ref (100 + 15)] hx hc mk_reader_expect ln_5_131 rfl (by decide +kernel) (by decide) (Nat.le_of_ble_eq_true rfl) (s_reader_expect (by decide) (ok_b h)) (fun r6 s6 h => ?_)
          refine g_ifb_eq hx (off := 13) (tgt := 82) (by decide +kernel) (by decide) (fun c69 => ?_) (fun c69 => ?_)
          · have h := ok_f h c69
            refine g_run hx [(.iconst 0, 0, 0)] (pc' := 83) (lo' := [some (.ref 1)]) (st' := [.int 0]) (σ' := s6) (by decide +kernel) rfl rfl ?_
            exact g_zret (b := false) hx hr rfl false rfl (by decide +kernel) (ok_some h)
          · have h := ok_t h c69
            refine g_run hx [(.aload_n 0, 0, 0), (.iconst 1, 1, 0), (.bipush 99, 99, 0)] (pc' := 76) (lo' := [some (.ref 1)]) (st' := [.int 99, .int 1, .ref 1]) (σ' := s6) (by decide +kernel) rfl rfl ?_
            refine g_callV (rest := []) [.int 1, .int 99] hx hc mk_reader_expectWhole ln_5_135 rfl (by decide +kernel) (by decide) (Nat.le_of_ble_eq_true rfl) (s_reader_expectWhole (ok_b h)) (fun r7 s7 h => ?_)
            refine g_ifb_ne hx (off := 5) (tgt := 84) (by decide +kernel) (by decide) (fun c79 => ?_) (fun c79 => ?_)
            · have h := ok_t h c79
              refine g_run hx [(.aload_n 0, 0, 0), (.getfield 37, 0, 0), (.getfield 195, 0, 0), (.aload_n 0, 0, 0), (.getfield 31, 0, 0)] (pc' := 95) (lo' := [some (.ref 1)]) (st' := [.int (gI s7 1 6), .ref 30]) (σ' := s7) (by decide +kernel) rfl rfl ?_
              refine g_callV (rest := []) [.int (gI s7 1 6)] hx hc mk_numbers_add ln_5_181 rfl (by decide +kernel) (by decide) (Nat.le_of_ble_eq_true rfl) (s_numbers_add_30 (ok_b h)) (fun r8 s8 h => ?_)
              refine g_run hx [(.iconst 1, 1, 0)] (pc' := 99) (lo' := [some (.ref 1)]) (st' := [.int 1]) (σ' := s8) (by decide +kernel) rfl rfl ?_
              exact g_zret (b := true) hx hr rfl true rfl (by decide +kernel) (ok_some h)
            · have h := ok_f h c79
              refine g_run hx [(.iconst 0, 0, 0)] (pc' := 83) (lo' := [some (.ref 1)]) (st' := [.int 0]) (σ' := s7) (by decide +kernel) rfl rfl ?_
              exact g_zret (b := false) hx hr rfl false rfl (by decide +kernel) (ok_some h)
        · have h := ok_f h c40
          refine g_run hx [(.aload_n 0, 0, 0), (.iconst 3, 3, 0)] (pc' := 45) (lo' := [some (.ref 1)]) (st' := [.int 3, .ref 1]) (σ' := s4) (by decide +kernel) rfl rfl ?_
          refine g_callV (rest := []) [.int 3] hx hc mk_reader_fail ln_5_91 rfl (by decide +kernel) (by decide) (Nat.le_of_ble_eq_true rfl) (s_reader_fail (ok_b h)) (fun r9 s9 h => ?_)
          exact g_zret hx hr rfl _ rfl (by decide +kernel) (ok_some h)
      · have h := ok_f h c22
        refine g_run hx [(.iconst 0, 0, 0)] (pc' := 26) (lo' := [some (.ref 1)]) (st' := [.int 0]) (σ' := s3) (by decide +kernel) rfl rfl ?_
        exact g_zret (b := false) hx hr rfl false rfl (by decide +kernel) (ok_some h)
