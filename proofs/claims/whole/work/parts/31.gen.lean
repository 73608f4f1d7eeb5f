def f_reader_nameHere_L2 (N : Nat) : Nat → Int32 → Sg → Option (Int32 × Sg)
  | 0, _, _ => none
  | n + 1, v1, σ =>
    if (gI σ 4 1) ≤ v1 then
      some ((-1), σ)
    else
      (f_numbers_at N 4 9 5 v1 σ).bind fun q1 =>
      (f_numbers_at N 6 9 7 v1 q1.2).bind fun q2 =>
      (f_reader_isLike N q1.1 q2.1 q2.2).bind fun q3 =>
      if q3.1 = true then
        some (v1, q3.2)
      else
        f_reader_nameHere_L2 N n (v1 + 1) q3.2
def f_reader_nameHere (N : Nat) (σ : Sg) : Option (Int32 × Sg) :=
  f_reader_nameHere_L2 N N 0 σ
set_option maxRecDepth 100000 in
theorem s_reader_nameHere_L2 {y : EX} {N : Nat} {x : CX} {P : Int32 × Sg → Prop} (hx : Cx 5 prog_7_method_20_code x) (hc : Cc y 2 2 x) (hr : Cr M_reader_nameHere rvI P x) : ∀ (n : Nat) (v1 : Int32) (σ : Sg), ok (f_reader_nameHere_L2 N n v1 σ) P → G x 2 [some (.ref 1), some (.int v1)] [] σ := by
  intro n
  induction n with
  | zero => intro v1 σ h; exact ok_none h
  | succ n ih =>
    intro v1 σ h
    rw [f_reader_nameHere_L2] at h
    refine g_run hx [(.iload_n 1, 0, 0), (.aload_n 0, 0, 0), (.getfield 50, 0, 0), (.getfield 88, 0, 0)] (pc' := 10) (lo' := [some (.ref 1), some (.int v1)]) (st' := [.int (gI σ 4 1), .int v1]) (σ' := σ) (by decide +kernel) rfl rfl ?_
    refine g_ic_ge hx (off := 34) (tgt := 44) (by decide +kernel) (by decide) (fun c10 => ?_) (fun c10 => ?_)
    · have h := ok_t h c10
      refine g_run hx [(.iconst (-1), (-1), 0)] (pc' := 45) (lo' := [some (.ref 1), some (.int v1)]) (st' := [.int (-1)]) (σ' := σ) (by decide +kernel) rfl rfl ?_
      exact g_iret hx hr rfl _ rfl (by decide +kernel) (ok_some h)
    · have h := ok_f h c10
      refine g_run hx [(.aload_n 0, 0, 0), (.aload_n 0, 0, 0), (.getfield 50, 0, 0), (.iload_n 1, 0, 0)] (pc' := 19) (lo' := [some (.ref 1), some (.int v1)]) (st' := [.int v1, .ref 4, .ref 1]) (σ' := σ) (by decide +kernel) rfl rfl ?_
      refine g_callV (rest := [.ref 1]) [.int v1] hx hc mk_numbers_at ln_5_200 rfl (by decide +kernel) (by decide) (Nat.le_of_ble_eq_true rfl) (s_numbers_at_4 (ok_b h)) (fun r1 s1 h => ?_)
      refine g_run hx [(.aload_n 0, 0, 0), (.getfield 54, 0, 0), (.iload_n 1, 0, 0)] (pc' := 27) (lo' := [some (.ref 1), some (.int v1)]) (st' := [.int v1, .ref 6, .int r1, .ref 1]) (σ' := s1) (by decide +kernel) rfl rfl ?_
      refine g_callV (rest := [.int r1, .ref 1]) [.int v1] hx hc mk_numbers_at ln_5_200 rfl (by decide +kernel) (by decide) (Nat.le_of_ble_eq_true rfl) (s_numbers_at_6 (ok_b h)) (fun r2 s2 h => ?_)
      refine g_callV (rest := []) [.int r1, .int r2] hx hc mk_reader_isLike ln_5_239 rfl (by decide +kernel) (by decide) (Nat.le_of_ble_eq_true rfl) (s_reader_isLike (ok_b h)) (fun r3 s3 h => ?_)
      refine g_ifb_eq hx (off := 5) (tgt := 38) (by decide +kernel) (by decide) (fun c33 => ?_) (fun c33 => ?_)
      · have h := ok_f h c33
        refine g_run hx [(.iinc 1 1, 1, 0)] (pc' := 41) (lo' := [some (.ref 1), some (.int (v1 + 1))]) (st' := []) (σ' := s3) (by decide +kernel) rfl rfl ?_
        refine g_goto hx (off := (-39)) (tgt := 2) (by decide +kernel) (by decide) ?_
        exact ih _ _ h
      · have h := ok_t h c33
        refine g_run hx [(.iload_n 1, 0, 0)] (pc' := 37) (lo' := [some (.ref 1), some (.int v1)]) (st' := [.int v1]) (σ' := s3) (by decide +kernel) rfl rfl ?_
        exact g_iret hx hr rfl _ rfl (by decide +kernel) (ok_some h)
set_option maxRecDepth 100000 in
theorem s_reader_nameHere {y : EX} {N : Nat} {σ : Sg} {P : Int32 × Sg → Prop} (h : ok (f_reader_nameHere N σ) P) : Ev y M_reader_nameHere 2 [.ref 1] σ rvI P := by
  refine Ev.of mk_reader_nameHere (Nat.le_of_ble_eq_true rfl) (fun x hx hc hr => ?_)
  have hx : Cx 5 prog_7_method_20_code x := hx
  have hc : Cc y 2 2 x := hc
  show G x 0 [some (.ref 1), none] [] σ
  unfold f_reader_nameHere at h
  refine g_run hx [(.iconst 0, 0, 0), (.istore_n 1, 0, 0)] (pc' := 2) (lo' := [some (.ref 1), some (.int 0)]) (st' := []) (σ' := σ) (by decide +kernel) rfl rfl ?_
  refine s_reader_nameHere_L2 hx hc hr N _ _ h
def f_numbers_add (N : Nat) (a0 : Nat) (a1 : Nat) (a2 : Nat) (v1 : Int32) (σ : Sg) : Option (Unit × Sg) :=
  if (gI σ a0 1) < 0 then
    some ((), σ)
  else
    if (nI a1) ≤ (gI σ a0 1) then
      some ((), σ)
    else
      if vin (gI σ a0 1) a1 then
      some ((), sI (sA σ a2 (gI σ a0 1) v1) a0 1 ((gI (sA σ a2 (gI σ a0 1) v1) a0 1) + 1))
      else none
set_option maxRecDepth 100000 in
theorem s_numbers_add_4 {y : EX} {N : Nat} {v1 : Int32} {σ : Sg} {P : Unit × Sg → Prop} (h : ok (f_numbers_add N 4 9 5 v1 σ) P) : Ev y M_numbers_add 0 [.ref 4, .int v1] σ rvN P := by
  refine Ev.of mk_numbers_add (Nat.le_of_ble_eq_true rfl) (fun x hx hc hr => ?_)
  have hx : Cx 3 prog_5_method_2_code x := hx
  have hc : Cc y 2 0 x := hc
  show G x 0 [some (.ref 4), some (.int v1)] [] σ
  unfold f_numbers_add at h
  refine g_run hx [(.aload_n 0, 0, 0), (.getfield 9, 0, 0)] (pc' := 4) (lo' := [some (.ref 4), some (.int v1)]) (st' := [.int (gI σ 4 1)]) (σ' := σ) (by decide +kernel) rfl rfl ?_
  refine g_if_lt hx (off := 35) (tgt := 39) (by decide +kernel) (by decide) (fun c4 => ?_) (fun c4 => ?_)
  · have h := ok_t h c4
    exact g_vret hx hr rfl () rfl (by decide +kernel) (ok_some h)
  · have h := ok_f h c4
    refine g_run hx [(.aload_n 0, 0, 0), (.getfield 9, 0, 0), (.aload_n 0, 0, 0), (.getfield 21, 0, 0), (.arraylength, 0, 0)] (pc' := 16) (lo' := [some (.ref 4), some (.int v1)]) (st' := [.int (nI 9), .int (gI σ 4 1)]) (σ' := σ) (by decide +kernel) rfl rfl ?_
    refine g_ic_ge hx (off := 23) (tgt := 39) (by decide +kernel) (by decide) (fun c16 => ?_) (fun c16 => ?_)
    · have h := ok_t h c16
      exact g_vret hx hr rfl () rfl (by decide +kernel) (ok_some h)
    · have h := ok_f h c16
      refine g_run hx [(.aload_n 0, 0, 0), (.getfield 21, 0, 0), (.aload_n 0, 0, 0), (.getfield 9, 0, 0), (.iload_n 1, 0, 0)] (pc' := 28) (lo' := [some (.ref 4), some (.int v1)]) (st' := [.int v1, .int (gI σ 4 1), .ref 5]) (σ' := σ) (by decide +kernel) rfl rfl ?_
      obtain ⟨c28, h⟩ := ok_g h
      refine g_iast hx (by decide +kernel) (i := 5) (n := 9) rfl c28 ?_
      refine g_run hx [(.aload_n 0, 0, 0), (.dup, 0, 0), (.getfield 9, 0, 0), (.iconst 1, 1, 0), (.iadd, 0, 0), (.putfield 9, 0, 0)] (pc' := 39) (lo' := [some (.ref 4), some (.int v1)]) (st' := []) (σ' := sI (sA σ 5 (gI σ 4 1) v1) 4 1 ((gI (sA σ 5 (gI σ 4 1) v1) 4 1) + 1)) (by decide +kernel) rfl rfl ?_
      exact g_vret hx hr rfl () rfl (by decide +kernel) (ok_some h)
set_option maxRecDepth 100000 in
theorem s_numbers_add_6 {y : EX} {N : Nat} {v1 : Int32} {σ : Sg} {P : Unit × Sg → Prop} (h : ok (f_numbers_add N 6 9 7 v1 σ) P) : Ev y M_numbers_add 0 [.ref 6, .int v1] σ rvN P := by
  refine Ev.of mk_numbers_add (Nat.le_of_ble_eq_true rfl) (fun x hx hc hr => ?_)
  have hx : Cx 3 prog_5_method_2_code x := hx
  have hc : Cc y 2 0 x := hc
  show G x 0 [some (.ref 6), some (.int v1)] [] σ
  unfold f_numbers_add at h
  refine g_run hx [(.aload_n 0, 0, 0), (.getfield 9, 0, 0)] (pc' := 4) (lo' := [some (.ref 6), some (.int v1)]) (st' := [.int (gI σ 6 1)]) (σ' := σ) (by decide +kernel) rfl rfl ?_
  refine g_if_lt hx (off := 35) (tgt := 39) (by decide +kernel) (by decide) (fun c4 => ?_) (fun c4 => ?_)
  · have h := ok_t h c4
    exact g_vret hx hr rfl () rfl (by decide +kernel) (ok_some h)
  · have h := ok_f h c4
    refine g_run hx [(.aload_n 0, 0, 0), (.getfield 9, 0, 0), (.aload_n 0, 0, 0), (.getfield 21, 0, 0), (.arraylength, 0, 0)] (pc' := 16) (lo' := [some (.ref 6), some (.int v1)]) (st' := [.int (nI 9), .int (gI σ 6 1)]) (σ' := σ) (by decide +kernel) rfl rfl ?_
    refine g_ic_ge hx (off := 23) (tgt := 39) (by decide +kernel) (by decide) (fun c16 => ?_) (fun c16 => ?_)
    · have h := ok_t h c16
      exact g_vret hx hr rfl () rfl (by decide +kernel) (ok_some h)
    · have h := ok_f h c16
      refine g_run hx [(.aload_n 0, 0, 0), (.getfield 21, 0, 0), (.aload_n 0, 0, 0), (.getfield 9, 0, 0), (.iload_n 1, 0, 0)] (pc' := 28) (lo' := [some (.ref 6), some (.int v1)]) (st' := [.int v1, .int (gI σ 6 1), .ref 7]) (σ' := σ) (by decide +kernel) rfl rfl ?_
      obtain ⟨c28, h⟩ := ok_g h
      refine g_iast hx (by decide +kernel) (i := 7) (n := 9) rfl c28 ?_
      refine g_run hx [(.aload_n 0, 0, 0), (.dup, 0, 0), (.getfield 9, 0, 0), (.iconst 1, 1, 0), (.iadd, 0, 0), (.putfield 9, 0, 0)] (pc' := 39) (lo' := [some (.ref 6), some (.int v1)]) (st' := []) (σ' := sI (sA σ 7 (gI σ 6 1) v1) 6 1 ((gI (sA σ 7 (gI σ 6 1) v1) 6 1) + 1)) (by decide +kernel) rfl rfl ?_
      exact g_vret hx hr rfl () rfl (by decide +kernel) (ok_some h)
set_option maxRecDepth 100000 in
theorem s_numbers_add_8 {y : EX} {N : Nat} {v1 : Int32} {σ : Sg} {P : Unit × Sg → Prop} (h : ok (f_numbers_add N 8 9 9 v1 σ) P) : Ev y M_numbers_add 0 [.ref 8, .int v1] σ rvN P := by
  refine Ev.of mk_numbers_add (Nat.le_of_ble_eq_true rfl) (fun x hx hc hr => ?_)
  have hx : Cx 3 prog_5_method_2_code x := hx
  have hc : Cc y 2 0 x := hc
  show G x 0 [some (.ref 8), some (.int v1)] [] σ
  unfold f_numbers_add at h
  refine g_run hx [(.aload_n 0, 0, 0), (.getfield 9, 0, 0)] (pc' := 4) (lo' := [some (.ref 8), some (.int v1)]) (st' := [.int (gI σ 8 1)]) (σ' := σ) (by decide +kernel) rfl rfl ?_
  refine g_if_lt hx (off := 35) (tgt := 39) (by decide +kernel) (by decide) (fun c4 => ?_) (fun c4 => ?_)
  · have h := ok_t h c4
    exact g_vret hx hr rfl () rfl (by decide +kernel) (ok_some h)
  · have h := ok_f h c4
    refine g_run hx [(.aload_n 0, 0, 0), (.getfield 9, 0, 0), (.aload_n 0, 0, 0), (.getfield 21, 0, 0), (.arraylength, 0, 0)] (pc' := 16) (lo' := [some (.ref 8), some (.int v1)]) (st' := [.int (nI 9), .int (gI σ 8 1)]) (σ' := σ) (by decide +kernel) rfl rfl ?_
    refine g_ic_ge hx (off := 23) (tgt := 39) (by decide +kernel) (by decide) (fun c16 => ?_) (fun c16 => ?_)
    · have h := ok_t h c16
      exact g_vret hx hr rfl () rfl (by decide +kernel) (ok_some h)
    · have h := ok_f h c16
      refine g_run hx [(.aload_n 0, 0, 0), (.getfield 21, 0, 0), (.aload_n 0, 0, 0), (.getfield 9, 0, 0), (.iload_n 1, 0, 0)] (pc' := 28) (lo' := [some (.ref 8), some (.int v1)]) (st' := [.int v1, .int (gI σ 8 1), .ref 9]) (σ' := σ) (by decide +kernel) rfl rfl ?_
      obtain ⟨c28, h⟩ := ok_g h
      refine g_iast hx (by decide +kernel) (i := 9) (n := 9) rfl c28 ?_
      refine g_run hx [(.aload_n 0, 0, 0), (.dup, 0, 0), (.getfield 9, 0, 0), (.iconst 1, 1, 0), (.iadd, 0, 0), (.putfield 9, 0, 0)] (pc' := 39) (lo' := [some (.ref 8), some (.int v1)]) (st' := []) (σ' := sI (sA σ 9 (gI σ 8 1) v1) 8 1 ((gI (sA σ 9 (gI σ 8 1) v1) 8 1) + 1)) (by decide +kernel) rfl rfl ?_
      exact g_vret hx hr rfl () rfl (by decide +kernel) (ok_some h)
def f_reader_expectNewName (N : Nat) (v1 : Int32) (σ : Sg) : Option (Bool × Sg) :=
  (f_reader_nextToken N σ).bind fun q1 =>
  (f_reader_sortHere N q1.2).bind fun q2 =>
  if q2.1 = (-1) then
    (f_reader_nameHere N q2.2).bind fun q3 =>
    if q3.1 = (-1) then
      (f_numbers_add N 4 9 5 (gI q3.2 1 4) q3.2).bind fun q4 =>
      (f_numbers_add N 6 9 7 (gI q4.2 1 5) q4.2).bind fun q5 =>
      (f_numbers_add N 8 9 9 v1 q5.2).bind fun q6 =>
      some (true, q6.2)
    else
      (f_reader_fail N 3 q3.2).bind fun q7 =>
      some (q7.1, q7.2)
  else
    (f_reader_fail N 1 q2.2).bind fun q8 =>
    some (q8.1, q8.2)
set_option maxRecDepth 100000 in
theorem s_reader_expectNewName {y : EX} {N : Nat} {v1 : Int32} {σ : Sg} {P : Bool × Sg → Prop} (h : ok (f_reader_expectNewName N v1 σ) P) : Ev y M_reader_expectNewName 6 [.ref 1, .int v1] σ rvB P := by
  refine Ev.of mk_reader_expectNewName (Nat.le_of_ble_eq_true rfl) (fun x hx hc hr => ?_)
  have hx : Cx 5 prog_7_method_19_code x := hx
  have hc : Cc y 2 6 x := hc
  show G x 0 [some (.ref 1), some (.int v1)] [] σ
  unfold f_reader_expectNewName at h
  refine g_run hx [(.aload_n 0, 0, 0)] (pc' := 1) (lo' := [some (.ref 1), some (.int v1)]) (st' := [.ref 1]) (σ' := σ) (by decide +kernel) rfl rfl ?_
  refine g_callV (rest := []) [] hx hc mk_reader_nextToken ln_5_69 rfl (by decide +kernel) (by decide) (Nat.le_of_ble_eq_true rfl) (s_reader_nextToken (ok_b h)) (fun r1 s1 h => ?_)
  refine g_run hx [(.aload_n 0, 0, 0)] (pc' := 5) (lo' := [some (.ref 1), some (.int v1)]) (st' := [.ref 1]) (σ' := s1) (by decide +kernel) rfl rfl ?_
  refine g_callV (rest := []) [] hx hc mk_reader_sortHere ln_5_98 rfl (by decide +kernel) (by decide) (Nat.le_of_ble_eq_true rfl) (s_reader_sortHere (ok_b h)) (fun r2 s2 h => ?_)
  refine g_run hx [(.iconst (-1), (-1), 0)] (pc' := 9) (lo' := [some (.ref 1), some (.int v1)]) (st' := [.int (-1), .int r2]) (σ' := s2) (by decide +kernel) rfl rfl ?_
  refine g_ic_eq hx (off := 9) (tgt := 18) (by decide +kernel) (by decide) (fun c9 => ?_) (fun c9 => ?_)
  · have h := ok_t h c9
    refine g_run hx [(.aload_n 0, 0, 0)] (pc' := 19) (lo' := [some (.ref 1), some (.int v1)]) (st' := [.ref 1]) (σ' := s2) (by decide +kernel) rfl rfl ?_
    refine g_callV (rest := []) [] hx hc mk_reader_nameHere ln_5_197 rfl (by decide +kernel) (by decide) (Nat.le_of_ble_eq_true rfl) (s_reader_nameHere (ok_b h)) (fun r3 s3 h => ?_)
    refine g_run hx [(.iconst (-1), (-1), 0)] (pc' := 23) (lo' := [some (.ref 1), some (.int v1)]) (st' := [.int (-1), .int r3]) (σ' := s3) (by decide +kernel) rfl rfl ?_
    refine g_ic_eq hx (off := 9) (tgt := 32) (by decide +kernel) (by decide) (fun c23 => ?_) (fun c23 => ?_)
    · have h := ok_t h c23
      refine g_run hx [(.aload_n 0, 0, 0), (.getfield 50, 0, 0), (.aload_n 0, 0, 0), (.getfield 25, 0, 0)] (pc' := 40) (lo' := [some (.ref 1), some (.int v1)]) (st' := [.int (gI s3 1 4), .ref 4]) (σ' := s3) (by decide +kernel) rfl rfl ?_
      refine g_callV (rest := []) [.int (gI s3 1 4)] hx hc mk_numbers_add ln_5_181 rfl (by decide +kernel) (by decide) (Nat.le_of_ble_eq_true rfl) (s_numbers_add_4 (ok_b h)) (fun r4 s4 h => ?_)
      refine g_run hx [(.aload_n 0, 0, 0), (.getfield 54, 0, 0), (.aload_n 0, 0, 0), (.getfield 28, 0, 0)] (pc' := 51) (lo' := [some (.ref 1), some (.int v1)]) (st' := [.int (gI s4 1 5), .ref 6]) (σ' := s4) (by decide +kernel) rfl rfl ?_
      refine g_callV (rest := []) [.int (gI s4 1 5)] hx hc mk_numbers_add ln_5_181 rfl (by decide +kernel) (by decide) (Nat.le_of_ble_eq_true rfl) (s_numbers_add_6 (ok_b h)) (fun r5 s5 h => ?_)
      refine g_run hx [(.aload_n 0, 0, 0), (.getfield 57, 0, 0), (.iload_n 1, 0, 0)] (pc' := 59) (lo' := [some (.ref 1), some (.int v1)]) (st' := [.int v1, .ref 8]) (σ' := s5) (by decide +kernel) rfl rfl ?_
      refine g_callV (rest := []) [.int v1] hx hc mk_numbers_add ln_5_181 rfl (by decide +kernel) (by decide) (Nat.le_of_ble_eq_true rfl) (s_numbers_add_8 (ok_b h)) (fun r6 s6 h => ?_)
      refine g_run hx [(.iconst 1, 1, 0)] (pc' := 63) (lo' := [some (.ref 1), some (.int v1)]) (st' := [.int 1]) (σ' := s6) (by decide +kernel) rfl rfl ?_
      exact g_zret (b := true) hx hr rfl true rfl (by decide +kernel) (ok_some h)
    · have h := ok_f h c23
      refine g_run hx [(.aload_n 0, 0, 0), (.iconst 3, 3, 0)] (pc' := 28) (lo' := [some (.ref 1), some (.int v1)]) (st' := [.int 3, .ref 1]) (σ' := s3) (by decide +kernel) rfl rfl ?_
      refine g_callV (rest := []) [.int 3] hx hc mk_reader_fail ln_5_91 rfl (by decide +kernel) (by decide) (Nat.le_of_ble_eq_true rfl) (s_reader_fail (ok_b h)) (fun r7 s7 h => ?_)
      exact g_zret hx hr rfl _ rfl (by decide +kernel) (ok_some h)
  · have h := ok_f h c9
    refine g_run hx [(.aload_n 0, 0, 0), (.iconst 1, 1, 0)] (pc' := 14) (lo' := [some (.ref 1), some (.int v1)]) (st' := [.int 1, .ref 1]) (σ' := s2) (by decide +kernel) rfl rfl ?_
    refine g_callV (rest := []) [.int 1] hx hc mk_reader_fail ln_5_91 rfl (by decide +kernel) (by decide) (Nat.le_of_ble_eq_true rfl) (s_reader_fail (ok_b h)) (fun r8 s8 h => ?_)
    exact g_zret hx hr rfl _ rfl (by decide +kernel) (ok_some h)
set_option maxRecDepth 100000 in
theorem s_numbers_add_26 {y : EX} {N : Nat} {v1 : Int32} {σ : Sg} {P : Unit × Sg → Prop} (h : ok (f_numbers_add N 26 3 27 v1 σ) P) : Ev y M_numbers_add 0 [.ref 26, .int v1] σ rvN P := by
  refine Ev.of mk_numbers_add (Nat.le_of_ble_eq_true rfl) (fun x hx hc hr => ?_)
  have hx : Cx 3 prog_5_method_2_code x := hx
  have hc : Cc y 2 0 x := hc
  show G x 0 [some (.ref 26), some (.int v1)] [] σ
  unfold f_numbers_add at h
  refine g_run hx [(.aload_n 0, 0, 0), (.getfield 9, 0, 0)] (pc' := 4) (lo' := [some (.ref 26), some (.int v1)]) (st' := [.int (gI σ 26 1)]) (σ' := σ) (by decide +kernel) rfl rfl ?_
  refine g_if_lt hx (off := 35) (tgt := 39) (by decide +kernel) (by decide) (fun c4 => ?_) (fun c4 => ?_)
  · have h := ok_t h c4
    exact g_vret hx hr rfl () rfl (by decide +kernel) (ok_some h)
  · have h := ok_f h c4
    refine g_run hx [(.aload_n 0, 0, 0), (.getfield 9, 0, 0), (.aload_n 0, 0, 0), (.getfield 21, 0, 0), (.arraylength, 0, 0)] (pc' := 16) (lo' := [some (.ref 26), some (.int v1)]) (st' := [.int (nI 3), .int (gI σ 26 1)]) (σ' := σ) (by decide +kernel) rfl rfl ?_
    refine g_ic_ge hx (off := 23) (tgt := 39) (by decide +kernel) (by decide) (fun c16 => ?_) (fun c16 => ?_)
    · have h := ok_t h c16
      exact g_vret hx hr rfl () rfl (by decide +kernel) (ok_some h)
    · have h := ok_f h c16
      refine g_run hx [(.aload_n 0, 0, 0), (.getfield 21, 0, 0), (.aload_n 0, 0, 0), (.getfield 9, 0, 0), (.iload_n 1, 0, 0)] (pc' := 28) (lo' := [some (.ref 26), some (.int v1)]) (st' := [.int v1, .int (gI σ 26 1), .ref 27]) (σ' := σ) (by decide +kernel) rfl rfl ?_
      obtain ⟨c28, h⟩ := ok_g h
      refine g_iast hx (by decide +kernel) (i := 27) (n := 3) rfl c28 ?_
      refine g_run hx [(.aload_n 0, 0, 0), (.dup, 0, 0), (.getfield 9, 0, 0), (.iconst 1, 1, 0), (.iadd, 0, 0), (.putfield 9, 0, 0)] (pc' := 39) (lo' := [some (.ref 26), some (.int v1)]) (st' := []) (σ' := sI (sA σ 27 (gI σ 26 1) v1) 26 1 ((gI (sA σ 27 (gI σ 26 1) v1) 26 1) + 1)) (by decide +kernel) rfl rfl ?_
      exact g_vret hx hr rfl () rfl (by decide +kernel) (ok_some h)
def f_reader_readBoots (N : Nat) (σ : Sg) : Option (Bool × Sg) :=
  (f_reader_expectNewName N (gI σ 26 1) σ).bind fun q1 =>
  if q1.1 = true then
    (f_reader_expectWhole N 2 9 q1.2).bind fun q2 =>
    if q2.1 = true then
      (f_numbers_add N 26 3 27 (gI q2.2 1 6) q2.2).bind fun q3 =>
      some (true, q3.2)
    else
      some (false, q2.2)
  else
    some (false, q1.2)
set_option maxRecDepth 100000 in
theorem s_reader_readBoots {y : EX} {N : Nat} {σ : Sg} {P : Bool × Sg → Prop} (h : ok (f_reader_readBoots N σ) P) : Ev y M_reader_readBoots 7 [.ref 1] σ rvB P := by
  refine Ev.of mk_reader_readBoots (Nat.le_of_ble_eq_true rfl) (fun x hx hc hr => ?_)
  have hx : Cx 5 prog_7_method_10_code x := hx
  have hc : Cc y 1 7 x := hc
  show G x 0 [some (.ref 1)] [] σ
  unfold f_reader_readBoots at h
  refine g_run hx [(.aload_n 0, 0, 0), (.aload_n 0, 0, 0), (.getfield 37, 0, 0), (.getfield 95, 0, 0), (.getfield 88, 0, 0)] (pc' := 11) (lo' := [some (.ref 1)]) (st' := [.int (gI σ 26 1), .ref 1]) (σ' := σ) (by decide +kernel) rfl rfl ?_
  refine g_callV (rest := []) [.int (gI σ 26 1)] hx hc mk_reader_expectNewName ln_5_178 rfl (by decide +kernel) (by decide) (Nat.le_of_ble_eq_true rfl) (s_reader_expectNewName (ok_b h)) (fun r1 s1 h => ?_)
  refine g_ifb_eq hx (off := 13) (tgt := 27) (by decide +kernel) (by decide) (fun c14 => ?_) (fun c14 => ?_)
  · have h := ok_f h c14
    refine g_run hx [(.iconst 0, 0, 0)] (pc' := 28) (lo' := [some (.ref 1)]) (st' := [.int 0]) (σ' := s1) (by decide +kernel) rfl rfl ?_
    exact g_zret (b := false) hx hr rfl false rfl (by decide +kernel) (ok_some h)
  · have h := ok_t h c14
    refine g_run hx [(.aload_n 0, 0, 0), (.iconst 2, 2, 0), (.bipush 9, 9, 0)] (pc' := 21) (lo' := [some (.ref 1)]) (st' := [.int 9, .int 2, .ref 1]) (σ' := s1) (by decide +kernel) rfl rfl ?_
    refine g_callV (rest := []) [.int 2, .int 9] hx hc mk_reader_expectWhole ln_5_135 rfl (by decide +kernel) (by decide) (Nat.le_of_ble_eq_true rfl) (s_reader_expectWhole (ok_b h)) (fun r2 s2 h => ?_)
    refine g_ifb_ne hx (off := 5) (tgt := 29) (by decide +kernel) (by decide) (fun c24 => ?_) (fun c24 => ?_)
    · have h := ok_t h c24
      refine g_run hx [(.aload_n 0, 0, 0), (.getfield 37, 0, 0), (.getfield 95, 0, 0), (.aload_n 0, 0, 0), (.getfield 31, 0, 0)] (pc' := 40) (lo' := [some (.ref 1)]) (st' := [.int (gI s2 1 6), .ref 26]) (σ' := s2) (by decide +kernel) rfl rfl ?_
      refine g_callV (rest := []) [.int (gI s2 1 6)] hx hc mk_numbers_add ln_5_181 rfl (by decide +kernel) (by decide) (Nat.le_of_ble_eq_true rfl) (s_numbers_add_26 (ok_b h)) (fun r3 s3 h => ?_)
      refine g_run hx [(.iconst 1, 1, 0)] (pc' := 44) (lo' := [some (.ref 1)]) (st' := [.int 1]) (σ' := s3) (by decide +kernel) rfl rfl ?_
      exact g_zret (b := true) hx hr rfl true rfl (by decide +kernel) (ok_some h)
    · have h := ok_f h c24
      refine g_run hx [(.iconst 0, 0, 0)] (pc' := 28) (lo' := [some (.ref 1)]) (st' := [.int 0]) (σ' := s2) (by decide +kernel) rfl rfl ?_
      exact g_zret (b := false) hx hr rfl false rfl (by decide +kernel) (ok_some h)
set_option maxRecDepth 100000 in
theorem s_numbers_at_28 {y : EX} {N : Nat} {v1 : Int32} {σ : Sg} {P : Int32 × Sg → Prop} (h : ok (f_numbers_at N 28 6 29 v1 σ) P) : Ev y M_numbers_at 0 [.ref 28, .int v1] σ rvI P := by
  refine Ev.of mk_numbers_at (Nat.le_of_ble_eq_true rfl) (fun x hx hc hr => ?_)
  have hx : Cx 3 prog_5_method_3_code x := hx
  have hc : Cc y 2 0 x := hc
  show G x 0 [some (.ref 28), some (.int v1)] [] σ
  unfold f_numbers_at at h
  refine g_run hx [(.iload_n 1, 0, 0)] (pc' := 1) (lo' := [some (.ref 28), some (.int v1)]) (st' := [.int v1]) (σ' := σ) (by decide +kernel) rfl rfl ?_
  refine g_if_lt hx (off := 29) (tgt := 30) (by decide +kernel) (by decide) (fun c1 => ?_) (fun c1 => ?_)
  · have h := ok_t h c1
    refine g_run hx [(.iconst (-1), (-1), 0)] (pc' := 31) (lo' := [some (.ref 28), some (.int v1)]) (st' := [.int (-1)]) (σ' := σ) (by decide +kernel) rfl rfl ?_
    exact g_iret hx hr rfl _ rfl (by decide +kernel) (ok_some h)
  · have h := ok_f h c1
    refine g_run hx [(.iload_n 1, 0, 0), (.aload_n 0, 0, 0), (.getfield 9, 0, 0)] (pc' := 9) (lo' := [some (.ref 28), some (.int v1)]) (st' := [.int (gI σ 28 1), .int v1]) (σ' := σ) (by decide +kernel) rfl rfl ?_
    refine g_ic_ge hx (off := 21) (tgt := 30) (by decide +kernel) (by decide) (fun c9 => ?_) (fun c9 => ?_)
    · have h := ok_t h c9
      refine g_run hx [(.iconst (-1), (-1), 0)] (pc' := 31) (lo' := [some (.ref 28), some (.int v1)]) (st' := [.int (-1)]) (σ' := σ) (by decide +kernel) rfl rfl ?_
      exact g_iret hx hr rfl _ rfl (by decide +kernel) (ok_some h)
    · have h := ok_f h c9
      refine g_run hx [(.iload_n 1, 0, 0), (.aload_n 0, 0, 0), (.getfield 21, 0, 0), (.arraylength, 0, 0)] (pc' := 18) (lo' := [some (.ref 28), some (.int v1)]) (st' := [.int (nI 6), .int v1]) (σ' := σ) (by decide +kernel) rfl rfl ?_
      refine g_ic_ge hx (off := 12) (tgt := 30) (by decide +kernel) (by decide) (fun c18 => ?_) (fun c18 => ?_)
      · have h := ok_t h c18
        refine g_run hx [(.iconst (-1), (-1), 0)] (pc' := 31) (lo' := [some (.ref 28), some (.int v1)]) (st' := [.int (-1)]) (σ' := σ) (by decide +kernel) rfl rfl ?_
        exact g_iret hx hr rfl _ rfl (by decide +kernel) (ok_some h)
      · have h := ok_f h c18
        refine g_run hx [(.aload_n 0, 0, 0), (.getfield 21, 0, 0), (.iload_n 1, 0, 0)] (pc' := 26) (lo' := [some (.ref 28), some (.int v1)]) (st' := [.int v1, .ref 29]) (σ' := σ) (by decide +kernel) rfl rfl ?_
        obtain ⟨c26, h⟩ := ok_g h
        refine g_iald hx (by decide +kernel) (i := 29) (n := 6) rfl c26 ?_
        refine g_goto hx (off := 4) (tgt := 31) (by decide +kernel) (by decide) ?_
        exact g_iret hx hr rfl _ rfl (by decide +kernel) (ok_some h)
set_option maxRecDepth 100000 in
theorem s_numbers_indexOf_28_L2 {y : EX} {N : Nat} {x : CX} {P : Int32 × Sg → Prop} (hx : Cx 3 prog_5_method_4_code x) (hc : Cc y 3 1 x) (hr : Cr M_numbers_indexOf rvI P x) : ∀ (n : Nat) (v1 : Int32) (v2 : Int32) (σ : Sg), ok (f_numbers_indexOf_L2 N 28 6 29 n v1 v2 σ) P → G x 2 [some (.ref 28), some (.int v1), some (.int v2)] [] σ := by
  intro n
  induction n with
  | zero => intro v1 v2 σ h; exact ok_none h
  | succ n ih =>
    intro v1 v2 σ h
    rw [f_numbers_indexOf_L2] at h
    refine g_run hx [(.iload_n 2, 0, 0), (.aload_n 0, 0, 0), (.getfield 9, 0, 0)] (pc' := 7) (lo' := [some (.ref 28), some (.int v1), some (.int v2)]) (st' := [.int (gI σ 28 1), .int v2]) (σ' := σ) (by decide +kernel) rfl rfl ?_
    refine g_ic_ge hx (off := 20) (tgt := 27) (by decide +kernel) (by decide) (fun c7 => ?_) (fun c7 => ?_)
    · have h := ok_t h c7
      refine g_run hx [(.bipush (-2), (-2), 0)] (pc' := 29) (lo' := [some (.ref 28), some (.int v1), some (.int v2)]) (st' := [.int (-2)]) (σ' := σ) (by decide +kernel) rfl rfl ?_
      exact g_iret hx hr rfl _ rfl (by decide +kernel) (ok_some h)
    · have h := ok_f h c7
      refine g_run hx [(.aload_n 0, 0, 0), (.iload_n 2, 0, 0)] (pc' := 12) (lo' := [some (.ref 28), some (.int v1), some (.int v2)]) (st' := [.int v2, .ref 28]) (σ' := σ) (by decide +kernel) rfl rfl ?_
      refine g_callV (rest := []) [.int v2] hx hc mk_numbers_at ln_3_25 rfl (by decide +kernel) (by decide) (Nat.le_of_ble_eq_true rfl) (s_numbers_at_28 (ok_b h)) (fun r1 s1 h => ?_)
      refine g_run hx [(.iload_n 1, 0, 0)] (pc' := 16) (lo' := [some (.ref 28), some (.int v1), some (.int v2)]) (st' := [.int v1, .int r1]) (σ' := s1) (by decide +kernel) rfl rfl ?_
      refine g_ic_ne hx (off := 5) (tgt := 21) (by decide +kernel) (by decide) (fun c16 => ?_) (fun c16 => ?_)
      · have h := ok_f h c16
        refine g_run hx [(.iinc 2 1, 1, 0)] (pc' := 24) (lo' := [some (.ref 28), some (.int v1), some (.int (v2 + 1))]) (st' := []) (σ' := s1) (by decide +kernel) rfl rfl ?_
        refine g_goto hx (off := (-22)) (tgt := 2) (by decide +kernel) (by decide) ?_
        exact ih _ _ _ h
      · have h := ok_t h c16
        refine g_run hx [(.iload_n 2, 0, 0)] (pc' := 20) (lo' := [some (.ref 28), some (.int v1), some (.int v2)]) (st' := [.int v2]) (σ' := s1) (by decide +kernel) rfl rfl ?_
        exact g_iret hx hr rfl _ rfl (by decide +kernel) (ok_some h)
set_option maxRecDepth 100000 in
theorem s_numbers_indexOf_28 {y : EX} {N : Nat} {v1 : Int32} {σ : Sg} {P : Int32 × Sg → Prop} (h : ok (f_numbers_indexOf N 28 6 29 v1 σ) P) : Ev y M_numbers_indexOf 1 [.ref 28, .int v1] σ rvI P := by
  refine Ev.of mk_numbers_indexOf (Nat.le_of_ble_eq_true rfl) (fun x hx hc hr => ?_)
  have hx : Cx 3 prog_5_method_4_code x := hx
  have hc : Cc y 3 1 x := hc
  show G x 0 [some (.ref 28), some (.int v1), none] [] σ
  unfold f_numbers_indexOf at h
  refine g_run hx [(.iconst 0, 0, 0), (.istore_n 2, 0, 0)] (pc' := 2) (lo' := [some (.ref 28), some (.int v1), some (.int 0)]) (st' := []) (σ' := σ) (by decide +kernel) rfl rfl ?_
  refine s_numbers_indexOf_28_L2 hx hc hr N _ _ _ h
set_option maxRecDepth 100000 in
theorem s_country_placeAt_25 {y : EX} {N : Nat} {v1 : Int32} {σ : Sg} {P : Int32 × Sg → Prop} (h : ok (f_country_placeAt N 28 6 29 v1 σ) P) : Ev y M_country_placeAt 2 [.ref 25, .int v1] σ rvI P := by
  refine Ev.of mk_country_placeAt (Nat.le_of_ble_eq_true rfl) (fun x hx hc hr => ?_)
  have hx : Cx 1 prog_3_method_9_code x := hx
  have hc : Cc y 2 2 x := hc
  show G x 0 [some (.ref 25), some (.int v1)] [] σ
  unfold f_country_placeAt at h
  refine g_run hx [(.aload_n 0, 0, 0), (.getfield 40, 0, 0), (.iload_n 1, 0, 0)] (pc' := 5) (lo' := [some (.ref 25), some (.int v1)]) (st' := [.int v1, .ref 28]) (σ' := σ) (by decide +kernel) rfl rfl ?_
  refine g_callV (rest := []) [.int v1] hx hc mk_numbers_indexOf ln_1_77 rfl (by decide +kernel) (by decide) (Nat.le_of_ble_eq_true rfl) (s_numbers_indexOf_28 (ok_b h)) (fun r1 s1 h => ?_)
  exact g_iret hx hr rfl _ rfl (by decide +kernel) (ok_some h)
set_option maxRecDepth 100000 in
theorem s_numbers_add_28 {y : EX} {N : Nat} {v1 : Int32} {σ : Sg} {P : Unit × Sg → Prop} (h : ok (f_numbers_add N 28 6 29 v1 σ) P) : Ev y M_numbers_add 0 [.ref 28, .int v1] σ rvN P := by
  refine Ev.of mk_numbers_add (Nat.le_of_ble_eq_true rfl) (fun x hx hc hr => ?_)
  have hx : Cx 3 prog_5_method_2_code x := hx
  have hc : Cc y 2 0 x := hc
  show G x 0 [some (.ref 28), some (.int v1)] [] σ
  unfold f_numbers_add at h
  refine g_run hx [(.aload_n 0, 0, 0), (.getfield 9, 0, 0)] (pc' := 4) (lo' := [some (.ref 28), some (.int v1)]) (st' := [.int (gI σ 28 1)]) (σ' := σ) (by decide +kernel) rfl rfl ?_
  refine g_if_lt hx (off := 35) (tgt := 39) (by decide +kernel) (by decide) (fun c4 => ?_) (fun c4 => ?_)
  · have h := ok_t h c4
    exact g_vret hx hr rfl () rfl (by decide +kernel) (ok_some h)
  · have h := ok_f h c4
    refine g_run hx [(.aload_n 0, 0, 0), (.getfield 9, 0, 0), (.aload_n 0, 0, 0), (.getfield 21, 0, 0), (.arraylength, 0, 0)] (pc' := 16) (lo' := [some (.ref 28), some (.int v1)]) (st' := [.int (nI 6), .int (gI σ 28 1)]) (σ' := σ) (by decide +kernel) rfl rfl ?_
    refine g_ic_ge hx (off := 23) (tgt := 39) (by decide +kernel) (by decide) (fun c16 => ?_) (fun c16 => ?_)
    · have h := ok_t h c16
      exact g_vret hx hr rfl () rfl (by decide +kernel) (ok_some h)
    · have h := ok_f h c16
      refine g_run hx [(.aload_n 0, 0, 0), (.getfield 21, 0, 0), (.aload_n 0, 0, 0), (.getfield 9, 0, 0), (.iload_n 1, 0, 0)] (pc' := 28) (lo' := [some (.ref 28), some (.int v1)]) (st' := [.int v1, .int (gI σ 28 1), .ref 29]) (σ' := σ) (by decide +kernel) rfl rfl ?_
      obtain ⟨c28, h⟩ := ok_g h
      refine g_iast hx (by decide +kernel) (i := 29) (n := 6) rfl c28 ?_
      refine g_run hx [(.aload_n 0, 0, 0), (.dup, 0, 0), (.getfield 9, 0, 0), (.iconst 1, 1, 0), (.iadd, 0, 0), (.putfield 9, 0, 0)] (pc' := 39) (lo' := [some (.ref 28), some (.int v1)]) (st' := []) (σ' := sI (sA σ 29 (gI σ 28 1) v1) 28 1 ((gI (sA σ 29 (gI σ 28 1) v1) 28 1) + 1)) (by decide +kernel) rfl rfl ?_
      exact g_vret hx hr rfl () rfl (by decide +kernel) (ok_some h)
set_option maxRecDepth 100000 in
theorem s_numbers_add_30 {y : EX} {N : Nat} {v1 : Int32} {σ : Sg} {P : Unit × Sg → Prop} (h : ok (f_numbers_add N 30 6 31 v1 σ) P) : Ev y M_numbers_add 0 [.ref 30, .int v1] σ rvN P := by
  refine Ev.of mk_numbers_add (Nat.le_of_ble_eq_true rfl) (fun x hx hc hr => ?_)
  have hx : Cx 3 prog_5_method_2_code x := hx
  have hc : Cc y 2 0 x := hc
  show G x 0 [some (.ref 30), some (.int v1)] [] σ
  unfold f_numbers_add at h
  refine g_run hx [(.aload_n 0, 0, 0), (.getfield 9, 0, 0)] (pc' := 4) (lo' := [some (.ref 30), some (.int v1)]) (st' := [.int (gI σ 30 1)]) (σ' := σ) (by decide +kernel) rfl rfl ?_
  refine g_if_lt hx (off := 35) (tgt := 39) (by decide +kernel) (by decide) (fun c4 => ?_) (fun c4 => ?_)
  · have h := ok_t h c4
    exact g_vret hx hr rfl () rfl (by decide +kernel) (ok_some h)
  · have h := ok_f h c4
    refine g_run hx [(.aload_n 0, 0, 0), (.getfield 9, 0, 0), (.aload_n 0, 0, 0), (.getfield 21, 0, 0), (.arraylength, 0, 0)] (pc' := 16) (lo' := [some (.ref 30), some (.int v1)]) (st' := [.int (nI 6), .int (gI σ 30 1)]) (σ' := σ) (by decide +kernel) rfl rfl ?_
    refine g_ic_ge hx (off := 23) (tgt := 39) (by decide +kernel) (by decide) (fun c16 => ?_) (fun c16 => ?_)
    · have h := ok_t h c16
      exact g_vret hx hr rfl () rfl (by decide +kernel) (ok_some h)
    · have h := ok_f h c16
      refine g_run hx [(.aload_n 0, 0, 0), (.getfield 21, 0, 0), (.aload_n 0, 0, 0), (.getfield 9, 0, 0), (.iload_n 1, 0, 0)] (pc' := 28) (lo' := [some (.ref 30), some (.int v1)]) (st' := [.int v1, .int (gI σ 30 1), .ref 31]) (σ' := σ) (by decide +kernel) rfl rfl ?_
      obtain ⟨c28, h⟩ := ok_g h
      refine g_iast hx (by decide +kernel) (i := 31) (n := 6) rfl c28 ?_
      refine g_run hx [(.aload_n 0, 0, 0), (.dup, 0, 0), (.getfield 9, 0, 0), (.iconst 1, 1, 0), (.iadd, 0, 0), (.putfield 9, 0, 0)] (pc' := 39) (lo' := [some (.ref 30), some (.int v1)]) (st' := []) (σ' := sI (sA σ 31 (gI σ 30 1) v1) 30 1 ((gI (sA σ 31 (gI σ 30 1) v1) 30 1) + 1)) (by decide +kernel) rfl rfl ?_
      exact g_vret hx hr rfl () rfl (by decide +kernel) (ok_some h)
def f_reader_readPlace (N : Nat) (σ : Sg) : Option (Bool × Sg) :=
  (f_reader_expectNewName N (-1) σ).bind fun q1 =>
  if q1.1 = true then
    (f_reader_expect N 14 q1.2).bind fun q2 =>
    if q2.1 = true then
      (f_reader_expectCell N 0 q2.2).bind fun q3 =>
      if q3.1 = true then
        (f_country_placeAt N 28 6 29 (gI q3.2 1 6) q3.2).bind fun q4 =>
        if q4.1 = (-2) then
          (f_numbers_add N 28 6 29 (gI q4.2 1 6) q4.2).bind fun q5 =>
          (f_reader_expect N 15 q5.2).bind fun q6 =>
          if q6.1 = true then
            (f_reader_expectWhole N 1 99 q6.2).bind fun q7 =>
            if q7.1 = true then
              (f_numbers_add N 30 6 31 (gI q7.2 1 6) q7.2).bind fun q8 =>
              some (true, q8.2)
            else
              some (false, q7.2)
          else
            some (false, q6.2)
        else
          (f_reader_fail N 3 q4.2).bind fun q9 =>
          some (q9.1, q9.2)
      else
        some (false, q3.2)
    else
      some (false, q2.2)
  else
    some (false, q1.2)
set_option maxRecDepth 100000 in
theorem s_reader_readPlace {y : EX} {N : Nat} {σ : Sg} {P : Bool × Sg → Prop} (h : ok (f_reader_readPlace N σ) P) : Ev y M_reader_readPlace 7 [.ref 1] σ rvB P := by
  refine Ev.of mk_reader_readPlace (Nat.le_of_ble_eq_true rfl) (fun x hx hc hr => ?_)
  have hx : Cx 5 prog_7_method_11_code x := hx
  have hc : Cc y 1 7 x := hc
  show G x 0 [some (.ref 1)] [] σ
  unfold f_reader_readPlace at h
  refine g_run hx [(.aload_n 0, 0, 0), (.iconst (-1), (-1), 0)] (pc' := 2) (lo' := [some (.ref 1)]) (st' := [.int (-1), .ref 1]) (σ' := σ) (by decide +kernel) rfl rfl ?_
  refine g_callV (rest := []) [.int (-1)] hx hc mk_reader_expectNewName ln_5_178 rfl (by decide +kernel) (by decide) (Nat.le_of_ble_eq_true rfl) (s_reader_expectNewName (ok_b h)) (fun r1 s1 h => ?_)
  refine g_ifb_eq hx (off := 20) (tgt := 25) (by decide +kernel) (by decide) (fun c5 => ?_) (fun c5 => ?_)
  · have h := ok_f h c5
    refine g_run hx [(.iconst 0, 0, 0)] (pc' := 26) (lo' := [some (.ref 1)]) (st' := [.int 0]) (σ' := s1) (by decide +kernel) rfl rfl ?_
    exact g_zret (b := false) hx hr rfl false rfl (by decide +kernel) (ok_some h)
  · have h := ok_t h c5
    refine g_run hx [(.aload_n 0, 0, 0)] (pc' := 9) (lo' := [some (.ref 1)]) (st' := [.ref 1]) (σ' := s1) (by decide +kernel) rfl rfl ?_
    refine g_ldcS (idx := 184) (sid := 14) hx hc (by decide) (by decide +kernel) ?_
    refine g_callV (rest := []) [.ref (100 + 14)] hx hc mk_reader_expect ln_5_131 rfl (by decide +kernel) (by decide) (Nat.le_of_ble_eq_true rfl) (s_reader_expect (by decide) (ok_b h)) (fun r2 s2 h => ?_)
    refine g_ifb_eq hx (off := 11) (tgt := 25) (by decide +kernel) (by decide) (fun c14 => ?_) (fun c14 => ?_)
    · have h := ok_f h c14
      refine g_run hx [(.iconst 0, 0, 0)] (pc' := 26) (lo' := [some (.ref 1)]) (st' := [.int 0]) (σ' := s2) (by decide +kernel) rfl rfl ?_
      exact g_zret (b := false) hx hr rfl false rfl (by decide +kernel) (ok_some h)
    · have h := ok_t h c14
      refine g_run hx [(.aload_n 0, 0, 0), (.iconst 0, 0, 0)] (pc' := 19) (lo' := [some (.ref 1)]) (st' := [.int 0, .ref 1]) (σ' := s2) (by decide +kernel) rfl rfl ?_
      refine g_callV (rest := []) [.int 0] hx hc mk_reader_expectCell ln_5_143 rfl (by decide +kernel) (by decide) (Nat.le_of_ble_eq_true rfl) (s_reader_expectCell (ok_b h)) (fun r3 s3 h => ?_)
      refine g_ifb_ne hx (off := 5) (tgt := 27) (by decide +kernel) (by decide) (fun c22 => ?_) (fun c22 => ?_)
      · have h := ok_t h c22
        refine g_run hx [(.aload_n 0, 0, 0), (.getfield 37, 0, 0), (.aload_n 0, 0, 0), (.getfield 31, 0, 0)] (pc' := 35) (lo' := [some (.ref 1)]) (st' := [.int (gI s3 1 6), .ref 25]) (σ' := s3) (by decide +kernel) rfl rfl ?_
        refine g_callV (rest := []) [.int (gI s3 1 6)] hx hc mk_country_placeAt ln_5_186 rfl (by decide +kernel) (by decide) (Nat.le_of_ble_eq_true rfl) (s_country_placeAt_25 (ok_b h)) (fun r4 s4 h => ?_)
        refine g_run hx [(.bipush (-2), (-2), 0)] (pc' := 40) (lo' := [some (.ref 1)]) (st' := [.int (-2), .int r4]) (σ' := s4) (by decide +kernel) rfl rfl ?_
        refine g_ic_eq hx (off := 9) (tgt := 49) (by decide +kernel) (by decide) (fun c40 => ?_) (fun c40 => ?_)
        · have h := ok_t h c40
          refine g_run hx [(.aload_n 0, 0, 0), (.getfield 37, 0, 0), (.getfield 190, 0, 0), (.aload_n 0, 0, 0), (.getfield 31, 0, 0)] (pc' := 60) (lo' := [some (.ref 1)]) (st' := [.int (gI s4 1 6), .ref 28]) (σ' := s4) (by decide +kernel) rfl rfl ?_
          refine g_callV (rest := []) [.int (gI s4 1 6)] hx hc mk_numbers_add ln_5_181 rfl (by decide +kernel) (by decide) (Nat.le_of_ble_eq_true rfl) (s_numbers_add_28 (ok_b h)) (fun r5 s5 h => ?_)
          refine g_run hx [(.aload_n 0, 0, 0)] (pc' := 64) (lo' := [some (.ref 1)]) (st' := [.ref 1]) (σ' := s5) (by decide +kernel) rfl rfl ?_
          refine g_ldcS (idx := 193) (sid := 15) hx hc (by decide) (by decide +kernel) ?_
          refine g_callV (rest := []) [.ref (100 + 15)] hx hc mk_reader_expect ln_5_131 rfl (by decide +kernel) (by decide) (Nat.le_of_ble_eq_true rfl) (s_reader_expect (by decide) (ok_b h)) (fun r6 s6 h => ?_)
          refine g_ifb_eq hx (off := 13) (tgt := 82) (by decide +kernel) (by decide) (fun c69 => ?_) (fun c69 => ?_)
          · have h := ok_f h c69
            refine g_run hx [(.iconst 0, 0, 0)] (pc' := 83) (lo' := [some (.ref 1)]) (st' := [.int 0]) (σ' := s6) (by decide +kernel) rfl rfl ?_
            exact g_zret (b := false) hx hr rfl false rfl (by decide +kernel) (ok_some h)
          · have h := ok_t h c69
            refine g_run hx [(.aload_n 0, 0, 0), (.iconst 1, 1, 0), (.bipush 99, 99, 0)] (pc' := 76) (lo' := [some (.ref 1)]) (st' := [.int 99, .int 1, .ref 1]) (σ' := s6) (by decide +kernel) rfl rfl ?_
            refine g_callV (rest := []) [.int 1, .int 99] hx hc mk_reader_expectWhole ln_5_135 rfl (by decide +kernel) (by decide) (Nat.le_of_ble_eq_true rfl) (s_reader_expectWhole (ok_b h)) (fun r7 s7 h => ?_)
            refine g_ifb_ne hx (off := 5) (tgt := 84) (by decide +kernel) (by decide) (fun c79 => ?_) (fun c79 => ?_)
            · have h := ok_t h c79
              refine g_run hx [(.aload_n 0, 0, 0), (.getfield 37, 0, 0), (.getfield 195, 0, 0), (.aload_n 0, 0, 0), (.getfield 31, 0, 0)] (pc' := 95) (lo' := [some (.ref 1)]) (st' := [.int (gI s7 1 6), .ref 30]) (σ' := s7) (by decide +kernel) rfl rfl ?_
              refine g_callV (rest := []) [.int (gI s7 1 6)] hx hc mk_numbers_add ln_5_181 rfl (by decide +kernel) (by decide) (Nat.le_of_ble_eq_true rfl) (s_numbers_add_30 (ok_b h)) (fun r8 s8 h => ?_)
              refine g_run hx [(.iconst 1, 1, 0)] (pc' := 99) (lo' := [some (.ref 1)]) (st' := [.int 1]) (σ' := s8) (by decide +kernel) rfl rfl ?_
              exact g_zret (b := true) hx hr rfl true rfl (by decide +kernel) (ok_some h)
            · have h := ok_f h c79
              refine g_run hx [(.iconst 0, 0, 0)] (pc' := 83) (lo' := [some (.ref 1)]) (st' := [.int 0]) (σ' := s7) (by decide +kernel) rfl rfl ?_
              exact g_zret (b := false) hx hr rfl false rfl (by decide +kernel) (ok_some h)
        · have h := ok_f h c40
          refine g_run hx [(.aload_n 0, 0, 0), (.iconst 3, 3, 0)] (pc' := 45) (lo' := [some (.ref 1)]) (st' := [.int 3, .ref 1]) (σ' := s4) (by decide +kernel) rfl rfl ?_
          refine g_callV (rest := []) [.int 3] hx hc mk_reader_fail ln_5_91 rfl (by decide +kernel) (by decide) (Nat.le_of_ble_eq_true rfl) (s_reader_fail (ok_b h)) (fun r9 s9 h => ?_)
          exact g_zret hx hr rfl _ rfl (by decide +kernel) (ok_some h)
      · have h := ok_f h c22
        refine g_run hx [(.iconst 0, 0, 0)] (pc' := 26) (lo' := [some (.ref 1)]) (st' := [.int 0]) (σ' := s3) (by decide +kernel) rfl rfl ?_
        exact g_zret (b := false) hx hr rfl false rfl (by decide +kernel) (ok_some h)
set_option maxRecDepth 100000 in
theorem s_numbers_at_8 {y : EX} {N : Nat} {v1 : Int32} {σ : Sg} {P : Int32 × Sg → Prop} (h : ok (f_numbers_at N 8 9 9 v1 σ) P) : Ev y M_numbers_at 0 [.ref 8, .int v1] σ rvI P := by
  refine Ev.of mk_numbers_at (Nat.le_of_ble_eq_true rfl) (fun x hx hc hr => ?_)
  have hx : Cx 3 prog_5_method_3_code x := hx
  have hc : Cc y 2 0 x := hc
  show G x 0 [some (.ref 8), some (.int v1)] [] σ
  unfold f_numbers_at at h
  refine g_run hx [(.iload_n 1, 0, 0)] (pc' := 1) (lo' := [some (.ref 8), some (.int v1)]) (st' := [.int v1]) (σ' := σ) (by decide +kernel) rfl rfl ?_
  refine g_if_lt hx (off := 29) (tgt := 30) (by decide +kernel) (by decide) (fun c1 => ?_) (fun c1 => ?_)
  · have h := ok_t h c1
    refine g_run hx [(.iconst (-1), (-1), 0)] (pc' := 31) (lo' := [some (.ref 8), some (.int v1)]) (st' := [.int (-1)]) (σ' := σ) (by decide +kernel) rfl rfl ?_
    exact g_iret hx hr rfl _ rfl (by decide +kernel) (ok_some h)
  · have h := ok_f h c1
    refine g_run hx [(.iload_n 1, 0, 0), (.aload_n 0, 0, 0), (.getfield 9, 0, 0)] (pc' := 9) (lo' := [some (.ref 8), some (.int v1)]) (st' := [.int (gI σ 8 1), .int v1]) (σ' := σ) (by decide +kernel) rfl rfl ?_
    refine g_ic_ge hx (off := 21) (tgt := 30) (by decide +kernel) (by decide) (fun c9 => ?_) (fun c9 => ?_)
    · have h := ok_t h c9
      refine g_run hx [(.iconst (-1), (-1), 0)] (pc' := 31) (lo' := [some (.ref 8), some (.int v1)]) (st' := [.int (-1)]) (σ' := σ) (by decide +kernel) rfl rfl ?_
      exact g_iret hx hr rfl _ rfl (by decide +kernel) (ok_some h)
    · have h := ok_f h c9
      refine g_run hx [(.iload_n 1, 0, 0), (.aload_n 0, 0, 0), (.getfield 21, 0, 0), (.arraylength, 0, 0)] (pc' := 18) (lo' := [some (.ref 8), some (.int v1)]) (st' := [.int (nI 9), .int v1]) (σ' := σ) (by decide +kernel) rfl rfl ?_
      refine g_ic_ge hx (off := 12) (tgt := 30) (by decide +kernel) (by decide) (fun c18 => ?_) (fun c18 => ?_)
      · have h := ok_t h c18
        refine g_run hx [(.iconst (-1), (-1), 0)] (pc' := 31) (lo' := [some (.ref 8), some (.int v1)]) (st' := [.int (-1)]) (σ' := σ) (by decide +kernel) rfl rfl ?_
        exact g_iret hx hr rfl _ rfl (by decide +kernel) (ok_some h)
      · have h := ok_f h c18
        refine g_run hx [(.aload_n 0, 0, 0), (.getfield 21, 0, 0), (.iload_n 1, 0, 0)] (pc' := 26) (lo' := [some (.ref 8), some (.int v1)]) (st' := [.int v1, .ref 9]) (σ' := σ) (by decide +kernel) rfl rfl ?_
        obtain ⟨c26, h⟩ := ok_g h
        refine g_iald hx (by decide +kernel) (i := 9) (n := 9) rfl c26 ?_
        refine g_goto hx (off := 4) (tgt := 31) (by decide +kernel) (by decide) ?_
        exact g_iret hx hr rfl _ rfl (by decide +kernel) (ok_some h)
set_option maxRecDepth 100000 in
theorem s_numbers_at_26 {y : EX} {N : Nat} {v1 : Int32} {σ : Sg} {P : Int32 × Sg → Prop} (h : ok (f_numbers_at N 26 3 27 v1 σ) P) : Ev y M_numbers_at 0 [.ref 26, .int v1] σ rvI P := by
  refine Ev.of mk_numbers_at (Nat.le_of_ble_eq_true rfl) (fun x hx hc hr => ?_)
  have hx : Cx 3 prog_5_method_3_code x := hx
  have hc : Cc y 2 0 x := hc
  show G x 0 [some (.ref 26), some (.int v1)] [] σ
  unfold f_numbers_at at h
  refine g_run hx [(.iload_n 1, 0, 0)] (pc' := 1) (lo' := [some (.ref 26), some (.int v1)]) (st' := [.int v1]) (σ' := σ) (by decide +kernel) rfl rfl ?_
  refine g_if_lt hx (off := 29) (tgt := 30) (by decide +kernel) (by decide) (fun c1 => ?_) (fun c1 => ?_)
  · have h := ok_t h c1
    refine g_run hx [(.iconst (-1), (-1), 0)] (pc' := 31) (lo' := [some (.ref 26), some (.int v1)]) (st' := [.int (-1)]) (σ' := σ) (by decide +kernel) rfl rfl ?_
    exact g_iret hx hr rfl _ rfl (by decide +kernel) (ok_some h)
  · have h := ok_f h c1
    refine g_run hx [(.iload_n 1, 0, 0), (.aload_n 0, 0, 0), (.getfield 9, 0, 0)] (pc' := 9) (lo' := [some (.ref 26), some (.int v1)]) (st' := [.int (gI σ 26 1), .int v1]) (σ' := σ) (by decide +kernel) rfl rfl ?_
    refine g_ic_ge hx (off := 21) (tgt := 30) (by decide +kernel) (by decide) (fun c9 => ?_) (fun c9 => ?_)
    · have h := ok_t h c9
      refine g_run hx [(.iconst (-1), (-1), 0)] (pc' := 31) (lo' := [some (.ref 26), some (.int v1)]) (st' := [.int (-1)]) (σ' := σ) (by decide +kernel) rfl rfl ?_
      exact g_iret hx hr rfl _ rfl (by decide +kernel) (ok_some h)
    · have h := ok_f h c9
      refine g_run hx [(.iload_n 1, 0, 0), (.aload_n 0, 0, 0), (.getfield 21, 0, 0), (.arraylength, 0, 0)] (pc' := 18) (lo' := [some (.ref 26), some (.int v1)]) (st' := [.int (nI 3), .int v1]) (σ' := σ) (by decide +kernel) rfl rfl ?_
      refine g_ic_ge hx (off := 12) (tgt := 30) (by decide +kernel) (by decide) (fun c18 => ?_) (fun c18 => ?_)
      · have h := ok_t h c18
        refine g_run hx [(.iconst (-1), (-1), 0)] (pc' := 31) (lo' := [some (.ref 26), some (.int v1)]) (st' := [.int (-1)]) (σ' := σ) (by decide +kernel) rfl rfl ?_
        exact g_iret hx hr rfl _ rfl (by decide +kernel) (ok_some h)
      · have h := ok_f h c18
        refine g_run hx [(.aload_n 0, 0, 0), (.getfield 21, 0, 0), (.iload_n 1, 0, 0)] (pc' := 26) (lo' := [some (.ref 26), some (.int v1)]) (st' := [.int v1, .ref 27]) (σ' := σ) (by decide +kernel) rfl rfl ?_
        obtain ⟨c26, h⟩ := ok_g h
        refine g_iald hx (by decide +kernel) (i := 27) (n := 3) rfl c26 ?_
        refine g_goto hx (off := 4) (tgt := 31) (by decide +kernel) (by decide) ?_
        exact g_iret hx hr rfl _ rfl (by decide +kernel) (ok_some h)
set_option maxRecDepth 100000 in
theorem s_country_target_25 {y : EX} {N : Nat} {v1 : Int64} {v3 : Int32} {v4 : Int32} {σ : Sg} {P : Int32 × Sg → Prop} (h : ok (f_country_target N 26 3 27 25 v1 v3 v4 σ) P) : Ev y M_country_target 1 [.ref 25, .long v1, .int v3, .int v4] σ rvI P := by
  refine Ev.of mk_country_target (Nat.le_of_ble_eq_true rfl) (fun x hx hc hr => ?_)
  have hx : Cx 1 prog_3_method_13_code x := hx
  have hc : Cc y 7 1 x := hc
  show G x 0 [some (.ref 25), some (.long v1), none, some (.int v3), some (.int v4), none, none] [] σ
  unfold f_country_target at h
  refine g_run hx [(.aload_n 0, 0, 0), (.getfield 36, 0, 0), (.iload 4, 0, 0), (.iconst 1, 1, 0), (.isub, 0, 0), (.iconst 2, 2, 0), (.idiv, 0, 0)] (pc' := 10) (lo' := [some (.ref 25), some (.long v1), none, some (.int v3), some (.int v4), none, none]) (st' := [.int ((v4 - 1) / 2), .ref 26]) (σ' := σ) (by decide +kernel) rfl rfl ?_
  refine g_callV (rest := []) [.int ((v4 - 1) / 2)] hx hc mk_numbers_at ln_1_81 rfl (by decide +kernel) (by decide) (Nat.le_of_ble_eq_true rfl) (s_numbers_at_26 (ok_b h)) (fun r1 s1 h => ?_)
  refine g_run hx [(.istore 5, 0, 0), (.iload 4, 0, 0), (.iconst 2, 2, 0), (.irem, 0, 0), (.iconst 1, 1, 0)] (pc' := 20) (lo' := [some (.ref 25), some (.long v1), none, some (.int v3), some (.int v4), some (.int r1), none]) (st' := [.int 1, .int (v4 - v4 / 2 * 2)]) (σ' := s1) (by decide +kernel) rfl rfl ?_
  refine g_ic_ne hx (off := 10) (tgt := 30) (by decide +kernel) (by decide) (fun c20 => ?_) (fun c20 => ?_)
  · have h := ok_f h c20
    refine g_run hx [(.iload_n 3, 0, 0), (.iload 5, 0, 0), (.isub, 0, 0), (.istore 6, 0, 0), (.iload 6, 0, 0)] (pc' := 38) (lo' := [some (.ref 25), some (.long v1), none, some (.int v3), some (.int v4), some (.int r1), some (.int (v3 - r1))]) (st' := [.int (v3 - r1)]) (σ' := s1) (by decide +kernel) rfl rfl ?_
    refine g_if_lt hx (off := 21) (tgt := 59) (by decide +kernel) (by decide) (fun c38 => ?_) (fun c38 => ?_)
    · have h := ok_t h c38
      refine g_run hx [(.bipush (-2), (-2), 0)] (pc' := 61) (lo' := [some (.ref 25), some (.long v1), none, some (.int v3), some (.int v4), some (.int r1), some (.int (v3 - r1))]) (st' := [.int (-2)]) (σ' := s1) (by decide +kernel) rfl rfl ?_
      refine g_goto hx (off := 5) (tgt := 66) (by decide +kernel) (by decide) ?_
      exact g_iret hx hr rfl _ rfl (by decide +kernel) (ok_some h)
    · have h := ok_f h c38
      refine g_run hx [(.iload 6, 0, 0), (.aload_n 0, 0, 0), (.getfield 9, 0, 0)] (pc' := 47) (lo' := [some (.ref 25), some (.long v1), none, some (.int v3), some (.int v4), some (.int r1), some (.int (v3 - r1))]) (st' := [.int (gI s1 25 0), .int (v3 - r1)]) (σ' := s1) (by decide +kernel) rfl rfl ?_
      refine g_ic_ge hx (off := 12) (tgt := 59) (by decide +kernel) (by decide) (fun c47 => ?_) (fun c47 => ?_)
      · have h := ok_t h c47
        refine g_run hx [(.bipush (-2), (-2), 0)] (pc' := 61) (lo' := [some (.ref 25), some (.long v1), none, some (.int v3), some (.int v4), some (.int r1), some (.int (v3 - r1))]) (st' := [.int (-2)]) (σ' := s1) (by decide +kernel) rfl rfl ?_
        refine g_goto hx (off := 5) (tgt := 66) (by decide +kernel) (by decide) ?_
        exact g_iret hx hr rfl _ rfl (by decide +kernel) (ok_some h)
      · have h := ok_f h c47
        refine g_run hx [(.lload_n 1, 0, 0), (.iload 6, 0, 0)] (pc' := 53) (lo' := [some (.ref 25), some (.long v1), none, some (.int v3), some (.int v4), some (.int r1), some (.int (v3 - r1))]) (st' := [.int (v3 - r1), .long v1]) (σ' := s1) (by decide +kernel) rfl rfl ?_
        refine g_callN (rest := []) [.long v1, .int (v3 - r1)] hx hc mk_x_bit ln_1_73 (by decide +kernel) (by decide) (Nat.le_of_ble_eq_true rfl) (s_x_bit (ok_b h)) (fun r2 s2 h => ?_)
        refine g_ifb_eq hx (off := 8) (tgt := 64) (by decide +kernel) (by decide) (fun c56 => ?_) (fun c56 => ?_)
        · have h := ok_f h c56
          refine g_run hx [(.iload 6, 0, 0)] (pc' := 66) (lo' := [some (.ref 25), some (.long v1), none, some (.int v3), some (.int v4), some (.int r1), some (.int (v3 - r1))]) (st' := [.int (v3 - r1)]) (σ' := s2) (by decide +kernel) rfl rfl ?_
          exact g_iret hx hr rfl _ rfl (by decide +kernel) (ok_some h)
        · have h := ok_t h c56
          refine g_run hx [(.bipush (-2), (-2), 0)] (pc' := 61) (lo' := [some (.ref 25), some (.long v1), none, some (.int v3), some (.int v4), some (.int r1), some (.int (v3 - r1))]) (st' := [.int (-2)]) (σ' := s2) (by decide +kernel) rfl rfl ?_
          refine g_goto hx (off := 5) (tgt := 66) (by decide +kernel) (by decide) ?_
          exact g_iret hx hr rfl _ rfl (by decide +kernel) (ok_some h)
  · have h := ok_t h c20
    refine g_run hx [(.iload_n 3, 0, 0), (.iload 5, 0, 0), (.iadd, 0, 0)] (pc' := 27) (lo' := [some (.ref 25), some (.long v1), none, some (.int v3), some (.int v4), some (.int r1), none]) (st' := [.int (v3 + r1)]) (σ' := s1) (by decide +kernel) rfl rfl ?_
    refine g_goto hx (off := 7) (tgt := 34) (by decide +kernel) (by decide) ?_
    refine g_run hx [(.istore 6, 0, 0), (.iload 6, 0, 0)] (pc' := 38) (lo' := [some (.ref 25), some (.long v1), none, some (.int v3), some (.int v4), some (.int r1), some (.int (v3 + r1))]) (st' := [.int (v3 + r1)]) (σ' := s1) (by decide +kernel) rfl rfl ?_
    refine g_if_lt hx (off := 21) (tgt := 59) (by decide +kernel) (by decide) (fun c38 => ?_) (fun c38 => ?_)
    · have h := ok_t h c38
      refine g_run hx [(.bipush (-2), (-2), 0)] (pc' := 61) (lo' := [some (.ref 25), some (.long v1), none, some (.int v3), some (.int v4), some (.int r1), some (.int (v3 + r1))]) (st' := [.int (-2)]) (σ' := s1) (by decide +kernel) rfl rfl ?_
      refine g_goto hx (off := 5) (tgt := 66) (by decide +kernel) (by decide) ?_
      exact g_iret hx hr rfl _ rfl (by decide +kernel) (ok_some h)
    · have h := ok_f h c38
      refine g_run hx [(.iload 6, 0, 0), (.aload_n 0, 0, 0), (.getfield 9, 0, 0)] (pc' := 47) (lo' := [some (.ref 25), some (.long v1), none, some (.int v3), some (.int v4), some (.int r1), some (.int (v3 + r1))]) (st' := [.int (gI s1 25 0), .int (v3 + r1)]) (σ' := s1) (by decide +kernel) rfl rfl ?_
      refine g_ic_ge hx (off := 12) (tgt := 59) (by decide +kernel) (by decide) (fun c47 => ?_) (fun c47 => ?_)
      · have h := ok_t h c47
        refine g_run hx [(.bipush (-2), (-2), 0)] (pc' := 61) (lo' := [some (.ref 25), some (.long v1), none, some (.int v3), some (.int v4), some (.int r1), some (.int (v3 + r1))]) (st' := [.int (-2)]) (σ' := s1) (by decide +kernel) rfl rfl ?_
        refine g_goto hx (off := 5) (tgt := 66) (by decide +kernel) (by decide) ?_
        exact g_iret hx hr rfl _ rfl (by decide +kernel) (ok_some h)
      · have h := ok_f h c47
        refine g_run hx [(.lload_n 1, 0, 0), (.iload 6, 0, 0)] (pc' := 53) (lo' := [some (.ref 25), some (.long v1), none, some (.int v3), some (.int v4), some (.int r1), some (.int (v3 + r1))]) (st' := [.int (v3 + r1), .long v1]) (σ' := s1) (by decide +kernel) rfl rfl ?_
        refine g_callN (rest := []) [.long v1, .int (v3 + r1)] hx hc mk_x_bit ln_1_73 (by decide +kernel) (by decide) (Nat.le_of_ble_eq_true rfl) (s_x_bit (ok_b h)) (fun r3 s3 h => ?_)
        refine g_ifb_eq hx (off := 8) (tgt := 64) (by decide +kernel) (by decide) (fun c56 => ?_) (fun c56 => ?_)
        · have h := ok_f h c56
          refine g_run hx [(.iload 6, 0, 0)] (pc' := 66) (lo' := [some (.ref 25), some (.long v1), none, some (.int v3), some (.int v4), some (.int r1), some (.int (v3 + r1))]) (st' := [.int (v3 + r1)]) (σ' := s3) (by decide +kernel) rfl rfl ?_
          exact g_iret hx hr rfl _ rfl (by decide +kernel) (ok_some h)
        · have h := ok_t h c56
          refine g_run hx [(.bipush (-2), (-2), 0)] (pc' := 61) (lo' := [some (.ref 25), some (.long v1), none, some (.int v3), some (.int v4), some (.int r1), some (.int (v3 + r1))]) (st' := [.int (-2)]) (σ' := s3) (by decide +kernel) rfl rfl ?_
          refine g_goto hx (off := 5) (tgt := 66) (by decide +kernel) (by decide) ?_
          exact g_iret hx hr rfl _ rfl (by decide +kernel) (ok_some h)
set_option maxRecDepth 100000 in
theorem s_numbers_add_32 {y : EX} {N : Nat} {v1 : Int32} {σ : Sg} {P : Unit × Sg → Prop} (h : ok (f_numbers_add N 32 8 33 v1 σ) P) : Ev y M_numbers_add 0 [.ref 32, .int v1] σ rvN P := by
  refine Ev.of mk_numbers_add (Nat.le_of_ble_eq_true rfl) (fun x hx hc hr => ?_)
  have hx : Cx 3 prog_5_method_2_code x := hx
  have hc : Cc y 2 0 x := hc
  show G x 0 [some (.ref 32), some (.int v1)] [] σ
  unfold f_numbers_add at h
  refine g_run hx [(.aload_n 0, 0, 0), (.getfield 9, 0, 0)] (pc' := 4) (lo' := [some (.ref 32), some (.int v1)]) (st' := [.int (gI σ 32 1)]) (σ' := σ) (by decide +kernel) rfl rfl ?_
  refine g_if_lt hx (off := 35) (tgt := 39) (by decide +kernel) (by decide) (fun c4 => ?_) (fun c4 => ?_)
  · have h := ok_t h c4
    exact g_vret hx hr rfl () rfl (by decide +kernel) (ok_some h)
  · have h := ok_f h c4
    refine g_run hx [(.aload_n 0, 0, 0), (.getfield 9, 0, 0), (.aload_n 0, 0, 0), (.getfield 21, 0, 0), (.arraylength, 0, 0)] (pc' := 16) (lo' := [some (.ref 32), some (.int v1)]) (st' := [.int (nI 8), .int (gI σ 32 1)]) (σ' := σ) (by decide +kernel) rfl rfl ?_
    refine g_ic_ge hx (off := 23) (tgt := 39) (by decide +kernel) (by decide) (fun c16 => ?_) (fun c16 => ?_)
    · have h := ok_t h c16
      exact g_vret hx hr rfl () rfl (by decide +kernel) (ok_some h)
    · have h := ok_f h c16
      refine g_run hx [(.aload_n 0, 0, 0), (.getfield 21, 0, 0), (.aload_n 0, 0, 0), (.getfield 9, 0, 0), (.iload_n 1, 0, 0)] (pc' := 28) (lo' := [some (.ref 32), some (.int v1)]) (st' := [.int v1, .int (gI σ 32 1), .ref 33]) (σ' := σ) (by decide +kernel) rfl rfl ?_
      obtain ⟨c28, h⟩ := ok_g h
      refine g_iast hx (by decide +kernel) (i := 33) (n := 8) rfl c28 ?_
      refine g_run hx [(.aload_n 0, 0, 0), (.dup, 0, 0), (.getfield 9, 0, 0), (.iconst 1, 1, 0), (.iadd, 0, 0), (.putfield 9, 0, 0)] (pc' := 39) (lo' := [some (.ref 32), some (.int v1)]) (st' := []) (σ' := sI (sA σ 33 (gI σ 32 1) v1) 32 1 ((gI (sA σ 33 (gI σ 32 1) v1) 32 1) + 1)) (by decide +kernel) rfl rfl ?_
      exact g_vret hx hr rfl () rfl (by decide +kernel) (ok_some h)
def f_reader_readStride (N : Nat) (σ : Sg) : Option (Bool × Sg) :=
  (f_reader_nextToken N σ).bind fun q1 =>
  (f_reader_sortHere N q1.2).bind fun q2 =>
  if q2.1 = (-1) then
    (f_reader_nameHere N q2.2).bind fun q3 =>
    (f_numbers_at N 8 9 9 q3.1 q3.2).bind fun q4 =>
    if q4.1 = (-1) then
      (f_reader_fail N 2 q4.2).bind fun q19 =>
      some (q19.1, q19.2)
    else
      (f_reader_nextToken N q4.2).bind fun q5 =>
      (f_reader_isWord N 16 q5.2).bind fun q6 =>
      if q6.1 = true then
        (f_x_digitFor N q4.1 0 q6.2).bind fun q14 =>
        (f_country_target N 26 3 27 25 (gL q14.2 25 14) (gI q14.2 25 13) q14.1 q14.2).bind fun q15 =>
        if q15.1 = (-2) then
          (f_reader_fail N 7 q15.2).bind fun q18 =>
          some (q18.1, q18.2)
        else
          (f_x_inside N (gI q15.2 25 13) q15.1 q15.2).bind fun q16 =>
          (f_numbers_add N 32 8 33 q14.1 (sI (sL q16.2 25 14 ((gL q15.2 25 14) ||| q16.1)) 25 13 q15.1)).bind fun q17 =>
          some (true, q17.2)
      else
        (f_reader_isWord N 17 q6.2).bind fun q7 =>
        if q7.1 = true then
          (f_x_digitFor N q4.1 1 q7.2).bind fun q9 =>
          (f_country_target N 26 3 27 25 (gL q9.2 25 14) (gI q9.2 25 13) q9.1 q9.2).bind fun q10 =>
          if q10.1 = (-2) then
            (f_reader_fail N 7 q10.2).bind fun q13 =>
            some (q13.1, q13.2)
          else
            (f_x_inside N (gI q10.2 25 13) q10.1 q10.2).bind fun q11 =>
            (f_numbers_add N 32 8 33 q9.1 (sI (sL q11.2 25 14 ((gL q10.2 25 14) ||| q11.1)) 25 13 q10.1)).bind fun q12 =>
            some (true, q12.2)
        else
          (f_reader_fail N 1 q7.2).bind fun q8 =>
          some (q8.1, q8.2)
  else
    (f_reader_fail N 1 q2.2).bind fun q20 =>
    some (q20.1, q20.2)
set_option maxRecDepth 100000 in
theorem s_reader_readStride {y : EX} {N : Nat} {σ : Sg} {P : Bool × Sg → Prop} (h : ok (f_reader_readStride N σ) P) : Ev y M_reader_readStride 6 [.ref 1] σ rvB P := by
  refine Ev.of mk_reader_readStride (Nat.le_of_ble_eq_true rfl) (fun x hx hc hr => ?_)
  have hx : Cx 5 prog_7_method_12_code x := hx
  have hc : Cc y 5 6 x := hc
  show G x 0 [some (.ref 1), none, none, none, none] [] σ
  unfold f_reader_readStride at h
  refine g_run hx [(.aload_n 0, 0, 0)] (pc' := 1) (lo' := [some (.ref 1), none, none, none, none]) (st' := [.ref 1]) (σ' := σ) (by decide +kernel) rfl rfl ?_
  refine g_callV (rest := []) [] hx hc mk_reader_nextToken ln_5_69 rfl (by decide +kernel) (by decide) (Nat.le_of_ble_eq_true rfl) (s_reader_nextToken (ok_b h)) (fun r1 s1 h => ?_)
  refine g_run hx [(.aload_n 0, 0, 0)] (pc' := 5) (lo' := [some (.ref 1), none, none, none, none]) (st' := [.ref 1]) (σ' := s1) (by decide +kernel) rfl rfl ?_
  refine g_callV (rest := []) [] hx hc mk_reader_sortHere ln_5_98 rfl (by decide +kernel) (by decide) (Nat.le_of_ble_eq_true rfl) (s_reader_sortHere (ok_b h)) (fun r2 s2 h => ?_)
  refine g_run hx [(.iconst (-1), (-1), 0)] (pc' := 9) (lo' := [some (.ref 1), none, none, none, none]) (st' := [.int (-1), .int r2]) (σ' := s2) (by decide +kernel) rfl rfl ?_
  refine g_ic_eq hx (off := 9) (tgt := 18) (by decide +kernel) (by decide) (fun c9 => ?_) (fun c9 => ?_)
  · have h := ok_t h c9
    refine g_run hx [(.aload_n 0, 0, 0), (.getfield 57, 0, 0), (.aload_n 0, 0, 0)] (pc' := 23) (lo' := [some (.ref 1), none, none, none, none]) (st' := [.ref 1, .ref 8]) (σ' := s2) (by decide +kernel) rfl rfl ?_
    refine g_callV (rest := [.ref 8]) [] hx hc mk_reader_nameHere ln_5_197 rfl (by decide +kernel) (by decide) (Nat.le_of_ble_eq_true rfl) (s_reader_nameHere (ok_b h)) (fun r3 s3 h => ?_)
    refine g_callV (rest := []) [.int r3] hx hc mk_numbers_at ln_5_200 rfl (by decide +kernel) (by decide) (Nat.le_of_ble_eq_true rfl) (s_numbers_at_8 (ok_b h)) (fun r4 s4 h => ?_)
    refine g_run hx [(.istore_n 1, 0, 0), (.iload_n 1, 0, 0), (.iconst (-1), (-1), 0)] (pc' := 32) (lo' := [some (.ref 1), some (.int r4), none, none, none]) (st' := [.int (-1), .int r4]) (σ' := s4) (by decide +kernel) rfl rfl ?_
    refine g_ic_ne hx (off := 9) (tgt := 41) (by decide +kernel) (by decide) (fun c32 => ?_) (fun c32 => ?_)
    · have h := ok_f h c32
      refine g_run hx [(.aload_n 0, 0, 0)] (pc' := 42) (lo' := [some (.ref 1), some (.int r4), none, none, none]) (st' := [.ref 1]) (σ' := s4) (by decide +kernel) rfl rfl ?_
      refine g_callV (rest := []) [] hx hc mk_reader_nextToken ln_5_69 rfl (by decide +kernel) (by decide) (Nat.le_of_ble_eq_true rfl) (s_reader_nextToken (ok_b h)) (fun r5 s5 h => ?_)
      refine g_run hx [(.aload_n 0, 0, 0)] (pc' := 46) (lo' := [some (.ref 1), some (.int r4), none, none, none]) (st' := [.ref 1]) (σ' := s5) (by decide +kernel) rfl rfl ?_
      refine g_ldcS (idx := 202) (sid := 16) hx hc (by decide) (by decide +kernel) ?_
      refine g_callV (rest := []) [.ref (100 + 16)] hx hc mk_reader_isWord ln_5_163 rfl (by decide +kernel) (by decide) (Nat.le_of_ble_eq_true rfl) (s_reader_isWord (by decide) (ok_b h)) (fun r6 s6 h => ?_)
      refine g_ifb_eq hx (off := 7) (tgt := 58) (by decide +kernel) (by decide) (fun c51 => ?_) (fun c51 => ?_)
      · have h := ok_f h c51
        refine g_run hx [(.aload_n 0, 0, 0)] (pc' := 59) (lo' := [some (.ref 1), some (.int r4), none, none, none]) (st' := [.ref 1]) (σ' := s6) (by decide +kernel) rfl rfl ?_
        refine g_ldcS (idx := 204) (sid := 17) hx hc (by decide) (by decide +kernel) ?_
        refine g_callV (rest := []) [.ref (100 + 17)] hx hc mk_reader_isWord ln_5_163 rfl (by decide +kernel) (by decide) (Nat.le_of_ble_eq_true rfl) (s_reader_isWord (by decide) (ok_b h)) (fun r7 s7 h => ?_)
        refine g_ifb_eq hx (off := 7) (tgt := 71) (by decide +kernel) (by decide) (fun c64 => ?_) (fun c64 => ?_)
        · have h := ok_f h c64
          refine g_run hx [(.bipush (-2), (-2), 0), (.istore_n 2, 0, 0), (.iload_n 2, 0, 0), (.bipush (-2), (-2), 0)] (pc' := 77) (lo' := [some (.ref 1), some (.int r4), some (.int (-2)), none, none]) (st' := [.int (-2), .int (-2)]) (σ' := s7) (by decide +kernel) rfl rfl ?_
          refine g_ic_ne hx (off := 9) (tgt := 86) (by decide +kernel) (by decide) (fun c => absurd c (by decide)) (fun _ => ?_)
          refine g_run hx [(.aload_n 0, 0, 0), (.iconst 1, 1, 0)] (pc' := 82) (lo' := [some (.ref 1), some (.int r4), some (.int (-2)), none, none]) (st' := [.int 1, .ref 1]) (σ' := s7) (by decide +kernel) rfl rfl ?_
          refine g_callV (rest := []) [.int 1] hx hc mk_reader_fail ln_5_91 rfl (by decide +kernel) (by decide) (Nat.le_of_ble_eq_true rfl) (s_reader_fail (ok_b h)) (fun r8 s8 h => ?_)
          exact g_zret hx hr rfl _ rfl (by decide +kernel) (ok_some h)
        · have h := ok_t h c64
          refine g_run hx [(.iconst 1, 1, 0)] (pc' := 68) (lo' := [some (.ref 1), some (.int r4), none, none, none]) (st' := [.int 1]) (σ' := s7) (by decide +kernel) rfl rfl ?_
          refine g_goto hx (off := 5) (tgt := 73) (by decide +kernel) (by decide) ?_
          refine g_run hx [(.istore_n 2, 0, 0), (.iload_n 2, 0, 0), (.bipush (-2), (-2), 0)] (pc' := 77) (lo' := [some (.ref 1), some (.int r4), some (.int 1), none, none]) (st' := [.int (-2), .int 1]) (σ' := s7) (by decide +kernel) rfl rfl ?_
          refine g_ic_ne hx (off := 9) (tgt := 86) (by decide +kernel) (by decide) (fun _ => ?_) (fun c => absurd c (by decide))
          refine g_run hx [(.iload_n 1, 0, 0), (.iload_n 2, 0, 0)] (pc' := 88) (lo' := [some (.ref 1), some (.int r4), some (.int 1), none, none]) (st' := [.int 1, .int r4]) (σ' := s7) (by decide +kernel) rfl rfl ?_
          refine g_callN (rest := []) [.int r4, .int 1] hx hc mk_x_digitFor ln_5_206 (by decide +kernel) (by decide) (Nat.le_of_ble_eq_true rfl) (s_x_digitFor (ok_b h)) (fun r9 s9 h => ?_)
          refine g_run hx [(.istore_n 3, 0, 0), (.aload_n 0, 0, 0), (.getfield 37, 0, 0), (.aload_n 0, 0, 0), (.getfield 37, 0, 0), (.getfield 209, 0, 0), (.aload_n 0, 0, 0), (.getfield 37, 0, 0), (.getfield 149, 0, 0), (.iload_n 3, 0, 0)] (pc' := 111) (lo' := [some (.ref 1), some (.int r4), some (.int 1), some (.int r9), none]) (st' := [.int r9, .int (gI s9 25 13), .long (gL s9 25 14), .ref 25]) (σ' := s9) (by decide +kernel) rfl rfl ?_
          refine g_callV (rest := []) [.long (gL s9 25 14), .int (gI s9 25 13), .int r9] hx hc mk_country_target ln_5_213 rfl (by decide +kernel) (by decide) (Nat.le_of_ble_eq_true rfl) (s_country_target_25 (ok_b h)) (fun r10 s10 h => ?_)
          refine g_run hx [(.istore 4, 0, 0), (.iload 4, 0, 0), (.bipush (-2), (-2), 0)] (pc' := 120) (lo' := [some (.ref 1), some (.int r4), some (.int 1), some (.int r9), some (.int r10)]) (st' := [.int (-2), .int r10]) (σ' := s10) (by decide +kernel) rfl rfl ?_
          refine g_ic_ne hx (off := 10) (tgt := 130) (by decide +kernel) (by decide) (fun c120 => ?_) (fun c120 => ?_)
          · have h := ok_f h c120
            refine g_run hx [(.aload_n 0, 0, 0), (.getfield 37, 0, 0), (.dup, 0, 0), (.getfield 209, 0, 0), (.aload_n 0, 0, 0), (.getfield 37, 0, 0), (.getfield 149, 0, 0), (.iload 4, 0, 0)] (pc' := 147) (lo' := [some (.ref 1), some (.int r4), some (.int 1), some (.int r9), some (.int r10)]) (st' := [.int r10, .int (gI s10 25 13), .long (gL s10 25 14), .ref 25]) (σ' := s10) (by decide +kernel) rfl rfl ?_
            refine g_callN (rest := [.long (gL s10 25 14), .ref 25]) [.int (gI s10 25 13), .int r10] hx hc mk_x_inside ln_5_217 (by decide +kernel) (by decide) (Nat.le_of_ble_eq_true rfl) (s_x_inside (ok_b h)) (fun r11 s11 h => ?_)
            refine g_run hx [(.lor, 0, 0), (.putfield 209, 0, 0), (.aload_n 0, 0, 0), (.getfield 37, 0, 0), (.iload 4, 0, 0), (.putfield 149, 0, 0), (.aload_n 0, 0, 0), (.getfield 37, 0, 0), (.getfield 220, 0, 0), (.iload_n 3, 0, 0)] (pc' := 171) (lo' := [some (.ref 1), some (.int r4), some (.int 1), some (.int r9), some (.int r10)]) (st' := [.int r9, .ref 32]) (σ' := sI (sL s11 25 14 ((gL s10 25 14) ||| r11)) 25 13 r10) (by decide +kernel) rfl rfl ?_
            refine g_callV (rest := []) [.int r9] hx hc mk_numbers_add ln_5_181 rfl (by decide +kernel) (by decide) (Nat.le_of_ble_eq_true rfl) (s_numbers_add_32 (ok_b h)) (fun r12 s12 h => ?_)
            refine g_run hx [(.iconst 1, 1, 0)] (pc' := 175) (lo' := [some (.ref 1), some (.int r4), some (.int 1), some (.int r9), some (.int r10)]) (st' := [.int 1]) (σ' := s12) (by decide +kernel) rfl rfl ?_
            exact g_zret (b := true) hx hr rfl true rfl (by decide +kernel) (ok_some h)
          · have h := ok_t h c120
            refine g_run hx [(.aload_n 0, 0, 0), (.bipush 7, 7, 0)] (pc' := 126) (lo' := [some (.ref 1), some (.int r4), some (.int 1), some (.int r9), some (.int r10)]) (st' := [.int 7, .ref 1]) (σ' := s10) (by decide +kernel) rfl rfl ?_
            refine g_callV (rest := []) [.int 7] hx hc mk_reader_fail ln_5_91 rfl (by decide +kernel) (by decide) (Nat.le_of_ble_eq_true rfl) (s_reader_fail (ok_b h)) (fun r13 s13 h => ?_)
            exact g_zret hx hr rfl _ rfl (by decide +kernel) (ok_some h)
      · have h := ok_t h c51
        refine g_run hx [(.iconst 0, 0, 0)] (pc' := 55) (lo' := [some (.ref 1), some (.int r4), none, none, none]) (st' := [.int 0]) (σ' := s6) (by decide +kernel) rfl rfl ?_
        refine g_goto hx (off := 18) (tgt := 73) (by decide +kernel) (by decide) ?_
        refine g_run hx [(.istore_n 2, 0, 0), (.iload_n 2, 0, 0), (.bipush (-2), (-2), 0)] (pc' := 77) (lo' := [some (.ref 1), some (.int r4), some (.int 0), none, none]) (st' := [.int (-2), .int 0]) (σ' := s6) (by decide +kernel) rfl rfl ?_
        refine g_ic_ne hx (off := 9) (tgt := 86) (by decide +kernel) (by decide) (fun _ => ?_) (fun c => absurd c (by decide))
        refine g_run hx [(.iload_n 1, 0, 0), (.iload_n 2, 0, 0)] (pc' := 88) (lo' := [some (.ref 1), some (.int r4), some (.int 0), none, none]) (st' := [.int 0, .int r4]) (σ' := s6) (by decide +kernel) rfl rfl ?_
        refine g_callN (rest := []) [.int r4, .int 0] hx hc mk_x_digitFor ln_5_206 (by decide +kernel) (by decide) (Nat.le_of_ble_eq_true rfl) (s_x_digitFor (ok_b h)) (fun r14 s14 h => ?_)
        refine g_run hx [(.istore_n 3, 0, 0), (.aload_n 0, 0, 0), (.getfield 37, 0, 0), (.aload_n 0, 0, 0), (.getfield 37, 0, 0), (.getfield 209, 0, 0), (.aload_n 0, 0, 0), (.getfield 37, 0, 0), (.getfield 149, 0, 0), (.iload_n 3, 0, 0)] (pc' := 111) (lo' := [some (.ref 1), some (.int r4), some (.int 0), some (.int r14), none]) (st' := [.int r14, .int (gI s14 25 13), .long (gL s14 25 14), .ref 25]) (σ' := s14) (by decide +kernel) rfl rfl ?_
        refine g_callV (rest := []) [.long (gL s14 25 14), .int (gI s14 25 13), .int r14] hx hc mk_country_target ln_5_213 rfl (by decide +kernel) (by decide) (Nat.le_of_ble_eq_true rfl) (s_country_target_25 (ok_b h)) (fun r15 s15 h => ?_)
        refine g_run hx [(.istore 4, 0, 0), (.iload 4, 0, 0), (.bipush (-2), (-2), 0)] (pc' := 120) (lo' := [some (.ref 1), some (.int r4), some (.int 0), some (.int r14), some (.int r15)]) (st' := [.int (-2), .int r15]) (σ' := s15) (by decide +kernel) rfl rfl ?_
        refine g_ic_ne hx (off := 10) (tgt := 130) (by decide +kernel) (by decide) (fun c120 => ?_) (fun c120 => ?_)
        · have h := ok_f h c120
          refine g_run hx [(.aload_n 0, 0, 0), (.getfield 37, 0, 0), (.dup, 0, 0), (.getfield 209, 0, 0), (.aload_n 0, 0, 0), (.getfield 37, 0, 0), (.getfield 149, 0, 0), (.iload 4, 0, 0)] (pc' := 147) (lo' := [some (.ref 1), some (.int r4), some (.int 0), some (.int r14), some (.int r15)]) (st' := [.int r15, .int (gI s15 25 13), .long (gL s15 25 14), .ref 25]) (σ' := s15) (by decide +kernel) rfl rfl ?_
          refine g_callN (rest := [.long (gL s15 25 14), .ref 25]) [.int (gI s15 25 13), .int r15] hx hc mk_x_inside ln_5_217 (by decide +kernel) (by decide) (Nat.le_of_ble_eq_true rfl) (s_x_inside (ok_b h)) (fun r16 s16 h => ?_)
          refine g_run hx [(.lor, 0, 0), (.putfield 209, 0, 0), (.aload_n 0, 0, 0), (.getfield 37, 0, 0), (.iload 4, 0, 0), (.putfield 149, 0, 0), (.aload_n 0, 0, 0), (.getfield 37, 0, 0), (.getfield 220, 0, 0), (.iload_n 3, 0, 0)] (pc' := 171) (lo' := [some (.ref 1), some (.int r4), some (.int 0), some (.int r14), some (.int r15)]) (st' := [.int r14, .ref 32]) (σ' := sI (sL s16 25 14 ((gL s15 25 14) ||| r16)) 25 13 r15) (by decide +kernel) rfl rfl ?_
          refine g_callV (rest := []) [.int r14] hx hc mk_numbers_add ln_5_181 rfl (by decide +kernel) (by decide) (Nat.le_of_ble_eq_true rfl) (s_numbers_add_32 (ok_b h)) (fun r17 s17 h => ?_)
          refine g_run hx [(.iconst 1, 1, 0)] (pc' := 175) (lo' := [some (.ref 1), some (.int r4), some (.int 0), some (.int r14), some (.int r15)]) (st' := [.int 1]) (σ' := s17) (by decide +kernel) rfl rfl ?_
          exact g_zret (b := true) hx hr rfl true rfl (by decide +kernel) (ok_some h)
        · have h := ok_t h c120
          refine g_run hx [(.aload_n 0, 0, 0), (.bipush 7, 7, 0)] (pc' := 126) (lo' := [some (.ref 1), some (.int r4), some (.int 0), some (.int r14), some (.int r15)]) (st' := [.int 7, .ref 1]) (σ' := s15) (by decide +kernel) rfl rfl ?_
          refine g_callV (rest := []) [.int 7] hx hc mk_reader_fail ln_5_91 rfl (by decide +kernel) (by decide) (Nat.le_of_ble_eq_true rfl) (s_reader_fail (ok_b h)) (fun r18 s18 h => ?_)
          exact g_zret hx hr rfl _ rfl (by decide +kernel) (ok_some h)
    · have h := ok_t h c32
      refine g_run hx [(.aload_n 0, 0, 0), (.iconst 2, 2, 0)] (pc' := 37) (lo' := [some (.ref 1), some (.int r4), none, none, none]) (st' := [.int 2, .ref 1]) (σ' := s4) (by decide +kernel) rfl rfl ?_
      refine g_callV (rest := []) [.int 2] hx hc mk_reader_fail ln_5_91 rfl (by decide +kernel) (by decide) (Nat.le_of_ble_eq_true rfl) (s_reader_fail (ok_b h)) (fun r19 s19 h => ?_)
      exact g_zret hx hr rfl _ rfl (by decide +kernel) (ok_some h)
  · have h := ok_f h c9
    refine g_run hx [(.aload_n 0, 0, 0), (.iconst 1, 1, 0)] (pc' := 14) (lo' := [some (.ref 1), none, none, none, none]) (st' := [.int 1, .ref 1]) (σ' := s2) (by decide +kernel) rfl rfl ?_
    refine g_callV (rest := []) [.int 1] hx hc mk_reader_fail ln_5_91 rfl (by decide +kernel) (by decide) (Nat.le_of_ble_eq_true rfl) (s_reader_fail (ok_b h)) (fun r20 s20 h => ?_)
    exact g_zret hx hr rfl _ rfl (by decide +kernel) (ok_some h)
set_option maxRecDepth 100000 in
theorem s_numbers_at_34 {y : EX} {N : Nat} {v1 : Int32} {σ : Sg} {P : Int32 × Sg → Prop} (h : ok (f_numbers_at N 34 4 35 v1 σ) P) : Ev y M_numbers_at 0 [.ref 34, .int v1] σ rvI P := by
  refine Ev.of mk_numbers_at (Nat.le_of_ble_eq_true rfl) (fun x hx hc hr => ?_)
  have hx : Cx 3 prog_5_method_3_code x := hx
  have hc : Cc y 2 0 x := hc
  show G x 0 [some (.ref 34), some (.int v1)] [] σ
  unfold f_numbers_at at h
  refine g_run hx [(.iload_n 1, 0, 0)] (pc' := 1) (lo' := [some (.ref 34), some (.int v1)]) (st' := [.int v1]) (σ' := σ) (by decide +kernel) rfl rfl ?_
  refine g_if_lt hx (off := 29) (tgt := 30) (by decide +kernel) (by decide) (fun c1 => ?_) (fun c1 => ?_)
  · have h := ok_t h c1
    refine g_run hx [(.iconst (-1), (-1), 0)] (pc' := 31) (lo' := [some (.ref 34), some (.int v1)]) (st' := [.int (-1)]) (σ' := σ) (by decide +kernel) rfl rfl ?_
    exact g_iret hx hr rfl _ rfl (by decide +kernel) (ok_some h)
  · have h := ok_f h c1
    refine g_run hx [(.iload_n 1, 0, 0), (.aload_n 0, 0, 0), (.getfield 9, 0, 0)] (pc' := 9) (lo' := [some (.ref 34), some (.int v1)]) (st' := [.int (gI σ 34 1), .int v1]) (σ' := σ) (by decide +kernel) rfl rfl ?_
    refine g_ic_ge hx (off := 21) (tgt := 30) (by decide +kernel) (by decide) (fun c9 => ?_) (fun c9 => ?_)
    · have h := ok_t h c9
      refine g_run hx [(.iconst (-1), (-1), 0)] (pc' := 31) (lo' := [some (.ref 34), some (.int v1)]) (st' := [.int (-1)]) (σ' := σ) (by decide +kernel) rfl rfl ?_
      exact g_iret hx hr rfl _ rfl (by decide +kernel) (ok_some h)
    · have h := ok_f h c9
      refine g_run hx [(.iload_n 1, 0, 0), (.aload_n 0, 0, 0), (.getfield 21, 0, 0), (.arraylength, 0, 0)] (pc' := 18) (lo' := [some (.ref 34), some (.int v1)]) (st' := [.int (nI 4), .int v1]) (σ' := σ) (by decide +kernel) rfl rfl ?_
      refine g_ic_ge hx (off := 12) (tgt := 30) (by decide +kernel) (by decide) (fun c18 => ?_) (fun c18 => ?_)
      · have h := ok_t h c18
        refine g_run hx [(.iconst (-1), (-1), 0)] (pc' := 31) (lo' := [some (.ref 34), some (.int v1)]) (st' := [.int (-1)]) (σ' := σ) (by decide +kernel) rfl rfl ?_
        exact g_iret hx hr rfl _ rfl (by decide +kernel) (ok_some h)
      · have h := ok_f h c18
        refine g_run hx [(.aload_n 0, 0, 0), (.getfield 21, 0, 0), (.iload_n 1, 0, 0)] (pc' := 26) (lo' := [some (.ref 34), some (.int v1)]) (st' := [.int v1, .ref 35]) (σ' := σ) (by decide +kernel) rfl rfl ?_
        obtain ⟨c26, h⟩ := ok_g h
        refine g_iald hx (by decide +kernel) (i := 35) (n := 4) rfl c26 ?_
        refine g_goto hx (off := 4) (tgt := 31) (by decide +kernel) (by decide) ?_
        exact g_iret hx hr rfl _ rfl (by decide +kernel) (ok_some h)
set_option maxRecDepth 100000 in
theorem s_numbers_indexOf_34_L2 {y : EX} {N : Nat} {x : CX} {P : Int32 × Sg → Prop} (hx : Cx 3 prog_5_method_4_code x) (hc : Cc y 3 1 x) (hr : Cr M_numbers_indexOf rvI P x) : ∀ (n : Nat) (v1 : Int32) (v2 : Int32) (σ : Sg), ok (f_numbers_indexOf_L2 N 34 4 35 n v1 v2 σ) P → G x 2 [some (.ref 34), some (.int v1), some (.int v2)] [] σ := by
  intro n
  induction n with
  | zero => intro v1 v2 σ h; exact ok_none h
  | succ n ih =>
    intro v1 v2 σ h
    rw [f_numbers_indexOf_L2] at h
    refine g_run hx [(.iload_n 2, 0, 0), (.aload_n 0, 0, 0), (.getfield 9, 0, 0)] (pc' := 7) (lo' := [some (.ref 34), some (.int v1), some (.int v2)]) (st' := [.int (gI σ 34 1), .int v2]) (σ' := σ) (by decide +kernel) rfl rfl ?_
    refine g_ic_ge hx (off := 20) (tgt := 27) (by decide +kernel) (by decide) (fun c7 => ?_) (fun c7 => ?_)
    · have h := ok_t h c7
      refine g_run hx [(.bipush (-2), (-2), 0)] (pc' := 29) (lo' := [some (.ref 34), some (.int v1), some (.int v2)]) (st' := [.int (-2)]) (σ' := σ) (by decide +kernel) rfl rfl ?_
      exact g_iret hx hr rfl _ rfl (by decide +kernel) (ok_some h)
    · have h := ok_f h c7
      refine g_run hx [(.aload_n 0, 0, 0), (.iload_n 2, 0, 0)] (pc' := 12) (lo' := [some (.ref 34), some (.int v1), some (.int v2)]) (st' := [.int v2, .ref 34]) (σ' := σ) (by decide +kernel) rfl rfl ?_
      refine g_callV (rest := []) [.int v2] hx hc mk_numbers_at ln_3_25 rfl (by decide +kernel) (by decide) (Nat.le_of_ble_eq_true rfl) (s_numbers_at_34 (ok_b h)) (fun r1 s1 h => ?_)
      refine g_run hx [(.iload_n 1, 0, 0)] (pc' := 16) (lo' := [some (.ref 34), some (.int v1), some (.int v2)]) (st' := [.int v1, .int r1]) (σ' := s1) (by decide +kernel) rfl rfl ?_
      refine g_ic_ne hx (off := 5) (tgt := 21) (by decide +kernel) (by decide) (fun c16 => ?_) (fun c16 => ?_)
      · have h := ok_f h c16
        refine g_run hx [(.iinc 2 1, 1, 0)] (pc' := 24) (lo' := [some (.ref 34), some (.int v1), some (.int (v2 + 1))]) (st' := []) (σ' := s1) (by decide +kernel) rfl rfl ?_
        refine g_goto hx (off := (-22)) (tgt := 2) (by decide +kernel) (by decide) ?_
        exact ih _ _ _ h
      · have h := ok_t h c16
        refine g_run hx [(.iload_n 2, 0, 0)] (pc' := 20) (lo' := [some (.ref 34), some (.int v1), some (.int v2)]) (st' := [.int v2]) (σ' := s1) (by decide +kernel) rfl rfl ?_
        exact g_iret hx hr rfl _ rfl (by decide +kernel) (ok_some h)
set_option maxRecDepth 100000 in
theorem s_numbers_indexOf_34 {y : EX} {N : Nat} {v1 : Int32} {σ : Sg} {P : Int32 × Sg → Prop} (h : ok (f_numbers_indexOf N 34 4 35 v1 σ) P) : Ev y M_numbers_indexOf 1 [.ref 34, .int v1] σ rvI P := by
  refine Ev.of mk_numbers_indexOf (Nat.le_of_ble_eq_true rfl) (fun x hx hc hr => ?_)
  have hx : Cx 3 prog_5_method_4_code x := hx
  have hc : Cc y 3 1 x := hc
  show G x 0 [some (.ref 34), some (.int v1), none] [] σ
  unfold f_numbers_indexOf at h
  refine g_run hx [(.iconst 0, 0, 0), (.istore_n 2, 0, 0)] (pc' := 2) (lo' := [some (.ref 34), some (.int v1), some (.int 0)]) (st' := []) (σ' := σ) (by decide +kernel) rfl rfl ?_
  refine s_numbers_indexOf_34_L2 hx hc hr N _ _ _ h
set_option maxRecDepth 100000 in
theorem s_numbers_add_34 {y : EX} {N : Nat} {v1 : Int32} {σ : Sg} {P : Unit × Sg → Prop} (h : ok (f_numbers_add N 34 4 35 v1 σ) P) : Ev y M_numbers_add 0 [.ref 34, .int v1] σ rvN P := by
  refine Ev.of mk_numbers_add (Nat.le_of_ble_eq_true rfl) (fun x hx hc hr => ?_)
  have hx : Cx 3 prog_5_method_2_code x := hx
  have hc : Cc y 2 0 x := hc
  show G x 0 [some (.ref 34), some (.int v1)] [] σ
  unfold f_numbers_add at h
  refine g_run hx [(.aload_n 0, 0, 0), (.getfield 9, 0, 0)] (pc' := 4) (lo' := [some (.ref 34), some (.int v1)]) (st' := [.int (gI σ 34 1)]) (σ' := σ) (by decide +kernel) rfl rfl ?_
  refine g_if_lt hx (off := 35) (tgt := 39) (by decide +kernel) (by decide) (fun c4 => ?_) (fun c4 => ?_)
  · have h := ok_t h c4
    exact g_vret hx hr rfl () rfl (by decide +kernel) (ok_some h)
  · have h := ok_f h c4
    refine g_run hx [(.aload_n 0, 0, 0), (.getfield 9, 0, 0), (.aload_n 0, 0, 0), (.getfield 21, 0, 0), (.arraylength, 0, 0)] (pc' := 16) (lo' := [some (.ref 34), some (.int v1)]) (st' := [.int (nI 4), .int (gI σ 34 1)]) (σ' := σ) (by decide +kernel) rfl rfl ?_
    refine g_ic_ge hx (off := 23) (tgt := 39) (by decide +kernel) (by decide) (fun c16 => ?_) (fun c16 => ?_)
    · have h := ok_t h c16
      exact g_vret hx hr rfl () rfl (by decide +kernel) (ok_some h)
    · have h := ok_f h c16
      refine g_run hx [(.aload_n 0, 0, 0), (.getfield 21, 0, 0), (.aload_n 0, 0, 0), (.getfield 9, 0, 0), (.iload_n 1, 0, 0)] (pc' := 28) (lo' := [some (.ref 34), some (.int v1)]) (st' := [.int v1, .int (gI σ 34 1), .ref 35]) (σ' := σ) (by decide +kernel) rfl rfl ?_
      obtain ⟨c28, h⟩ := ok_g h
      refine g_iast hx (by decide +kernel) (i := 35) (n := 4) rfl c28 ?_
      refine g_run hx [(.aload_n 0, 0, 0), (.dup, 0, 0), (.getfield 9, 0, 0), (.iconst 1, 1, 0), (.iadd, 0, 0), (.putfield 9, 0, 0)] (pc' := 39) (lo' := [some (.ref 34), some (.int v1)]) (st' := []) (σ' := sI (sA σ 35 (gI σ 34 1) v1) 34 1 ((gI (sA σ 35 (gI σ 34 1) v1) 34 1) + 1)) (by decide +kernel) rfl rfl ?_
      exact g_vret hx hr rfl () rfl (by decide +kernel) (ok_some h)
def f_reader_readUnsure (N : Nat) (σ : Sg) : Option (Bool × Sg) :=
  (f_reader_expectWhole N 1 (gI σ 32 1) σ).bind fun q1 =>
  if q1.1 = true then
    (f_numbers_indexOf N 34 4 35 ((gI q1.2 1 6) - 1) q1.2).bind fun q2 =>
    if q2.1 = (-2) then
      (f_numbers_add N 34 4 35 ((gI q2.2 1 6) - 1) q2.2).bind fun q3 =>
      some (true, q3.2)
    else
      (f_reader_fail N 3 q2.2).bind fun q4 =>
      some (q4.1, q4.2)
  else
    some (false, q1.2)
set_option maxRecDepth 100000 in
theorem s_reader_readUnsure {y : EX} {N : Nat} {σ : Sg} {P : Bool × Sg → Prop} (h : ok (f_reader_readUnsure N σ) P) : Ev y M_reader_readUnsure 3 [.ref 1] σ rvB P := by
  refine Ev.of mk_reader_readUnsure (Nat.le_of_ble_eq_true rfl) (fun x hx hc hr => ?_)
  have hx : Cx 5 prog_7_method_13_code x := hx
  have hc : Cc y 1 3 x := hc
  show G x 0 [some (.ref 1)] [] σ
  unfold f_reader_readUnsure at h
  refine g_run hx [(.aload_n 0, 0, 0), (.iconst 1, 1, 0), (.aload_n 0, 0, 0), (.getfield 37, 0, 0), (.getfield 220, 0, 0), (.getfield 88, 0, 0)] (pc' := 12) (lo' := [some (.ref 1)]) (st' := [.int (gI σ 32 1), .int 1, .ref 1]) (σ' := σ) (by decide +kernel) rfl rfl ?_
  refine g_callV (rest := []) [.int 1, .int (gI σ 32 1)] hx hc mk_reader_expectWhole ln_5_135 rfl (by decide +kernel) (by decide) (Nat.le_of_ble_eq_true rfl) (s_reader_expectWhole (ok_b h)) (fun r1 s1 h => ?_)
  refine g_ifb_ne hx (off := 5) (tgt := 20) (by decide +kernel) (by decide) (fun c15 => ?_) (fun c15 => ?_)
  · have h := ok_t h c15
    refine g_run hx [(.aload_n 0, 0, 0), (.getfield 37, 0, 0), (.getfield 223, 0, 0), (.aload_n 0, 0, 0), (.getfield 31, 0, 0), (.iconst 1, 1, 0), (.isub, 0, 0)] (pc' := 33) (lo' := [some (.ref 1)]) (st' := [.int ((gI s1 1 6) - 1), .ref 34]) (σ' := s1) (by decide +kernel) rfl rfl ?_
    refine g_callV (rest := []) [.int ((gI s1 1 6) - 1)] hx hc mk_numbers_indexOf ln_5_226 rfl (by decide +kernel) (by decide) (Nat.le_of_ble_eq_true rfl) (s_numbers_indexOf_34 (ok_b h)) (fun r2 s2 h => ?_)
    refine g_run hx [(.bipush (-2), (-2), 0)] (pc' := 38) (lo' := [some (.ref 1)]) (st' := [.int (-2), .int r2]) (σ' := s2) (by decide +kernel) rfl rfl ?_
    refine g_ic_eq hx (off := 9) (tgt := 47) (by decide +kernel) (by decide) (fun c38 => ?_) (fun c38 => ?_)
    · have h := ok_t h c38
      refine g_run hx [(.aload_n 0, 0, 0), (.getfield 37, 0, 0), (.getfield 223, 0, 0), (.aload_n 0, 0, 0), (.getfield 31, 0, 0), (.iconst 1, 1, 0), (.isub, 0, 0)] (pc' := 60) (lo' := [some (.ref 1)]) (st' := [.int ((gI s2 1 6) - 1), .ref 34]) (σ' := s2) (by decide +kernel) rfl rfl ?_
      refine g_callV (rest := []) [.int ((gI s2 1 6) - 1)] hx hc mk_numbers_add ln_5_181 rfl (by decide +kernel) (by decide) (Nat.le_of_ble_eq_true rfl) (s_numbers_add_34 (ok_b h)) (fun r3 s3 h => ?_)
      refine g_run hx [(.iconst 1, 1, 0)] (pc' := 64) (lo' := [some (.ref 1)]) (st' := [.int 1]) (σ' := s3) (by decide +kernel) rfl rfl ?_
      exact g_zret (b := true) hx hr rfl true rfl (by decide +kernel) (ok_some h)
    · have h := ok_f h c38
      refine g_run hx [(.aload_n 0, 0, 0), (.iconst 3, 3, 0)] (pc' := 43) (lo' := [some (.ref 1)]) (st' := [.int 3, .ref 1]) (σ' := s2) (by decide +kernel) rfl rfl ?_
      refine g_callV (rest := []) [.int 3] hx hc mk_reader_fail ln_5_91 rfl (by decide +kernel) (by decide) (Nat.le_of_ble_eq_true rfl) (s_reader_fail (ok_b h)) (fun r4 s4 h => ?_)
      exact g_zret hx hr rfl _ rfl (by decide +kernel) (ok_some h)
  · have h := ok_f h c15
    refine g_run hx [(.iconst 0, 0, 0)] (pc' := 19) (lo' := [some (.ref 1)]) (st' := [.int 0]) (σ' := s1) (by decide +kernel) rfl rfl ?_
    exact g_zret (b := false) hx hr rfl false rfl (by decide +kernel) (ok_some h)
set_option maxRecDepth 100000 in
theorem s_numbers_at_36 {y : EX} {N : Nat} {v1 : Int32} {σ : Sg} {P : Int32 × Sg → Prop} (h : ok (f_numbers_at N 36 6 37 v1 σ) P) : Ev y M_numbers_at 0 [.ref 36, .int v1] σ rvI P := by
  refine Ev.of mk_numbers_at (Nat.le_of_ble_eq_true rfl) (fun x hx hc hr => ?_)
  have hx : Cx 3 prog_5_method_3_code x := hx
  have hc : Cc y 2 0 x := hc
  show G x 0 [some (.ref 36), some (.int v1)] [] σ
  unfold f_numbers_at at h
  refine g_run hx [(.iload_n 1, 0, 0)] (pc' := 1) (lo' := [some (.ref 36), some (.int v1)]) (st' := [.int v1]) (σ' := σ) (by decide +kernel) rfl rfl ?_
  refine g_if_lt hx (off := 29) (tgt := 30) (by decide +kernel) (by decide) (fun c1 => ?_) (fun c1 => ?_)
  · have h := ok_t h c1
    refine g_run hx [(.iconst (-1), (-1), 0)] (pc' := 31) (lo' := [some (.ref 36), some (.int v1)]) (st' := [.int (-1)]) (σ' := σ) (by decide +kernel) rfl rfl ?_
    exact g_iret hx hr rfl _ rfl (by decide +kernel) (ok_some h)
  · have h := ok_f h c1
    refine g_run hx [(.iload_n 1, 0, 0), (.aload_n 0, 0, 0), (.getfield 9, 0, 0)] (pc' := 9) (lo' := [some (.ref 36), some (.int v1)]) (st' := [.int (gI σ 36 1), .int v1]) (σ' := σ) (by decide +kernel) rfl rfl ?_
    refine g_ic_ge hx (off := 21) (tgt := 30) (by decide +kernel) (by decide) (fun c9 => ?_) (fun c9 => ?_)
    · have h := ok_t h c9
      refine g_run hx [(.iconst (-1), (-1), 0)] (pc' := 31) (lo' := [some (.ref 36), some (.int v1)]) (st' := [.int (-1)]) (σ' := σ) (by decide +kernel) rfl rfl ?_
      exact g_iret hx hr rfl _ rfl (by decide +kernel) (ok_some h)
    · have h := ok_f h c9
      refine g_run hx [(.iload_n 1, 0, 0), (.aload_n 0, 0, 0), (.getfield 21, 0, 0), (.arraylength, 0, 0)] (pc' := 18) (lo' := [some (.ref 36), some (.int v1)]) (st' := [.int (nI 6), .int v1]) (σ' := σ) (by decide +kernel) rfl rfl ?_
      refine g_ic_ge hx (off := 12) (tgt := 30) (by decide +kernel) (by decide) (fun c18 => ?_) (fun c18 => ?_)
      · have h := ok_t h c18
        refine g_run hx [(.iconst (-1), (-1), 0)] (pc' := 31) (lo' := [some (.ref 36), some (.int v1)]) (st' := [.int (-1)]) (σ' := σ) (by decide +kernel) rfl rfl ?_
        exact g_iret hx hr rfl _ rfl (by decide +kernel) (ok_some h)
      · have h := ok_f h c18
        refine g_run hx [(.aload_n 0, 0, 0), (.getfield 21, 0, 0), (.iload_n 1, 0, 0)] (pc' := 26) (lo' := [some (.ref 36), some (.int v1)]) (st' := [.int v1, .ref 37]) (σ' := σ) (by decide +kernel) rfl rfl ?_
        obtain ⟨c26, h⟩ := ok_g h
        refine g_iald hx (by decide +kernel) (i := 37) (n := 6) rfl c26 ?_
        refine g_goto hx (off := 4) (tgt := 31) (by decide +kernel) (by decide) ?_
        exact g_iret hx hr rfl _ rfl (by decide +kernel) (ok_some h)
set_option maxRecDepth 100000 in
theorem s_numbers_indexOf_36_L2 {y : EX} {N : Nat} {x : CX} {P : Int32 × Sg → Prop} (hx : Cx 3 prog_5_method_4_code x) (hc : Cc y 3 1 x) (hr : Cr M_numbers_indexOf rvI P x) : ∀ (n : Nat) (v1 : Int32) (v2 : Int32) (σ : Sg), ok (f_numbers_indexOf_L2 N 36 6 37 n v1 v2 σ) P → G x 2 [some (.ref 36), some (.int v1), some (.int v2)] [] σ := by
  intro n
  induction n with
  | zero => intro v1 v2 σ h; exact ok_none h
  | succ n ih =>
    intro v1 v2 σ h
    rw [f_numbers_indexOf_L2] at h
    refine g_run hx [(.iload_n 2, 0, 0), (.aload_n 0, 0, 0), (.getfield 9, 0, 0)] (pc' := 7) (lo' := [some (.ref 36), some (.int v1), some (.int v2)]) (st' := [.int (gI σ 36 1), .int v2]) (σ' := σ) (by decide +kernel) rfl rfl ?_
    refine g_ic_ge hx (off := 20) (tgt := 27) (by decide +kernel) (by decide) (fun c7 => ?_) (fun c7 => ?_)
    · have h := ok_t h c7
      refine g_run hx [(.bipush (-2), (-2), 0)] (pc' := 29) (lo' := [some (.ref 36), some (.int v1), some (.int v2)]) (st' := [.int (-2)]) (σ' := σ) (by decide +kernel) rfl rfl ?_
      exact g_iret hx hr rfl _ rfl (by decide +kernel) (ok_some h)
    · have h := ok_f h c7
      refine g_run hx [(.aload_n 0, 0, 0), (.iload_n 2, 0, 0)] (pc' := 12) (lo' := [some (.ref 36), some (.int v1), some (.int v2)]) (st' := [.int v2, .ref 36]) (σ' := σ) (by decide +kernel) rfl rfl ?_
      refine g_callV (rest := []) [.int v2] hx hc mk_numbers_at ln_3_25 rfl (by decide +kernel) (by decide) (Nat.le_of_ble_eq_true rfl) (s_numbers_at_36 (ok_b h)) (fun r1 s1 h => ?_)
      refine g_run hx [(.iload_n 1, 0, 0)] (pc' := 16) (lo' := [some (.ref 36), some (.int v1), some (.int v2)]) (st' := [.int v1, .int r1]) (σ' := s1) (by decide +kernel) rfl rfl ?_
      refine g_ic_ne hx (off := 5) (tgt := 21) (by decide +kernel) (by decide) (fun c16 => ?_) (fun c16 => ?_)
      · have h := ok_f h c16
        refine g_run hx [(.iinc 2 1, 1, 0)] (pc' := 24) (lo' := [some (.ref 36), some (.int v1), some (.int (v2 + 1))]) (st' := []) (σ' := s1) (by decide +kernel) rfl rfl ?_
        refine g_goto hx (off := (-22)) (tgt := 2) (by decide +kernel) (by decide) ?_
        exact ih _ _ _ h
      · have h := ok_t h c16
        refine g_run hx [(.iload_n 2, 0, 0)] (pc' := 20) (lo' := [some (.ref 36), some (.int v1), some (.int v2)]) (st' := [.int v2]) (σ' := s1) (by decide +kernel) rfl rfl ?_
        exact g_iret hx hr rfl _ rfl (by decide +kernel) (ok_some h)
set_option maxRecDepth 100000 in
theorem s_numbers_indexOf_36 {y : EX} {N : Nat} {v1 : Int32} {σ : Sg} {P : Int32 × Sg → Prop} (h : ok (f_numbers_indexOf N 36 6 37 v1 σ) P) : Ev y M_numbers_indexOf 1 [.ref 36, .int v1] σ rvI P := by
  refine Ev.of mk_numbers_indexOf (Nat.le_of_ble_eq_true rfl) (fun x hx hc hr => ?_)
  have hx : Cx 3 prog_5_method_4_code x := hx
  have hc : Cc y 3 1 x := hc
  show G x 0 [some (.ref 36), some (.int v1), none] [] σ
  unfold f_numbers_indexOf at h
  refine g_run hx [(.iconst 0, 0, 0), (.istore_n 2, 0, 0)] (pc' := 2) (lo' := [some (.ref 36), some (.int v1), some (.int 0)]) (st' := []) (σ' := σ) (by decide +kernel) rfl rfl ?_
  refine s_numbers_indexOf_36_L2 hx hc hr N _ _ _ h
