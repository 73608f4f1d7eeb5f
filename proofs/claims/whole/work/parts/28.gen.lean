def f_m_son (N : Nat) (σ : Sg) : Option (Int32 × Sg) :=
  (f_m_anew N σ).bind fun q1 =>
  if (gI q1.2 66 14) = 0 then
    (f_m_no N 1 q1.2).bind fun q2 =>
    some (q2.1, q2.2)
  else
    some ((gA q1.2 74 60), q1.2)
set_option maxRecDepth 100000 in
theorem s_m_son {y : EX} {N : Nat} {σ : Sg} {P : Int32 × Sg → Prop} (h : ok (f_m_son N σ) P) : Ev y M_m_son 1 [.ref 66] σ rvI P := by
  refine Ev.of mk_m_son (Nat.le_of_ble_eq_true rfl) (fun x hx hc hr => ?_)
  have hx : Cx 10 prog_12_method_56_code x := hx
  have hc : Cc y 1 1 x := hc
  show G x 0 [some (.ref 66)] [] σ
  unfold f_m_son at h
  refine g_run hx [(.aload_n 0, 0, 0)] (pc' := 1) (lo' := [some (.ref 66)]) (st' := [.ref 66]) (σ' := σ) (by decide +kernel) rfl rfl ?_
  refine g_callV (rest := []) [] hx hc mk_m_anew ln_10_174 rfl (by decide +kernel) (by decide) (Nat.le_of_ble_eq_true rfl) (s_m_anew (ok_b h)) (fun r1 s1 h => ?_)
  refine g_run hx [(.aload_n 0, 0, 0), (.getfield 187, 0, 0)] (pc' := 8) (lo' := [some (.ref 66)]) (st' := [.int (gI s1 66 14)]) (σ' := s1) (by decide +kernel) rfl rfl ?_
  refine g_if_eq hx (off := 13) (tgt := 21) (by decide +kernel) (by decide) (fun c8 => ?_) (fun c8 => ?_)
  · have h := ok_t h c8
    refine g_run hx [(.aload_n 0, 0, 0), (.iconst 1, 1, 0)] (pc' := 23) (lo' := [some (.ref 66)]) (st' := [.int 1, .ref 66]) (σ' := s1) (by decide +kernel) rfl rfl ?_
    refine g_callV (rest := []) [.int 1] hx hc mk_m_no ln_10_177 rfl (by decide +kernel) (by decide) (Nat.le_of_ble_eq_true rfl) (s_m_no (ok_b h)) (fun r2 s2 h => ?_)
    exact g_iret hx hr rfl _ rfl (by decide +kernel) (ok_some h)
  · have h := ok_f h c8
    refine g_run hx [(.aload_n 0, 0, 0), (.getfield 35, 0, 0), (.bipush 60, 60, 0), (.iaload, 0, 0)] (pc' := 18) (lo' := [some (.ref 66)]) (st' := [.int (gA s1 74 60)]) (σ' := s1) (by decide +kernel) rfl rfl ?_
    refine g_goto hx (off := 8) (tgt := 26) (by decide +kernel) (by decide) ?_
    exact g_iret hx hr rfl _ rfl (by decide +kernel) (ok_some h)
def f_m_spare (N : Nat) (v1 : Int32) (σ : Sg) : Option (Int32 × Sg) :=
  (f_m_anew N σ).bind fun q1 =>
  (f_m_isCell N v1 q1.2).bind fun q2 =>
  if q2.1 = true then
    (f_m_seekRows N v1 5 q2.2).bind fun q3 =>
    if 0 ≤ (gI q3.2 66 39) then
      (f_m_lostOn N 69 189 63 74 q3.2).bind fun q4 =>
      some (((gI q3.2 66 38) - q4.1), q4.2)
    else
      some ((-2), q3.2)
  else
    (f_m_no N 1 q2.2).bind fun q5 =>
    some (q5.1, q5.2)
set_option maxRecDepth 100000 in
theorem s_m_spare {y : EX} {N : Nat} {v1 : Int32} {σ : Sg} {P : Int32 × Sg → Prop} (h : ok (f_m_spare N v1 σ) P) : Ev y M_m_spare 18 [.ref 66, .int v1] σ rvI P := by
  refine Ev.of mk_m_spare (Nat.le_of_ble_eq_true rfl) (fun x hx hc hr => ?_)
  have hx : Cx 10 prog_12_method_86_code x := hx
  have hc : Cc y 2 18 x := hc
  show G x 0 [some (.ref 66), some (.int v1)] [] σ
  unfold f_m_spare at h
  refine g_run hx [(.aload_n 0, 0, 0)] (pc' := 1) (lo' := [some (.ref 66), some (.int v1)]) (st' := [.ref 66]) (σ' := σ) (by decide +kernel) rfl rfl ?_
  refine g_callV (rest := []) [] hx hc mk_m_anew ln_10_174 rfl (by decide +kernel) (by decide) (Nat.le_of_ble_eq_true rfl) (s_m_anew (ok_b h)) (fun r1 s1 h => ?_)
  refine g_run hx [(.aload_n 0, 0, 0), (.iload_n 1, 0, 0)] (pc' := 6) (lo' := [some (.ref 66), some (.int v1)]) (st' := [.int v1, .ref 66]) (σ' := s1) (by decide +kernel) rfl rfl ?_
  refine g_callV (rest := []) [.int v1] hx hc mk_m_isCell ln_10_279 rfl (by decide +kernel) (by decide) (Nat.le_of_ble_eq_true rfl) (s_m_isCell (ok_b h)) (fun r2 s2 h => ?_)
  refine g_ifb_ne hx (off := 9) (tgt := 18) (by decide +kernel) (by decide) (fun c9 => ?_) (fun c9 => ?_)
  · have h := ok_t h c9
    refine g_run hx [(.aload_n 0, 0, 0), (.iload_n 1, 0, 0), (.iconst 5, 5, 0)] (pc' := 21) (lo' := [some (.ref 66), some (.int v1)]) (st' := [.int 5, .int v1, .ref 66]) (σ' := s2) (by decide +kernel) rfl rfl ?_
    refine g_callV (rest := []) [.int v1, .int 5] hx hc mk_m_seekRows ln_10_353 rfl (by decide +kernel) (by decide) (Nat.le_of_ble_eq_true rfl) (s_m_seekRows (ok_b h)) (fun r3 s3 h => ?_)
    refine g_run hx [(.aload_n 0, 0, 0), (.getfield 338, 0, 0)] (pc' := 28) (lo' := [some (.ref 66), some (.int v1)]) (st' := [.int (gI s3 66 39)]) (σ' := s3) (by decide +kernel) rfl rfl ?_
    refine g_if_ge hx (off := 8) (tgt := 36) (by decide +kernel) (by decide) (fun c28 => ?_) (fun c28 => ?_)
    · have h := ok_t h c28
      refine g_run hx [(.aload_n 0, 0, 0), (.getfield 341, 0, 0), (.aload_n 0, 0, 0), (.aload_n 0, 0, 0), (.getfield 35, 0, 0)] (pc' := 45) (lo' := [some (.ref 66), some (.int v1)]) (st' := [.ref 74, .ref 66, .int (gI s3 66 38)]) (σ' := s3) (by decide +kernel) rfl rfl ?_
      refine g_callV (rest := [.int (gI s3 66 38)]) [.ref 74] hx hc mk_m_lostOn ln_10_294 rfl (by decide +kernel) (by decide) (Nat.le_of_ble_eq_true rfl) (s_m_lostOn_66_74 (ok_b h)) (fun r4 s4 h => ?_)
      refine g_run hx [(.isub, 0, 0)] (pc' := 49) (lo' := [some (.ref 66), some (.int v1)]) (st' := [.int ((gI s3 66 38) - r4)]) (σ' := s4) (by decide +kernel) rfl rfl ?_
      exact g_iret hx hr rfl _ rfl (by decide +kernel) (ok_some h)
    · have h := ok_f h c28
      refine g_run hx [(.bipush (-2), (-2), 0)] (pc' := 33) (lo' := [some (.ref 66), some (.int v1)]) (st' := [.int (-2)]) (σ' := s3) (by decide +kernel) rfl rfl ?_
      refine g_goto hx (off := 16) (tgt := 49) (by decide +kernel) (by decide) ?_
      exact g_iret hx hr rfl _ rfl (by decide +kernel) (ok_some h)
  · have h := ok_f h c9
    refine g_run hx [(.aload_n 0, 0, 0), (.iconst 1, 1, 0)] (pc' := 14) (lo' := [some (.ref 66), some (.int v1)]) (st' := [.int 1, .ref 66]) (σ' := s2) (by decide +kernel) rfl rfl ?_
    refine g_callV (rest := []) [.int 1] hx hc mk_m_no ln_10_177 rfl (by decide +kernel) (by decide) (Nat.le_of_ble_eq_true rfl) (s_m_no (ok_b h)) (fun r5 s5 h => ?_)
    exact g_iret hx hr rfl _ rfl (by decide +kernel) (ok_some h)
def f_m_spareRow (N : Nat) (v1 : Int32) (σ : Sg) : Option (Int32 × Sg) :=
  (f_m_anew N σ).bind fun q1 =>
  (f_m_isCell N v1 q1.2).bind fun q2 =>
  if q2.1 = true then
    (f_m_seekRows N v1 5 q2.2).bind fun q3 =>
    if 0 ≤ (gI q3.2 66 39) then
      some ((gI q3.2 66 39), q3.2)
    else
      some ((-2), q3.2)
  else
    (f_m_no N 1 q2.2).bind fun q4 =>
    some (q4.1, q4.2)
set_option maxRecDepth 100000 in
theorem s_m_spareRow {y : EX} {N : Nat} {v1 : Int32} {σ : Sg} {P : Int32 × Sg → Prop} (h : ok (f_m_spareRow N v1 σ) P) : Ev y M_m_spareRow 18 [.ref 66, .int v1] σ rvI P := by
  refine Ev.of mk_m_spareRow (Nat.le_of_ble_eq_true rfl) (fun x hx hc hr => ?_)
  have hx : Cx 10 prog_12_method_87_code x := hx
  have hc : Cc y 2 18 x := hc
  show G x 0 [some (.ref 66), some (.int v1)] [] σ
  unfold f_m_spareRow at h
  refine g_run hx [(.aload_n 0, 0, 0)] (pc' := 1) (lo' := [some (.ref 66), some (.int v1)]) (st' := [.ref 66]) (σ' := σ) (by decide +kernel) rfl rfl ?_
  refine g_callV (rest := []) [] hx hc mk_m_anew ln_10_174 rfl (by decide +kernel) (by decide) (Nat.le_of_ble_eq_true rfl) (s_m_anew (ok_b h)) (fun r1 s1 h => ?_)
  refine g_run hx [(.aload_n 0, 0, 0), (.iload_n 1, 0, 0)] (pc' := 6) (lo' := [some (.ref 66), some (.int v1)]) (st' := [.int v1, .ref 66]) (σ' := s1) (by decide +kernel) rfl rfl ?_
  refine g_callV (rest := []) [.int v1] hx hc mk_m_isCell ln_10_279 rfl (by decide +kernel) (by decide) (Nat.le_of_ble_eq_true rfl) (s_m_isCell (ok_b h)) (fun r2 s2 h => ?_)
  refine g_ifb_ne hx (off := 9) (tgt := 18) (by decide +kernel) (by decide) (fun c9 => ?_) (fun c9 => ?_)
  · have h := ok_t h c9
    refine g_run hx [(.aload_n 0, 0, 0), (.iload_n 1, 0, 0), (.iconst 5, 5, 0)] (pc' := 21) (lo' := [some (.ref 66), some (.int v1)]) (st' := [.int 5, .int v1, .ref 66]) (σ' := s2) (by decide +kernel) rfl rfl ?_
    refine g_callV (rest := []) [.int v1, .int 5] hx hc mk_m_seekRows ln_10_353 rfl (by decide +kernel) (by decide) (Nat.le_of_ble_eq_true rfl) (s_m_seekRows (ok_b h)) (fun r3 s3 h => ?_)
    refine g_run hx [(.aload_n 0, 0, 0), (.getfield 338, 0, 0)] (pc' := 28) (lo' := [some (.ref 66), some (.int v1)]) (st' := [.int (gI s3 66 39)]) (σ' := s3) (by decide +kernel) rfl rfl ?_
    refine g_if_ge hx (off := 8) (tgt := 36) (by decide +kernel) (by decide) (fun c28 => ?_) (fun c28 => ?_)
    · have h := ok_t h c28
      refine g_run hx [(.aload_n 0, 0, 0), (.getfield 338, 0, 0)] (pc' := 40) (lo' := [some (.ref 66), some (.int v1)]) (st' := [.int (gI s3 66 39)]) (σ' := s3) (by decide +kernel) rfl rfl ?_
      exact g_iret hx hr rfl _ rfl (by decide +kernel) (ok_some h)
    · have h := ok_f h c28
      refine g_run hx [(.bipush (-2), (-2), 0)] (pc' := 33) (lo' := [some (.ref 66), some (.int v1)]) (st' := [.int (-2)]) (σ' := s3) (by decide +kernel) rfl rfl ?_
      refine g_goto hx (off := 7) (tgt := 40) (by decide +kernel) (by decide) ?_
      exact g_iret hx hr rfl _ rfl (by decide +kernel) (ok_some h)
  · have h := ok_f h c9
    refine g_run hx [(.aload_n 0, 0, 0), (.iconst 1, 1, 0)] (pc' := 14) (lo' := [some (.ref 66), some (.int v1)]) (st' := [.int 1, .ref 66]) (σ' := s2) (by decide +kernel) rfl rfl ?_
    refine g_callV (rest := []) [.int 1] hx hc mk_m_no ln_10_177 rfl (by decide +kernel) (by decide) (Nat.le_of_ble_eq_true rfl) (s_m_no (ok_b h)) (fun r4 s4 h => ?_)
    exact g_iret hx hr rfl _ rfl (by decide +kernel) (ok_some h)
def f_m_stepOn (N : Nat) (a0 : Nat) (a1 : Nat) (a2 : Nat) (v2 : Int32) (σ : Sg) : Option (Bool × Sg) :=
  if v2 = 0 then
    (f_m_in N ((gA σ a0 61) + 1) 0 ((gA σ a1 0) - 1) σ).bind fun q2 =>
    if q2.1 = true then
      if vin ((gA σ a0 61) + 1) a2 then
      if (gA (sA q2.2 a0 61 ((gA σ a0 61) + 1)) a0 ((gA σ a0 61) + 1)) ≤ 0 then
        some (true, sA q2.2 a0 61 ((gA σ a0 61) + 1))
      else
        if vin ((gA σ a0 61) + 1) a2 then
        if vin ((gA σ a0 61) + 1) a2 then
        some (true, sA (sA q2.2 a0 61 ((gA σ a0 61) + 1)) a0 ((gA σ a0 61) + 1) ((gA (sA q2.2 a0 61 ((gA σ a0 61) + 1)) a0 ((gA σ a0 61) + 1)) - 1))
        else none
        else none
      else none
    else
      some (false, q2.2)
  else
    (f_m_in N ((gA σ a0 61) + (-1)) 0 ((gA σ a1 0) - 1) σ).bind fun q1 =>
    if q1.1 = true then
      if vin ((gA σ a0 61) + (-1)) a2 then
      if (gA (sA q1.2 a0 61 ((gA σ a0 61) + (-1))) a0 ((gA σ a0 61) + (-1))) ≤ 0 then
        some (true, sA q1.2 a0 61 ((gA σ a0 61) + (-1)))
      else
        if vin ((gA σ a0 61) + (-1)) a2 then
        if vin ((gA σ a0 61) + (-1)) a2 then
        some (true, sA (sA q1.2 a0 61 ((gA σ a0 61) + (-1))) a0 ((gA σ a0 61) + (-1)) ((gA (sA q1.2 a0 61 ((gA σ a0 61) + (-1))) a0 ((gA σ a0 61) + (-1))) - 1))
        else none
        else none
      else none
    else
      some (false, q1.2)
set_option maxRecDepth 100000 in
theorem s_m_stepOn_66_74 {y : EX} {N : Nat} {v2 : Int32} {σ : Sg} {P : Bool × Sg → Prop} (h : ok (f_m_stepOn N 74 69 63 v2 σ) P) : Ev y M_m_stepOn 1 [.ref 66, .ref 74, .int v2] σ rvB P := by
  refine Ev.of mk_m_stepOn (Nat.le_of_ble_eq_true rfl) (fun x hx hc hr => ?_)
  have hx : Cx 10 prog_12_method_46_code x := hx
  have hc : Cc y 4 1 x := hc
  show G x 0 [some (.ref 66), some (.ref 74), some (.int v2), none] [] σ
  unfold f_m_stepOn at h
  refine g_run hx [(.aload_n 1, 0, 0), (.bipush 61, 61, 0), (.iaload, 0, 0), (.iload_n 2, 0, 0)] (pc' := 5) (lo' := [some (.ref 66), some (.ref 74), some (.int v2), none]) (st' := [.int v2, .int (gA σ 74 61)]) (σ' := σ) (by decide +kernel) rfl rfl ?_
  refine g_if_ne hx (off := 7) (tgt := 12) (by decide +kernel) (by decide) (fun c5 => ?_) (fun c5 => ?_)
  · have h := ok_f h c5
    refine g_run hx [(.iconst (-1), (-1), 0), (.iadd, 0, 0), (.istore_n 3, 0, 0), (.iload_n 3, 0, 0), (.iconst 0, 0, 0), (.aload_n 0, 0, 0), (.getfield 20, 0, 0), (.iconst 0, 0, 0), (.iaload, 0, 0), (.iconst 1, 1, 0), (.isub, 0, 0)] (pc' := 25) (lo' := [some (.ref 66), some (.ref 74), some (.int v2), some (.int ((gA σ 74 61) + (-1)))]) (st' := [.int ((gA σ 69 0) - 1), .int 0, .int ((gA σ 74 61) + (-1))]) (σ' := σ) (by decide +kernel) rfl rfl ?_
    refine g_callS (rest := []) [.int ((gA σ 74 61) + (-1)), .int 0, .int ((gA σ 69 0) - 1)] hx hc mk_m_in ln_10_156 (by decide +kernel) (by decide) (Nat.le_of_ble_eq_true rfl) (s_m_in (ok_b h)) (fun r1 s1 h => ?_)
    refine g_ifb_ne hx (off := 5) (tgt := 33) (by decide +kernel) (by decide) (fun c28 => ?_) (fun c28 => ?_)
    · have h := ok_t h c28
      refine g_run hx [(.aload_n 1, 0, 0), (.bipush 61, 61, 0), (.iload_n 3, 0, 0), (.iastore, 0, 0), (.aload_n 1, 0, 0), (.iload_n 3, 0, 0)] (pc' := 40) (lo' := [some (.ref 66), some (.ref 74), some (.int v2), some (.int ((gA σ 74 61) + (-1)))]) (st' := [.int ((gA σ 74 61) + (-1)), .ref 74]) (σ' := sA s1 74 61 ((gA σ 74 61) + (-1))) (by decide +kernel) rfl rfl ?_
      obtain ⟨c40, h⟩ := ok_g h
      refine g_iald hx (by decide +kernel) (i := 74) (n := 63) rfl c40 ?_
      refine g_if_le hx (off := 10) (tgt := 51) (by decide +kernel) (by decide) (fun c41 => ?_) (fun c41 => ?_)
      · have h := ok_t h c41
        refine g_run hx [(.iconst 1, 1, 0)] (pc' := 52) (lo' := [some (.ref 66), some (.ref 74), some (.int v2), some (.int ((gA σ 74 61) + (-1)))]) (st' := [.int 1]) (σ' := sA s1 74 61 ((gA σ 74 61) + (-1))) (by decide +kernel) rfl rfl ?_
        exact g_zret (b := true) hx hr rfl true rfl (by decide +kernel) (ok_some h)
      · have h := ok_f h c41
        refine g_run hx [(.aload_n 1, 0, 0), (.iload_n 3, 0, 0), (.dup2, 0, 0)] (pc' := 47) (lo' := [some (.ref 66), some (.ref 74), some (.int v2), some (.int ((gA σ 74 61) + (-1)))]) (st' := [.int ((gA σ 74 61) + (-1)), .ref 74, .int ((gA σ 74 61) + (-1)), .ref 74]) (σ' := sA s1 74 61 ((gA σ 74 61) + (-1))) (by decide +kernel) rfl rfl ?_
        obtain ⟨c47, h⟩ := ok_g h
        refine g_iald hx (by decide +kernel) (i := 74) (n := 63) rfl c47 ?_
        refine g_run hx [(.iconst 1, 1, 0), (.isub, 0, 0)] (pc' := 50) (lo' := [some (.ref 66), some (.ref 74), some (.int v2), some (.int ((gA σ 74 61) + (-1)))]) (st' := [.int ((gA (sA s1 74 61 ((gA σ 74 61) + (-1))) 74 ((gA σ 74 61) + (-1))) - 1), .int ((gA σ 74 61) + (-1)), .ref 74]) (σ' := sA s1 74 61 ((gA σ 74 61) + (-1))) (by decide +kernel) rfl rfl ?_
        obtain ⟨c50, h⟩ := ok_g h
        refine g_iast hx (by decide +kernel) (i := 74) (n := 63) rfl c50 ?_
        refine g_run hx [(.iconst 1, 1, 0)] (pc' := 52) (lo' := [some (.ref 66), some (.ref 74), some (.int v2), some (.int ((gA σ 74 61) + (-1)))]) (st' := [.int 1]) (σ' := sA (sA s1 74 61 ((gA σ 74 61) + (-1))) 74 ((gA σ 74 61) + (-1)) ((gA (sA s1 74 61 ((gA σ 74 61) + (-1))) 74 ((gA σ 74 61) + (-1))) - 1)) (by decide +kernel) rfl rfl ?_
        exact g_zret (b := true) hx hr rfl true rfl (by decide +kernel) (ok_some h)
    · have h := ok_f h c28
      refine g_run hx [(.iconst 0, 0, 0)] (pc' := 32) (lo' := [some (.ref 66), some (.ref 74), some (.int v2), some (.int ((gA σ 74 61) + (-1)))]) (st' := [.int 0]) (σ' := s1) (by decide +kernel) rfl rfl ?_
      exact g_zret (b := false) hx hr rfl false rfl (by decide +kernel) (ok_some h)
  · have h := ok_t h c5
    refine g_run hx [(.iconst 1, 1, 0)] (pc' := 9) (lo' := [some (.ref 66), some (.ref 74), some (.int v2), none]) (st' := [.int 1, .int (gA σ 74 61)]) (σ' := σ) (by decide +kernel) rfl rfl ?_
    refine g_goto hx (off := 4) (tgt := 13) (by decide +kernel) (by decide) ?_
    refine g_run hx [(.iadd, 0, 0), (.istore_n 3, 0, 0), (.iload_n 3, 0, 0), (.iconst 0, 0, 0), (.aload_n 0, 0, 0), (.getfield 20, 0, 0), (.iconst 0, 0, 0), (.iaload, 0, 0), (.iconst 1, 1, 0), (.isub, 0, 0)] (pc' := 25) (lo' := [some (.ref 66), some (.ref 74), some (.int v2), some (.int ((gA σ 74 61) + 1))]) (st' := [.int ((gA σ 69 0) - 1), .int 0, .int ((gA σ 74 61) + 1)]) (σ' := σ) (by decide +kernel) rfl rfl ?_
    refine g_callS (rest := []) [.int ((gA σ 74 61) + 1), .int 0, .int ((gA σ 69 0) - 1)] hx hc mk_m_in ln_10_156 (by decide +kernel) (by decide) (Nat.le_of_ble_eq_true rfl) (s_m_in (ok_b h)) (fun r2 s2 h => ?_)
    refine g_ifb_ne hx (off := 5) (tgt := 33) (by decide +kernel) (by decide) (fun c28 => ?_) (fun c28 => ?_)
    · have h := ok_t h c28
      refine g_run hx [(.aload_n 1, 0, 0), (.bipush 61, 61, 0), (.iload_n 3, 0, 0), (.iastore, 0, 0), (.aload_n 1, 0, 0), (.iload_n 3, 0, 0)] (pc' := 40) (lo' := [some (.ref 66), some (.ref 74), some (.int v2), some (.int ((gA σ 74 61) + 1))]) (st' := [.int ((gA σ 74 61) + 1), .ref 74]) (σ' := sA s2 74 61 ((gA σ 74 61) + 1)) (by decide +kernel) rfl rfl ?_
      obtain ⟨c40, h⟩ := ok_g h
      refine g_iald hx (by decide +kernel) (i := 74) (n := 63) rfl c40 ?_
      refine g_if_le hx (off := 10) (tgt := 51) (by decide +kernel) (by decide) (fun c41 => ?_) (fun c41 => ?_)
      · have h := ok_t h c41
        refine g_run hx [(.iconst 1, 1, 0)] (pc' := 52) (lo' := [some (.ref 66), some (.ref 74), some (.int v2), some (.int ((gA σ 74 61) + 1))]) (st' := [.int 1]) (σ' := sA s2 74 61 ((gA σ 74 61) + 1)) (by decide +kernel) rfl rfl ?_
        exact g_zret (b := true) hx hr rfl true rfl (by decide +kernel) (ok_some h)
      · have h := ok_f h c41
        refine g_run hx [(.aload_n 1, 0, 0), (.iload_n 3, 0, 0), (.dup2, 0, 0)] (pc' := 47) (lo' := [some (.ref 66), some (.ref 74), some (.int v2), some (.int ((gA σ 74 61) + 1))]) (st' := [.int ((gA σ 74 61) + 1), .ref 74, .int ((gA σ 74 61) + 1), .ref 74]) (σ' := sA s2 74 61 ((gA σ 74 61) + 1)) (by decide +kernel) rfl rfl ?_
        obtain ⟨c47, h⟩ := ok_g h
        refine g_iald hx (by decide +kernel) (i := 74) (n := 63) rfl c47 ?_
        refine g_run hx [(.iconst 1, 1, 0), (.isub, 0, 0)] (pc' := 50) (lo' := [some (.ref 66), some (.ref 74), some (.int v2), some (.int ((gA σ 74 61) + 1))]) (st' := [.int ((gA (sA s2 74 61 ((gA σ 74 61) + 1)) 74 ((gA σ 74 61) + 1)) - 1), .int ((gA σ 74 61) + 1), .ref 74]) (σ' := sA s2 74 61 ((gA σ 74 61) + 1)) (by decide +kernel) rfl rfl ?_
        obtain ⟨c50, h⟩ := ok_g h
        refine g_iast hx (by decide +kernel) (i := 74) (n := 63) rfl c50 ?_
        refine g_run hx [(.iconst 1, 1, 0)] (pc' := 52) (lo' := [some (.ref 66), some (.ref 74), some (.int v2), some (.int ((gA σ 74 61) + 1))]) (st' := [.int 1]) (σ' := sA (sA s2 74 61 ((gA σ 74 61) + 1)) 74 ((gA σ 74 61) + 1) ((gA (sA s2 74 61 ((gA σ 74 61) + 1)) 74 ((gA σ 74 61) + 1)) - 1)) (by decide +kernel) rfl rfl ?_
        exact g_zret (b := true) hx hr rfl true rfl (by decide +kernel) (ok_some h)
    · have h := ok_f h c28
      refine g_run hx [(.iconst 0, 0, 0)] (pc' := 32) (lo' := [some (.ref 66), some (.ref 74), some (.int v2), some (.int ((gA σ 74 61) + 1))]) (st' := [.int 0]) (σ' := s2) (by decide +kernel) rfl rfl ?_
      exact g_zret (b := false) hx hr rfl false rfl (by decide +kernel) (ok_some h)
def f_m_step (N : Nat) (v1 : Int32) (σ : Sg) : Option (Int32 × Sg) :=
  (f_m_anew N σ).bind fun q1 =>
  (f_m_in N v1 0 1 q1.2).bind fun q2 =>
  (f_m_why N (gI q1.2 66 14) (b2i q2.1) q2.2).bind fun q3 =>
  if q3.1 = 0 then
    if v1 = 0 then
      (f_m_in N ((gA q3.2 74 61) + 1) 0 ((gA q3.2 69 0) - 1) q3.2).bind fun q12 =>
      if q12.1 = true then
        if q3.1 = 0 then
          (f_m_note N q12.2).bind fun q13 =>
          (f_m_stepOn N 74 69 63 v1 q13.2).bind fun q14 =>
          some ((gA q14.2 74 61), q14.2)
        else
          (f_m_no N q3.1 q12.2).bind fun q15 =>
          some (q15.1, q15.2)
      else
        (f_m_no N 5 q12.2).bind fun q16 =>
        some (q16.1, q16.2)
    else
      (f_m_in N ((gA q3.2 74 61) + (-1)) 0 ((gA q3.2 69 0) - 1) q3.2).bind fun q7 =>
      if q7.1 = true then
        if q3.1 = 0 then
          (f_m_note N q7.2).bind fun q8 =>
          (f_m_stepOn N 74 69 63 v1 q8.2).bind fun q9 =>
          some ((gA q9.2 74 61), q9.2)
        else
          (f_m_no N q3.1 q7.2).bind fun q10 =>
          some (q10.1, q10.2)
      else
        (f_m_no N 5 q7.2).bind fun q11 =>
        some (q11.1, q11.2)
  else
    if q3.1 = 0 then
      (f_m_note N q3.2).bind fun q4 =>
      (f_m_stepOn N 74 69 63 v1 q4.2).bind fun q5 =>
      some ((gA q5.2 74 61), q5.2)
    else
      (f_m_no N q3.1 q3.2).bind fun q6 =>
      some (q6.1, q6.2)
set_option maxRecDepth 100000 in
theorem s_m_step {y : EX} {N : Nat} {v1 : Int32} {σ : Sg} {P : Int32 × Sg → Prop} (h : ok (f_m_step N v1 σ) P) : Ev y M_m_step 2 [.ref 66, .int v1] σ rvI P := by
  refine Ev.of mk_m_step (Nat.le_of_ble_eq_true rfl) (fun x hx hc hr => ?_)
  have hx : Cx 10 prog_12_method_122_code x := hx
  have hc : Cc y 3 2 x := hc
  show G x 0 [some (.ref 66), some (.int v1), none] [] σ
  unfold f_m_step at h
  refine g_run hx [(.aload_n 0, 0, 0)] (pc' := 1) (lo' := [some (.ref 66), some (.int v1), none]) (st' := [.ref 66]) (σ' := σ) (by decide +kernel) rfl rfl ?_
  refine g_callV (rest := []) [] hx hc mk_m_anew ln_10_174 rfl (by decide +kernel) (by decide) (Nat.le_of_ble_eq_true rfl) (s_m_anew (ok_b h)) (fun r1 s1 h => ?_)
  refine g_run hx [(.aload_n 0, 0, 0), (.aload_n 0, 0, 0), (.getfield 187, 0, 0), (.iload_n 1, 0, 0), (.iconst 0, 0, 0), (.iconst 1, 1, 0)] (pc' := 12) (lo' := [some (.ref 66), some (.int v1), none]) (st' := [.int 1, .int 0, .int v1, .int (gI s1 66 14), .ref 66]) (σ' := s1) (by decide +kernel) rfl rfl ?_
  refine g_callS (rest := [.int (gI s1 66 14), .ref 66]) [.int v1, .int 0, .int 1] hx hc mk_m_in ln_10_156 (by decide +kernel) (by decide) (Nat.le_of_ble_eq_true rfl) (s_m_in (ok_b h)) (fun r2 s2 h => ?_)
  refine g_callV (rest := []) [.int (gI s1 66 14), .int (b2i r2)] hx hc mk_m_why ln_10_261 rfl (by decide +kernel) (by decide) (Nat.le_of_ble_eq_true rfl) (s_m_why (ok_b h)) (fun r3 s3 h => ?_)
  refine g_run hx [(.istore_n 2, 0, 0), (.iload_n 2, 0, 0)] (pc' := 20) (lo' := [some (.ref 66), some (.int v1), some (.int r3)]) (st' := [.int r3]) (σ' := s3) (by decide +kernel) rfl rfl ?_
  refine g_if_ne hx (off := 37) (tgt := 57) (by decide +kernel) (by decide) (fun c20 => ?_) (fun c20 => ?_)
  · have h := ok_f h c20
    refine g_run hx [(.iload_n 2, 0, 0)] (pc' := 58) (lo' := [some (.ref 66), some (.int v1), some (.int r3)]) (st' := [.int r3]) (σ' := s3) (by decide +kernel) rfl rfl ?_
    refine g_if_eq hx (off := 9) (tgt := 67) (by decide +kernel) (by decide) (fun c58 => ?_) (fun c58 => ?_)
    · have h := ok_t h c58
      refine g_run hx [(.aload_n 0, 0, 0)] (pc' := 68) (lo' := [some (.ref 66), some (.int v1), some (.int r3)]) (st' := [.ref 66]) (σ' := s3) (by decide +kernel) rfl rfl ?_
      refine g_callV (rest := []) [] hx hc mk_m_note ln_10_437 rfl (by decide +kernel) (by decide) (Nat.le_of_ble_eq_true rfl) (s_m_note (ok_b h)) (fun r4 s4 h => ?_)
      refine g_run hx [(.aload_n 0, 0, 0), (.aload_n 0, 0, 0), (.getfield 35, 0, 0), (.iload_n 1, 0, 0)] (pc' := 77) (lo' := [some (.ref 66), some (.int v1), some (.int r3)]) (st' := [.int v1, .ref 74, .ref 66]) (σ' := s4) (by decide +kernel) rfl rfl ?_
      refine g_callV (rest := []) [.ref 74, .int v1] hx hc mk_m_stepOn ln_10_362 rfl (by decide +kernel) (by decide) (Nat.le_of_ble_eq_true rfl) (s_m_stepOn_66_74 (ok_b h)) (fun r5 s5 h => ?_)
      refine g_run hx [(.pop, 0, 0), (.aload_n 0, 0, 0), (.getfield 35, 0, 0), (.bipush 61, 61, 0), (.iaload, 0, 0)] (pc' := 88) (lo' := [some (.ref 66), some (.int v1), some (.int r3)]) (st' := [.int (gA s5 74 61)]) (σ' := s5) (by decide +kernel) rfl rfl ?_
      exact g_iret hx hr rfl _ rfl (by decide +kernel) (ok_some h)
    · have h := ok_f h c58
      refine g_run hx [(.aload_n 0, 0, 0), (.iload_n 2, 0, 0)] (pc' := 63) (lo' := [some (.ref 66), some (.int v1), some (.int r3)]) (st' := [.int r3, .ref 66]) (σ' := s3) (by decide +kernel) rfl rfl ?_
      refine g_callV (rest := []) [.int r3] hx hc mk_m_no ln_10_177 rfl (by decide +kernel) (by decide) (Nat.le_of_ble_eq_true rfl) (s_m_no (ok_b h)) (fun r6 s6 h => ?_)
      exact g_iret hx hr rfl _ rfl (by decide +kernel) (ok_some h)
  · have h := ok_t h c20
    refine g_run hx [(.aload_n 0, 0, 0), (.getfield 35, 0, 0), (.bipush 61, 61, 0), (.iaload, 0, 0), (.iload_n 1, 0, 0)] (pc' := 31) (lo' := [some (.ref 66), some (.int v1), some (.int r3)]) (st' := [.int v1, .int (gA s3 74 61)]) (σ' := s3) (by decide +kernel) rfl rfl ?_
    refine g_if_ne hx (off := 7) (tgt := 38) (by decide +kernel) (by decide) (fun c31 => ?_) (fun c31 => ?_)
    · have h := ok_f h c31
      refine g_run hx [(.iconst (-1), (-1), 0), (.iadd, 0, 0), (.iconst 0, 0, 0), (.aload_n 0, 0, 0), (.getfield 20, 0, 0), (.iconst 0, 0, 0), (.iaload, 0, 0), (.iconst 1, 1, 0), (.isub, 0, 0)] (pc' := 49) (lo' := [some (.ref 66), some (.int v1), some (.int r3)]) (st' := [.int ((gA s3 69 0) - 1), .int 0, .int ((gA s3 74 61) + (-1))]) (σ' := s3) (by decide +kernel) rfl rfl ?_
      refine g_callS (rest := []) [.int ((gA s3 74 61) + (-1)), .int 0, .int ((gA s3 69 0) - 1)] hx hc mk_m_in ln_10_156 (by decide +kernel) (by decide) (Nat.le_of_ble_eq_true rfl) (s_m_in (ok_b h)) (fun r7 s7 h => ?_)
      refine g_ifb_ne hx (off := 5) (tgt := 57) (by decide +kernel) (by decide) (fun c52 => ?_) (fun c52 => ?_)
      · have h := ok_t h c52
        refine g_run hx [(.iload_n 2, 0, 0)] (pc' := 58) (lo' := [some (.ref 66), some (.int v1), some (.int r3)]) (st' := [.int r3]) (σ' := s7) (by decide +kernel) rfl rfl ?_
        refine g_if_eq hx (off := 9) (tgt := 67) (by decide +kernel) (by decide) (fun c58 => ?_) (fun c58 => ?_)
        · have h := ok_t h c58
          refine g_run hx [(.aload_n 0, 0, 0)] (pc' := 68) (lo' := [some (.ref 66), some (.int v1), some (.int r3)]) (st' := [.ref 66]) (σ' := s7) (by decide +kernel) rfl rfl ?_
          refine g_callV (rest := []) [] hx hc mk_m_note ln_10_437 rfl (by decide +kernel) (by decide) (Nat.le_of_ble_eq_true rfl) (s_m_note (ok_b h)) (fun r8 s8 h => ?_)
          refine g_run hx [(.aload_n 0, 0, 0), (.aload_n 0, 0, 0), (.getfield 35, 0, 0), (.iload_n 1, 0, 0)] (pc' := 77) (lo' := [some (.ref 66), some (.int v1), some (.int r3)]) (st' := [.int v1, .ref 74, .ref 66]) (σ' := s8) (by decide +kernel) rfl rfl ?_
          refine g_callV (rest := []) [.ref 74, .int v1] hx hc mk_m_stepOn ln_10_362 rfl (by decide +kernel) (by decide) (Nat.le_of_ble_eq_true rfl) (s_m_stepOn_66_74 (ok_b h)) (fun r9 s9 h => ?_)
          refine g_run hx [(.pop, 0, 0), (.aload_n 0, 0, 0), (.getfield 35, 0, 0), (.bipush 61, 61, 0), (.iaload, 0, 0)] (pc' := 88) (lo' := [some (.ref 66), some (.int v1), some (.int r3)]) (st' := [.int (gA s9 74 61)]) (σ' := s9) (by decide +kernel) rfl rfl ?_
          exact g_iret hx hr rfl _ rfl (by decide +kernel) (ok_some h)
        · have h := ok_f h c58
          refine g_run hx [(.aload_n 0, 0, 0), (.iload_n 2, 0, 0)] (pc' := 63) (lo' := [some (.ref 66), some (.int v1), some (.int r3)]) (st' := [.int r3, .ref 66]) (σ' := s7) (by decide +kernel) rfl rfl ?_
          refine g_callV (rest := []) [.int r3] hx hc mk_m_no ln_10_177 rfl (by decide +kernel) (by decide) (Nat.le_of_ble_eq_true rfl) (s_m_no (ok_b h)) (fun r10 s10 h => ?_)
          exact g_iret hx hr rfl _ rfl (by decide +kernel) (ok_some h)
      · have h := ok_f h c52
        refine g_run hx [(.iconst 5, 5, 0), (.istore_n 2, 0, 0), (.iload_n 2, 0, 0)] (pc' := 58) (lo' := [some (.ref 66), some (.int v1), some (.int 5)]) (st' := [.int 5]) (σ' := s7) (by decide +kernel) rfl rfl ?_
        refine g_if_eq hx (off := 9) (tgt := 67) (by decide +kernel) (by decide) (fun c => absurd c (by decide)) (fun _ => ?_)
        refine g_run hx [(.aload_n 0, 0, 0), (.iload_n 2, 0, 0)] (pc' := 63) (lo' := [some (.ref 66), some (.int v1), some (.int 5)]) (st' := [.int 5, .ref 66]) (σ' := s7) (by decide +kernel) rfl rfl ?_
        refine g_callV (rest := []) [.int 5] hx hc mk_m_no ln_10_177 rfl (by decide +kernel) (by decide) (Nat.le_of_ble_eq_true rfl) (s_m_no (ok_b h)) (fun r11 s11 h => ?_)
        exact g_iret hx hr rfl _ rfl (by decide +kernel) (ok_some h)
    · have h := ok_t h c31
      refine g_run hx [(.iconst 1, 1, 0)] (pc' := 35) (lo' := [some (.ref 66), some (.int v1), some (.int r3)]) (st' := [.int 1, .int (gA s3 74 61)]) (σ' := s3) (by decide +kernel) rfl rfl ?_
      refine g_goto hx (off := 4) (tgt := 39) (by decide +kernel) (by decide) ?_
      refine g_run hx [(.iadd, 0, 0), (.iconst 0, 0, 0), (.aload_n 0, 0, 0), (.getfield 20, 0, 0), (.iconst 0, 0, 0), (.iaload, 0, 0), (.iconst 1, 1, 0), (.isub, 0, 0)] (pc' := 49) (lo' := [some (.ref 66), some (.int v1), some (.int r3)]) (st' := [.int ((gA s3 69 0) - 1), .int 0, .int ((gA s3 74 61) + 1)]) (σ' := s3) (by decide +kernel) rfl rfl ?_
      refine g_callS (rest := []) [.int ((gA s3 74 61) + 1), .int 0, .int ((gA s3 69 0) - 1)] hx hc mk_m_in ln_10_156 (by decide +kernel) (by decide) (Nat.le_of_ble_eq_true rfl) (s_m_in (ok_b h)) (fun r12 s12 h => ?_)
      refine g_ifb_ne hx (off := 5) (tgt := 57) (by decide +kernel) (by decide) (fun c52 => ?_) (fun c52 => ?_)
      · have h := ok_t h c52
        refine g_run hx [(.iload_n 2, 0, 0)] (pc' := 58) (lo' := [some (.ref 66), some (.int v1), some (.int r3)]) (st' := [.int r3]) (σ' := s12) (by decide +kernel) rfl rfl ?_
        refine g_if_eq hx (off := 9) (tgt := 67) (by decide +kernel) (by decide) (fun c58 => ?_) (fun c58 => ?_)
        · have h := ok_t h c58
          refine g_run hx [(.aload_n 0, 0, 0)] (pc' := 68) (lo' := [some (.ref 66), some (.int v1), some (.int r3)]) (st' := [.ref 66]) (σ' := s12) (by decide +kernel) rfl rfl ?_
          refine g_callV (rest := []) [] hx hc mk_m_note ln_10_437 rfl (by decide +kernel) (by decide) (Nat.le_of_ble_eq_true rfl) (s_m_note (ok_b h)) (fun r13 s13 h => ?_)
          refine g_run hx [(.aload_n 0, 0, 0), (.aload_n 0, 0, 0), (.getfield 35, 0, 0), (.iload_n 1, 0, 0)] (pc' := 77) (lo' := [some (.ref 66), some (.int v1), some (.int r3)]) (st' := [.int v1, .ref 74, .ref 66]) (σ' := s13) (by decide +kernel) rfl rfl ?_
          refine g_callV (rest := []) [.ref 74, .int v1] hx hc mk_m_stepOn ln_10_362 rfl (by decide +kernel) (by decide) (Nat.le_of_ble_eq_true rfl) (s_m_stepOn_66_74 (ok_b h)) (fun r14 s14 h => ?_)
          refine g_run hx [(.pop, 0, 0), (.aload_n 0, 0, 0), (.getfield 35, 0, 0), (.bipush 61, 61, 0), (.iaload, 0, 0)] (pc' := 88) (lo' := [some (.ref 66), some (.int v1), some (.int r3)]) (st' := [.int (gA s14 74 61)]) (σ' := s14) (by decide +kernel) rfl rfl ?_
          exact g_iret hx hr rfl _ rfl (by decide +kernel) (ok_some h)
        · have h := ok_f h c58
          refine g_run hx [(.aload_n 0, 0, 0), (.iload_n 2, 0, 0)] (pc' := 63) (lo' := [some (.ref 66), some (.int v1), some (.int r3)]) (st' := [.int r3, .ref 66]) (σ' := s12) (by decide +kernel) rfl rfl ?_
          refine g_callV (rest := []) [.int r3] hx hc mk_m_no ln_10_177 rfl (by decide +kernel) (by decide) (Nat.le_of_ble_eq_true rfl) (s_m_no (ok_b h)) (fun r15 s15 h => ?_)
          exact g_iret hx hr rfl _ rfl (by decide +kernel) (ok_some h)
      · have h := ok_f h c52
        refine g_run hx [(.iconst 5, 5, 0), (.istore_n 2, 0, 0), (.iload_n 2, 0, 0)] (pc' := 58) (lo' := [some (.ref 66), some (.int v1), some (.int 5)]) (st' := [.int 5]) (σ' := s12) (by decide +kernel) rfl rfl ?_
        refine g_if_eq hx (off := 9) (tgt := 67) (by decide +kernel) (by decide) (fun c => absurd c (by decide)) (fun _ => ?_)
        refine g_run hx [(.aload_n 0, 0, 0), (.iload_n 2, 0, 0)] (pc' := 63) (lo' := [some (.ref 66), some (.int v1), some (.int 5)]) (st' := [.int 5, .ref 66]) (σ' := s12) (by decide +kernel) rfl rfl ?_
        refine g_callV (rest := []) [.int 5] hx hc mk_m_no ln_10_177 rfl (by decide +kernel) (by decide) (Nat.le_of_ble_eq_true rfl) (s_m_no (ok_b h)) (fun r16 s16 h => ?_)
        exact g_iret hx hr rfl _ rfl (by decide +kernel) (ok_some h)
def f_m_steps (N : Nat) (v1 : Int32) (σ : Sg) : Option (Int32 × Sg) :=
  (f_m_anew N σ).bind fun q1 =>
  (f_m_isCell N v1 q1.2).bind fun q2 =>
  if q2.1 = true then
    if vin v1 63 then
    if (gA q2.2 74 v1) = 0 then
      some (0, q2.2)
    else
      if (gA q2.2 74 61) ≤ v1 then
        if (v1 - (gA q2.2 74 61)) = 0 then
          if vin v1 63 then
          some ((2 * (gA q2.2 74 v1)), q2.2)
          else none
        else
          if vin v1 63 then
          some (((v1 - (gA q2.2 74 61)) + (2 * ((gA q2.2 74 v1) - 1))), q2.2)
          else none
      else
        if ((gA q2.2 74 61) - v1) = 0 then
          if vin v1 63 then
          some ((2 * (gA q2.2 74 v1)), q2.2)
          else none
        else
          if vin v1 63 then
          some ((((gA q2.2 74 61) - v1) + (2 * ((gA q2.2 74 v1) - 1))), q2.2)
          else none
    else none
  else
    (f_m_no N 1 q2.2).bind fun q3 =>
    some (q3.1, q3.2)
set_option maxRecDepth 100000 in
theorem s_m_steps {y : EX} {N : Nat} {v1 : Int32} {σ : Sg} {P : Int32 × Sg → Prop} (h : ok (f_m_steps N v1 σ) P) : Ev y M_m_steps 2 [.ref 66, .int v1] σ rvI P := by
  refine Ev.of mk_m_steps (Nat.le_of_ble_eq_true rfl) (fun x hx hc hr => ?_)
  have hx : Cx 10 prog_12_method_99_code x := hx
  have hc : Cc y 3 2 x := hc
  show G x 0 [some (.ref 66), some (.int v1), none] [] σ
  unfold f_m_steps at h
  refine g_run hx [(.aload_n 0, 0, 0)] (pc' := 1) (lo' := [some (.ref 66), some (.int v1), none]) (st' := [.ref 66]) (σ' := σ) (by decide +kernel) rfl rfl ?_
  refine g_callV (rest := []) [] hx hc mk_m_anew ln_10_174 rfl (by decide +kernel) (by decide) (Nat.le_of_ble_eq_true rfl) (s_m_anew (ok_b h)) (fun r1 s1 h => ?_)
  refine g_run hx [(.aload_n 0, 0, 0), (.iload_n 1, 0, 0)] (pc' := 6) (lo' := [some (.ref 66), some (.int v1), none]) (st' := [.int v1, .ref 66]) (σ' := s1) (by decide +kernel) rfl rfl ?_
  refine g_callV (rest := []) [.int v1] hx hc mk_m_isCell ln_10_279 rfl (by decide +kernel) (by decide) (Nat.le_of_ble_eq_true rfl) (s_m_isCell (ok_b h)) (fun r2 s2 h => ?_)
  refine g_ifb_ne hx (off := 9) (tgt := 18) (by decide +kernel) (by decide) (fun c9 => ?_) (fun c9 => ?_)
  · have h := ok_t h c9
    refine g_run hx [(.aload_n 0, 0, 0), (.getfield 35, 0, 0), (.iload_n 1, 0, 0)] (pc' := 23) (lo' := [some (.ref 66), some (.int v1), none]) (st' := [.int v1, .ref 74]) (σ' := s2) (by decide +kernel) rfl rfl ?_
    obtain ⟨c23, h⟩ := ok_g h
    refine g_iald hx (by decide +kernel) (i := 74) (n := 63) rfl c23 ?_
    refine g_if_ne hx (off := 5) (tgt := 29) (by decide +kernel) (by decide) (fun c24 => ?_) (fun c24 => ?_)
    · have h := ok_f h c24
      refine g_run hx [(.iload_n 1, 0, 0), (.aload_n 0, 0, 0), (.getfield 35, 0, 0), (.bipush 61, 61, 0), (.iaload, 0, 0)] (pc' := 37) (lo' := [some (.ref 66), some (.int v1), none]) (st' := [.int (gA s2 74 61), .int v1]) (σ' := s2) (by decide +kernel) rfl rfl ?_
      refine g_ic_ge hx (off := 15) (tgt := 52) (by decide +kernel) (by decide) (fun c37 => ?_) (fun c37 => ?_)
      · have h := ok_t h c37
        refine g_run hx [(.iload_n 1, 0, 0), (.aload_n 0, 0, 0), (.getfield 35, 0, 0), (.bipush 61, 61, 0), (.iaload, 0, 0), (.isub, 0, 0), (.istore_n 2, 0, 0), (.iload_n 2, 0, 0)] (pc' := 63) (lo' := [some (.ref 66), some (.int v1), some (.int (v1 - (gA s2 74 61)))]) (st' := [.int (v1 - (gA s2 74 61))]) (σ' := s2) (by decide +kernel) rfl rfl ?_
        refine g_if_ne hx (off := 14) (tgt := 77) (by decide +kernel) (by decide) (fun c63 => ?_) (fun c63 => ?_)
        · have h := ok_f h c63
          refine g_run hx [(.iload_n 2, 0, 0), (.iconst 2, 2, 0), (.aload_n 0, 0, 0), (.getfield 35, 0, 0), (.iload_n 1, 0, 0)] (pc' := 84) (lo' := [some (.ref 66), some (.int v1), some (.int (v1 - (gA s2 74 61)))]) (st' := [.int v1, .ref 74, .int 2, .int (v1 - (gA s2 74 61))]) (σ' := s2) (by decide +kernel) rfl rfl ?_
          obtain ⟨c84, h⟩ := ok_g h
          refine g_iald hx (by decide +kernel) (i := 74) (n := 63) rfl c84 ?_
          refine g_run hx [(.iconst 1, 1, 0), (.isub, 0, 0), (.imul, 0, 0), (.iadd, 0, 0)] (pc' := 89) (lo' := [some (.ref 66), some (.int v1), some (.int (v1 - (gA s2 74 61)))]) (st' := [.int ((v1 - (gA s2 74 61)) + (2 * ((gA s2 74 v1) - 1)))]) (σ' := s2) (by decide +kernel) rfl rfl ?_
          exact g_iret hx hr rfl _ rfl (by decide +kernel) (ok_some h)
        · have h := ok_t h c63
          refine g_run hx [(.iconst 2, 2, 0), (.aload_n 0, 0, 0), (.getfield 35, 0, 0), (.iload_n 1, 0, 0)] (pc' := 72) (lo' := [some (.ref 66), some (.int v1), some (.int (v1 - (gA s2 74 61)))]) (st' := [.int v1, .ref 74, .int 2]) (σ' := s2) (by decide +kernel) rfl rfl ?_
          obtain ⟨c72, h⟩ := ok_g h
          refine g_iald hx (by decide +kernel) (i := 74) (n := 63) rfl c72 ?_
          refine g_run hx [(.imul, 0, 0)] (pc' := 74) (lo' := [some (.ref 66), some (.int v1), some (.int (v1 - (gA s2 74 61)))]) (st' := [.int (2 * (gA s2 74 v1))]) (σ' := s2) (by decide +kernel) rfl rfl ?_
          refine g_goto hx (off := 15) (tgt := 89) (by decide +kernel) (by decide) ?_
          exact g_iret hx hr rfl _ rfl (by decide +kernel) (ok_some h)
      · have h := ok_f h c37
        refine g_run hx [(.aload_n 0, 0, 0), (.getfield 35, 0, 0), (.bipush 61, 61, 0), (.iaload, 0, 0), (.iload_n 1, 0, 0), (.isub, 0, 0)] (pc' := 49) (lo' := [some (.ref 66), some (.int v1), none]) (st' := [.int ((gA s2 74 61) - v1)]) (σ' := s2) (by decide +kernel) rfl rfl ?_
        refine g_goto hx (off := 12) (tgt := 61) (by decide +kernel) (by decide) ?_
        refine g_run hx [(.istore_n 2, 0, 0), (.iload_n 2, 0, 0)] (pc' := 63) (lo' := [some (.ref 66), some (.int v1), some (.int ((gA s2 74 61) - v1))]) (st' := [.int ((gA s2 74 61) - v1)]) (σ' := s2) (by decide +kernel) rfl rfl ?_
        refine g_if_ne hx (off := 14) (tgt := 77) (by decide +kernel) (by decide) (fun c63 => ?_) (fun c63 => ?_)
        · have h := ok_f h c63
          refine g_run hx [(.iload_n 2, 0, 0), (.iconst 2, 2, 0), (.aload_n 0, 0, 0), (.getfield 35, 0, 0), (.iload_n 1, 0, 0)] (pc' := 84) (lo' := [some (.ref 66), some (.int v1), some (.int ((gA s2 74 61) - v1))]) (st' := [.int v1, .ref 74, .int 2, .int ((gA s2 74 61) - v1)]) (σ' := s2) (by decide +kernel) rfl rfl ?_
          obtain ⟨c84, h⟩ := ok_g h
          refine g_iald hx (by decide +kernel) (i := 74) (n := 63) rfl c84 ?_
          refine g_run hx [(.iconst 1, 1, 0), (.isub, 0, 0), (.imul, 0, 0), (.iadd, 0, 0)] (pc' := 89) (lo' := [some (.ref 66), some (.int v1), some (.int ((gA s2 74 61) - v1))]) (st' := [.int (((gA s2 74 61) - v1) + (2 * ((gA s2 74 v1) - 1)))]) (σ' := s2) (by decide +kernel) rfl rfl ?_
          exact g_iret hx hr rfl _ rfl (by decide +kernel) (ok_some h)
        · have h := ok_t h c63
          refine g_run hx [(.iconst 2, 2, 0), (.aload_n 0, 0, 0), (.getfield 35, 0, 0), (.iload_n 1, 0, 0)] (pc' := 72) (lo' := [some (.ref 66), some (.int v1), some (.int ((gA s2 74 61) - v1))]) (st' := [.int v1, .ref 74, .int 2]) (σ' := s2) (by decide +kernel) rfl rfl ?_
          obtain ⟨c72, h⟩ := ok_g h
          refine g_iald hx (by decide +kernel) (i := 74) (n := 63) rfl c72 ?_
          refine g_run hx [(.imul, 0, 0)] (pc' := 74) (lo' := [some (.ref 66), some (.int v1), some (.int ((gA s2 74 61) - v1))]) (st' := [.int (2 * (gA s2 74 v1))]) (σ' := s2) (by decide +kernel) rfl rfl ?_
          refine g_goto hx (off := 15) (tgt := 89) (by decide +kernel) (by decide) ?_
          exact g_iret hx hr rfl _ rfl (by decide +kernel) (ok_some h)
    · have h := ok_t h c24
      refine g_run hx [(.iconst 0, 0, 0)] (pc' := 28) (lo' := [some (.ref 66), some (.int v1), none]) (st' := [.int 0]) (σ' := s2) (by decide +kernel) rfl rfl ?_
      exact g_iret hx hr rfl _ rfl (by decide +kernel) (ok_some h)
  · have h := ok_f h c9
    refine g_run hx [(.aload_n 0, 0, 0), (.iconst 1, 1, 0)] (pc' := 14) (lo' := [some (.ref 66), some (.int v1), none]) (st' := [.int 1, .ref 66]) (σ' := s2) (by decide +kernel) rfl rfl ?_
    refine g_callV (rest := []) [.int 1] hx hc mk_m_no ln_10_177 rfl (by decide +kernel) (by decide) (Nat.le_of_ble_eq_true rfl) (s_m_no (ok_b h)) (fun r3 s3 h => ?_)
    exact g_iret hx hr rfl _ rfl (by decide +kernel) (ok_some h)
def f_m_stillIn_L23 (N : Nat) : Nat → Int32 → Sg → Option (Int32 × Sg)
  | 0, _, _ => none
  | n + 1, v1, σ =>
    if 60 < v1 then
      some ((-2), σ)
    else
      (f_m_yearOn N 69 63 60 78 75 189 66 σ).bind fun q3 =>
      if (gI q3.2 66 27) = 0 then
        some (v1, q3.2)
      else
        f_m_stillIn_L23 N n (v1 + 1) q3.2
def f_m_stillIn (N : Nat) (σ : Sg) : Option (Int32 × Sg) :=
  (f_m_anew N σ).bind fun q1 =>
  if (gI q1.2 66 14) = 0 then
    (f_m_no N 1 q1.2).bind fun q4 =>
    some (q4.1, q4.2)
  else
    (f_m_begin N q1.2).bind fun q2 =>
    f_m_stillIn_L23 N N 0 q2.2
set_option maxRecDepth 100000 in
theorem s_m_stillIn_L23 {y : EX} {N : Nat} {x : CX} {P : Int32 × Sg → Prop} (hx : Cx 10 prog_12_method_71_code x) (hc : Cc y 2 2 x) (hr : Cr M_m_stillIn rvI P x) : ∀ (n : Nat) (v1 : Int32) (σ : Sg), ok (f_m_stillIn_L23 N n v1 σ) P → G x 23 [some (.ref 66), some (.int v1)] [] σ := by
  intro n
  induction n with
  | zero => intro v1 σ h; exact ok_none h
  | succ n ih =>
    intro v1 σ h
    rw [f_m_stillIn_L23] at h
    refine g_run hx [(.iload_n 1, 0, 0), (.bipush 60, 60, 0)] (pc' := 26) (lo' := [some (.ref 66), some (.int v1)]) (st' := [.int 60, .int v1]) (σ' := σ) (by decide +kernel) rfl rfl ?_
    refine g_ic_gt hx (off := 27) (tgt := 53) (by decide +kernel) (by decide) (fun c26 => ?_) (fun c26 => ?_)
    · have h := ok_t h c26
      refine g_run hx [(.bipush (-2), (-2), 0)] (pc' := 55) (lo' := [some (.ref 66), some (.int v1)]) (st' := [.int (-2)]) (σ' := σ) (by decide +kernel) rfl rfl ?_
      exact g_iret hx hr rfl _ rfl (by decide +kernel) (ok_some h)
    · have h := ok_f h c26
      refine g_run hx [(.aload_n 0, 0, 0), (.aload_n 0, 0, 0), (.getfield 38, 0, 0)] (pc' := 34) (lo' := [some (.ref 66), some (.int v1)]) (st' := [.ref 75, .ref 66]) (σ' := σ) (by decide +kernel) rfl rfl ?_
      refine g_callV (rest := []) [.ref 75] hx hc mk_m_yearOn ln_10_275 rfl (by decide +kernel) (by decide) (Nat.le_of_ble_eq_true rfl) (s_m_yearOn_66_75 (ok_b h)) (fun r3 s3 h => ?_)
      refine g_run hx [(.pop, 0, 0), (.aload_n 0, 0, 0), (.getfield 269, 0, 0)] (pc' := 42) (lo' := [some (.ref 66), some (.int v1)]) (st' := [.int (gI s3 66 27)]) (σ' := s3) (by decide +kernel) rfl rfl ?_
      refine g_if_ne hx (off := 5) (tgt := 47) (by decide +kernel) (by decide) (fun c42 => ?_) (fun c42 => ?_)
      · have h := ok_f h c42
        refine g_run hx [(.iinc 1 1, 1, 0)] (pc' := 50) (lo' := [some (.ref 66), some (.int (v1 + 1))]) (st' := []) (σ' := s3) (by decide +kernel) rfl rfl ?_
        refine g_goto hx (off := (-27)) (tgt := 23) (by decide +kernel) (by decide) ?_
        exact ih _ _ h
      · have h := ok_t h c42
        refine g_run hx [(.iload_n 1, 0, 0)] (pc' := 46) (lo' := [some (.ref 66), some (.int v1)]) (st' := [.int v1]) (σ' := s3) (by decide +kernel) rfl rfl ?_
        exact g_iret hx hr rfl _ rfl (by decide +kernel) (ok_some h)
set_option maxRecDepth 100000 in
theorem s_m_stillIn {y : EX} {N : Nat} {σ : Sg} {P : Int32 × Sg → Prop} (h : ok (f_m_stillIn N σ) P) : Ev y M_m_stillIn 2 [.ref 66] σ rvI P := by
  refine Ev.of mk_m_stillIn (Nat.le_of_ble_eq_true rfl) (fun x hx hc hr => ?_)
  have hx : Cx 10 prog_12_method_71_code x := hx
  have hc : Cc y 2 2 x := hc
  show G x 0 [some (.ref 66), none] [] σ
  unfold f_m_stillIn at h
  refine g_run hx [(.aload_n 0, 0, 0)] (pc' := 1) (lo' := [some (.ref 66), none]) (st' := [.ref 66]) (σ' := σ) (by decide +kernel) rfl rfl ?_
  refine g_callV (rest := []) [] hx hc mk_m_anew ln_10_174 rfl (by decide +kernel) (by decide) (Nat.le_of_ble_eq_true rfl) (s_m_anew (ok_b h)) (fun r1 s1 h => ?_)
  refine g_run hx [(.aload_n 0, 0, 0), (.getfield 187, 0, 0)] (pc' := 8) (lo' := [some (.ref 66), none]) (st' := [.int (gI s1 66 14)]) (σ' := s1) (by decide +kernel) rfl rfl ?_
  refine g_if_ne hx (off := 9) (tgt := 17) (by decide +kernel) (by decide) (fun c8 => ?_) (fun c8 => ?_)
  · have h := ok_f h c8
    refine g_run hx [(.aload_n 0, 0, 0)] (pc' := 18) (lo' := [some (.ref 66), none]) (st' := [.ref 66]) (σ' := s1) (by decide +kernel) rfl rfl ?_
    refine g_callV (rest := []) [] hx hc mk_m_begin ln_10_272 rfl (by decide +kernel) (by decide) (Nat.le_of_ble_eq_true rfl) (s_m_begin (ok_b h)) (fun r2 s2 h => ?_)
    refine g_run hx [(.iconst 0, 0, 0), (.istore_n 1, 0, 0)] (pc' := 23) (lo' := [some (.ref 66), some (.int 0)]) (st' := []) (σ' := s2) (by decide +kernel) rfl rfl ?_
    refine s_m_stillIn_L23 hx hc hr N _ _ h
  · have h := ok_t h c8
    refine g_run hx [(.aload_n 0, 0, 0), (.iconst 1, 1, 0)] (pc' := 13) (lo' := [some (.ref 66), none]) (st' := [.int 1, .ref 66]) (σ' := s1) (by decide +kernel) rfl rfl ?_
    refine g_callV (rest := []) [.int 1] hx hc mk_m_no ln_10_177 rfl (by decide +kernel) (by decide) (Nat.le_of_ble_eq_true rfl) (s_m_no (ok_b h)) (fun r4 s4 h => ?_)
    exact g_iret hx hr rfl _ rfl (by decide +kernel) (ok_some h)
def f_m_stretches (N : Nat) (σ : Sg) : Option (Int32 × Sg) :=
  (f_m_anew N σ).bind fun q1 =>
  if (gI q1.2 66 14) = 0 then
    (f_m_no N 1 q1.2).bind fun q3 =>
    some (q3.1, q3.2)
  else
    (f_m_seekRuns N 0 q1.2).bind fun q2 =>
    some ((gI q2.2 66 28), q2.2)
set_option maxRecDepth 100000 in
theorem s_m_stretches {y : EX} {N : Nat} {σ : Sg} {P : Int32 × Sg → Prop} (h : ok (f_m_stretches N σ) P) : Ev y M_m_stretches 1 [.ref 66] σ rvI P := by
  refine Ev.of mk_m_stretches (Nat.le_of_ble_eq_true rfl) (fun x hx hc hr => ?_)
  have hx : Cx 10 prog_12_method_61_code x := hx
  have hc : Cc y 1 1 x := hc
  show G x 0 [some (.ref 66)] [] σ
  unfold f_m_stretches at h
  refine g_run hx [(.aload_n 0, 0, 0)] (pc' := 1) (lo' := [some (.ref 66)]) (st' := [.ref 66]) (σ' := σ) (by decide +kernel) rfl rfl ?_
  refine g_callV (rest := []) [] hx hc mk_m_anew ln_10_174 rfl (by decide +kernel) (by decide) (Nat.le_of_ble_eq_true rfl) (s_m_anew (ok_b h)) (fun r1 s1 h => ?_)
  refine g_run hx [(.aload_n 0, 0, 0), (.getfield 187, 0, 0)] (pc' := 8) (lo' := [some (.ref 66)]) (st' := [.int (gI s1 66 14)]) (σ' := s1) (by decide +kernel) rfl rfl ?_
  refine g_if_ne hx (off := 9) (tgt := 17) (by decide +kernel) (by decide) (fun c8 => ?_) (fun c8 => ?_)
  · have h := ok_f h c8
    refine g_run hx [(.aload_n 0, 0, 0), (.iconst 0, 0, 0)] (pc' := 19) (lo' := [some (.ref 66)]) (st' := [.int 0, .ref 66]) (σ' := s1) (by decide +kernel) rfl rfl ?_
    refine g_callV (rest := []) [.int 0] hx hc mk_m_seekRuns ln_10_306 rfl (by decide +kernel) (by decide) (Nat.le_of_ble_eq_true rfl) (s_m_seekRuns (ok_b h)) (fun r2 s2 h => ?_)
    refine g_run hx [(.aload_n 0, 0, 0), (.getfield 297, 0, 0)] (pc' := 26) (lo' := [some (.ref 66)]) (st' := [.int (gI s2 66 28)]) (σ' := s2) (by decide +kernel) rfl rfl ?_
    exact g_iret hx hr rfl _ rfl (by decide +kernel) (ok_some h)
  · have h := ok_t h c8
    refine g_run hx [(.aload_n 0, 0, 0), (.iconst 1, 1, 0)] (pc' := 13) (lo' := [some (.ref 66)]) (st' := [.int 1, .ref 66]) (σ' := s1) (by decide +kernel) rfl rfl ?_
    refine g_callV (rest := []) [.int 1] hx hc mk_m_no ln_10_177 rfl (by decide +kernel) (by decide) (Nat.le_of_ble_eq_true rfl) (s_m_no (ok_b h)) (fun r3 s3 h => ?_)
    exact g_iret hx hr rfl _ rfl (by decide +kernel) (ok_some h)
set_option maxRecDepth 100000 in
theorem s_m_strideOn_69_74_L62 {y : EX} {N : Nat} {x : CX} {P : Bool × Sg → Prop} (hx : Cx 10 prog_12_method_45_code x) (hc : Cc y 8 2 x) (hr : Cr M_m_strideOn rvB P x) : ∀ (n : Nat) (v4 : Int32) (v6 : Int32) (v7 : Int32) (σ : Sg), ok (f_m_strideOn_L62 N 74 63 189 69 n v4 v6 v7 σ) P → G x 62 [some (.ref 69), some (.ref 74), none, none, some (.int v4), none, some (.int v6), some (.int v7)] [] σ := by
  intro n
  induction n with
  | zero => intro v4 v6 v7 σ h; exact ok_none h
  | succ n ih =>
    intro v4 v6 v7 σ h
    rw [f_m_strideOn_L62] at h
    refine g_run hx [(.iload 7, 0, 0), (.iload 6, 0, 0)] (pc' := 66) (lo' := [some (.ref 69), some (.ref 74), none, none, some (.int v4), none, some (.int v6), some (.int v7)]) (st' := [.int v6, .int v7]) (σ' := σ) (by decide +kernel) rfl rfl ?_
    refine g_ic_ge hx (off := 30) (tgt := 96) (by decide +kernel) (by decide) (fun c66 => ?_) (fun c66 => ?_)
    · have h := ok_t h c66
      refine g_run hx [(.aload_n 1, 0, 0), (.bipush 60, 60, 0), (.iload 4, 0, 0), (.iastore, 0, 0), (.iconst 1, 1, 0)] (pc' := 103) (lo' := [some (.ref 69), some (.ref 74), none, none, some (.int v4), none, some (.int v6), some (.int v7)]) (st' := [.int 1]) (σ' := sA σ 74 60 v4) (by decide +kernel) rfl rfl ?_
      exact g_zret (b := true) hx hr rfl true rfl (by decide +kernel) (ok_some h)
    · have h := ok_f h c66
      refine g_run hx [(.aload_n 1, 0, 0), (.iload 7, 0, 0)] (pc' := 72) (lo' := [some (.ref 69), some (.ref 74), none, none, some (.int v4), none, some (.int v6), some (.int v7)]) (st' := [.int v7, .ref 74]) (σ' := σ) (by decide +kernel) rfl rfl ?_
      obtain ⟨c72, h⟩ := ok_g h
      refine g_iald hx (by decide +kernel) (i := 74) (n := 63) rfl c72 ?_
      refine g_if_ne hx (off := 17) (tgt := 90) (by decide +kernel) (by decide) (fun c73 => ?_) (fun c73 => ?_)
      · have h := ok_f h c73
        refine g_run hx [(.iinc 7 1, 1, 0)] (pc' := 93) (lo' := [some (.ref 69), some (.ref 74), none, none, some (.int v4), none, some (.int v6), some (.int (v7 + 1))]) (st' := []) (σ' := σ) (by decide +kernel) rfl rfl ?_
        refine g_goto hx (off := (-31)) (tgt := 62) (by decide +kernel) (by decide) ?_
        exact ih _ _ _ _ h
      · have h := ok_t h c73
        refine g_run hx [(.aload_n 1, 0, 0), (.iload 7, 0, 0), (.aload_n 0, 0, 0), (.sipush 129, 129, 0), (.iload 7, 0, 0), (.iadd, 0, 0)] (pc' := 86) (lo' := [some (.ref 69), some (.ref 74), none, none, some (.int v4), none, some (.int v6), some (.int v7)]) (st' := [.int (129 + v7), .ref 69, .int v7, .ref 74]) (σ' := σ) (by decide +kernel) rfl rfl ?_
        obtain ⟨c86, h⟩ := ok_g h
        refine g_iald hx (by decide +kernel) (i := 69) (n := 189) rfl c86 ?_
        refine g_run hx [(.iconst 1, 1, 0), (.iadd, 0, 0)] (pc' := 89) (lo' := [some (.ref 69), some (.ref 74), none, none, some (.int v4), none, some (.int v6), some (.int v7)]) (st' := [.int ((gA σ 69 (129 + v7)) + 1), .int v7, .ref 74]) (σ' := σ) (by decide +kernel) rfl rfl ?_
        obtain ⟨c89, h⟩ := ok_g h
        refine g_iast hx (by decide +kernel) (i := 74) (n := 63) rfl c89 ?_
        refine g_run hx [(.iinc 7 1, 1, 0)] (pc' := 93) (lo' := [some (.ref 69), some (.ref 74), none, none, some (.int v4), none, some (.int v6), some (.int (v7 + 1))]) (st' := []) (σ' := sA σ 74 v7 ((gA σ 69 (129 + v7)) + 1)) (by decide +kernel) rfl rfl ?_
        refine g_goto hx (off := (-31)) (tgt := 62) (by decide +kernel) (by decide) ?_
        exact ih _ _ _ _ h
set_option maxRecDepth 100000 in
theorem s_m_strideOn_69_74 {y : EX} {N : Nat} {v2 : Int32} {v3 : Int32} {σ : Sg} {P : Bool × Sg → Prop} (h : ok (f_m_strideOn N 74 63 189 69 v2 v3 σ) P) : Ev y M_m_strideOn 2 [.ref 69, .ref 74, .int v2, .int v3] σ rvB P := by
  refine Ev.of mk_m_strideOn (Nat.le_of_ble_eq_true rfl) (fun x hx hc hr => ?_)
  have hx : Cx 10 prog_12_method_45_code x := hx
  have hc : Cc y 8 2 x := hc
  show G x 0 [some (.ref 69), some (.ref 74), some (.int v2), some (.int v3), none, none, none, none] [] σ
  unfold f_m_strideOn at h
  refine g_run hx [(.aload_n 0, 0, 0), (.aload_n 1, 0, 0), (.iload_n 2, 0, 0), (.iload_n 3, 0, 0)] (pc' := 4) (lo' := [some (.ref 69), some (.ref 74), some (.int v2), some (.int v3), none, none, none, none]) (st' := [.int v3, .int v2, .ref 74, .ref 69]) (σ' := σ) (by decide +kernel) rfl rfl ?_
  refine g_callS (rest := []) [.ref 69, .ref 74, .int v2, .int v3] hx hc mk_m_leadOf ln_10_265 (by decide +kernel) (by decide) (Nat.le_of_ble_eq_true rfl) (s_m_leadOf_69_74 (ok_b h)) (fun r1 s1 h => ?_)
  refine g_run hx [(.istore 4, 0, 0), (.iload 4, 0, 0)] (pc' := 11) (lo' := [some (.ref 69), some (.ref 74), some (.int v2), some (.int v3), some (.int r1), none, none, none]) (st' := [.int r1]) (σ' := s1) (by decide +kernel) rfl rfl ?_
  refine g_if_ge hx (off := 5) (tgt := 16) (by decide +kernel) (by decide) (fun c11 => ?_) (fun c11 => ?_)
  · have h := ok_t h c11
    refine g_run hx [(.iload 4, 0, 0), (.aload_n 1, 0, 0), (.bipush 60, 60, 0), (.iaload, 0, 0)] (pc' := 22) (lo' := [some (.ref 69), some (.ref 74), some (.int v2), some (.int v3), some (.int r1), none, none, none]) (st' := [.int (gA s1 74 60), .int r1]) (σ' := s1) (by decide +kernel) rfl rfl ?_
    refine g_ic_ge hx (off := 8) (tgt := 30) (by decide +kernel) (by decide) (fun c22 => ?_) (fun c22 => ?_)
    · have h := ok_t h c22
      refine g_run hx [(.aload_n 1, 0, 0), (.bipush 60, 60, 0), (.iaload, 0, 0), (.istore 5, 0, 0), (.iload 4, 0, 0), (.aload_n 1, 0, 0), (.bipush 60, 60, 0), (.iaload, 0, 0)] (pc' := 42) (lo' := [some (.ref 69), some (.ref 74), some (.int v2), some (.int v3), some (.int r1), some (.int (gA s1 74 60)), none, none]) (st' := [.int (gA s1 74 60), .int r1]) (σ' := s1) (by decide +kernel) rfl rfl ?_
      refine g_ic_ge hx (off := 10) (tgt := 52) (by decide +kernel) (by decide) (fun c42 => ?_) (fun c42 => ?_)
      · have h := ok_t h c42
        refine g_run hx [(.iload 4, 0, 0), (.istore 6, 0, 0), (.iload 5, 0, 0), (.iconst 1, 1, 0), (.iadd, 0, 0), (.istore 7, 0, 0)] (pc' := 62) (lo' := [some (.ref 69), some (.ref 74), some (.int v2), some (.int v3), some (.int r1), some (.int (gA s1 74 60)), some (.int r1), some (.int ((gA s1 74 60) + 1))]) (st' := []) (σ' := s1) (by decide +kernel) rfl rfl ?_
        refine g_wk (lo' := [some (.ref 69), some (.ref 74), none, none, some (.int r1), none, some (.int r1), some (.int ((gA s1 74 60) + 1))]) ⟨rfl, ⟨rfl, ⟨rfl, ⟨rfl, ⟨rfl, trivial⟩⟩⟩⟩⟩ ?_
        refine s_m_strideOn_69_74_L62 hx hc hr N _ _ _ _ h
      · have h := ok_f h c42
        refine g_run hx [(.aload_n 1, 0, 0), (.bipush 60, 60, 0), (.iaload, 0, 0)] (pc' := 49) (lo' := [some (.ref 69), some (.ref 74), some (.int v2), some (.int v3), some (.int r1), some (.int (gA s1 74 60)), none, none]) (st' := [.int (gA s1 74 60)]) (σ' := s1) (by decide +kernel) rfl rfl ?_
        refine g_goto hx (off := 5) (tgt := 54) (by decide +kernel) (by decide) ?_
        refine g_run hx [(.istore 6, 0, 0), (.iload 5, 0, 0), (.iconst 1, 1, 0), (.iadd, 0, 0), (.istore 7, 0, 0)] (pc' := 62) (lo' := [some (.ref 69), some (.ref 74), some (.int v2), some (.int v3), some (.int r1), some (.int (gA s1 74 60)), some (.int (gA s1 74 60)), some (.int ((gA s1 74 60) + 1))]) (st' := []) (σ' := s1) (by decide +kernel) rfl rfl ?_
        refine g_wk (lo' := [some (.ref 69), some (.ref 74), none, none, some (.int r1), none, some (.int (gA s1 74 60)), some (.int ((gA s1 74 60) + 1))]) ⟨rfl, ⟨rfl, ⟨rfl, ⟨rfl, ⟨rfl, trivial⟩⟩⟩⟩⟩ ?_
        refine s_m_strideOn_69_74_L62 hx hc hr N _ _ _ _ h
    · have h := ok_f h c22
      refine g_run hx [(.iload 4, 0, 0)] (pc' := 27) (lo' := [some (.ref 69), some (.ref 74), some (.int v2), some (.int v3), some (.int r1), none, none, none]) (st' := [.int r1]) (σ' := s1) (by decide +kernel) rfl rfl ?_
      refine g_goto hx (off := 7) (tgt := 34) (by decide +kernel) (by decide) ?_
      refine g_run hx [(.istore 5, 0, 0), (.iload 4, 0, 0), (.aload_n 1, 0, 0), (.bipush 60, 60, 0), (.iaload, 0, 0)] (pc' := 42) (lo' := [some (.ref 69), some (.ref 74), some (.int v2), some (.int v3), some (.int r1), some (.int r1), none, none]) (st' := [.int (gA s1 74 60), .int r1]) (σ' := s1) (by decide +kernel) rfl rfl ?_
      refine g_ic_ge hx (off := 10) (tgt := 52) (by decide +kernel) (by decide) (fun c42 => ?_) (fun c42 => ?_)
      · have h := ok_t h c42
        refine g_run hx [(.iload 4, 0, 0), (.istore 6, 0, 0), (.iload 5, 0, 0), (.iconst 1, 1, 0), (.iadd, 0, 0), (.istore 7, 0, 0)] (pc' := 62) (lo' := [some (.ref 69), some (.ref 74), some (.int v2), some (.int v3), some (.int r1), some (.int r1), some (.int r1), some (.int (r1 + 1))]) (st' := []) (σ' := s1) (by decide +kernel) rfl rfl ?_
        refine g_wk (lo' := [some (.ref 69), some (.ref 74), none, none, some (.int r1), none, some (.int r1), some (.int (r1 + 1))]) ⟨rfl, ⟨rfl, ⟨rfl, ⟨rfl, ⟨rfl, trivial⟩⟩⟩⟩⟩ ?_
        refine s_m_strideOn_69_74_L62 hx hc hr N _ _ _ _ h
      · have h := ok_f h c42
        refine g_run hx [(.aload_n 1, 0, 0), (.bipush 60, 60, 0), (.iaload, 0, 0)] (pc' := 49) (lo' := [some (.ref 69), some (.ref 74), some (.int v2), some (.int v3), some (.int r1), some (.int r1), none, none]) (st' := [.int (gA s1 74 60)]) (σ' := s1) (by decide +kernel) rfl rfl ?_
        refine g_goto hx (off := 5) (tgt := 54) (by decide +kernel) (by decide) ?_
        refine g_run hx [(.istore 6, 0, 0), (.iload 5, 0, 0), (.iconst 1, 1, 0), (.iadd, 0, 0), (.istore 7, 0, 0)] (pc' := 62) (lo' := [some (.ref 69), some (.ref 74), some (.int v2), some (.int v3), some (.int r1), some (.int r1), some (.int (gA s1 74 60)), some (.int (r1 + 1))]) (st' := []) (σ' := s1) (by decide +kernel) rfl rfl ?_
        refine g_wk (lo' := [some (.ref 69), some (.ref 74), none, none, some (.int r1), none, some (.int (gA s1 74 60)), some (.int (r1 + 1))]) ⟨rfl, ⟨rfl, ⟨rfl, ⟨rfl, ⟨rfl, trivial⟩⟩⟩⟩⟩ ?_
        refine s_m_strideOn_69_74_L62 hx hc hr N _ _ _ _ h
  · have h := ok_f h c11
    refine g_run hx [(.iconst 0, 0, 0)] (pc' := 15) (lo' := [some (.ref 69), some (.ref 74), some (.int v2), some (.int v3), some (.int r1), none, none, none]) (st' := [.int 0]) (σ' := s1) (by decide +kernel) rfl rfl ?_
    exact g_zret (b := false) hx hr rfl false rfl (by decide +kernel) (ok_some h)
def f_m_stride (N : Nat) (v1 : Int32) (v2 : Int32) (σ : Sg) : Option (Int32 × Sg) :=
  (f_m_anew N σ).bind fun q1 =>
  (f_m_wayWhy N v1 v2 q1.2).bind fun q2 =>
  if q2.1 = 0 then
    (f_m_leadOf N 189 74 69 63 v1 v2 q2.2).bind fun q6 =>
    if 0 ≤ q6.1 then
      if q2.1 = 0 then
        (f_m_note N q6.2).bind fun q7 =>
        (f_m_strideOn N 74 63 189 69 v1 v2 q7.2).bind fun q8 =>
        some ((gA q8.2 74 60), q8.2)
      else
        (f_m_no N q2.1 q6.2).bind fun q9 =>
        some (q9.1, q9.2)
    else
      (f_m_no N 5 q6.2).bind fun q10 =>
      some (q10.1, q10.2)
  else
    if q2.1 = 0 then
      (f_m_note N q2.2).bind fun q3 =>
      (f_m_strideOn N 74 63 189 69 v1 v2 q3.2).bind fun q4 =>
      some ((gA q4.2 74 60), q4.2)
    else
      (f_m_no N q2.1 q2.2).bind fun q5 =>
      some (q5.1, q5.2)
set_option maxRecDepth 100000 in
theorem s_m_stride {y : EX} {N : Nat} {v1 : Int32} {v2 : Int32} {σ : Sg} {P : Int32 × Sg → Prop} (h : ok (f_m_stride N v1 v2 σ) P) : Ev y M_m_stride 3 [.ref 66, .int v1, .int v2] σ rvI P := by
  refine Ev.of mk_m_stride (Nat.le_of_ble_eq_true rfl) (fun x hx hc hr => ?_)
  have hx : Cx 10 prog_12_method_121_code x := hx
  have hc : Cc y 4 3 x := hc
  show G x 0 [some (.ref 66), some (.int v1), some (.int v2), none] [] σ
  unfold f_m_stride at h
  refine g_run hx [(.aload_n 0, 0, 0)] (pc' := 1) (lo' := [some (.ref 66), some (.int v1), some (.int v2), none]) (st' := [.ref 66]) (σ' := σ) (by decide +kernel) rfl rfl ?_
  refine g_callV (rest := []) [] hx hc mk_m_anew ln_10_174 rfl (by decide +kernel) (by decide) (Nat.le_of_ble_eq_true rfl) (s_m_anew (ok_b h)) (fun r1 s1 h => ?_)
  refine g_run hx [(.aload_n 0, 0, 0), (.iload_n 1, 0, 0), (.iload_n 2, 0, 0)] (pc' := 7) (lo' := [some (.ref 66), some (.int v1), some (.int v2), none]) (st' := [.int v2, .int v1, .ref 66]) (σ' := s1) (by decide +kernel) rfl rfl ?_
  refine g_callV (rest := []) [.int v1, .int v2] hx hc mk_m_wayWhy ln_10_321 rfl (by decide +kernel) (by decide) (Nat.le_of_ble_eq_true rfl) (s_m_wayWhy (ok_b h)) (fun r2 s2 h => ?_)
  refine g_run hx [(.istore_n 3, 0, 0), (.iload_n 3, 0, 0)] (pc' := 12) (lo' := [some (.ref 66), some (.int v1), some (.int v2), some (.int r2)]) (st' := [.int r2]) (σ' := s2) (by decide +kernel) rfl rfl ?_
  refine g_if_ne hx (off := 21) (tgt := 33) (by decide +kernel) (by decide) (fun c12 => ?_) (fun c12 => ?_)
  · have h := ok_f h c12
    refine g_run hx [(.iload_n 3, 0, 0)] (pc' := 34) (lo' := [some (.ref 66), some (.int v1), some (.int v2), some (.int r2)]) (st' := [.int r2]) (σ' := s2) (by decide +kernel) rfl rfl ?_
    refine g_if_eq hx (off := 9) (tgt := 43) (by decide +kernel) (by decide) (fun c34 => ?_) (fun c34 => ?_)
    · have h := ok_t h c34
      refine g_run hx [(.aload_n 0, 0, 0)] (pc' := 44) (lo' := [some (.ref 66), some (.int v1), some (.int v2), some (.int r2)]) (st' := [.ref 66]) (σ' := s2) (by decide +kernel) rfl rfl ?_
      refine g_callV (rest := []) [] hx hc mk_m_note ln_10_437 rfl (by decide +kernel) (by decide) (Nat.le_of_ble_eq_true rfl) (s_m_note (ok_b h)) (fun r3 s3 h => ?_)
      refine g_run hx [(.aload_n 0, 0, 0), (.getfield 20, 0, 0), (.aload_n 0, 0, 0), (.getfield 35, 0, 0), (.iload_n 1, 0, 0), (.iload_n 2, 0, 0)] (pc' := 57) (lo' := [some (.ref 66), some (.int v1), some (.int v2), some (.int r2)]) (st' := [.int v2, .int v1, .ref 74, .ref 69]) (σ' := s3) (by decide +kernel) rfl rfl ?_
      refine g_callS (rest := []) [.ref 69, .ref 74, .int v1, .int v2] hx hc mk_m_strideOn ln_10_253 (by decide +kernel) (by decide) (Nat.le_of_ble_eq_true rfl) (s_m_strideOn_69_74 (ok_b h)) (fun r4 s4 h => ?_)
      refine g_run hx [(.pop, 0, 0), (.aload_n 0, 0, 0), (.getfield 35, 0, 0), (.bipush 60, 60, 0), (.iaload, 0, 0)] (pc' := 68) (lo' := [some (.ref 66), some (.int v1), some (.int v2), some (.int r2)]) (st' := [.int (gA s4 74 60)]) (σ' := s4) (by decide +kernel) rfl rfl ?_
      exact g_iret hx hr rfl _ rfl (by decide +kernel) (ok_some h)
    · have h := ok_f h c34
      refine g_run hx [(.aload_n 0, 0, 0), (.iload_n 3, 0, 0)] (pc' := 39) (lo' := [some (.ref 66), some (.int v1), some (.int v2), some (.int r2)]) (st' := [.int r2, .ref 66]) (σ' := s2) (by decide +kernel) rfl rfl ?_
      refine g_callV (rest := []) [.int r2] hx hc mk_m_no ln_10_177 rfl (by decide +kernel) (by decide) (Nat.le_of_ble_eq_true rfl) (s_m_no (ok_b h)) (fun r5 s5 h => ?_)
      exact g_iret hx hr rfl _ rfl (by decide +kernel) (ok_some h)
  · have h := ok_t h c12
    refine g_run hx [(.aload_n 0, 0, 0), (.getfield 20, 0, 0), (.aload_n 0, 0, 0), (.getfield 35, 0, 0), (.iload_n 1, 0, 0), (.iload_n 2, 0, 0)] (pc' := 25) (lo' := [some (.ref 66), some (.int v1), some (.int v2), some (.int r2)]) (st' := [.int v2, .int v1, .ref 74, .ref 69]) (σ' := s2) (by decide +kernel) rfl rfl ?_
    refine g_callS (rest := []) [.ref 69, .ref 74, .int v1, .int v2] hx hc mk_m_leadOf ln_10_265 (by decide +kernel) (by decide) (Nat.le_of_ble_eq_true rfl) (s_m_leadOf_69_74 (ok_b h)) (fun r6 s6 h => ?_)
    refine g_if_ge hx (off := 5) (tgt := 33) (by decide +kernel) (by decide) (fun c28 => ?_) (fun c28 => ?_)
    · have h := ok_t h c28
      refine g_run hx [(.iload_n 3, 0, 0)] (pc' := 34) (lo' := [some (.ref 66), some (.int v1), some (.int v2), some (.int r2)]) (st' := [.int r2]) (σ' := s6) (by decide +kernel) rfl rfl ?_
      refine g_if_eq hx (off := 9) (tgt := 43) (by decide +kernel) (by decide) (fun c34 => ?_) (fun c34 => ?_)
      · have h := ok_t h c34
        refine g_run hx [(.aload_n 0, 0, 0)] (pc' := 44) (lo' := [some (.ref 66), some (.int v1), some (.int v2), some (.int r2)]) (st' := [.ref 66]) (σ' := s6) (by decide +kernel) rfl rfl ?_
        refine g_callV (rest := []) [] hx hc mk_m_note ln_10_437 rfl (by decide +kernel) (by decide) (Nat.le_of_ble_eq_true rfl) (s_m_note (ok_b h)) (fun r7 s7 h => ?_)
        refine g_run hx [(.aload_n 0, 0, 0), (.getfield 20, 0, 0), (.aload_n 0, 0, 0), (.getfield 35, 0, 0), (.iload_n 1, 0, 0), (.iload_n 2, 0, 0)] (pc' := 57) (lo' := [some (.ref 66), some (.int v1), some (.int v2), some (.int r2)]) (st' := [.int v2, .int v1, .ref 74, .ref 69]) (σ' := s7) (by decide +kernel) rfl rfl ?_
        refine g_callS (rest := []) [.ref 69, .ref 74, .int v1, .int v2] hx hc mk_m_strideOn ln_10_253 (by decide +kernel) (by decide) (Nat.le_of_ble_eq_true rfl) (s_m_strideOn_69_74 (ok_b h)) (fun r8 s8 h => ?_)
        refine g_run hx [(.pop, 0, 0), (.aload_n 0, 0, 0), (.getfield 35, 0, 0), (.bipush 60, 60, 0), (.iaload, 0, 0)] (pc' := 68) (lo' := [some (.ref 66), some (.int v1), some (.int v2), some (.int r2)]) (st' := [.int (gA s8 74 60)]) (σ' := s8) (by decide +kernel) rfl rfl ?_
        exact g_iret hx hr rfl _ rfl (by decide +kernel) (ok_some h)
      · have h := ok_f h c34
        refine g_run hx [(.aload_n 0, 0, 0), (.iload_n 3, 0, 0)] (pc' := 39) (lo' := [some (.ref 66), some (.int v1), some (.int v2), some (.int r2)]) (st' := [.int r2, .ref 66]) (σ' := s6) (by decide +kernel) rfl rfl ?_
        refine g_callV (rest := []) [.int r2] hx hc mk_m_no ln_10_177 rfl (by decide +kernel) (by decide) (Nat.le_of_ble_eq_true rfl) (s_m_no (ok_b h)) (fun r9 s9 h => ?_)
        exact g_iret hx hr rfl _ rfl (by decide +kernel) (ok_some h)
    · have h := ok_f h c28
      refine g_run hx [(.iconst 5, 5, 0), (.istore_n 3, 0, 0), (.iload_n 3, 0, 0)] (pc' := 34) (lo' := [some (.ref 66), some (.int v1), some (.int v2), some (.int 5)]) (st' := [.int 5]) (σ' := s6) (by decide +kernel) rfl rfl ?_
      refine g_if_eq hx (off := 9) (tgt := 43) (by decide +kernel) (by decide) (fun c => absurd c (by decide)) (fun _ => ?_)
      refine g_run hx [(.aload_n 0, 0, 0), (.iload_n 3, 0, 0)] (pc' := 39) (lo' := [some (.ref 66), some (.int v1), some (.int v2), some (.int 5)]) (st' := [.int 5, .ref 66]) (σ' := s6) (by decide +kernel) rfl rfl ?_
      refine g_callV (rest := []) [.int 5] hx hc mk_m_no ln_10_177 rfl (by decide +kernel) (by decide) (Nat.le_of_ble_eq_true rfl) (s_m_no (ok_b h)) (fun r10 s10 h => ?_)
      exact g_iret hx hr rfl _ rfl (by decide +kernel) (ok_some h)
def f_m_sum (N : Nat) (v1 : Int32) (σ : Sg) : Option (Int32 × Sg) :=
  (f_m_anew N σ).bind fun q1 =>
  (f_m_aheadWhy N (gI q1.2 66 14) v1 q1.2).bind fun q2 =>
  if q2.1 = 0 then
    (f_m_laySums N q2.2).bind fun q3 =>
    if vin v1 61 then
    if (gA q3.2 83 v1) < 100000000 then
      if vin v1 61 then
      some ((gA q3.2 83 v1), q3.2)
      else none
    else
      some ((-2), q3.2)
    else none
  else
    (f_m_no N q2.1 q2.2).bind fun q4 =>
    some (q4.1, q4.2)
set_option maxRecDepth 100000 in
theorem s_m_sum {y : EX} {N : Nat} {v1 : Int32} {σ : Sg} {P : Int32 × Sg → Prop} (h : ok (f_m_sum N v1 σ) P) : Ev y M_m_sum 2 [.ref 66, .int v1] σ rvI P := by
  refine Ev.of mk_m_sum (Nat.le_of_ble_eq_true rfl) (fun x hx hc hr => ?_)
  have hx : Cx 10 prog_12_method_90_code x := hx
  have hc : Cc y 3 2 x := hc
  show G x 0 [some (.ref 66), some (.int v1), none] [] σ
  unfold f_m_sum at h
  refine g_run hx [(.aload_n 0, 0, 0)] (pc' := 1) (lo' := [some (.ref 66), some (.int v1), none]) (st' := [.ref 66]) (σ' := σ) (by decide +kernel) rfl rfl ?_
  refine g_callV (rest := []) [] hx hc mk_m_anew ln_10_174 rfl (by decide +kernel) (by decide) (Nat.le_of_ble_eq_true rfl) (s_m_anew (ok_b h)) (fun r1 s1 h => ?_)
  refine g_run hx [(.aload_n 0, 0, 0), (.aload_n 0, 0, 0), (.getfield 187, 0, 0), (.iload_n 1, 0, 0)] (pc' := 10) (lo' := [some (.ref 66), some (.int v1), none]) (st' := [.int v1, .int (gI s1 66 14), .ref 66]) (σ' := s1) (by decide +kernel) rfl rfl ?_
  refine g_callV (rest := []) [.int (gI s1 66 14), .int v1] hx hc mk_m_aheadWhy ln_10_314 rfl (by decide +kernel) (by decide) (Nat.le_of_ble_eq_true rfl) (s_m_aheadWhy (ok_b h)) (fun r2 s2 h => ?_)
  refine g_run hx [(.istore_n 2, 0, 0), (.iload_n 2, 0, 0)] (pc' := 15) (lo' := [some (.ref 66), some (.int v1), some (.int r2)]) (st' := [.int r2]) (σ' := s2) (by decide +kernel) rfl rfl ?_
  refine g_if_eq hx (off := 9) (tgt := 24) (by decide +kernel) (by decide) (fun c15 => ?_) (fun c15 => ?_)
  · have h := ok_t h c15
    refine g_run hx [(.aload_n 0, 0, 0)] (pc' := 25) (lo' := [some (.ref 66), some (.int v1), some (.int r2)]) (st' := [.ref 66]) (σ' := s2) (by decide +kernel) rfl rfl ?_
    refine g_callV (rest := []) [] hx hc mk_m_laySums ln_10_359 rfl (by decide +kernel) (by decide) (Nat.le_of_ble_eq_true rfl) (s_m_laySums (ok_b h)) (fun r3 s3 h => ?_)
    refine g_run hx [(.aload_n 0, 0, 0), (.getfield 62, 0, 0), (.iload_n 1, 0, 0)] (pc' := 33) (lo' := [some (.ref 66), some (.int v1), some (.int r2)]) (st' := [.int v1, .ref 83]) (σ' := s3) (by decide +kernel) rfl rfl ?_
    obtain ⟨c33, h⟩ := ok_g h
    refine g_iald hx (by decide +kernel) (i := 83) (n := 61) rfl c33 ?_
    refine g_run hx [(.ldc_w 313, 100000000, 0)] (pc' := 37) (lo' := [some (.ref 66), some (.int v1), some (.int r2)]) (st' := [.int 100000000, .int (gA s3 83 v1)]) (σ' := s3) (by decide +kernel) rfl rfl ?_
    refine g_ic_lt hx (off := 8) (tgt := 45) (by decide +kernel) (by decide) (fun c37 => ?_) (fun c37 => ?_)
    · have h := ok_t h c37
      refine g_run hx [(.aload_n 0, 0, 0), (.getfield 62, 0, 0), (.iload_n 1, 0, 0)] (pc' := 50) (lo' := [some (.ref 66), some (.int v1), some (.int r2)]) (st' := [.int v1, .ref 83]) (σ' := s3) (by decide +kernel) rfl rfl ?_
      obtain ⟨c50, h⟩ := ok_g h
      refine g_iald hx (by decide +kernel) (i := 83) (n := 61) rfl c50 ?_
      exact g_iret hx hr rfl _ rfl (by decide +kernel) (ok_some h)
    · have h := ok_f h c37
      refine g_run hx [(.bipush (-2), (-2), 0)] (pc' := 42) (lo' := [some (.ref 66), some (.int v1), some (.int r2)]) (st' := [.int (-2)]) (σ' := s3) (by decide +kernel) rfl rfl ?_
      refine g_goto hx (off := 9) (tgt := 51) (by decide +kernel) (by decide) ?_
      exact g_iret hx hr rfl _ rfl (by decide +kernel) (ok_some h)
  · have h := ok_f h c15
    refine g_run hx [(.aload_n 0, 0, 0), (.iload_n 2, 0, 0)] (pc' := 20) (lo' := [some (.ref 66), some (.int v1), some (.int r2)]) (st' := [.int r2, .ref 66]) (σ' := s2) (by decide +kernel) rfl rfl ?_
    refine g_callV (rest := []) [.int r2] hx hc mk_m_no ln_10_177 rfl (by decide +kernel) (by decide) (Nat.le_of_ble_eq_true rfl) (s_m_no (ok_b h)) (fun r4 s4 h => ?_)
    exact g_iret hx hr rfl _ rfl (by decide +kernel) (ok_some h)
def f_m_surely (N : Nat) (σ : Sg) : Option (Int32 × Sg) :=
  (f_m_anew N σ).bind fun q1 =>
  if (gI q1.2 66 14) = 0 then
    (f_m_no N 1 q1.2).bind fun q3 =>
    some (q3.1, q3.2)
  else
    (f_m_seekSets N (-1) q1.2).bind fun q2 =>
    some ((gI q2.2 66 47), q2.2)
set_option maxRecDepth 100000 in
theorem s_m_surely {y : EX} {N : Nat} {σ : Sg} {P : Int32 × Sg → Prop} (h : ok (f_m_surely N σ) P) : Ev y M_m_surely 5 [.ref 66] σ rvI P := by
  refine Ev.of mk_m_surely (Nat.le_of_ble_eq_true rfl) (fun x hx hc hr => ?_)
  have hx : Cx 10 prog_12_method_105_code x := hx
  have hc : Cc y 1 5 x := hc
  show G x 0 [some (.ref 66)] [] σ
  unfold f_m_surely at h
  refine g_run hx [(.aload_n 0, 0, 0)] (pc' := 1) (lo' := [some (.ref 66)]) (st' := [.ref 66]) (σ' := σ) (by decide +kernel) rfl rfl ?_
  refine g_callV (rest := []) [] hx hc mk_m_anew ln_10_174 rfl (by decide +kernel) (by decide) (Nat.le_of_ble_eq_true rfl) (s_m_anew (ok_b h)) (fun r1 s1 h => ?_)
  refine g_run hx [(.aload_n 0, 0, 0), (.getfield 187, 0, 0)] (pc' := 8) (lo' := [some (.ref 66)]) (st' := [.int (gI s1 66 14)]) (σ' := s1) (by decide +kernel) rfl rfl ?_
  refine g_if_ne hx (off := 9) (tgt := 17) (by decide +kernel) (by decide) (fun c8 => ?_) (fun c8 => ?_)
  · have h := ok_f h c8
    refine g_run hx [(.aload_n 0, 0, 0), (.iconst (-1), (-1), 0)] (pc' := 19) (lo' := [some (.ref 66)]) (st' := [.int (-1), .ref 66]) (σ' := s1) (by decide +kernel) rfl rfl ?_
    refine g_callV (rest := []) [.int (-1)] hx hc mk_m_seekSets ln_10_399 rfl (by decide +kernel) (by decide) (Nat.le_of_ble_eq_true rfl) (s_m_seekSets (ok_b h)) (fun r2 s2 h => ?_)
    refine g_run hx [(.pop, 0, 0), (.aload_n 0, 0, 0), (.getfield 393, 0, 0)] (pc' := 27) (lo' := [some (.ref 66)]) (st' := [.int (gI s2 66 47)]) (σ' := s2) (by decide +kernel) rfl rfl ?_
    exact g_iret hx hr rfl _ rfl (by decide +kernel) (ok_some h)
  · have h := ok_t h c8
    refine g_run hx [(.aload_n 0, 0, 0), (.iconst 1, 1, 0)] (pc' := 13) (lo' := [some (.ref 66)]) (st' := [.int 1, .ref 66]) (σ' := s1) (by decide +kernel) rfl rfl ?_
    refine g_callV (rest := []) [.int 1] hx hc mk_m_no ln_10_177 rfl (by decide +kernel) (by decide) (Nat.le_of_ble_eq_true rfl) (s_m_no (ok_b h)) (fun r3 s3 h => ?_)
    exact g_iret hx hr rfl _ rfl (by decide +kernel) (ok_some h)
def f_m_thrown (N : Nat) (σ : Sg) : Option (Int32 × Sg) :=
  some ((gI σ 66 0), σ)
set_option maxRecDepth 100000 in
theorem s_m_thrown {y : EX} {N : Nat} {σ : Sg} {P : Int32 × Sg → Prop} (h : ok (f_m_thrown N σ) P) : Ev y M_m_thrown 0 [.ref 66] σ rvI P := by
  refine Ev.of mk_m_thrown (Nat.le_of_ble_eq_true rfl) (fun x hx hc hr => ?_)
  have hx : Cx 10 prog_12_method_2_code x := hx
  have hc : Cc y 1 0 x := hc
  show G x 0 [some (.ref 66)] [] σ
  unfold f_m_thrown at h
  refine g_run hx [(.aload_n 0, 0, 0), (.getfield 68, 0, 0)] (pc' := 4) (lo' := [some (.ref 66)]) (st' := [.int (gI σ 66 0)]) (σ' := σ) (by decide +kernel) rfl rfl ?_
  exact g_iret hx hr rfl _ rfl (by decide +kernel) (ok_some h)
def f_m_tourWhy (N : Nat) (v1 : Int32) (σ : Sg) : Option (Int32 × Sg) :=
  (f_m_in N v1 0 10 σ).bind fun q1 =>
  (f_m_why N (gI σ 66 14) (b2i q1.1) q1.2).bind fun q2 =>
  some (q2.1, q2.2)
set_option maxRecDepth 100000 in
theorem s_m_tourWhy {y : EX} {N : Nat} {v1 : Int32} {σ : Sg} {P : Int32 × Sg → Prop} (h : ok (f_m_tourWhy N v1 σ) P) : Ev y M_m_tourWhy 1 [.ref 66, .int v1] σ rvI P := by
  refine Ev.of mk_m_tourWhy (Nat.le_of_ble_eq_true rfl) (fun x hx hc hr => ?_)
  have hx : Cx 10 prog_12_method_95_code x := hx
  have hc : Cc y 2 1 x := hc
  show G x 0 [some (.ref 66), some (.int v1)] [] σ
  unfold f_m_tourWhy at h
  refine g_run hx [(.aload_n 0, 0, 0), (.aload_n 0, 0, 0), (.getfield 187, 0, 0), (.iload_n 1, 0, 0), (.iconst 0, 0, 0), (.bipush 10, 10, 0)] (pc' := 9) (lo' := [some (.ref 66), some (.int v1)]) (st' := [.int 10, .int 0, .int v1, .int (gI σ 66 14), .ref 66]) (σ' := σ) (by decide +kernel) rfl rfl ?_
  refine g_callS (rest := [.int (gI σ 66 14), .ref 66]) [.int v1, .int 0, .int 10] hx hc mk_m_in ln_10_156 (by decide +kernel) (by decide) (Nat.le_of_ble_eq_true rfl) (s_m_in (ok_b h)) (fun r1 s1 h => ?_)
  refine g_callV (rest := []) [.int (gI σ 66 14), .int (b2i r1)] hx hc mk_m_why ln_10_261 rfl (by decide +kernel) (by decide) (Nat.le_of_ble_eq_true rfl) (s_m_why (ok_b h)) (fun r2 s2 h => ?_)
  exact g_iret hx hr rfl _ rfl (by decide +kernel) (ok_some h)
set_option maxRecDepth 100000 in
theorem s_m_stepOn_66_75 {y : EX} {N : Nat} {v2 : Int32} {σ : Sg} {P : Bool × Sg → Prop} (h : ok (f_m_stepOn N 75 69 63 v2 σ) P) : Ev y M_m_stepOn 1 [.ref 66, .ref 75, .int v2] σ rvB P := by
  refine Ev.of mk_m_stepOn (Nat.le_of_ble_eq_true rfl) (fun x hx hc hr => ?_)
  have hx : Cx 10 prog_12_method_46_code x := hx
  have hc : Cc y 4 1 x := hc
  show G x 0 [some (.ref 66), some (.ref 75), some (.int v2), none] [] σ
  unfold f_m_stepOn at h
  refine g_run hx [(.aload_n 1, 0, 0), (.bipush 61, 61, 0), (.iaload, 0, 0), (.iload_n 2, 0, 0)] (pc' := 5) (lo' := [some (.ref 66), some (.ref 75), some (.int v2), none]) (st' := [.int v2, .int (gA σ 75 61)]) (σ' := σ) (by decide +kernel) rfl rfl ?_
  refine g_if_ne hx (off := 7) (tgt := 12) (by decide +kernel) (by decide) (fun c5 => ?_) (fun c5 => ?_)
  · have h := ok_f h c5
    refine g_run hx [(.iconst (-1), (-1), 0), (.iadd, 0, 0), (.istore_n 3, 0, 0), (.iload_n 3, 0, 0), (.iconst 0, 0, 0), (.aload_n 0, 0, 0), (.getfield 20, 0, 0), (.iconst 0, 0, 0), (.iaload, 0, 0), (.iconst 1, 1, 0), (.isub, 0, 0)] (pc' := 25) (lo' := [some (.ref 66), some (.ref 75), some (.int v2), some (.int ((gA σ 75 61) + (-1)))]) (st' := [.int ((gA σ 69 0) - 1), .int 0, .int ((gA σ 75 61) + (-1))]) (σ' := σ) (by decide +kernel) rfl rfl ?_
    refine g_callS (rest := []) [.int ((gA σ 75 61) + (-1)), .int 0, .int ((gA σ 69 0) - 1)] hx hc mk_m_in ln_10_156 (by decide +kernel) (by decide) (Nat.le_of_ble_eq_true rfl) (s_m_in (ok_b h)) (fun r1 s1 h => ?_)
    refine g_ifb_ne hx (off := 5) (tgt := 33) (by decide +kernel) (by decide) (fun c28 => ?_) (fun c28 => ?_)
    · have h := ok_t h c28
      refine g_run hx [(.aload_n 1, 0, 0), (.bipush 61, 61, 0), (.iload_n 3, 0, 0), (.iastore, 0, 0), (.aload_n 1, 0, 0), (.iload_n 3, 0, 0)] (pc' := 40) (lo' := [some (.ref 66), some (.ref 75), some (.int v2), some (.int ((gA σ 75 61) + (-1)))]) (st' := [.int ((gA σ 75 61) + (-1)), .ref 75]) (σ' := sA s1 75 61 ((gA σ 75 61) + (-1))) (by decide +kernel) rfl rfl ?_
      obtain ⟨c40, h⟩ := ok_g h
      refine g_iald hx (by decide +kernel) (i := 75) (n := 63) rfl c40 ?_
      refine g_if_le hx (off := 10) (tgt := 51) (by decide +kernel) (by decide) (fun c41 => ?_) (fun c41 => ?_)
      · have h := ok_t h c41
        refine g_run hx [(.iconst 1, 1, 0)] (pc' := 52) (lo' := [some (.ref 66), some (.ref 75), some (.int v2), some (.int ((gA σ 75 61) + (-1)))]) (st' := [.int 1]) (σ' := sA s1 75 61 ((gA σ 75 61) + (-1))) (by decide +kernel) rfl rfl ?_
        exact g_zret (b := true) hx hr rfl true rfl (by decide +kernel) (ok_some h)
      · have h := ok_f h c41
        refine g_run hx [(.aload_n 1, 0, 0), (.iload_n 3, 0, 0), (.dup2, 0, 0)] (pc' := 47) (lo' := [some (.ref 66), some (.ref 75), some (.int v2), some (.int ((gA σ 75 61) + (-1)))]) (st' := [.int ((gA σ 75 61) + (-1)), .ref 75, .int ((gA σ 75 61) + (-1)), .ref 75]) (σ' := sA s1 75 61 ((gA σ 75 61) + (-1))) (by decide +kernel) rfl rfl ?_
        obtain ⟨c47, h⟩ := ok_g h
        refine g_iald hx (by decide +kernel) (i := 75) (n := 63) rfl c47 ?_
        refine g_run hx [(.iconst 1, 1, 0), (.isub, 0, 0)] (pc' := 50) (lo' := [some (.ref 66), some (.ref 75), some (.int v2), some (.int ((gA σ 75 61) + (-1)))]) (st' := [.int ((gA (sA s1 75 61 ((gA σ 75 61) + (-1))) 75 ((gA σ 75 61) + (-1))) - 1), .int ((gA σ 75 61) + (-1)), .ref 75]) (σ' := sA s1 75 61 ((gA σ 75 61) + (-1))) (by decide +kernel) rfl rfl ?_
        obtain ⟨c50, h⟩ := ok_g h
        refine g_iast hx (by decide +kernel) (i := 75) (n := 63) rfl c50 ?_
        refine g_run hx [(.iconst 1, 1, 0)] (pc' := 52) (lo' := [some (.ref 66), some (.ref 75), some (.int v2), some (.int ((gA σ 75 61) + (-1)))]) (st' := [.int 1]) (σ' := sA (sA s1 75 61 ((gA σ 75 61) + (-1))) 75 ((gA σ 75 61) + (-1)) ((gA (sA s1 75 61 ((gA σ 75 61) + (-1))) 75 ((gA σ 75 61) + (-1))) - 1)) (by decide +kernel) rfl rfl ?_
        exact g_zret (b := true) hx hr rfl true rfl (by decide +kernel) (ok_some h)
    · have h := ok_f h c28
      refine g_run hx [(.iconst 0, 0, 0)] (pc' := 32) (lo' := [some (.ref 66), some (.ref 75), some (.int v2), some (.int ((gA σ 75 61) + (-1)))]) (st' := [.int 0]) (σ' := s1) (by decide +kernel) rfl rfl ?_
      exact g_zret (b := false) hx hr rfl false rfl (by decide +kernel) (ok_some h)
  · have h := ok_t h c5
    refine g_run hx [(.iconst 1, 1, 0)] (pc' := 9) (lo' := [some (.ref 66), some (.ref 75), some (.int v2), none]) (st' := [.int 1, .int (gA σ 75 61)]) (σ' := σ) (by decide +kernel) rfl rfl ?_
    refine g_goto hx (off := 4) (tgt := 13) (by decide +kernel) (by decide) ?_
    refine g_run hx [(.iadd, 0, 0), (.istore_n 3, 0, 0), (.iload_n 3, 0, 0), (.iconst 0, 0, 0), (.aload_n 0, 0, 0), (.getfield 20, 0, 0), (.iconst 0, 0, 0), (.iaload, 0, 0), (.iconst 1, 1, 0), (.isub, 0, 0)] (pc' := 25) (lo' := [some (.ref 66), some (.ref 75), some (.int v2), some (.int ((gA σ 75 61) + 1))]) (st' := [.int ((gA σ 69 0) - 1), .int 0, .int ((gA σ 75 61) + 1)]) (σ' := σ) (by decide +kernel) rfl rfl ?_
    refine g_callS (rest := []) [.int ((gA σ 75 61) + 1), .int 0, .int ((gA σ 69 0) - 1)] hx hc mk_m_in ln_10_156 (by decide +kernel) (by decide) (Nat.le_of_ble_eq_true rfl) (s_m_in (ok_b h)) (fun r2 s2 h => ?_)
    refine g_ifb_ne hx (off := 5) (tgt := 33) (by decide +kernel) (by decide) (fun c28 => ?_) (fun c28 => ?_)
    · have h := ok_t h c28
      refine g_run hx [(.aload_n 1, 0, 0), (.bipush 61, 61, 0), (.iload_n 3, 0, 0), (.iastore, 0, 0), (.aload_n 1, 0, 0), (.iload_n 3, 0, 0)] (pc' := 40) (lo' := [some (.ref 66), some (.ref 75), some (.int v2), some (.int ((gA σ 75 61) + 1))]) (st' := [.int ((gA σ 75 61) + 1), .ref 75]) (σ' := sA s2 75 61 ((gA σ 75 61) + 1)) (by decide +kernel) rfl rfl ?_
      obtain ⟨c40, h⟩ := ok_g h
      refine g_iald hx (by decide +kernel) (i := 75) (n := 63) rfl c40 ?_
      refine g_if_le hx (off := 10) (tgt := 51) (by decide +kernel) (by decide) (fun c41 => ?_) (fun c41 => ?_)
      · have h := ok_t h c41
        refine g_run hx [(.iconst 1, 1, 0)] (pc' := 52) (lo' := [some (.ref 66), some (.ref 75), some (.int v2), some (.int ((gA σ 75 61) + 1))]) (st' := [.int 1]) (σ' := sA s2 75 61 ((gA σ 75 61) + 1)) (by decide +kernel) rfl rfl ?_
        exact g_zret (b := true) hx hr rfl true rfl (by decide +kernel) (ok_some h)
      · have h := ok_f h c41
        refine g_run hx [(.aload_n 1, 0, 0), (.iload_n 3, 0, 0), (.dup2, 0, 0)] (pc' := 47) (lo' := [some (.ref 66), some (.ref 75), some (.int v2), some (.int ((gA σ 75 61) + 1))]) (st' := [.int ((gA σ 75 61) + 1), .ref 75, .int ((gA σ 75 61) + 1), .ref 75]) (σ' := sA s2 75 61 ((gA σ 75 61) + 1)) (by decide +kernel) rfl rfl ?_
        obtain ⟨c47, h⟩ := ok_g h
        refine g_iald hx (by decide +kernel) (i := 75) (n := 63) rfl c47 ?_
        refine g_run hx [(.iconst 1, 1, 0), (.isub, 0, 0)] (pc' := 50) (lo' := [some (.ref 66), some (.ref 75), some (.int v2), some (.int ((gA σ 75 61) + 1))]) (st' := [.int ((gA (sA s2 75 61 ((gA σ 75 61) + 1)) 75 ((gA σ 75 61) + 1)) - 1), .int ((gA σ 75 61) + 1), .ref 75]) (σ' := sA s2 75 61 ((gA σ 75 61) + 1)) (by decide +kernel) rfl rfl ?_
        obtain ⟨c50, h⟩ := ok_g h
        refine g_iast hx (by decide +kernel) (i := 75) (n := 63) rfl c50 ?_
        refine g_run hx [(.iconst 1, 1, 0)] (pc' := 52) (lo' := [some (.ref 66), some (.ref 75), some (.int v2), some (.int ((gA σ 75 61) + 1))]) (st' := [.int 1]) (σ' := sA (sA s2 75 61 ((gA σ 75 61) + 1)) 75 ((gA σ 75 61) + 1) ((gA (sA s2 75 61 ((gA σ 75 61) + 1)) 75 ((gA σ 75 61) + 1)) - 1)) (by decide +kernel) rfl rfl ?_
        exact g_zret (b := true) hx hr rfl true rfl (by decide +kernel) (ok_some h)
    · have h := ok_f h c28
      refine g_run hx [(.iconst 0, 0, 0)] (pc' := 32) (lo' := [some (.ref 66), some (.ref 75), some (.int v2), some (.int ((gA σ 75 61) + 1))]) (st' := [.int 0]) (σ' := s2) (by decide +kernel) rfl rfl ?_
      exact g_zret (b := false) hx hr rfl false rfl (by decide +kernel) (ok_some h)
def f_m_walks_L8 (N : Nat) : Nat → Int32 → Int32 → Sg → Option (Bool × Sg)
  | 0, _, _, _ => none
  | n + 1, v1, v3, σ =>
    if v3 < 0 then
      some (true, σ)
    else
      (f_m_stepOn N 75 69 63 ((v1 >>> (v3 &&& 31)) &&& 1) σ).bind fun q2 =>
      if q2.1 = true then
        f_m_walks_L8 N n v1 (v3 + (-1)) q2.2
      else
        some (false, q2.2)
def f_m_walks (N : Nat) (v1 : Int32) (v2 : Int32) (σ : Sg) : Option (Bool × Sg) :=
  (f_m_begin N σ).bind fun q1 =>
  f_m_walks_L8 N N v1 (v2 - 1) q1.2
set_option maxRecDepth 100000 in
theorem s_m_walks_L8 {y : EX} {N : Nat} {x : CX} {P : Bool × Sg → Prop} (hx : Cx 10 prog_12_method_93_code x) (hc : Cc y 4 2 x) (hr : Cr M_m_walks rvB P x) : ∀ (n : Nat) (v1 : Int32) (v3 : Int32) (σ : Sg), ok (f_m_walks_L8 N n v1 v3 σ) P → G x 8 [some (.ref 66), some (.int v1), none, some (.int v3)] [] σ := by
  intro n
  induction n with
  | zero => intro v1 v3 σ h; exact ok_none h
  | succ n ih =>
    intro v1 v3 σ h
    rw [f_m_walks_L8] at h
    refine g_run hx [(.iload_n 3, 0, 0)] (pc' := 9) (lo' := [some (.ref 66), some (.int v1), none, some (.int v3)]) (st' := [.int v3]) (σ' := σ) (by decide +kernel) rfl rfl ?_
    refine g_if_lt hx (off := 27) (tgt := 36) (by decide +kernel) (by decide) (fun c9 => ?_) (fun c9 => ?_)
    · have h := ok_t h c9
      refine g_run hx [(.iconst 1, 1, 0)] (pc' := 37) (lo' := [some (.ref 66), some (.int v1), none, some (.int v3)]) (st' := [.int 1]) (σ' := σ) (by decide +kernel) rfl rfl ?_
      exact g_zret (b := true) hx hr rfl true rfl (by decide +kernel) (ok_some h)
    · have h := ok_f h c9
      refine g_run hx [(.aload_n 0, 0, 0), (.aload_n 0, 0, 0), (.getfield 38, 0, 0), (.iload_n 1, 0, 0), (.iload_n 3, 0, 0), (.ishr, 0, 0), (.iconst 1, 1, 0), (.iand, 0, 0)] (pc' := 22) (lo' := [some (.ref 66), some (.int v1), none, some (.int v3)]) (st' := [.int ((v1 >>> (v3 &&& 31)) &&& 1), .ref 75, .ref 66]) (σ' := σ) (by decide +kernel) rfl rfl ?_
      refine g_callV (rest := []) [.ref 75, .int ((v1 >>> (v3 &&& 31)) &&& 1)] hx hc mk_m_stepOn ln_10_362 rfl (by decide +kernel) (by decide) (Nat.le_of_ble_eq_true rfl) (s_m_stepOn_66_75 (ok_b h)) (fun r2 s2 h => ?_)
      refine g_ifb_ne hx (off := 5) (tgt := 30) (by decide +kernel) (by decide) (fun c25 => ?_) (fun c25 => ?_)
      · have h := ok_t h c25
        refine g_run hx [(.iinc 3 (-1), (-1), 0)] (pc' := 33) (lo' := [some (.ref 66), some (.int v1), none, some (.int (v3 + (-1)))]) (st' := []) (σ' := s2) (by decide +kernel) rfl rfl ?_
        refine g_goto hx (off := (-25)) (tgt := 8) (by decide +kernel) (by decide) ?_
        exact ih _ _ _ h
      · have h := ok_f h c25
        refine g_run hx [(.iconst 0, 0, 0)] (pc' := 29) (lo' := [some (.ref 66), some (.int v1), none, some (.int v3)]) (st' := [.int 0]) (σ' := s2) (by decide +kernel) rfl rfl ?_
        exact g_zret (b := false) hx hr rfl false rfl (by decide +kernel) (ok_some h)
set_option maxRecDepth 100000 in
theorem s_m_walks {y : EX} {N : Nat} {v1 : Int32} {v2 : Int32} {σ : Sg} {P : Bool × Sg → Prop} (h : ok (f_m_walks N v1 v2 σ) P) : Ev y M_m_walks 2 [.ref 66, .int v1, .int v2] σ rvB P := by
  refine Ev.of mk_m_walks (Nat.le_of_ble_eq_true rfl) (fun x hx hc hr => ?_)
  have hx : Cx 10 prog_12_method_93_code x := hx
  have hc : Cc y 4 2 x := hc
  show G x 0 [some (.ref 66), some (.int v1), some (.int v2), none] [] σ
  unfold f_m_walks at h
  refine g_run hx [(.aload_n 0, 0, 0)] (pc' := 1) (lo' := [some (.ref 66), some (.int v1), some (.int v2), none]) (st' := [.ref 66]) (σ' := σ) (by decide +kernel) rfl rfl ?_
  refine g_callV (rest := []) [] hx hc mk_m_begin ln_10_272 rfl (by decide +kernel) (by decide) (Nat.le_of_ble_eq_true rfl) (s_m_begin (ok_b h)) (fun r1 s1 h => ?_)
  refine g_run hx [(.iload_n 2, 0, 0), (.iconst 1, 1, 0), (.isub, 0, 0), (.istore_n 3, 0, 0)] (pc' := 8) (lo' := [some (.ref 66), some (.int v1), some (.int v2), some (.int (v2 - 1))]) (st' := []) (σ' := s1) (by decide +kernel) rfl rfl ?_
  refine g_wk (lo' := [some (.ref 66), some (.int v1), none, some (.int (v2 - 1))]) ⟨rfl, ⟨rfl, ⟨rfl, trivial⟩⟩⟩ ?_
  refine s_m_walks_L8 hx hc hr N _ _ _ h
def f_m_seekTour_L7 (N : Nat) : Nat → Int32 → Int32 → Sg → Option (Unit × Sg)
  | 0, _, _, _ => none
  | n + 1, v1, v2, σ =>
    if (1 <<< (v1 &&& 31)) ≤ v2 then
      some ((), σ)
    else
      (f_m_walks N v2 v1 σ).bind fun q1 =>
      if q1.1 = true then
        (f_m_lostOn N 69 189 63 75 q1.2).bind fun q2 =>
        (f_m_goneOn N 69 63 75 q2.2).bind fun q3 =>
        if (gI q3.2 66 41) < 0 then
          f_m_seekTour_L7 N n v1 (v2 + 1) (sI (sI (sI q3.2 66 41 v2) 66 42 q2.1) 66 43 q3.1)
        else
          if (gI q3.2 66 42) < q2.1 then
            f_m_seekTour_L7 N n v1 (v2 + 1) q3.2
          else
            if q2.1 = (gI q3.2 66 42) then
              if q3.1 < (gI q3.2 66 43) then
                f_m_seekTour_L7 N n v1 (v2 + 1) (sI (sI (sI q3.2 66 41 v2) 66 42 q2.1) 66 43 q3.1)
              else
                f_m_seekTour_L7 N n v1 (v2 + 1) q3.2
            else
              f_m_seekTour_L7 N n v1 (v2 + 1) (sI (sI (sI q3.2 66 41 v2) 66 42 q2.1) 66 43 q3.1)
      else
        f_m_seekTour_L7 N n v1 (v2 + 1) q1.2
def f_m_seekTour (N : Nat) (v1 : Int32) (σ : Sg) : Option (Unit × Sg) :=
  f_m_seekTour_L7 N N v1 0 (sI σ 66 41 (-1))
set_option maxRecDepth 100000 in
theorem s_m_seekTour_L7 {y : EX} {N : Nat} {x : CX} {P : Unit × Sg → Prop} (hx : Cx 10 prog_12_method_94_code x) (hc : Cc y 5 3 x) (hr : Cr M_m_seekTour rvN P x) : ∀ (n : Nat) (v1 : Int32) (v2 : Int32) (σ : Sg), ok (f_m_seekTour_L7 N n v1 v2 σ) P → G x 7 [some (.ref 66), some (.int v1), some (.int v2), none, none] [] σ := by
  intro n
  induction n with
  | zero => intro v1 v2 σ h; exact ok_none h
  | succ n ih =>
    intro v1 v2 σ h
    rw [f_m_seekTour_L7] at h
    refine g_run hx [(.iload_n 2, 0, 0), (.iconst 1, 1, 0), (.iload_n 1, 0, 0), (.ishl, 0, 0)] (pc' := 11) (lo' := [some (.ref 66), some (.int v1), some (.int v2), none, none]) (st' := [.int (1 <<< (v1 &&& 31)), .int v2]) (σ' := σ) (by decide +kernel) rfl rfl ?_
    refine g_ic_ge hx (off := 91) (tgt := 102) (by decide +kernel) (by decide) (fun c11 => ?_) (fun c11 => ?_)
    · have h := ok_t h c11
      exact g_vret hx hr rfl () rfl (by decide +kernel) (ok_some h)
    · have h := ok_f h c11
      refine g_run hx [(.aload_n 0, 0, 0), (.iload_n 2, 0, 0), (.iload_n 1, 0, 0)] (pc' := 17) (lo' := [some (.ref 66), some (.int v1), some (.int v2), none, none]) (st' := [.int v1, .int v2, .ref 66]) (σ' := σ) (by decide +kernel) rfl rfl ?_
      refine g_callV (rest := []) [.int v2, .int v1] hx hc mk_m_walks ln_10_368 rfl (by decide +kernel) (by decide) (Nat.le_of_ble_eq_true rfl) (s_m_walks (ok_b h)) (fun r1 s1 h => ?_)
      refine g_ifb_ne hx (off := 6) (tgt := 26) (by decide +kernel) (by decide) (fun c20 => ?_) (fun c20 => ?_)
      · have h := ok_t h c20
        refine g_run hx [(.aload_n 0, 0, 0), (.aload_n 0, 0, 0), (.getfield 38, 0, 0)] (pc' := 31) (lo' := [some (.ref 66), some (.int v1), some (.int v2), none, none]) (st' := [.ref 75, .ref 66]) (σ' := s1) (by decide +kernel) rfl rfl ?_
        refine g_callV (rest := []) [.ref 75] hx hc mk_m_lostOn ln_10_294 rfl (by decide +kernel) (by decide) (Nat.le_of_ble_eq_true rfl) (s_m_lostOn_66_75 (ok_b h)) (fun r2 s2 h => ?_)
        refine g_run hx [(.istore_n 3, 0, 0), (.aload_n 0, 0, 0), (.aload_n 0, 0, 0), (.getfield 38, 0, 0)] (pc' := 40) (lo' := [some (.ref 66), some (.int v1), some (.int v2), some (.int r2), none]) (st' := [.ref 75, .ref 66]) (σ' := s2) (by decide +kernel) rfl rfl ?_
        refine g_callV (rest := []) [.ref 75] hx hc mk_m_goneOn ln_10_291 rfl (by decide +kernel) (by decide) (Nat.le_of_ble_eq_true rfl) (s_m_goneOn_66_75 (ok_b h)) (fun r3 s3 h => ?_)
        refine g_run hx [(.istore 4, 0, 0), (.aload_n 0, 0, 0), (.getfield 365, 0, 0)] (pc' := 49) (lo' := [some (.ref 66), some (.int v1), some (.int v2), some (.int r2), some (.int r3)]) (st' := [.int (gI s3 66 41)]) (σ' := s3) (by decide +kernel) rfl rfl ?_
        refine g_if_lt hx (off := 31) (tgt := 80) (by decide +kernel) (by decide) (fun c49 => ?_) (fun c49 => ?_)
        · have h := ok_t h c49
          refine g_run hx [(.aload_n 0, 0, 0), (.iload_n 2, 0, 0), (.putfield 365, 0, 0), (.aload_n 0, 0, 0), (.iload_n 3, 0, 0), (.putfield 372, 0, 0), (.aload_n 0, 0, 0), (.iload 4, 0, 0), (.putfield 375, 0, 0), (.iinc 2 1, 1, 0)] (pc' := 99) (lo' := [some (.ref 66), some (.int v1), some (.int (v2 + 1)), some (.int r2), some (.int r3)]) (st' := []) (σ' := sI (sI (sI s3 66 41 v2) 66 42 r2) 66 43 r3) (by decide +kernel) rfl rfl ?_
          refine g_goto hx (off := (-92)) (tgt := 7) (by decide +kernel) (by decide) ?_
          refine g_wk (lo' := [some (.ref 66), some (.int v1), some (.int (v2 + 1)), none, none]) ⟨rfl, ⟨rfl, ⟨rfl, trivial⟩⟩⟩ ?_
          exact ih _ _ _ h
        · have h := ok_f h c49
          refine g_run hx [(.iload_n 3, 0, 0), (.aload_n 0, 0, 0), (.getfield 372, 0, 0)] (pc' := 57) (lo' := [some (.ref 66), some (.int v1), some (.int v2), some (.int r2), some (.int r3)]) (st' := [.int (gI s3 66 42), .int r2]) (σ' := s3) (by decide +kernel) rfl rfl ?_
          refine g_ic_gt hx (off := 39) (tgt := 96) (by decide +kernel) (by decide) (fun c57 => ?_) (fun c57 => ?_)
          · have h := ok_t h c57
            refine g_run hx [(.iinc 2 1, 1, 0)] (pc' := 99) (lo' := [some (.ref 66), some (.int v1), some (.int (v2 + 1)), some (.int r2), some (.int r3)]) (st' := []) (σ' := s3) (by decide +kernel) rfl rfl ?_
            refine g_goto hx (off := (-92)) (tgt := 7) (by decide +kernel) (by decide) ?_
            refine g_wk (lo' := [some (.ref 66), some (.int v1), some (.int (v2 + 1)), none, none]) ⟨rfl, ⟨rfl, ⟨rfl, trivial⟩⟩⟩ ?_
            exact ih _ _ _ h
          · have h := ok_f h c57
            refine g_run hx [(.iload_n 3, 0, 0), (.aload_n 0, 0, 0), (.getfield 372, 0, 0)] (pc' := 65) (lo' := [some (.ref 66), some (.int v1), some (.int v2), some (.int r2), some (.int r3)]) (st' := [.int (gI s3 66 42), .int r2]) (σ' := s3) (by decide +kernel) rfl rfl ?_
            refine g_ic_ne hx (off := 15) (tgt := 80) (by decide +kernel) (by decide) (fun c65 => ?_) (fun c65 => ?_)
            · have h := ok_f h c65
              refine g_run hx [(.aload_n 0, 0, 0), (.iload_n 2, 0, 0), (.putfield 365, 0, 0), (.aload_n 0, 0, 0), (.iload_n 3, 0, 0), (.putfield 372, 0, 0), (.aload_n 0, 0, 0), (.iload 4, 0, 0), (.putfield 375, 0, 0), (.iinc 2 1, 1, 0)] (pc' := 99) (lo' := [some (.ref 66), some (.int v1), some (.int (v2 + 1)), some (.int r2), some (.int r3)]) (st' := []) (σ' := sI (sI (sI s3 66 41 v2) 66 42 r2) 66 43 r3) (by decide +kernel) rfl rfl ?_
              refine g_goto hx (off := (-92)) (tgt := 7) (by decide +kernel) (by decide) ?_
              refine g_wk (lo' := [some (.ref 66), some (.int v1), some (.int (v2 + 1)), none, none]) ⟨rfl, ⟨rfl, ⟨rfl, trivial⟩⟩⟩ ?_
              exact ih _ _ _ h
            · have h := ok_t h c65
              refine g_run hx [(.iload 4, 0, 0), (.aload_n 0, 0, 0), (.getfield 375, 0, 0)] (pc' := 74) (lo' := [some (.ref 66), some (.int v1), some (.int v2), some (.int r2), some (.int r3)]) (st' := [.int (gI s3 66 43), .int r3]) (σ' := s3) (by decide +kernel) rfl rfl ?_
              refine g_ic_lt hx (off := 6) (tgt := 80) (by decide +kernel) (by decide) (fun c74 => ?_) (fun c74 => ?_)
              · have h := ok_t h c74
                refine g_run hx [(.aload_n 0, 0, 0), (.iload_n 2, 0, 0), (.putfield 365, 0, 0), (.aload_n 0, 0, 0), (.iload_n 3, 0, 0), (.putfield 372, 0, 0), (.aload_n 0, 0, 0), (.iload 4, 0, 0), (.putfield 375, 0, 0), (.iinc 2 1, 1, 0)] (pc' := 99) (lo' := [some (.ref 66), some (.int v1), some (.int (v2 + 1)), some (.int r2), some (.int r3)]) (st' := []) (σ' := sI (sI (sI s3 66 41 v2) 66 42 r2) 66 43 r3) (by decide +kernel) rfl rfl ?_
                refine g_goto hx (off := (-92)) (tgt := 7) (by decide +kernel) (by decide) ?_
                refine g_wk (lo' := [some (.ref 66), some (.int v1), some (.int (v2 + 1)), none, none]) ⟨rfl, ⟨rfl, ⟨rfl, trivial⟩⟩⟩ ?_
                exact ih _ _ _ h
              · have h := ok_f h c74
                refine g_goto hx (off := 19) (tgt := 96) (by decide +kernel) (by decide) ?_
                refine g_run hx [(.iinc 2 1, 1, 0)] (pc' := 99) (lo' := [some (.ref 66), some (.int v1), some (.int (v2 + 1)), some (.int r2), some (.int r3)]) (st' := []) (σ' := s3) (by decide +kernel) rfl rfl ?_
                refine g_goto hx (off := (-92)) (tgt := 7) (by decide +kernel) (by decide) ?_
                refine g_wk (lo' := [some (.ref 66), some (.int v1), some (.int (v2 + 1)), none, none]) ⟨rfl, ⟨rfl, ⟨rfl, trivial⟩⟩⟩ ?_
                exact ih _ _ _ h
      · have h := ok_f h c20
        refine g_goto hx (off := 73) (tgt := 96) (by decide +kernel) (by decide) ?_
        refine g_run hx [(.iinc 2 1, 1, 0)] (pc' := 99) (lo' := [some (.ref 66), some (.int v1), some (.int (v2 + 1)), none, none]) (st' := []) (σ' := s1) (by decide +kernel) rfl rfl ?_
        refine g_goto hx (off := (-92)) (tgt := 7) (by decide +kernel) (by decide) ?_
        exact ih _ _ _ h
set_option maxRecDepth 100000 in
theorem s_m_seekTour {y : EX} {N : Nat} {v1 : Int32} {σ : Sg} {P : Unit × Sg → Prop} (h : ok (f_m_seekTour N v1 σ) P) : Ev y M_m_seekTour 3 [.ref 66, .int v1] σ rvN P := by
  refine Ev.of mk_m_seekTour (Nat.le_of_ble_eq_true rfl) (fun x hx hc hr => ?_)
  have hx : Cx 10 prog_12_method_94_code x := hx
  have hc : Cc y 5 3 x := hc
  show G x 0 [some (.ref 66), some (.int v1), none, none, none] [] σ
  unfold f_m_seekTour at h
  refine g_run hx [(.aload_n 0, 0, 0), (.iconst (-1), (-1), 0), (.putfield 365, 0, 0), (.iconst 0, 0, 0), (.istore_n 2, 0, 0)] (pc' := 7) (lo' := [some (.ref 66), some (.int v1), some (.int 0), none, none]) (st' := []) (σ' := sI σ 66 41 (-1)) (by decide +kernel) rfl rfl ?_
  refine s_m_seekTour_L7 hx hc hr N _ _ _ h
