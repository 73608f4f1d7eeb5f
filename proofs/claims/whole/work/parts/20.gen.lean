def f_m_ask (N : Nat) (σ : Sg) : Option (Int32 × Sg) :=
  (f_m_anew N σ).bind fun q1 =>
  if (gI q1.2 66 14) = 0 then
    (f_m_no N 1 q1.2).bind fun q2 =>
    some (q2.1, q2.2)
  else
    (f_m_askOf N q1.2).bind fun q3 =>
    some (q3.1, q3.2)
set_option maxRecDepth 100000 in
theorem s_m_ask {y : EX} {N : Nat} {σ : Sg} {P : Int32 × Sg → Prop} (h : ok (f_m_ask N σ) P) : Ev y M_m_ask 6 [.ref 66] σ rvI P := by
  refine Ev.of mk_m_ask (Nat.le_of_ble_eq_true rfl) (fun x hx hc hr => ?_)
  have hx : Cx 10 prog_12_method_108_code x := hx
  have hc : Cc y 1 6 x := hc
  show G x 0 [some (.ref 66)] [] σ
  unfold f_m_ask at h
  refine g_run hx [(.aload_n 0, 0, 0)] (pc' := 1) (lo' := [some (.ref 66)]) (st' := [.ref 66]) (σ' := σ) (by decide +kernel) rfl rfl ?_
  refine g_callV (rest := []) [] hx hc mk_m_anew ln_10_174 rfl (by decide +kernel) (by decide) (Nat.le_of_ble_eq_true rfl) (s_m_anew (ok_b h)) (fun r1 s1 h => ?_)
  refine g_run hx [(.aload_n 0, 0, 0), (.getfield 187, 0, 0)] (pc' := 8) (lo' := [some (.ref 66)]) (st' := [.int (gI s1 66 14)]) (σ' := s1) (by decide +kernel) rfl rfl ?_
  refine g_if_eq hx (off := 10) (tgt := 18) (by decide +kernel) (by decide) (fun c8 => ?_) (fun c8 => ?_)
  · have h := ok_t h c8
    refine g_run hx [(.aload_n 0, 0, 0), (.iconst 1, 1, 0)] (pc' := 20) (lo' := [some (.ref 66)]) (st' := [.int 1, .ref 66]) (σ' := s1) (by decide +kernel) rfl rfl ?_
    refine g_callV (rest := []) [.int 1] hx hc mk_m_no ln_10_177 rfl (by decide +kernel) (by decide) (Nat.le_of_ble_eq_true rfl) (s_m_no (ok_b h)) (fun r2 s2 h => ?_)
    exact g_iret hx hr rfl _ rfl (by decide +kernel) (ok_some h)
  · have h := ok_f h c8
    refine g_run hx [(.aload_n 0, 0, 0)] (pc' := 12) (lo' := [some (.ref 66)]) (st' := [.ref 66]) (σ' := s1) (by decide +kernel) rfl rfl ?_
    refine g_callV (rest := []) [] hx hc mk_m_askOf ln_10_405 rfl (by decide +kernel) (by decide) (Nat.le_of_ble_eq_true rfl) (s_m_askOf (ok_b h)) (fun r3 s3 h => ?_)
    refine g_goto hx (off := 8) (tgt := 23) (by decide +kernel) (by decide) ?_
    exact g_iret hx hr rfl _ rfl (by decide +kernel) (ok_some h)
def f_m_askLeaves (N : Nat) (σ : Sg) : Option (Int32 × Sg) :=
  (f_m_anew N σ).bind fun q1 =>
  if (gI q1.2 66 14) = 0 then
    (f_m_no N 1 q1.2).bind fun q4 =>
    some (q4.1, q4.2)
  else
    (f_m_askOf N q1.2).bind fun q2 =>
    if 0 ≤ q2.1 then
      (f_m_leavesOf N q2.1 q2.2).bind fun q3 =>
      some (q3.1, q3.2)
    else
      some ((-2), q2.2)
set_option maxRecDepth 100000 in
theorem s_m_askLeaves {y : EX} {N : Nat} {σ : Sg} {P : Int32 × Sg → Prop} (h : ok (f_m_askLeaves N σ) P) : Ev y M_m_askLeaves 6 [.ref 66] σ rvI P := by
  refine Ev.of mk_m_askLeaves (Nat.le_of_ble_eq_true rfl) (fun x hx hc hr => ?_)
  have hx : Cx 10 prog_12_method_109_code x := hx
  have hc : Cc y 2 6 x := hc
  show G x 0 [some (.ref 66), none] [] σ
  unfold f_m_askLeaves at h
  refine g_run hx [(.aload_n 0, 0, 0)] (pc' := 1) (lo' := [some (.ref 66), none]) (st' := [.ref 66]) (σ' := σ) (by decide +kernel) rfl rfl ?_
  refine g_callV (rest := []) [] hx hc mk_m_anew ln_10_174 rfl (by decide +kernel) (by decide) (Nat.le_of_ble_eq_true rfl) (s_m_anew (ok_b h)) (fun r1 s1 h => ?_)
  refine g_run hx [(.aload_n 0, 0, 0), (.getfield 187, 0, 0)] (pc' := 8) (lo' := [some (.ref 66), none]) (st' := [.int (gI s1 66 14)]) (σ' := s1) (by decide +kernel) rfl rfl ?_
  refine g_if_ne hx (off := 9) (tgt := 17) (by decide +kernel) (by decide) (fun c8 => ?_) (fun c8 => ?_)
  · have h := ok_f h c8
    refine g_run hx [(.aload_n 0, 0, 0)] (pc' := 18) (lo' := [some (.ref 66), none]) (st' := [.ref 66]) (σ' := s1) (by decide +kernel) rfl rfl ?_
    refine g_callV (rest := []) [] hx hc mk_m_askOf ln_10_405 rfl (by decide +kernel) (by decide) (Nat.le_of_ble_eq_true rfl) (s_m_askOf (ok_b h)) (fun r2 s2 h => ?_)
    refine g_run hx [(.istore_n 1, 0, 0), (.iload_n 1, 0, 0)] (pc' := 23) (lo' := [some (.ref 66), some (.int r2)]) (st' := [.int r2]) (σ' := s2) (by decide +kernel) rfl rfl ?_
    refine g_if_ge hx (off := 8) (tgt := 31) (by decide +kernel) (by decide) (fun c23 => ?_) (fun c23 => ?_)
    · have h := ok_t h c23
      refine g_run hx [(.aload_n 0, 0, 0), (.iload_n 1, 0, 0)] (pc' := 33) (lo' := [some (.ref 66), some (.int r2)]) (st' := [.int r2, .ref 66]) (σ' := s2) (by decide +kernel) rfl rfl ?_
      refine g_callV (rest := []) [.int r2] hx hc mk_m_leavesOf ln_10_402 rfl (by decide +kernel) (by decide) (Nat.le_of_ble_eq_true rfl) (s_m_leavesOf (ok_b h)) (fun r3 s3 h => ?_)
      exact g_iret hx hr rfl _ rfl (by decide +kernel) (ok_some h)
    · have h := ok_f h c23
      refine g_run hx [(.bipush (-2), (-2), 0)] (pc' := 28) (lo' := [some (.ref 66), some (.int r2)]) (st' := [.int (-2)]) (σ' := s2) (by decide +kernel) rfl rfl ?_
      refine g_goto hx (off := 8) (tgt := 36) (by decide +kernel) (by decide) ?_
      exact g_iret hx hr rfl _ rfl (by decide +kernel) (ok_some h)
  · have h := ok_t h c8
    refine g_run hx [(.aload_n 0, 0, 0), (.iconst 1, 1, 0)] (pc' := 13) (lo' := [some (.ref 66), none]) (st' := [.int 1, .ref 66]) (σ' := s1) (by decide +kernel) rfl rfl ?_
    refine g_callV (rest := []) [.int 1] hx hc mk_m_no ln_10_177 rfl (by decide +kernel) (by decide) (Nat.le_of_ble_eq_true rfl) (s_m_no (ok_b h)) (fun r4 s4 h => ?_)
    exact g_iret hx hr rfl _ rfl (by decide +kernel) (ok_some h)
set_option maxRecDepth 100000 in
theorem s_m_copy_77_74_L3 {y : EX} {N : Nat} {x : CX} {P : Unit × Sg → Prop} (hx : Cx 10 prog_12_method_8_code x) (hc : Cc y 6 0 x) (hr : Cr M_m_copy rvN P x) : ∀ (n : Nat) (v1 : Int32) (v3 : Int32) (v4 : Int32) (v5 : Int32) (σ : Sg), ok (f_m_copy_L3 N 189 63 74 77 n v1 v3 v4 v5 σ) P → G x 3 [some (.ref 77), some (.int v1), some (.ref 74), some (.int v3), some (.int v4), some (.int v5)] [] σ := by
  intro n
  induction n with
  | zero => intro v1 v3 v4 v5 σ h; exact ok_none h
  | succ n ih =>
    intro v1 v3 v4 v5 σ h
    rw [f_m_copy_L3] at h
    refine g_run hx [(.iload 5, 0, 0), (.iload 4, 0, 0)] (pc' := 7) (lo' := [some (.ref 77), some (.int v1), some (.ref 74), some (.int v3), some (.int v4), some (.int v5)]) (st' := [.int v4, .int v5]) (σ' := σ) (by decide +kernel) rfl rfl ?_
    refine g_ic_ge hx (off := 21) (tgt := 28) (by decide +kernel) (by decide) (fun c7 => ?_) (fun c7 => ?_)
    · have h := ok_t h c7
      exact g_vret hx hr rfl () rfl (by decide +kernel) (ok_some h)
    · have h := ok_f h c7
      refine g_run hx [(.aload_n 2, 0, 0), (.iload_n 3, 0, 0), (.iload 5, 0, 0), (.iadd, 0, 0), (.aload_n 0, 0, 0), (.iload_n 1, 0, 0), (.iload 5, 0, 0), (.iadd, 0, 0)] (pc' := 20) (lo' := [some (.ref 77), some (.int v1), some (.ref 74), some (.int v3), some (.int v4), some (.int v5)]) (st' := [.int (v1 + v5), .ref 77, .int (v3 + v5), .ref 74]) (σ' := σ) (by decide +kernel) rfl rfl ?_
      obtain ⟨c20, h⟩ := ok_g h
      refine g_iald hx (by decide +kernel) (i := 77) (n := 189) rfl c20 ?_
      obtain ⟨c21, h⟩ := ok_g h
      refine g_iast hx (by decide +kernel) (i := 74) (n := 63) rfl c21 ?_
      refine g_run hx [(.iinc 5 1, 1, 0)] (pc' := 25) (lo' := [some (.ref 77), some (.int v1), some (.ref 74), some (.int v3), some (.int v4), some (.int (v5 + 1))]) (st' := []) (σ' := sA σ 74 (v3 + v5) (gA σ 77 (v1 + v5))) (by decide +kernel) rfl rfl ?_
      refine g_goto hx (off := (-22)) (tgt := 3) (by decide +kernel) (by decide) ?_
      exact ih _ _ _ _ _ h
set_option maxRecDepth 100000 in
theorem s_m_copy_77_74 {y : EX} {N : Nat} {v1 : Int32} {v3 : Int32} {v4 : Int32} {σ : Sg} {P : Unit × Sg → Prop} (h : ok (f_m_copy N 189 63 74 77 v1 v3 v4 σ) P) : Ev y M_m_copy 0 [.ref 77, .int v1, .ref 74, .int v3, .int v4] σ rvN P := by
  refine Ev.of mk_m_copy (Nat.le_of_ble_eq_true rfl) (fun x hx hc hr => ?_)
  have hx : Cx 10 prog_12_method_8_code x := hx
  have hc : Cc y 6 0 x := hc
  show G x 0 [some (.ref 77), some (.int v1), some (.ref 74), some (.int v3), some (.int v4), none] [] σ
  unfold f_m_copy at h
  refine g_run hx [(.iconst 0, 0, 0), (.istore 5, 0, 0)] (pc' := 3) (lo' := [some (.ref 77), some (.int v1), some (.ref 74), some (.int v3), some (.int v4), some (.int 0)]) (st' := []) (σ' := σ) (by decide +kernel) rfl rfl ?_
  refine s_m_copy_77_74_L3 hx hc hr N _ _ _ _ _ h
def f_m_isNot (N : Nat) (v1 : Int32) (σ : Sg) : Option (Bool × Sg) :=
  some (false, sI σ 66 11 v1)
set_option maxRecDepth 100000 in
theorem s_m_isNot {y : EX} {N : Nat} {v1 : Int32} {σ : Sg} {P : Bool × Sg → Prop} (h : ok (f_m_isNot N v1 σ) P) : Ev y M_m_isNot 0 [.ref 66, .int v1] σ rvB P := by
  refine Ev.of mk_m_isNot (Nat.le_of_ble_eq_true rfl) (fun x hx hc hr => ?_)
  have hx : Cx 10 prog_12_method_5_code x := hx
  have hc : Cc y 2 0 x := hc
  show G x 0 [some (.ref 66), some (.int v1)] [] σ
  unfold f_m_isNot at h
  refine g_run hx [(.aload_n 0, 0, 0), (.iload_n 1, 0, 0), (.putfield 71, 0, 0), (.iconst 0, 0, 0)] (pc' := 6) (lo' := [some (.ref 66), some (.int v1)]) (st' := [.int 0]) (σ' := sI σ 66 11 v1) (by decide +kernel) rfl rfl ?_
  exact g_zret (b := false) hx hr rfl false rfl (by decide +kernel) (ok_some h)
def f_m_back (N : Nat) (v1 : Int32) (σ : Sg) : Option (Bool × Sg) :=
  (f_m_anew N σ).bind fun q1 =>
  (f_m_in N v1 0 ((gI q1.2 66 25) - 1) q1.2).bind fun q2 =>
  if q2.1 = true then
    (f_m_copy N 189 63 74 77 (63 * v1) 0 63 q2.2).bind fun q3 =>
    some (true, sI q3.2 66 24 0)
  else
    (f_m_isNot N 1 q2.2).bind fun q4 =>
    some (q4.1, q4.2)
set_option maxRecDepth 100000 in
theorem s_m_back {y : EX} {N : Nat} {v1 : Int32} {σ : Sg} {P : Bool × Sg → Prop} (h : ok (f_m_back N v1 σ) P) : Ev y M_m_back 1 [.ref 66, .int v1] σ rvB P := by
  refine Ev.of mk_m_back (Nat.le_of_ble_eq_true rfl) (fun x hx hc hr => ?_)
  have hx : Cx 10 prog_12_method_127_code x := hx
  have hc : Cc y 2 1 x := hc
  show G x 0 [some (.ref 66), some (.int v1)] [] σ
  unfold f_m_back at h
  refine g_run hx [(.aload_n 0, 0, 0)] (pc' := 1) (lo' := [some (.ref 66), some (.int v1)]) (st' := [.ref 66]) (σ' := σ) (by decide +kernel) rfl rfl ?_
  refine g_callV (rest := []) [] hx hc mk_m_anew ln_10_174 rfl (by decide +kernel) (by decide) (Nat.le_of_ble_eq_true rfl) (s_m_anew (ok_b h)) (fun r1 s1 h => ?_)
  refine g_run hx [(.iload_n 1, 0, 0), (.iconst 0, 0, 0), (.aload_n 0, 0, 0), (.getfield 193, 0, 0), (.iconst 1, 1, 0), (.isub, 0, 0)] (pc' := 12) (lo' := [some (.ref 66), some (.int v1)]) (st' := [.int ((gI s1 66 25) - 1), .int 0, .int v1]) (σ' := s1) (by decide +kernel) rfl rfl ?_
  refine g_callS (rest := []) [.int v1, .int 0, .int ((gI s1 66 25) - 1)] hx hc mk_m_in ln_10_156 (by decide +kernel) (by decide) (Nat.le_of_ble_eq_true rfl) (s_m_in (ok_b h)) (fun r2 s2 h => ?_)
  refine g_ifb_ne hx (off := 9) (tgt := 24) (by decide +kernel) (by decide) (fun c15 => ?_) (fun c15 => ?_)
  · have h := ok_t h c15
    refine g_run hx [(.aload_n 0, 0, 0), (.getfield 44, 0, 0), (.bipush 63, 63, 0), (.iload_n 1, 0, 0), (.imul, 0, 0), (.aload_n 0, 0, 0), (.getfield 35, 0, 0), (.iconst 0, 0, 0), (.bipush 63, 63, 0)] (pc' := 39) (lo' := [some (.ref 66), some (.int v1)]) (st' := [.int 63, .int 0, .ref 74, .int (63 * v1), .ref 77]) (σ' := s2) (by decide +kernel) rfl rfl ?_
    refine g_callS (rest := []) [.ref 77, .int (63 * v1), .ref 74, .int 0, .int 63] hx hc mk_m_copy ln_10_183 (by decide +kernel) (by decide) (Nat.le_of_ble_eq_true rfl) (s_m_copy_77_74 (ok_b h)) (fun r3 s3 h => ?_)
    refine g_run hx [(.aload_n 0, 0, 0), (.iconst 0, 0, 0), (.putfield 190, 0, 0), (.iconst 1, 1, 0)] (pc' := 48) (lo' := [some (.ref 66), some (.int v1)]) (st' := [.int 1]) (σ' := sI s3 66 24 0) (by decide +kernel) rfl rfl ?_
    exact g_zret (b := true) hx hr rfl true rfl (by decide +kernel) (ok_some h)
  · have h := ok_f h c15
    refine g_run hx [(.aload_n 0, 0, 0), (.iconst 1, 1, 0)] (pc' := 20) (lo' := [some (.ref 66), some (.int v1)]) (st' := [.int 1, .ref 66]) (σ' := s2) (by decide +kernel) rfl rfl ?_
    refine g_callV (rest := []) [.int 1] hx hc mk_m_isNot ln_10_440 rfl (by decide +kernel) (by decide) (Nat.le_of_ble_eq_true rfl) (s_m_isNot (ok_b h)) (fun r4 s4 h => ?_)
    exact g_zret hx hr rfl _ rfl (by decide +kernel) (ok_some h)
def f_m_isCell (N : Nat) (v1 : Int32) (σ : Sg) : Option (Bool × Sg) :=
  if (gI σ 66 14) = 0 then
    some (false, σ)
  else
    (f_m_in N v1 0 ((gA σ 69 0) - 1) σ).bind fun q1 =>
    if q1.1 = true then
      some (true, q1.2)
    else
      some (false, q1.2)
set_option maxRecDepth 100000 in
theorem s_m_isCell {y : EX} {N : Nat} {v1 : Int32} {σ : Sg} {P : Bool × Sg → Prop} (h : ok (f_m_isCell N v1 σ) P) : Ev y M_m_isCell 1 [.ref 66, .int v1] σ rvB P := by
  refine Ev.of mk_m_isCell (Nat.le_of_ble_eq_true rfl) (fun x hx hc hr => ?_)
  have hx : Cx 10 prog_12_method_39_code x := hx
  have hc : Cc y 2 1 x := hc
  show G x 0 [some (.ref 66), some (.int v1)] [] σ
  unfold f_m_isCell at h
  refine g_run hx [(.aload_n 0, 0, 0), (.getfield 187, 0, 0)] (pc' := 4) (lo' := [some (.ref 66), some (.int v1)]) (st' := [.int (gI σ 66 14)]) (σ' := σ) (by decide +kernel) rfl rfl ?_
  refine g_if_eq hx (off := 23) (tgt := 27) (by decide +kernel) (by decide) (fun c4 => ?_) (fun c4 => ?_)
  · have h := ok_t h c4
    refine g_run hx [(.iconst 0, 0, 0)] (pc' := 28) (lo' := [some (.ref 66), some (.int v1)]) (st' := [.int 0]) (σ' := σ) (by decide +kernel) rfl rfl ?_
    exact g_zret (b := false) hx hr rfl false rfl (by decide +kernel) (ok_some h)
  · have h := ok_f h c4
    refine g_run hx [(.iload_n 1, 0, 0), (.iconst 0, 0, 0), (.aload_n 0, 0, 0), (.getfield 20, 0, 0), (.iconst 0, 0, 0), (.iaload, 0, 0), (.iconst 1, 1, 0), (.isub, 0, 0)] (pc' := 17) (lo' := [some (.ref 66), some (.int v1)]) (st' := [.int ((gA σ 69 0) - 1), .int 0, .int v1]) (σ' := σ) (by decide +kernel) rfl rfl ?_
    refine g_callS (rest := []) [.int v1, .int 0, .int ((gA σ 69 0) - 1)] hx hc mk_m_in ln_10_156 (by decide +kernel) (by decide) (Nat.le_of_ble_eq_true rfl) (s_m_in (ok_b h)) (fun r1 s1 h => ?_)
    refine g_ifb_eq hx (off := 7) (tgt := 27) (by decide +kernel) (by decide) (fun c20 => ?_) (fun c20 => ?_)
    · have h := ok_f h c20
      refine g_run hx [(.iconst 0, 0, 0)] (pc' := 28) (lo' := [some (.ref 66), some (.int v1)]) (st' := [.int 0]) (σ' := s1) (by decide +kernel) rfl rfl ?_
      exact g_zret (b := false) hx hr rfl false rfl (by decide +kernel) (ok_some h)
    · have h := ok_t h c20
      refine g_run hx [(.iconst 1, 1, 0)] (pc' := 24) (lo' := [some (.ref 66), some (.int v1)]) (st' := [.int 1]) (σ' := s1) (by decide +kernel) rfl rfl ?_
      refine g_goto hx (off := 4) (tgt := 28) (by decide +kernel) (by decide) ?_
      exact g_zret (b := true) hx hr rfl true rfl (by decide +kernel) (ok_some h)
set_option maxRecDepth 100000 in
theorem s_m_copy_74_75_L3 {y : EX} {N : Nat} {x : CX} {P : Unit × Sg → Prop} (hx : Cx 10 prog_12_method_8_code x) (hc : Cc y 6 0 x) (hr : Cr M_m_copy rvN P x) : ∀ (n : Nat) (v1 : Int32) (v3 : Int32) (v4 : Int32) (v5 : Int32) (σ : Sg), ok (f_m_copy_L3 N 63 63 75 74 n v1 v3 v4 v5 σ) P → G x 3 [some (.ref 74), some (.int v1), some (.ref 75), some (.int v3), some (.int v4), some (.int v5)] [] σ := by
  intro n
  induction n with
  | zero => intro v1 v3 v4 v5 σ h; exact ok_none h
  | succ n ih =>
    intro v1 v3 v4 v5 σ h
    rw [f_m_copy_L3] at h
    refine g_run hx [(.iload 5, 0, 0), (.iload 4, 0, 0)] (pc' := 7) (lo' := [some (.ref 74), some (.int v1), some (.ref 75), some (.int v3), some (.int v4), some (.int v5)]) (st' := [.int v4, .int v5]) (σ' := σ) (by decide +kernel) rfl rfl ?_
    refine g_ic_ge hx (off := 21) (tgt := 28) (by decide +kernel) (by decide) (fun c7 => ?_) (fun c7 => ?_)
    · have h := ok_t h c7
      exact g_vret hx hr rfl () rfl (by decide +kernel) (ok_some h)
    · have h := ok_f h c7
      refine g_run hx [(.aload_n 2, 0, 0), (.iload_n 3, 0, 0), (.iload 5, 0, 0), (.iadd, 0, 0), (.aload_n 0, 0, 0), (.iload_n 1, 0, 0), (.iload 5, 0, 0), (.iadd, 0, 0)] (pc' := 20) (lo' := [some (.ref 74), some (.int v1), some (.ref 75), some (.int v3), some (.int v4), some (.int v5)]) (st' := [.int (v1 + v5), .ref 74, .int (v3 + v5), .ref 75]) (σ' := σ) (by decide +kernel) rfl rfl ?_
      obtain ⟨c20, h⟩ := ok_g h
      refine g_iald hx (by decide +kernel) (i := 74) (n := 63) rfl c20 ?_
      obtain ⟨c21, h⟩ := ok_g h
      refine g_iast hx (by decide +kernel) (i := 75) (n := 63) rfl c21 ?_
      refine g_run hx [(.iinc 5 1, 1, 0)] (pc' := 25) (lo' := [some (.ref 74), some (.int v1), some (.ref 75), some (.int v3), some (.int v4), some (.int (v5 + 1))]) (st' := []) (σ' := sA σ 75 (v3 + v5) (gA σ 74 (v1 + v5))) (by decide +kernel) rfl rfl ?_
      refine g_goto hx (off := (-22)) (tgt := 3) (by decide +kernel) (by decide) ?_
      exact ih _ _ _ _ _ h
set_option maxRecDepth 100000 in
theorem s_m_copy_74_75 {y : EX} {N : Nat} {v1 : Int32} {v3 : Int32} {v4 : Int32} {σ : Sg} {P : Unit × Sg → Prop} (h : ok (f_m_copy N 63 63 75 74 v1 v3 v4 σ) P) : Ev y M_m_copy 0 [.ref 74, .int v1, .ref 75, .int v3, .int v4] σ rvN P := by
  refine Ev.of mk_m_copy (Nat.le_of_ble_eq_true rfl) (fun x hx hc hr => ?_)
  have hx : Cx 10 prog_12_method_8_code x := hx
  have hc : Cc y 6 0 x := hc
  show G x 0 [some (.ref 74), some (.int v1), some (.ref 75), some (.int v3), some (.int v4), none] [] σ
  unfold f_m_copy at h
  refine g_run hx [(.iconst 0, 0, 0), (.istore 5, 0, 0)] (pc' := 3) (lo' := [some (.ref 74), some (.int v1), some (.ref 75), some (.int v3), some (.int v4), some (.int 0)]) (st' := []) (σ' := σ) (by decide +kernel) rfl rfl ?_
  refine s_m_copy_74_75_L3 hx hc hr N _ _ _ _ _ h
def f_m_begin (N : Nat) (σ : Sg) : Option (Unit × Sg) :=
  (f_m_copy N 63 63 75 74 0 0 63 σ).bind fun q1 =>
  some ((), q1.2)
set_option maxRecDepth 100000 in
theorem s_m_begin {y : EX} {N : Nat} {σ : Sg} {P : Unit × Sg → Prop} (h : ok (f_m_begin N σ) P) : Ev y M_m_begin 1 [.ref 66] σ rvN P := by
  refine Ev.of mk_m_begin (Nat.le_of_ble_eq_true rfl) (fun x hx hc hr => ?_)
  have hx : Cx 10 prog_12_method_50_code x := hx
  have hc : Cc y 1 1 x := hc
  show G x 0 [some (.ref 66)] [] σ
  unfold f_m_begin at h
  refine g_run hx [(.aload_n 0, 0, 0), (.getfield 35, 0, 0), (.iconst 0, 0, 0), (.aload_n 0, 0, 0), (.getfield 38, 0, 0), (.iconst 0, 0, 0), (.bipush 63, 63, 0)] (pc' := 12) (lo' := [some (.ref 66)]) (st' := [.int 63, .int 0, .ref 75, .int 0, .ref 74]) (σ' := σ) (by decide +kernel) rfl rfl ?_
  refine g_callS (rest := []) [.ref 74, .int 0, .ref 75, .int 0, .int 63] hx hc mk_m_copy ln_10_183 (by decide +kernel) (by decide) (Nat.le_of_ble_eq_true rfl) (s_m_copy_74_75 (ok_b h)) (fun r1 s1 h => ?_)
  exact g_vret hx hr rfl () rfl (by decide +kernel) (ok_some h)
def f_m_yearOn_L9 (N : Nat) (a0 : Nat) (a1 : Nat) (a2 : Nat) (a3 : Nat) (a4 : Nat) (a5 : Nat) (a6 : Nat) : Nat → Int32 → Int32 → Sg → (Int32 → Sg → Option (Int32 × Sg)) → Option (Int32 × Sg)
  | 0, _, _, _, _ => none
  | n + 1, v2, v3, σ, k34 =>
    if (gA σ a0 0) ≤ v3 then
      k34 v2 σ
    else
      if vin v3 a1 then
      if vin v3 a2 then
      f_m_yearOn_L9 N a0 a1 a2 a3 a4 a5 a6 n v2 (v3 + 1) (sA σ a3 v3 (gA σ a4 v3)) k34
      else none
      else none
def f_m_yearOn_L36 (N : Nat) (a0 : Nat) (a1 : Nat) (a2 : Nat) (a3 : Nat) (a4 : Nat) (a5 : Nat) (a6 : Nat) : Nat → Int32 → Int32 → Sg → Option (Int32 × Sg)
  | 0, _, _, _ => none
  | n + 1, v2, v3, σ =>
    if (gA σ a0 0) ≤ v3 then
      some (v2, sA σ a4 62 ((gA σ a4 62) + 1))
    else
      if v3 ≤ 0 then
        if (gA σ a0 0) ≤ (v3 + 1) then
          if vin v3 a2 then
          if (gA σ a3 v3) = 0 then
            f_m_yearOn_L36 N a0 a1 a2 a3 a4 a5 a6 n v2 (v3 + 1) σ
          else
            f_m_yearOn_L36 N a0 a1 a2 a3 a4 a5 a6 n v2 (v3 + 1) σ
          else none
        else
          if vin (v3 + 1) a2 then
          if (gA σ a3 (v3 + 1)) = 0 then
            if vin v3 a2 then
            if (gA σ a3 v3) = 0 then
              f_m_yearOn_L36 N a0 a1 a2 a3 a4 a5 a6 n v2 (v3 + 1) σ
            else
              if vin (129 + v3) a5 then
              if (gA σ a0 (129 + v3)) = 1 then
                f_m_yearOn_L36 N a0 a1 a2 a3 a4 a5 a6 n v2 (v3 + 1) σ
              else
                if vin v3 a1 then
                if vin v3 a1 then
                if vin v3 a1 then
                if (gA (sI (sA σ a4 v3 ((gA σ a4 v3) - 1)) a6 27 1) a4 v3) = 0 then
                  f_m_yearOn_L36 N a0 a1 a2 a3 a4 a5 a6 n (v2 + 1) (v3 + 1) (sI (sA σ a4 v3 ((gA σ a4 v3) - 1)) a6 27 1)
                else
                  f_m_yearOn_L36 N a0 a1 a2 a3 a4 a5 a6 n (v2 + 0) (v3 + 1) (sI (sA σ a4 v3 ((gA σ a4 v3) - 1)) a6 27 1)
                else none
                else none
                else none
              else none
            else none
          else
            if vin v3 a2 then
            if (gA σ a3 v3) = 0 then
              f_m_yearOn_L36 N a0 a1 a2 a3 a4 a5 a6 n v2 (v3 + 1) σ
            else
              f_m_yearOn_L36 N a0 a1 a2 a3 a4 a5 a6 n v2 (v3 + 1) σ
            else none
          else none
      else
        if vin (v3 - 1) a2 then
        if (gA σ a3 (v3 - 1)) = 0 then
          if vin v3 a2 then
          if (gA σ a3 v3) = 0 then
            f_m_yearOn_L36 N a0 a1 a2 a3 a4 a5 a6 n v2 (v3 + 1) σ
          else
            if vin (129 + v3) a5 then
            if (gA σ a0 (129 + v3)) = 1 then
              f_m_yearOn_L36 N a0 a1 a2 a3 a4 a5 a6 n v2 (v3 + 1) σ
            else
              if vin v3 a1 then
              if vin v3 a1 then
              if vin v3 a1 then
              if (gA (sI (sA σ a4 v3 ((gA σ a4 v3) - 1)) a6 27 1) a4 v3) = 0 then
                f_m_yearOn_L36 N a0 a1 a2 a3 a4 a5 a6 n (v2 + 1) (v3 + 1) (sI (sA σ a4 v3 ((gA σ a4 v3) - 1)) a6 27 1)
              else
                f_m_yearOn_L36 N a0 a1 a2 a3 a4 a5 a6 n (v2 + 0) (v3 + 1) (sI (sA σ a4 v3 ((gA σ a4 v3) - 1)) a6 27 1)
              else none
              else none
              else none
            else none
          else none
        else
          if (gA σ a0 0) ≤ (v3 + 1) then
            if vin v3 a2 then
            if (gA σ a3 v3) = 0 then
              f_m_yearOn_L36 N a0 a1 a2 a3 a4 a5 a6 n v2 (v3 + 1) σ
            else
              f_m_yearOn_L36 N a0 a1 a2 a3 a4 a5 a6 n v2 (v3 + 1) σ
            else none
          else
            if vin (v3 + 1) a2 then
            if (gA σ a3 (v3 + 1)) = 0 then
              if vin v3 a2 then
              if (gA σ a3 v3) = 0 then
                f_m_yearOn_L36 N a0 a1 a2 a3 a4 a5 a6 n v2 (v3 + 1) σ
              else
                if vin (129 + v3) a5 then
                if (gA σ a0 (129 + v3)) = 1 then
                  f_m_yearOn_L36 N a0 a1 a2 a3 a4 a5 a6 n v2 (v3 + 1) σ
                else
                  if vin v3 a1 then
                  if vin v3 a1 then
                  if vin v3 a1 then
                  if (gA (sI (sA σ a4 v3 ((gA σ a4 v3) - 1)) a6 27 1) a4 v3) = 0 then
                    f_m_yearOn_L36 N a0 a1 a2 a3 a4 a5 a6 n (v2 + 1) (v3 + 1) (sI (sA σ a4 v3 ((gA σ a4 v3) - 1)) a6 27 1)
                  else
                    f_m_yearOn_L36 N a0 a1 a2 a3 a4 a5 a6 n (v2 + 0) (v3 + 1) (sI (sA σ a4 v3 ((gA σ a4 v3) - 1)) a6 27 1)
                  else none
                  else none
                  else none
                else none
              else none
            else
              if vin v3 a2 then
              if (gA σ a3 v3) = 0 then
                f_m_yearOn_L36 N a0 a1 a2 a3 a4 a5 a6 n v2 (v3 + 1) σ
              else
                f_m_yearOn_L36 N a0 a1 a2 a3 a4 a5 a6 n v2 (v3 + 1) σ
              else none
            else none
        else none
def f_m_yearOn (N : Nat) (a0 : Nat) (a1 : Nat) (a2 : Nat) (a3 : Nat) (a4 : Nat) (a5 : Nat) (a6 : Nat) (σ : Sg) : Option (Int32 × Sg) :=
  f_m_yearOn_L9 N a0 a1 a2 a3 a4 a5 a6 N 0 0 (sI σ a6 27 0)
    (fun (w2 : Int32) (t1 : Sg) =>
      f_m_yearOn_L36 N a0 a1 a2 a3 a4 a5 a6 N w2 0 t1)
set_option maxRecDepth 100000 in
theorem s_m_yearOn_66_75_L9 {y : EX} {N : Nat} {x : CX} {P : Int32 × Sg → Prop} (hx : Cx 10 prog_12_method_47_code x) (hc : Cc y 5 0 x) (hr : Cr M_m_yearOn rvI P x) : ∀ (n : Nat) (v2 : Int32) (v3 : Int32) (σ : Sg) (k34 : Int32 → Sg → Option (Int32 × Sg)) (hk34 : ∀ (w2 : Int32) (t : Sg), ok (k34 w2 t) P → G x 34 [some (.ref 66), some (.ref 75), some (.int w2), none, none] [] t), ok (f_m_yearOn_L9 N 69 63 60 78 75 189 66 n v2 v3 σ k34) P → G x 9 [some (.ref 66), some (.ref 75), some (.int v2), some (.int v3), none] [] σ := by
  intro n
  induction n with
  | zero => intro v2 v3 σ k34 hk34 h; exact ok_none h
  | succ n ih =>
    intro v2 v3 σ k34 hk34 h
    rw [f_m_yearOn_L9] at h
    refine g_run hx [(.iload_n 3, 0, 0), (.aload_n 0, 0, 0), (.getfield 20, 0, 0), (.iconst 0, 0, 0), (.iaload, 0, 0)] (pc' := 16) (lo' := [some (.ref 66), some (.ref 75), some (.int v2), some (.int v3), none]) (st' := [.int (gA σ 69 0), .int v3]) (σ' := σ) (by decide +kernel) rfl rfl ?_
    refine g_ic_ge hx (off := 18) (tgt := 34) (by decide +kernel) (by decide) (fun c16 => ?_) (fun c16 => ?_)
    · have h := ok_t h c16
      refine g_wk (lo' := [some (.ref 66), some (.ref 75), some (.int v2), none, none]) ⟨rfl, ⟨rfl, ⟨rfl, trivial⟩⟩⟩ ?_
      exact hk34 _ _ h
    · have h := ok_f h c16
      refine g_run hx [(.aload_n 0, 0, 0), (.getfield 47, 0, 0), (.iload_n 3, 0, 0), (.aload_n 1, 0, 0), (.iload_n 3, 0, 0)] (pc' := 26) (lo' := [some (.ref 66), some (.ref 75), some (.int v2), some (.int v3), none]) (st' := [.int v3, .ref 75, .int v3, .ref 78]) (σ' := σ) (by decide +kernel) rfl rfl ?_
      obtain ⟨c26, h⟩ := ok_g h
      refine g_iald hx (by decide +kernel) (i := 75) (n := 63) rfl c26 ?_
      obtain ⟨c27, h⟩ := ok_g h
      refine g_iast hx (by decide +kernel) (i := 78) (n := 60) rfl c27 ?_
      refine g_run hx [(.iinc 3 1, 1, 0)] (pc' := 31) (lo' := [some (.ref 66), some (.ref 75), some (.int v2), some (.int (v3 + 1)), none]) (st' := []) (σ' := sA σ 78 v3 (gA σ 75 v3)) (by decide +kernel) rfl rfl ?_
      refine g_goto hx (off := (-22)) (tgt := 9) (by decide +kernel) (by decide) ?_
      exact ih _ _ _ _ hk34 h
set_option maxRecDepth 100000 in
theorem s_m_yearOn_66_75_L36 {y : EX} {N : Nat} {x : CX} {P : Int32 × Sg → Prop} (hx : Cx 10 prog_12_method_47_code x) (hc : Cc y 5 0 x) (hr : Cr M_m_yearOn rvI P x) : ∀ (n : Nat) (v2 : Int32) (v3 : Int32) (σ : Sg), ok (f_m_yearOn_L36 N 69 63 60 78 75 189 66 n v2 v3 σ) P → G x 36 [some (.ref 66), some (.ref 75), some (.int v2), some (.int v3), none] [] σ := by
  intro n
  induction n with
  | zero => intro v2 v3 σ h; exact ok_none h
  | succ n ih =>
    intro v2 v3 σ h
    rw [f_m_yearOn_L36] at h
    refine g_run hx [(.iload_n 3, 0, 0), (.aload_n 0, 0, 0), (.getfield 20, 0, 0), (.iconst 0, 0, 0), (.iaload, 0, 0)] (pc' := 43) (lo' := [some (.ref 66), some (.ref 75), some (.int v2), some (.int v3), none]) (st' := [.int (gA σ 69 0), .int v3]) (σ' := σ) (by decide +kernel) rfl rfl ?_
    refine g_ic_ge hx (off := 111) (tgt := 154) (by decide +kernel) (by decide) (fun c43 => ?_) (fun c43 => ?_)
    · have h := ok_t h c43
      refine g_run hx [(.aload_n 1, 0, 0), (.bipush 62, 62, 0), (.dup2, 0, 0), (.iaload, 0, 0), (.iconst 1, 1, 0), (.iadd, 0, 0), (.iastore, 0, 0), (.iload_n 2, 0, 0)] (pc' := 163) (lo' := [some (.ref 66), some (.ref 75), some (.int v2), some (.int v3), none]) (st' := [.int v2]) (σ' := sA σ 75 62 ((gA σ 75 62) + 1)) (by decide +kernel) rfl rfl ?_
      exact g_iret hx hr rfl _ rfl (by decide +kernel) (ok_some h)
    · have h := ok_f h c43
      refine g_run hx [(.iload_n 3, 0, 0)] (pc' := 47) (lo' := [some (.ref 66), some (.ref 75), some (.int v2), some (.int v3), none]) (st' := [.int v3]) (σ' := σ) (by decide +kernel) rfl rfl ?_
      refine g_if_le hx (off := 14) (tgt := 61) (by decide +kernel) (by decide) (fun c47 => ?_) (fun c47 => ?_)
      · have h := ok_t h c47
        refine g_run hx [(.iload_n 3, 0, 0), (.iconst 1, 1, 0), (.iadd, 0, 0), (.aload_n 0, 0, 0), (.getfield 20, 0, 0), (.iconst 0, 0, 0), (.iaload, 0, 0)] (pc' := 70) (lo' := [some (.ref 66), some (.ref 75), some (.int v2), some (.int v3), none]) (st' := [.int (gA σ 69 0), .int (v3 + 1)]) (σ' := σ) (by decide +kernel) rfl rfl ?_
        refine g_ic_ge hx (off := 18) (tgt := 88) (by decide +kernel) (by decide) (fun c70 => ?_) (fun c70 => ?_)
        · have h := ok_t h c70
          refine g_run hx [(.iconst 0, 0, 0), (.istore 4, 0, 0), (.aload_n 0, 0, 0), (.getfield 47, 0, 0), (.iload_n 3, 0, 0)] (pc' := 96) (lo' := [some (.ref 66), some (.ref 75), some (.int v2), some (.int v3), some (.int 0)]) (st' := [.int v3, .ref 78]) (σ' := σ) (by decide +kernel) rfl rfl ?_
          obtain ⟨c96, h⟩ := ok_g h
          refine g_iald hx (by decide +kernel) (i := 78) (n := 60) rfl c96 ?_
          refine g_if_eq hx (off := 51) (tgt := 148) (by decide +kernel) (by decide) (fun c97 => ?_) (fun c97 => ?_)
          · have h := ok_t h c97
            refine g_run hx [(.iinc 3 1, 1, 0)] (pc' := 151) (lo' := [some (.ref 66), some (.ref 75), some (.int v2), some (.int (v3 + 1)), some (.int 0)]) (st' := []) (σ' := σ) (by decide +kernel) rfl rfl ?_
            refine g_goto hx (off := (-115)) (tgt := 36) (by decide +kernel) (by decide) ?_
            refine g_wk (lo' := [some (.ref 66), some (.ref 75), some (.int v2), some (.int (v3 + 1)), none]) ⟨rfl, ⟨rfl, ⟨rfl, ⟨rfl, trivial⟩⟩⟩⟩ ?_
            exact ih _ _ _ h
          · have h := ok_f h c97
            refine g_run hx [(.iload 4, 0, 0)] (pc' := 102) (lo' := [some (.ref 66), some (.ref 75), some (.int v2), some (.int v3), some (.int 0)]) (st' := [.int 0]) (σ' := σ) (by decide +kernel) rfl rfl ?_
            refine g_if_eq hx (off := 46) (tgt := 148) (by decide +kernel) (by decide) (fun _ => ?_) (fun c => absurd c (by decide))
            refine g_run hx [(.iinc 3 1, 1, 0)] (pc' := 151) (lo' := [some (.ref 66), some (.ref 75), some (.int v2), some (.int (v3 + 1)), some (.int 0)]) (st' := []) (σ' := σ) (by decide +kernel) rfl rfl ?_
            refine g_goto hx (off := (-115)) (tgt := 36) (by decide +kernel) (by decide) ?_
            refine g_wk (lo' := [some (.ref 66), some (.ref 75), some (.int v2), some (.int (v3 + 1)), none]) ⟨rfl, ⟨rfl, ⟨rfl, ⟨rfl, trivial⟩⟩⟩⟩ ?_
            exact ih _ _ _ h
        · have h := ok_f h c70
          refine g_run hx [(.aload_n 0, 0, 0), (.getfield 47, 0, 0), (.iload_n 3, 0, 0), (.iconst 1, 1, 0), (.iadd, 0, 0)] (pc' := 80) (lo' := [some (.ref 66), some (.ref 75), some (.int v2), some (.int v3), none]) (st' := [.int (v3 + 1), .ref 78]) (σ' := σ) (by decide +kernel) rfl rfl ?_
          obtain ⟨c80, h⟩ := ok_g h
          refine g_iald hx (by decide +kernel) (i := 78) (n := 60) rfl c80 ?_
          refine g_if_ne hx (off := 7) (tgt := 88) (by decide +kernel) (by decide) (fun c81 => ?_) (fun c81 => ?_)
          · have h := ok_f h c81
            refine g_run hx [(.iconst 0, 0, 0), (.istore 4, 0, 0), (.aload_n 0, 0, 0), (.getfield 47, 0, 0), (.iload_n 3, 0, 0)] (pc' := 96) (lo' := [some (.ref 66), some (.ref 75), some (.int v2), some (.int v3), some (.int 0)]) (st' := [.int v3, .ref 78]) (σ' := σ) (by decide +kernel) rfl rfl ?_
            obtain ⟨c96, h⟩ := ok_g h
            refine g_iald hx (by decide +kernel) (i := 78) (n := 60) rfl c96 ?_
            refine g_if_eq hx (off := 51) (tgt := 148) (by decide +kernel) (by decide) (fun c97 => ?_) (fun c97 => ?_)
            · have h := ok_t h c97
              refine g_run hx [(.iinc 3 1, 1, 0)] (pc' := 151) (lo' := [some (.ref 66), some (.ref 75), some (.int v2), some (.int (v3 + 1)), some (.int 0)]) (st' := []) (σ' := σ) (by decide +kernel) rfl rfl ?_
              refine g_goto hx (off := (-115)) (tgt := 36) (by decide +kernel) (by decide) ?_
              refine g_wk (lo' := [some (.ref 66), some (.ref 75), some (.int v2), some (.int (v3 + 1)), none]) ⟨rfl, ⟨rfl, ⟨rfl, ⟨rfl, trivial⟩⟩⟩⟩ ?_
              exact ih _ _ _ h
            · have h := ok_f h c97
              refine g_run hx [(.iload 4, 0, 0)] (pc' := 102) (lo' := [some (.ref 66), some (.ref 75), some (.int v2), some (.int v3), some (.int 0)]) (st' := [.int 0]) (σ' := σ) (by decide +kernel) rfl rfl ?_
              refine g_if_eq hx (off := 46) (tgt := 148) (by decide +kernel) (by decide) (fun _ => ?_) (fun c => absurd c (by decide))
              refine g_run hx [(.iinc 3 1, 1, 0)] (pc' := 151) (lo' := [some (.ref 66), some (.ref 75), some (.int v2), some (.int (v3 + 1)), some (.int 0)]) (st' := []) (σ' := σ) (by decide +kernel) rfl rfl ?_
              refine g_goto hx (off := (-115)) (tgt := 36) (by decide +kernel) (by decide) ?_
              refine g_wk (lo' := [some (.ref 66), some (.ref 75), some (.int v2), some (.int (v3 + 1)), none]) ⟨rfl, ⟨rfl, ⟨rfl, ⟨rfl, trivial⟩⟩⟩⟩ ?_
              exact ih _ _ _ h
          · have h := ok_t h c81
            refine g_run hx [(.iconst 1, 1, 0)] (pc' := 85) (lo' := [some (.ref 66), some (.ref 75), some (.int v2), some (.int v3), none]) (st' := [.int 1]) (σ' := σ) (by decide +kernel) rfl rfl ?_
            refine g_goto hx (off := 4) (tgt := 89) (by decide +kernel) (by decide) ?_
            refine g_run hx [(.istore 4, 0, 0), (.aload_n 0, 0, 0), (.getfield 47, 0, 0), (.iload_n 3, 0, 0)] (pc' := 96) (lo' := [some (.ref 66), some (.ref 75), some (.int v2), some (.int v3), some (.int 1)]) (st' := [.int v3, .ref 78]) (σ' := σ) (by decide +kernel) rfl rfl ?_
            obtain ⟨c96, h⟩ := ok_g h
            refine g_iald hx (by decide +kernel) (i := 78) (n := 60) rfl c96 ?_
            refine g_if_eq hx (off := 51) (tgt := 148) (by decide +kernel) (by decide) (fun c97 => ?_) (fun c97 => ?_)
            · have h := ok_t h c97
              refine g_run hx [(.iinc 3 1, 1, 0)] (pc' := 151) (lo' := [some (.ref 66), some (.ref 75), some (.int v2), some (.int (v3 + 1)), some (.int 1)]) (st' := []) (σ' := σ) (by decide +kernel) rfl rfl ?_
              refine g_goto hx (off := (-115)) (tgt := 36) (by decide +kernel) (by decide) ?_
              refine g_wk (lo' := [some (.ref 66), some (.ref 75), some (.int v2), some (.int (v3 + 1)), none]) ⟨rfl, ⟨rfl, ⟨rfl, ⟨rfl, trivial⟩⟩⟩⟩ ?_
              exact ih _ _ _ h
            · have h := ok_f h c97
              refine g_run hx [(.iload 4, 0, 0)] (pc' := 102) (lo' := [some (.ref 66), some (.ref 75), some (.int v2), some (.int v3), some (.int 1)]) (st' := [.int 1]) (σ' := σ) (by decide +kernel) rfl rfl ?_
              refine g_if_eq hx (off := 46) (tgt := 148) (by decide +kernel) (by decide) (fun c => absurd c (by decide)) (fun _ => ?_)
              refine g_run hx [(.aload_n 0, 0, 0), (.getfield 20, 0, 0), (.sipush 129, 129, 0), (.iload_n 3, 0, 0), (.iadd, 0, 0)] (pc' := 114) (lo' := [some (.ref 66), some (.ref 75), some (.int v2), some (.int v3), some (.int 1)]) (st' := [.int (129 + v3), .ref 69]) (σ' := σ) (by decide +kernel) rfl rfl ?_
              obtain ⟨c114, h⟩ := ok_g h
              refine g_iald hx (by decide +kernel) (i := 69) (n := 189) rfl c114 ?_
              refine g_run hx [(.iconst 1, 1, 0)] (pc' := 116) (lo' := [some (.ref 66), some (.ref 75), some (.int v2), some (.int v3), some (.int 1)]) (st' := [.int 1, .int (gA σ 69 (129 + v3))]) (σ' := σ) (by decide +kernel) rfl rfl ?_
              refine g_ic_ne hx (off := 6) (tgt := 122) (by decide +kernel) (by decide) (fun c116 => ?_) (fun c116 => ?_)
              · have h := ok_f h c116
                refine g_run hx [(.aload_n 1, 0, 0), (.iload_n 3, 0, 0), (.dup2, 0, 0)] (pc' := 125) (lo' := [some (.ref 66), some (.ref 75), some (.int v2), some (.int v3), some (.int 1)]) (st' := [.int v3, .ref 75, .int v3, .ref 75]) (σ' := σ) (by decide +kernel) rfl rfl ?_
                obtain ⟨c125, h⟩ := ok_g h
                refine g_iald hx (by decide +kernel) (i := 75) (n := 63) rfl c125 ?_
                refine g_run hx [(.iconst 1, 1, 0), (.isub, 0, 0)] (pc' := 128) (lo' := [some (.ref 66), some (.ref 75), some (.int v2), some (.int v3), some (.int 1)]) (st' := [.int ((gA σ 75 v3) - 1), .int v3, .ref 75]) (σ' := σ) (by decide +kernel) rfl rfl ?_
                obtain ⟨c128, h⟩ := ok_g h
                refine g_iast hx (by decide +kernel) (i := 75) (n := 63) rfl c128 ?_
                refine g_run hx [(.aload_n 0, 0, 0), (.iconst 1, 1, 0), (.putfield 269, 0, 0), (.iload_n 2, 0, 0), (.aload_n 1, 0, 0), (.iload_n 3, 0, 0)] (pc' := 137) (lo' := [some (.ref 66), some (.ref 75), some (.int v2), some (.int v3), some (.int 1)]) (st' := [.int v3, .ref 75, .int v2]) (σ' := sI (sA σ 75 v3 ((gA σ 75 v3) - 1)) 66 27 1) (by decide +kernel) rfl rfl ?_
                obtain ⟨c137, h⟩ := ok_g h
                refine g_iald hx (by decide +kernel) (i := 75) (n := 63) rfl c137 ?_
                refine g_if_ne hx (off := 7) (tgt := 145) (by decide +kernel) (by decide) (fun c138 => ?_) (fun c138 => ?_)
                · have h := ok_f h c138
                  refine g_run hx [(.iconst 0, 0, 0), (.iadd, 0, 0), (.istore_n 2, 0, 0), (.iinc 3 1, 1, 0)] (pc' := 151) (lo' := [some (.ref 66), some (.ref 75), some (.int (v2 + 0)), some (.int (v3 + 1)), some (.int 1)]) (st' := []) (σ' := sI (sA σ 75 v3 ((gA σ 75 v3) - 1)) 66 27 1) (by decide +kernel) rfl rfl ?_
                  refine g_goto hx (off := (-115)) (tgt := 36) (by decide +kernel) (by decide) ?_
                  refine g_wk (lo' := [some (.ref 66), some (.ref 75), some (.int (v2 + 0)), some (.int (v3 + 1)), none]) ⟨rfl, ⟨rfl, ⟨rfl, ⟨rfl, trivial⟩⟩⟩⟩ ?_
                  exact ih _ _ _ h
                · have h := ok_t h c138
                  refine g_run hx [(.iconst 1, 1, 0)] (pc' := 142) (lo' := [some (.ref 66), some (.ref 75), some (.int v2), some (.int v3), some (.int 1)]) (st' := [.int 1, .int v2]) (σ' := sI (sA σ 75 v3 ((gA σ 75 v3) - 1)) 66 27 1) (by decide +kernel) rfl rfl ?_
                  refine g_goto hx (off := 4) (tgt := 146) (by decide +kernel) (by decide) ?_
                  refine g_run hx [(.iadd, 0, 0), (.istore_n 2, 0, 0), (.iinc 3 1, 1, 0)] (pc' := 151) (lo' := [some (.ref 66), some (.ref 75), some (.int (v2 + 1)), some (.int (v3 + 1)), some (.int 1)]) (st' := []) (σ' := sI (sA σ 75 v3 ((gA σ 75 v3) - 1)) 66 27 1) (by decide +kernel) rfl rfl ?_
                  refine g_goto hx (off := (-115)) (tgt := 36) (by decide +kernel) (by decide) ?_
                  refine g_wk (lo' := [some (.ref 66), some (.ref 75), some (.int (v2 + 1)), some (.int (v3 + 1)), none]) ⟨rfl, ⟨rfl, ⟨rfl, ⟨rfl, trivial⟩⟩⟩⟩ ?_
                  exact ih _ _ _ h
              · have h := ok_t h c116
                refine g_goto hx (off := 29) (tgt := 148) (by decide +kernel) (by decide) ?_
                refine g_run hx [(.iinc 3 1, 1, 0)] (pc' := 151) (lo' := [some (.ref 66), some (.ref 75), some (.int v2), some (.int (v3 + 1)), some (.int 1)]) (st' := []) (σ' := σ) (by decide +kernel) rfl rfl ?_
                refine g_goto hx (off := (-115)) (tgt := 36) (by decide +kernel) (by decide) ?_
                refine g_wk (lo' := [some (.ref 66), some (.ref 75), some (.int v2), some (.int (v3 + 1)), none]) ⟨rfl, ⟨rfl, ⟨rfl, ⟨rfl, trivial⟩⟩⟩⟩ ?_
                exact ih _ _ _ h
      · have h := ok_f h c47
        refine g_run hx [(.aload_n 0, 0, 0), (.getfield 47, 0, 0), (.iload_n 3, 0, 0), (.iconst 1, 1, 0), (.isub, 0, 0)] (pc' := 57) (lo' := [some (.ref 66), some (.ref 75), some (.int v2), some (.int v3), none]) (st' := [.int (v3 - 1), .ref 78]) (σ' := σ) (by decide +kernel) rfl rfl ?_
        obtain ⟨c57, h⟩ := ok_g h
        refine g_iald hx (by decide +kernel) (i := 78) (n := 60) rfl c57 ?_
        refine g_if_eq hx (off := 26) (tgt := 84) (by decide +kernel) (by decide) (fun c58 => ?_) (fun c58 => ?_)
        · have h := ok_t h c58
          refine g_run hx [(.iconst 1, 1, 0)] (pc' := 85) (lo' := [some (.ref 66), some (.ref 75), some (.int v2), some (.int v3), none]) (st' := [.int 1]) (σ' := σ) (by decide +kernel) rfl rfl ?_
          refine g_goto hx (off := 4) (tgt := 89) (by decide +kernel) (by decide) ?_
          refine g_run hx [(.istore 4, 0, 0), (.aload_n 0, 0, 0), (.getfield 47, 0, 0), (.iload_n 3, 0, 0)] (pc' := 96) (lo' := [some (.ref 66), some (.ref 75), some (.int v2), some (.int v3), some (.int 1)]) (st' := [.int v3, .ref 78]) (σ' := σ) (by decide +kernel) rfl rfl ?_
          obtain ⟨c96, h⟩ := ok_g h
          refine g_iald hx (by decide +kernel) (i := 78) (n := 60) rfl c96 ?_
          refine g_if_eq hx (off := 51) (tgt := 148) (by decide +kernel) (by decide) (fun c97 => ?_) (fun c97 => ?_)
          · have h := ok_t h c97
            refine g_run hx [(.iinc 3 1, 1, 0)] (pc' := 151) (lo' := [some (.ref 66), some (.ref 75), some (.int v2), some (.int (v3 + 1)), some (.int 1)]) (st' := []) (σ' := σ) (by decide +kernel) rfl rfl ?_
            refine g_goto hx (off := (-115)) (tgt := 36) (by decide +kernel) (by decide) ?_
            refine g_wk (lo' := [some (.ref 66), some (.ref 75), some (.int v2), some (.int (v3 + 1)), none]) ⟨rfl, ⟨rfl, ⟨rfl, ⟨rfl, trivial⟩⟩⟩⟩ ?_
            exact ih _ _ _ h
          · have h := ok_f h c97
            refine g_run hx [(.iload 4, 0, 0)] (pc' := 102) (lo' := [some (.ref 66), some (.ref 75), some (.int v2), some (.int v3), some (.int 1)]) (st' := [.int 1]) (σ' := σ) (by decide +kernel) rfl rfl ?_
            refine g_if_eq hx (off := 46) (tgt := 148) (by decide +kernel) (by decide) (fun c => absurd c (by decide)) (fun _ => ?_)
            refine g_run hx [(.aload_n 0, 0, 0), (.getfield 20, 0, 0), (.sipush 129, 129, 0), (.iload_n 3, 0, 0), (.iadd, 0, 0)] (pc' := 114) (lo' := [some (.ref 66), some (.ref 75), some (.int v2), some (.int v3), some (.int 1)]) (st' := [.int (129 + v3), .ref 69]) (σ' := σ) (by decide +kernel) rfl rfl ?_
            obtain ⟨c114, h⟩ := ok_g h
            refine g_iald hx (by decide +kernel) (i := 69) (n := 189) rfl c114 ?_
            refine g_run hx [(.iconst 1, 1, 0)] (pc' := 116) (lo' := [some (.ref 66), some (.ref 75), some (.int v2), some (.int v3), some (.int 1)]) (st' := [.int 1, .int (gA σ 69 (129 + v3))]) (σ' := σ) (by decide +kernel) rfl rfl ?_
            refine g_ic_ne hx (off := 6) (tgt := 122) (by decide +kernel) (by decide) (fun c116 => ?_) (fun c116 => ?_)
            · have h := ok_f h c116
              refine g_run hx [(.aload_n 1, 0, 0), (.iload_n 3, 0, 0), (.dup2, 0, 0)] (pc' := 125) (lo' := [some (.ref 66), some (.ref 75), some (.int v2), some (.int v3), some (.int 1)]) (st' := [.int v3, .ref 75, .int v3, .ref 75]) (σ' := σ) (by decide +kernel) rfl rfl ?_
              obtain ⟨c125, h⟩ := ok_g h
              refine g_iald hx (by decide +kernel) (i := 75) (n := 63) rfl c125 ?_
              refine g_run hx [(.iconst 1, 1, 0), (.isub, 0, 0)] (pc' := 128) (lo' := [some (.ref 66), some (.ref 75), some (.int v2), some (.int v3), some (.int 1)]) (st' := [.int ((gA σ 75 v3) - 1), .int v3, .ref 75]) (σ' := σ) (by decide +kernel) rfl rfl ?_
              obtain ⟨c128, h⟩ := ok_g h
              refine g_iast hx (by decide +kernel) (i := 75) (n := 63) rfl c128 ?_
              refine g_run hx [(.aload_n 0, 0, 0), (.iconst 1, 1, 0), (.putfield 269, 0, 0), (.iload_n 2, 0, 0), (.aload_n 1, 0, 0), (.iload_n 3, 0, 0)] (pc' := 137) (lo' := [some (.ref 66), some (.ref 75), some (.int v2), some (.int v3), some (.int 1)]) (st' := [.int v3, .ref 75, .int v2]) (σ' := sI (sA σ 75 v3 ((gA σ 75 v3) - 1)) 66 27 1) (by decide +kernel) rfl rfl ?_
              obtain ⟨c137, h⟩ := ok_g h
              refine g_iald hx (by decide +kernel) (i := 75) (n := 63) rfl c137 ?_
              refine g_if_ne hx (off := 7) (tgt := 145) (by decide +kernel) (by decide) (fun c138 => ?_) (fun c138 => ?_)
              · have h := ok_f h c138
                refine g_run hx [(.iconst 0, 0, 0), (.iadd, 0, 0), (.istore_n 2, 0, 0), (.iinc 3 1, 1, 0)] (pc' := 151) (lo' := [some (.ref 66), some (.ref 75), some (.int (v2 + 0)), some (.int (v3 + 1)), some (.int 1)]) (st' := []) (σ' := sI (sA σ 75 v3 ((gA σ 75 v3) - 1)) 66 27 1) (by decide +kernel) rfl rfl ?_
                refine g_goto hx (off := (-115)) (tgt := 36) (by decide +kernel) (by decide) ?_
                refine g_wk (lo' := [some (.ref 66), some (.ref 75), some (.int (v2 + 0)), some (.int (v3 + 1)), none]) ⟨rfl, ⟨rfl, ⟨rfl, ⟨rfl, trivial⟩⟩⟩⟩ ?_
                exact ih _ _ _ h
              · have h := ok_t h c138
                refine g_run hx [(.iconst 1, 1, 0)] (pc' := 142) (lo' := [some (.ref 66), some (.ref 75), some (.int v2), some (.int v3), some (.int 1)]) (st' := [.int 1, .int v2]) (σ' := sI (sA σ 75 v3 ((gA σ 75 v3) - 1)) 66 27 1) (by decide +kernel) rfl rfl ?_
                refine g_goto hx (off := 4) (tgt := 146) (by decide +kernel) (by decide) ?_
                refine g_run hx [(.iadd, 0, 0), (.istore_n 2, 0, 0), (.iinc 3 1, 1, 0)] (pc' := 151) (lo' := [some (.ref 66), some (.ref 75), some (.int (v2 + 1)), some (.int (v3 + 1)), some (.int 1)]) (st' := []) (σ' := sI (sA σ 75 v3 ((gA σ 75 v3) - 1)) 66 27 1) (by decide +kernel) rfl rfl ?_
                refine g_goto hx (off := (-115)) (tgt := 36) (by decide +kernel) (by decide) ?_
                refine g_wk (lo' := [some (.ref 66), some (.ref 75), some (.int (v2 + 1)), some (.int (v3 + 1)), none]) ⟨rfl, ⟨rfl, ⟨rfl, ⟨rfl, trivial⟩⟩⟩⟩ ?_
                exact ih _ _ _ h
            · have h := ok_t h c116
              refine g_goto hx (off := 29) (tgt := 148) (by decide +kernel) (by decide) ?_
              refine g_run hx [(.iinc 3 1, 1, 0)] (pc' := 151) (lo' := [some (.ref 66), some (.ref 75), some (.int v2), some (.int (v3 + 1)), some (.int 1)]) (st' := []) (σ' := σ) (by decide +kernel) rfl rfl ?_
              refine g_goto hx (off := (-115)) (tgt := 36) (by decide +kernel) (by decide) ?_
              refine g_wk (lo' := [some (.ref 66), some (.ref 75), some (.int v2), some (.int (v3 + 1)), none]) ⟨rfl, ⟨rfl, ⟨rfl, ⟨rfl, trivial⟩⟩⟩⟩ ?_
              exact ih _ _ _ h
        · have h := ok_f h c58
          refine g_run hx [(.iload_n 3, 0, 0), (.iconst 1, 1, 0), (.iadd, 0, 0), (.aload_n 0, 0, 0), (.getfield 20, 0, 0), (.iconst 0, 0, 0), (.iaload, 0, 0)] (pc' := 70) (lo' := [some (.ref 66), some (.ref 75), some (.int v2), some (.int v3), none]) (st' := [.int (gA σ 69 0), .int (v3 + 1)]) (σ' := σ) (by decide +kernel) rfl rfl ?_
          refine g_ic_ge hx (off := 18) (tgt := 88) (by decide +kernel) (by decide) (fun c70 => ?_) (fun c70 => ?_)
          · have h := ok_t h c70
            refine g_run hx [(.iconst 0, 0, 0), (.istore 4, 0, 0), (.aload_n 0, 0, 0), (.getfield 47, 0, 0), (.iload_n 3, 0, 0)] (pc' := 96) (lo' := [some (.ref 66), some (.ref 75), some (.int v2), some (.int v3), some (.int 0)]) (st' := [.int v3, .ref 78]) (σ' := σ) (by decide +kernel) rfl rfl ?_
            obtain ⟨c96, h⟩ := ok_g h
            refine g_iald hx (by decide +kernel) (i := 78) (n := 60) rfl c96 ?_
            refine g_if_eq hx (off := 51) (tgt := 148) (by decide +kernel) (by decide) (fun c97 => ?_) (fun c97 => ?_)
            · have h := ok_t h c97
              refine g_run hx [(.iinc 3 1, 1, 0)] (pc' := 151) (lo' := [some (.ref 66), some (.ref 75), some (.int v2), some (.int (v3 + 1)), some (.int 0)]) (st' := []) (σ' := σ) (by decide +kernel) rfl rfl ?_
              refine g_goto hx (off := (-115)) (tgt := 36) (by decide +kernel) (by decide) ?_
              refine g_wk (lo' := [some (.ref 66), some (.ref 75), some (.int v2), some (.int (v3 + 1)), none]) ⟨rfl, ⟨rfl, ⟨rfl, ⟨rfl, trivial⟩⟩⟩⟩ ?_
              exact ih _ _ _ h
            · have h := ok_f h c97
              refine g_run hx [(.iload 4, 0, 0)] (pc' := 102) (lo' := [some (.ref 66), some (.ref 75), some (.int v2), some (.int v3), some (.int 0)]) (st' := [.int 0]) (σ' := σ) (by decide +kernel) rfl rfl ?_
              refine g_if_eq hx (off := 46) (tgt := 148) (by decide +kernel) (by decide) (fun _ => ?_) (fun c => absurd c (by decide))
              refine g_run hx [(.iinc 3 1, 1, 0)] (pc' := 151) (lo' := [some (.ref 66), some (.ref 75), some (.int v2), some (.int (v3 + 1)), some (.int 0)]) (st' := []) (σ' := σ) (by decide +kernel) rfl rfl ?_
              refine g_goto hx (off := (-115)) (tgt := 36) (by decide +kernel) (by decide) ?_
              refine g_wk (lo' := [some (.ref 66), some (.ref 75), some (.int v2), some (.int (v3 + 1)), none]) ⟨rfl, ⟨rfl, ⟨rfl, ⟨rfl, trivial⟩⟩⟩⟩ ?_
              exact ih _ _ _ h
          · have h := ok_f h c70
            refine g_run hx [(.aload_n 0, 0, 0), (.getfield 47, 0, 0), (.iload_n 3, 0, 0), (.iconst 1, 1, 0), (.iadd, 0, 0)] (pc' := 80) (lo' := [some (.ref 66), some (.ref 75), some (.int v2), some (.int v3), none]) (st' := [.int (v3 + 1), .ref 78]) (σ' := σ) (by decide +kernel) rfl rfl ?_
            obtain ⟨c80, h⟩ := ok_g h
            refine g_iald hx (by decide +kernel) (i := 78) (n := 60) rfl c80 ?_
            refine g_if_ne hx (off := 7) (tgt := 88) (by decide +kernel) (by decide) (fun c81 => ?_) (fun c81 => ?_)
            · have h := ok_f h c81
              refine g_run hx [(.iconst 0, 0, 0), (.istore 4, 0, 0), (.aload_n 0, 0, 0), (.getfield 47, 0, 0), (.iload_n 3, 0, 0)] (pc' := 96) (lo' := [some (.ref 66), some (.ref 75), some (.int v2), some (.int v3), some (.int 0)]) (st' := [.int v3, .ref 78]) (σ' := σ) (by decide +kernel) rfl rfl ?_
              obtain ⟨c96, h⟩ := ok_g h
              refine g_iald hx (by decide +kernel) (i := 78) (n := 60) rfl c96 ?_
              refine g_if_eq hx (off := 51) (tgt := 148) (by decide +kernel) (by decide) (fun c97 => ?_) (fun c97 => ?_)
              · have h := ok_t h c97
                refine g_run hx [(.iinc 3 1, 1, 0)] (pc' := 151) (lo' := [some (.ref 66), some (.ref 75), some (.int v2), some (.int (v3 + 1)), some (.int 0)]) (st' := []) (σ' := σ) (by decide +kernel) rfl rfl ?_
                refine g_goto hx (off := (-115)) (tgt := 36) (by decide +kernel) (by decide) ?_
                refine g_wk (lo' := [some (.ref 66), some (.ref 75), some (.int v2), some (.int (v3 + 1)), none]) ⟨rfl, ⟨rfl, ⟨rfl, ⟨rfl, trivial⟩⟩⟩⟩ ?_
                exact ih _ _ _ h
              · have h := ok_f h c97
                refine g_run hx [(.iload 4, 0, 0)] (pc' := 102) (lo' := [some (.ref 66), some (.ref 75), some (.int v2), some (.int v3), some (.int 0)]) (st' := [.int 0]) (σ' := σ) (by decide +kernel) rfl rfl ?_
                refine g_if_eq hx (off := 46) (tgt := 148) (by decide +kernel) (by decide) (fun _ => ?_) (fun c => absurd c (by decide))
                refine g_run hx [(.iinc 3 1, 1, 0)] (pc' := 151) (lo' := [some (.ref 66), some (.ref 75), some (.int v2), some (.int (v3 + 1)), some (.int 0)]) (st' := []) (σ' := σ) (by decide +kernel) rfl rfl ?_
                refine g_goto hx (off := (-115)) (tgt := 36) (by decide +kernel) (by decide) ?_
                refine g_wk (lo' := [some (.ref 66), some (.ref 75), some (.int v2), some (.int (v3 + 1)), none]) ⟨rfl, ⟨rfl, ⟨rfl, ⟨rfl, trivial⟩⟩⟩⟩ ?_
                exact ih _ _ _ h
            · have h := ok_t h c81
              refine g_run hx [(.iconst 1, 1, 0)] (pc' := 85) (lo' := [some (.ref 66), some (.ref 75), some (.int v2), some (.int v3), none]) (st' := [.int 1]) (σ' := σ) (by decide +kernel) rfl rfl ?_
              refine g_goto hx (off := 4) (tgt := 89) (by decide +kernel) (by decide) ?_
              refine g_run hx [(.istore 4, 0, 0), (.aload_n 0, 0, 0), (.getfield 47, 0, 0), (.iload_n 3, 0, 0)] (pc' := 96) (lo' := [some (.ref 66), some (.ref 75), some (.int v2), some (.int v3), some (.int 1)]) (st' := [.int v3, .ref 78]) (σ' := σ) (by decide +kernel) rfl rfl ?_
              obtain ⟨c96, h⟩ := ok_g h
              refine g_iald hx (by decide +kernel) (i := 78) (n := 60) rfl c96 ?_
              refine g_if_eq hx (off := 51) (tgt := 148) (by decide +kernel) (by decide) (fun c97 => ?_) (fun c97 => ?_)
              · have h := ok_t h c97
                refine g_run hx [(.iinc 3 1, 1, 0)] (pc' := 151) (lo' := [some (.ref 66), some (.ref 75), some (.int v2), some (.int (v3 + 1)), some (.int 1)]) (st' := []) (σ' := σ) (by decide +kernel) rfl rfl ?_
                refine g_goto hx (off := (-115)) (tgt := 36) (by decide +kernel) (by decide) ?_
                refine g_wk (lo' := [some (.ref 66), some (.ref 75), some (.int v2), some (.int (v3 + 1)), none]) ⟨rfl, ⟨rfl, ⟨rfl, ⟨rfl, trivial⟩⟩⟩⟩ ?_
                exact ih _ _ _ h
              · have h := ok_f h c97
                refine g_run hx [(.iload 4, 0, 0)] (pc' := 102) (lo' := [some (.ref 66), some (.ref 75), some (.int v2), some (.int v3), some (.int 1)]) (st' := [.int 1]) (σ' := σ) (by decide +kernel) rfl rfl ?_
                refine g_if_eq hx (off := 46) (tgt := 148) (by decide +kernel) (by decide) (fun c => absurd c (by decide)) (fun _ => ?_)
                refine g_run hx [(.aload_n 0, 0, 0), (.getfield 20, 0, 0), (.sipush 129, 129, 0), (.iload_n 3, 0, 0), (.iadd, 0, 0)] (pc' := 114) (lo' := [some (.ref 66), some (.ref 75), some (.int v2), some (.int v3), some (.int 1)]) (st' := [.int (129 + v3), .ref 69]) (σ' := σ) (by decide +kernel) rfl rfl ?_
                obtain ⟨c114, h⟩ := ok_g h
                refine g_iald hx (by decide +kernel) (i := 69) (n := 189) rfl c114 ?_
                refine g_run hx [(.iconst 1, 1, 0)] (pc' := 116) (lo' := [some (.ref 66), some (.ref 75), some (.int v2), some (.int v3), some (.int 1)]) (st' := [.int 1, .int (gA σ 69 (129 + v3))]) (σ' := σ) (by decide +kernel) rfl rfl ?_
                refine g_ic_ne hx (off := 6) (tgt := 122) (by decide +kernel) (by decide) (fun c116 => ?_) (fun c116 => ?_)
                · have h := ok_f h c116
                  refine g_run hx [(.aload_n 1, 0, 0), (.iload_n 3, 0, 0), (.dup2, 0, 0)] (pc' := 125) (lo' := [some (.ref 66), some (.ref 75), some (.int v2), some (.int v3), some (.int 1)]) (st' := [.int v3, .ref 75, .int v3, .ref 75]) (σ' := σ) (by decide +kernel) rfl rfl ?_
                  obtain ⟨c125, h⟩ := ok_g h
                  refine g_iald hx (by decide +kernel) (i := 75) (n := 63) rfl c125 ?_
                  refine g_run hx [(.iconst 1, 1, 0), (.isub, 0, 0)] (pc' := 128) (lo' := [some (.ref 66), some (.ref 75), some (.int v2), some (.int v3), some (.int 1)]) (st' := [.int ((gA σ 75 v3) - 1), .int v3, .ref 75]) (σ' := σ) (by decide +kernel) rfl rfl ?_
                  obtain ⟨c128, h⟩ := ok_g h
                  refine g_iast hx (by decide +kernel) (i := 75) (n := 63) rfl c128 ?_
                  refine g_run hx [(.aload_n 0, 0, 0), (.iconst 1, 1, 0), (.putfield 269, 0, 0), (.iload_n 2, 0, 0), (.aload_n 1, 0, 0), (.iload_n 3, 0, 0)] (pc' := 137) (lo' := [some (.ref 66), some (.ref 75), some (.int v2), some (.int v3), some (.int 1)]) (st' := [.int v3, .ref 75, .int v2]) (σ' := sI (sA σ 75 v3 ((gA σ 75 v3) - 1)) 66 27 1) (by decide +kernel) rfl rfl ?_
                  obtain ⟨c137, h⟩ := ok_g h
                  refine g_iald hx (by decide +kernel) (i := 75) (n := 63) rfl c137 ?_
                  refine g_if_ne hx (off := 7) (tgt := 145) (by decide +kernel) (by decide) (fun c138 => ?_) (fun c138 => ?_)
                  · have h := ok_f h c138
                    refine g_run hx [(.iconst 0, 0, 0), (.iadd, 0, 0), (.istore_n 2, 0, 0), (.iinc 3 1, 1, 0)] (pc' := 151) (lo' := [some (.ref 66), some (.ref 75), some (.int (v2 + 0)), some (.int (v3 + 1)), some (.int 1)]) (st' := []) (σ' := sI (sA σ 75 v3 ((gA σ 75 v3) - 1)) 66 27 1) (by decide +kernel) rfl rfl ?_
                    refine g_goto hx (off := (-115)) (tgt := 36) (by decide +kernel) (by decide) ?_
                    refine g_wk (lo' := [some (.ref 66), some (.ref 75), some (.int (v2 + 0)), some (.int (v3 + 1)), none]) ⟨rfl, ⟨rfl, ⟨rfl, ⟨rfl, trivial⟩⟩⟩⟩ ?_
                    exact ih _ _ _ h
                  · have h := ok_t h c138
                    refine g_run hx [(.iconst 1, 1, 0)] (pc' := 142) (lo' := [some (.ref 66), some (.ref 75), some (.int v2), some (.int v3), some (.int 1)]) (st' := [.int 1, .int v2]) (σ' := sI (sA σ 75 v3 ((gA σ 75 v3) - 1)) 66 27 1) (by decide +kernel) rfl rfl ?_
                    refine g_goto hx (off := 4) (tgt := 146) (by decide +kernel) (by decide) ?_
                    refine g_run hx [(.iadd, 0, 0), (.istore_n 2, 0, 0), (.iinc 3 1, 1, 0)] (pc' := 151) (lo' := [some (.ref 66), some (.ref 75), some (.int (v2 + 1)), some (.int (v3 + 1)), some (.int 1)]) (st' := []) (σ' := sI (sA σ 75 v3 ((gA σ 75 v3) - 1)) 66 27 1) (by decide +kernel) rfl rfl ?_
                    refine g_goto hx (off := (-115)) (tgt := 36) (by decide +kernel) (by decide) ?_
                    refine g_wk (lo' := [some (.ref 66), some (.ref 75), some (.int (v2 + 1)), some (.int (v3 + 1)), none]) ⟨rfl, ⟨rfl, ⟨rfl, ⟨rfl, trivial⟩⟩⟩⟩ ?_
                    exact ih _ _ _ h
                · have h := ok_t h c116
                  refine g_goto hx (off := 29) (tgt := 148) (by decide +kernel) (by decide) ?_
                  refine g_run hx [(.iinc 3 1, 1, 0)] (pc' := 151) (lo' := [some (.ref 66), some (.ref 75), some (.int v2), some (.int (v3 + 1)), some (.int 1)]) (st' := []) (σ' := σ) (by decide +kernel) rfl rfl ?_
                  refine g_goto hx (off := (-115)) (tgt := 36) (by decide +kernel) (by decide) ?_
                  refine g_wk (lo' := [some (.ref 66), some (.ref 75), some (.int v2), some (.int (v3 + 1)), none]) ⟨rfl, ⟨rfl, ⟨rfl, ⟨rfl, trivial⟩⟩⟩⟩ ?_
                  exact ih _ _ _ h
set_option maxRecDepth 100000 in
theorem s_m_yearOn_66_75 {y : EX} {N : Nat} {σ : Sg} {P : Int32 × Sg → Prop} (h : ok (f_m_yearOn N 69 63 60 78 75 189 66 σ) P) : Ev y M_m_yearOn 0 [.ref 66, .ref 75] σ rvI P := by
  refine Ev.of mk_m_yearOn (Nat.le_of_ble_eq_true rfl) (fun x hx hc hr => ?_)
  have hx : Cx 10 prog_12_method_47_code x := hx
  have hc : Cc y 5 0 x := hc
  show G x 0 [some (.ref 66), some (.ref 75), none, none, none] [] σ
  unfold f_m_yearOn at h
  refine g_run hx [(.iconst 0, 0, 0), (.istore_n 2, 0, 0), (.aload_n 0, 0, 0), (.iconst 0, 0, 0), (.putfield 269, 0, 0), (.iconst 0, 0, 0), (.istore_n 3, 0, 0)] (pc' := 9) (lo' := [some (.ref 66), some (.ref 75), some (.int 0), some (.int 0), none]) (st' := []) (σ' := sI σ 66 27 0) (by decide +kernel) rfl rfl ?_
  refine s_m_yearOn_66_75_L9 hx hc hr N _ _ _ _ (fun w2 t1 h => ?_) h
  refine g_run hx [(.iconst 0, 0, 0), (.istore_n 3, 0, 0)] (pc' := 36) (lo' := [some (.ref 66), some (.ref 75), some (.int w2), some (.int 0), none]) (st' := []) (σ' := t1) (by decide +kernel) rfl rfl ?_
  refine s_m_yearOn_66_75_L36 hx hc hr N _ _ _ h
def f_m_backIn_L24 (N : Nat) : Nat → Int32 → Int32 → Sg → Option (Int32 × Sg)
  | 0, _, _, _ => none
  | n + 1, v1, v2, σ =>
    if 60 < v2 then
      some ((-2), σ)
    else
      if vin v1 63 then
      if (gA σ 75 v1) = 0 then
        some (v2, σ)
      else
        (f_m_yearOn N 69 63 60 78 75 189 66 σ).bind fun q4 =>
        f_m_backIn_L24 N n v1 (v2 + 1) q4.2
      else none
def f_m_backIn (N : Nat) (v1 : Int32) (σ : Sg) : Option (Int32 × Sg) :=
  (f_m_anew N σ).bind fun q1 =>
  (f_m_isCell N v1 q1.2).bind fun q2 =>
  if q2.1 = true then
    (f_m_begin N q2.2).bind fun q3 =>
    f_m_backIn_L24 N N v1 0 q3.2
  else
    (f_m_no N 1 q2.2).bind fun q5 =>
    some (q5.1, q5.2)
set_option maxRecDepth 100000 in
theorem s_m_backIn_L24 {y : EX} {N : Nat} {x : CX} {P : Int32 × Sg → Prop} (hx : Cx 10 prog_12_method_70_code x) (hc : Cc y 3 2 x) (hr : Cr M_m_backIn rvI P x) : ∀ (n : Nat) (v1 : Int32) (v2 : Int32) (σ : Sg), ok (f_m_backIn_L24 N n v1 v2 σ) P → G x 24 [some (.ref 66), some (.int v1), some (.int v2)] [] σ := by
  intro n
  induction n with
  | zero => intro v1 v2 σ h; exact ok_none h
  | succ n ih =>
    intro v1 v2 σ h
    rw [f_m_backIn_L24] at h
    refine g_run hx [(.iload_n 2, 0, 0), (.bipush 60, 60, 0)] (pc' := 27) (lo' := [some (.ref 66), some (.int v1), some (.int v2)]) (st' := [.int 60, .int v2]) (σ' := σ) (by decide +kernel) rfl rfl ?_
    refine g_ic_gt hx (off := 29) (tgt := 56) (by decide +kernel) (by decide) (fun c27 => ?_) (fun c27 => ?_)
    · have h := ok_t h c27
      refine g_run hx [(.bipush (-2), (-2), 0)] (pc' := 58) (lo' := [some (.ref 66), some (.int v1), some (.int v2)]) (st' := [.int (-2)]) (σ' := σ) (by decide +kernel) rfl rfl ?_
      exact g_iret hx hr rfl _ rfl (by decide +kernel) (ok_some h)
    · have h := ok_f h c27
      refine g_run hx [(.aload_n 0, 0, 0), (.getfield 38, 0, 0), (.iload_n 1, 0, 0)] (pc' := 35) (lo' := [some (.ref 66), some (.int v1), some (.int v2)]) (st' := [.int v1, .ref 75]) (σ' := σ) (by decide +kernel) rfl rfl ?_
      obtain ⟨c35, h⟩ := ok_g h
      refine g_iald hx (by decide +kernel) (i := 75) (n := 63) rfl c35 ?_
      refine g_if_ne hx (off := 5) (tgt := 41) (by decide +kernel) (by decide) (fun c36 => ?_) (fun c36 => ?_)
      · have h := ok_f h c36
        refine g_run hx [(.aload_n 0, 0, 0), (.aload_n 0, 0, 0), (.getfield 38, 0, 0)] (pc' := 46) (lo' := [some (.ref 66), some (.int v1), some (.int v2)]) (st' := [.ref 75, .ref 66]) (σ' := σ) (by decide +kernel) rfl rfl ?_
        refine g_callV (rest := []) [.ref 75] hx hc mk_m_yearOn ln_10_275 rfl (by decide +kernel) (by decide) (Nat.le_of_ble_eq_true rfl) (s_m_yearOn_66_75 (ok_b h)) (fun r4 s4 h => ?_)
        refine g_run hx [(.pop, 0, 0), (.iinc 2 1, 1, 0)] (pc' := 53) (lo' := [some (.ref 66), some (.int v1), some (.int (v2 + 1))]) (st' := []) (σ' := s4) (by decide +kernel) rfl rfl ?_
        refine g_goto hx (off := (-29)) (tgt := 24) (by decide +kernel) (by decide) ?_
        exact ih _ _ _ h
      · have h := ok_t h c36
        refine g_run hx [(.iload_n 2, 0, 0)] (pc' := 40) (lo' := [some (.ref 66), some (.int v1), some (.int v2)]) (st' := [.int v2]) (σ' := σ) (by decide +kernel) rfl rfl ?_
        exact g_iret hx hr rfl _ rfl (by decide +kernel) (ok_some h)
set_option maxRecDepth 100000 in
theorem s_m_backIn {y : EX} {N : Nat} {v1 : Int32} {σ : Sg} {P : Int32 × Sg → Prop} (h : ok (f_m_backIn N v1 σ) P) : Ev y M_m_backIn 2 [.ref 66, .int v1] σ rvI P := by
  refine Ev.of mk_m_backIn (Nat.le_of_ble_eq_true rfl) (fun x hx hc hr => ?_)
  have hx : Cx 10 prog_12_method_70_code x := hx
  have hc : Cc y 3 2 x := hc
  show G x 0 [some (.ref 66), some (.int v1), none] [] σ
  unfold f_m_backIn at h
  refine g_run hx [(.aload_n 0, 0, 0)] (pc' := 1) (lo' := [some (.ref 66), some (.int v1), none]) (st' := [.ref 66]) (σ' := σ) (by decide +kernel) rfl rfl ?_
  refine g_callV (rest := []) [] hx hc mk_m_anew ln_10_174 rfl (by decide +kernel) (by decide) (Nat.le_of_ble_eq_true rfl) (s_m_anew (ok_b h)) (fun r1 s1 h => ?_)
  refine g_run hx [(.aload_n 0, 0, 0), (.iload_n 1, 0, 0)] (pc' := 6) (lo' := [some (.ref 66), some (.int v1), none]) (st' := [.int v1, .ref 66]) (σ' := s1) (by decide +kernel) rfl rfl ?_
  refine g_callV (rest := []) [.int v1] hx hc mk_m_isCell ln_10_279 rfl (by decide +kernel) (by decide) (Nat.le_of_ble_eq_true rfl) (s_m_isCell (ok_b h)) (fun r2 s2 h => ?_)
  refine g_ifb_ne hx (off := 9) (tgt := 18) (by decide +kernel) (by decide) (fun c9 => ?_) (fun c9 => ?_)
  · have h := ok_t h c9
    refine g_run hx [(.aload_n 0, 0, 0)] (pc' := 19) (lo' := [some (.ref 66), some (.int v1), none]) (st' := [.ref 66]) (σ' := s2) (by decide +kernel) rfl rfl ?_
    refine g_callV (rest := []) [] hx hc mk_m_begin ln_10_272 rfl (by decide +kernel) (by decide) (Nat.le_of_ble_eq_true rfl) (s_m_begin (ok_b h)) (fun r3 s3 h => ?_)
    refine g_run hx [(.iconst 0, 0, 0), (.istore_n 2, 0, 0)] (pc' := 24) (lo' := [some (.ref 66), some (.int v1), some (.int 0)]) (st' := []) (σ' := s3) (by decide +kernel) rfl rfl ?_
    refine s_m_backIn_L24 hx hc hr N _ _ _ h
  · have h := ok_f h c9
    refine g_run hx [(.aload_n 0, 0, 0), (.iconst 1, 1, 0)] (pc' := 14) (lo' := [some (.ref 66), some (.int v1), none]) (st' := [.int 1, .ref 66]) (σ' := s2) (by decide +kernel) rfl rfl ?_
    refine g_callV (rest := []) [.int 1] hx hc mk_m_no ln_10_177 rfl (by decide +kernel) (by decide) (Nat.le_of_ble_eq_true rfl) (s_m_no (ok_b h)) (fun r5 s5 h => ?_)
    exact g_iret hx hr rfl _ rfl (by decide +kernel) (ok_some h)
def f_m_goneFrom_L14 (N : Nat) : Nat → Int32 → Int32 → Int32 → Int32 → Sg → Option (Int32 × Sg)
  | 0, _, _, _, _, _ => none
  | n + 1, v1, v2, v3, v4, σ =>
    if v2 ≤ v1 then
      if v1 < v4 then
        some (v3, σ)
      else
        if vin v4 63 then
        if (gA σ 74 v4) ≤ 0 then
          f_m_goneFrom_L14 N n v1 v2 (v3 + 0) (v4 + 1) σ
        else
          f_m_goneFrom_L14 N n v1 v2 (v3 + 1) (v4 + 1) σ
        else none
    else
      if v2 < v4 then
        some (v3, σ)
      else
        if vin v4 63 then
        if (gA σ 74 v4) ≤ 0 then
          f_m_goneFrom_L14 N n v1 v2 (v3 + 0) (v4 + 1) σ
        else
          f_m_goneFrom_L14 N n v1 v2 (v3 + 1) (v4 + 1) σ
        else none
def f_m_goneFrom (N : Nat) (v1 : Int32) (v2 : Int32) (σ : Sg) : Option (Int32 × Sg) :=
  if v2 ≤ v1 then
    f_m_goneFrom_L14 N N v1 v2 0 v2 σ
  else
    f_m_goneFrom_L14 N N v1 v2 0 v1 σ
set_option maxRecDepth 100000 in
theorem s_m_goneFrom_L14 {y : EX} {N : Nat} {x : CX} {P : Int32 × Sg → Prop} (hx : Cx 10 prog_12_method_64_code x) (hc : Cc y 5 0 x) (hr : Cr M_m_goneFrom rvI P x) : ∀ (n : Nat) (v1 : Int32) (v2 : Int32) (v3 : Int32) (v4 : Int32) (σ : Sg), ok (f_m_goneFrom_L14 N n v1 v2 v3 v4 σ) P → G x 14 [some (.ref 66), some (.int v1), some (.int v2), some (.int v3), some (.int v4)] [] σ := by
  intro n
  induction n with
  | zero => intro v1 v2 v3 v4 σ h; exact ok_none h
  | succ n ih =>
    intro v1 v2 v3 v4 σ h
    rw [f_m_goneFrom_L14] at h
    refine g_run hx [(.iload 4, 0, 0), (.iload_n 1, 0, 0), (.iload_n 2, 0, 0)] (pc' := 18) (lo' := [some (.ref 66), some (.int v1), some (.int v2), some (.int v3), some (.int v4)]) (st' := [.int v2, .int v1, .int v4]) (σ' := σ) (by decide +kernel) rfl rfl ?_
    refine g_ic_ge hx (off := 7) (tgt := 25) (by decide +kernel) (by decide) (fun c18 => ?_) (fun c18 => ?_)
    · have h := ok_t h c18
      refine g_run hx [(.iload_n 1, 0, 0)] (pc' := 26) (lo' := [some (.ref 66), some (.int v1), some (.int v2), some (.int v3), some (.int v4)]) (st' := [.int v1, .int v4]) (σ' := σ) (by decide +kernel) rfl rfl ?_
      refine g_ic_gt hx (off := 27) (tgt := 53) (by decide +kernel) (by decide) (fun c26 => ?_) (fun c26 => ?_)
      · have h := ok_t h c26
        refine g_run hx [(.iload_n 3, 0, 0)] (pc' := 54) (lo' := [some (.ref 66), some (.int v1), some (.int v2), some (.int v3), some (.int v4)]) (st' := [.int v3]) (σ' := σ) (by decide +kernel) rfl rfl ?_
        exact g_iret hx hr rfl _ rfl (by decide +kernel) (ok_some h)
      · have h := ok_f h c26
        refine g_run hx [(.iload_n 3, 0, 0), (.aload_n 0, 0, 0), (.getfield 35, 0, 0), (.iload 4, 0, 0)] (pc' := 36) (lo' := [some (.ref 66), some (.int v1), some (.int v2), some (.int v3), some (.int v4)]) (st' := [.int v4, .ref 74, .int v3]) (σ' := σ) (by decide +kernel) rfl rfl ?_
        obtain ⟨c36, h⟩ := ok_g h
        refine g_iald hx (by decide +kernel) (i := 74) (n := 63) rfl c36 ?_
        refine g_if_le hx (off := 7) (tgt := 44) (by decide +kernel) (by decide) (fun c37 => ?_) (fun c37 => ?_)
        · have h := ok_t h c37
          refine g_run hx [(.iconst 0, 0, 0), (.iadd, 0, 0), (.istore_n 3, 0, 0), (.iinc 4 1, 1, 0)] (pc' := 50) (lo' := [some (.ref 66), some (.int v1), some (.int v2), some (.int (v3 + 0)), some (.int (v4 + 1))]) (st' := []) (σ' := σ) (by decide +kernel) rfl rfl ?_
          refine g_goto hx (off := (-36)) (tgt := 14) (by decide +kernel) (by decide) ?_
          exact ih _ _ _ _ _ h
        · have h := ok_f h c37
          refine g_run hx [(.iconst 1, 1, 0)] (pc' := 41) (lo' := [some (.ref 66), some (.int v1), some (.int v2), some (.int v3), some (.int v4)]) (st' := [.int 1, .int v3]) (σ' := σ) (by decide +kernel) rfl rfl ?_
          refine g_goto hx (off := 4) (tgt := 45) (by decide +kernel) (by decide) ?_
          refine g_run hx [(.iadd, 0, 0), (.istore_n 3, 0, 0), (.iinc 4 1, 1, 0)] (pc' := 50) (lo' := [some (.ref 66), some (.int v1), some (.int v2), some (.int (v3 + 1)), some (.int (v4 + 1))]) (st' := []) (σ' := σ) (by decide +kernel) rfl rfl ?_
          refine g_goto hx (off := (-36)) (tgt := 14) (by decide +kernel) (by decide) ?_
          exact ih _ _ _ _ _ h
    · have h := ok_f h c18
      refine g_run hx [(.iload_n 2, 0, 0)] (pc' := 22) (lo' := [some (.ref 66), some (.int v1), some (.int v2), some (.int v3), some (.int v4)]) (st' := [.int v2, .int v4]) (σ' := σ) (by decide +kernel) rfl rfl ?_
      refine g_goto hx (off := 4) (tgt := 26) (by decide +kernel) (by decide) ?_
      refine g_ic_gt hx (off := 27) (tgt := 53) (by decide +kernel) (by decide) (fun c26 => ?_) (fun c26 => ?_)
      · have h := ok_t h c26
        refine g_run hx [(.iload_n 3, 0, 0)] (pc' := 54) (lo' := [some (.ref 66), some (.int v1), some (.int v2), some (.int v3), some (.int v4)]) (st' := [.int v3]) (σ' := σ) (by decide +kernel) rfl rfl ?_
        exact g_iret hx hr rfl _ rfl (by decide +kernel) (ok_some h)
      · have h := ok_f h c26
        refine g_run hx [(.iload_n 3, 0, 0), (.aload_n 0, 0, 0), (.getfield 35, 0, 0), (.iload 4, 0, 0)] (pc' := 36) (lo' := [some (.ref 66), some (.int v1), some (.int v2), some (.int v3), some (.int v4)]) (st' := [.int v4, .ref 74, .int v3]) (σ' := σ) (by decide +kernel) rfl rfl ?_
        obtain ⟨c36, h⟩ := ok_g h
        refine g_iald hx (by decide +kernel) (i := 74) (n := 63) rfl c36 ?_
        refine g_if_le hx (off := 7) (tgt := 44) (by decide +kernel) (by decide) (fun c37 => ?_) (fun c37 => ?_)
        · have h := ok_t h c37
          refine g_run hx [(.iconst 0, 0, 0), (.iadd, 0, 0), (.istore_n 3, 0, 0), (.iinc 4 1, 1, 0)] (pc' := 50) (lo' := [some (.ref 66), some (.int v1), some (.int v2), some (.int (v3 + 0)), some (.int (v4 + 1))]) (st' := []) (σ' := σ) (by decide +kernel) rfl rfl ?_
          refine g_goto hx (off := (-36)) (tgt := 14) (by decide +kernel) (by decide) ?_
          exact ih _ _ _ _ _ h
        · have h := ok_f h c37
          refine g_run hx [(.iconst 1, 1, 0)] (pc' := 41) (lo' := [some (.ref 66), some (.int v1), some (.int v2), some (.int v3), some (.int v4)]) (st' := [.int 1, .int v3]) (σ' := σ) (by decide +kernel) rfl rfl ?_
          refine g_goto hx (off := 4) (tgt := 45) (by decide +kernel) (by decide) ?_
          refine g_run hx [(.iadd, 0, 0), (.istore_n 3, 0, 0), (.iinc 4 1, 1, 0)] (pc' := 50) (lo' := [some (.ref 66), some (.int v1), some (.int v2), some (.int (v3 + 1)), some (.int (v4 + 1))]) (st' := []) (σ' := σ) (by decide +kernel) rfl rfl ?_
          refine g_goto hx (off := (-36)) (tgt := 14) (by decide +kernel) (by decide) ?_
          exact ih _ _ _ _ _ h
set_option maxRecDepth 100000 in
theorem s_m_goneFrom {y : EX} {N : Nat} {v1 : Int32} {v2 : Int32} {σ : Sg} {P : Int32 × Sg → Prop} (h : ok (f_m_goneFrom N v1 v2 σ) P) : Ev y M_m_goneFrom 0 [.ref 66, .int v1, .int v2] σ rvI P := by
  refine Ev.of mk_m_goneFrom (Nat.le_of_ble_eq_true rfl) (fun x hx hc hr => ?_)
  have hx : Cx 10 prog_12_method_64_code x := hx
  have hc : Cc y 5 0 x := hc
  show G x 0 [some (.ref 66), some (.int v1), some (.int v2), none, none] [] σ
  unfold f_m_goneFrom at h
  refine g_run hx [(.iconst 0, 0, 0), (.istore_n 3, 0, 0), (.iload_n 1, 0, 0), (.iload_n 2, 0, 0)] (pc' := 4) (lo' := [some (.ref 66), some (.int v1), some (.int v2), some (.int 0), none]) (st' := [.int v2, .int v1]) (σ' := σ) (by decide +kernel) rfl rfl ?_
  refine g_ic_ge hx (off := 7) (tgt := 11) (by decide +kernel) (by decide) (fun c4 => ?_) (fun c4 => ?_)
  · have h := ok_t h c4
    refine g_run hx [(.iload_n 2, 0, 0), (.istore 4, 0, 0)] (pc' := 14) (lo' := [some (.ref 66), some (.int v1), some (.int v2), some (.int 0), some (.int v2)]) (st' := []) (σ' := σ) (by decide +kernel) rfl rfl ?_
    refine s_m_goneFrom_L14 hx hc hr N _ _ _ _ _ h
  · have h := ok_f h c4
    refine g_run hx [(.iload_n 1, 0, 0)] (pc' := 8) (lo' := [some (.ref 66), some (.int v1), some (.int v2), some (.int 0), none]) (st' := [.int v1]) (σ' := σ) (by decide +kernel) rfl rfl ?_
    refine g_goto hx (off := 4) (tgt := 12) (by decide +kernel) (by decide) ?_
    refine g_run hx [(.istore 4, 0, 0)] (pc' := 14) (lo' := [some (.ref 66), some (.int v1), some (.int v2), some (.int 0), some (.int v1)]) (st' := []) (σ' := σ) (by decide +kernel) rfl rfl ?_
    refine s_m_goneFrom_L14 hx hc hr N _ _ _ _ _ h
def f_m_between (N : Nat) (v1 : Int32) (v2 : Int32) (σ : Sg) : Option (Int32 × Sg) :=
  (f_m_anew N σ).bind fun q1 =>
  (f_m_isCell N v1 q1.2).bind fun q2 =>
  if q2.1 = true then
    (f_m_isCell N v2 q2.2).bind fun q4 =>
    if q4.1 = true then
      (f_m_goneFrom N v1 v2 q4.2).bind fun q6 =>
      some (q6.1, q6.2)
    else
      (f_m_no N 1 q4.2).bind fun q5 =>
      some (q5.1, q5.2)
  else
    (f_m_no N 1 q2.2).bind fun q3 =>
    some (q3.1, q3.2)
set_option maxRecDepth 100000 in
theorem s_m_between {y : EX} {N : Nat} {v1 : Int32} {v2 : Int32} {σ : Sg} {P : Int32 × Sg → Prop} (h : ok (f_m_between N v1 v2 σ) P) : Ev y M_m_between 2 [.ref 66, .int v1, .int v2] σ rvI P := by
  refine Ev.of mk_m_between (Nat.le_of_ble_eq_true rfl) (fun x hx hc hr => ?_)
  have hx : Cx 10 prog_12_method_65_code x := hx
  have hc : Cc y 3 2 x := hc
  show G x 0 [some (.ref 66), some (.int v1), some (.int v2)] [] σ
  unfold f_m_between at h
  refine g_run hx [(.aload_n 0, 0, 0)] (pc' := 1) (lo' := [some (.ref 66), some (.int v1), some (.int v2)]) (st' := [.ref 66]) (σ' := σ) (by decide +kernel) rfl rfl ?_
  refine g_callV (rest := []) [] hx hc mk_m_anew ln_10_174 rfl (by decide +kernel) (by decide) (Nat.le_of_ble_eq_true rfl) (s_m_anew (ok_b h)) (fun r1 s1 h => ?_)
  refine g_run hx [(.aload_n 0, 0, 0), (.iload_n 1, 0, 0)] (pc' := 6) (lo' := [some (.ref 66), some (.int v1), some (.int v2)]) (st' := [.int v1, .ref 66]) (σ' := s1) (by decide +kernel) rfl rfl ?_
  refine g_callV (rest := []) [.int v1] hx hc mk_m_isCell ln_10_279 rfl (by decide +kernel) (by decide) (Nat.le_of_ble_eq_true rfl) (s_m_isCell (ok_b h)) (fun r2 s2 h => ?_)
  refine g_ifb_eq hx (off := 20) (tgt := 29) (by decide +kernel) (by decide) (fun c9 => ?_) (fun c9 => ?_)
  · have h := ok_f h c9
    refine g_run hx [(.aload_n 0, 0, 0), (.iconst 1, 1, 0)] (pc' := 31) (lo' := [some (.ref 66), some (.int v1), some (.int v2)]) (st' := [.int 1, .ref 66]) (σ' := s2) (by decide +kernel) rfl rfl ?_
    refine g_callV (rest := []) [.int 1] hx hc mk_m_no ln_10_177 rfl (by decide +kernel) (by decide) (Nat.le_of_ble_eq_true rfl) (s_m_no (ok_b h)) (fun r3 s3 h => ?_)
    exact g_iret hx hr rfl _ rfl (by decide +kernel) (ok_some h)
  · have h := ok_t h c9
    refine g_run hx [(.aload_n 0, 0, 0), (.iload_n 2, 0, 0)] (pc' := 14) (lo' := [some (.ref 66), some (.int v1), some (.int v2)]) (st' := [.int v2, .ref 66]) (σ' := s2) (by decide +kernel) rfl rfl ?_
    refine g_callV (rest := []) [.int v2] hx hc mk_m_isCell ln_10_279 rfl (by decide +kernel) (by decide) (Nat.le_of_ble_eq_true rfl) (s_m_isCell (ok_b h)) (fun r4 s4 h => ?_)
    refine g_ifb_eq hx (off := 12) (tgt := 29) (by decide +kernel) (by decide) (fun c17 => ?_) (fun c17 => ?_)
    · have h := ok_f h c17
      refine g_run hx [(.aload_n 0, 0, 0), (.iconst 1, 1, 0)] (pc' := 31) (lo' := [some (.ref 66), some (.int v1), some (.int v2)]) (st' := [.int 1, .ref 66]) (σ' := s4) (by decide +kernel) rfl rfl ?_
      refine g_callV (rest := []) [.int 1] hx hc mk_m_no ln_10_177 rfl (by decide +kernel) (by decide) (Nat.le_of_ble_eq_true rfl) (s_m_no (ok_b h)) (fun r5 s5 h => ?_)
      exact g_iret hx hr rfl _ rfl (by decide +kernel) (ok_some h)
    · have h := ok_t h c17
      refine g_run hx [(.aload_n 0, 0, 0), (.iload_n 1, 0, 0), (.iload_n 2, 0, 0)] (pc' := 23) (lo' := [some (.ref 66), some (.int v1), some (.int v2)]) (st' := [.int v2, .int v1, .ref 66]) (σ' := s4) (by decide +kernel) rfl rfl ?_
      refine g_callV (rest := []) [.int v1, .int v2] hx hc mk_m_goneFrom ln_10_310 rfl (by decide +kernel) (by decide) (Nat.le_of_ble_eq_true rfl) (s_m_goneFrom (ok_b h)) (fun r6 s6 h => ?_)
      refine g_goto hx (off := 8) (tgt := 34) (by decide +kernel) (by decide) ?_
      exact g_iret hx hr rfl _ rfl (by decide +kernel) (ok_some h)
def f_m_isBoots (N : Nat) (v1 : Int32) (σ : Sg) : Option (Bool × Sg) :=
  if (gI σ 66 14) = 0 then
    some (false, σ)
  else
    (f_m_in N v1 0 ((gA σ 69 2) - 1) σ).bind fun q1 =>
    if q1.1 = true then
      some (true, q1.2)
    else
      some (false, q1.2)
set_option maxRecDepth 100000 in
theorem s_m_isBoots {y : EX} {N : Nat} {v1 : Int32} {σ : Sg} {P : Bool × Sg → Prop} (h : ok (f_m_isBoots N v1 σ) P) : Ev y M_m_isBoots 1 [.ref 66, .int v1] σ rvB P := by
  refine Ev.of mk_m_isBoots (Nat.le_of_ble_eq_true rfl) (fun x hx hc hr => ?_)
  have hx : Cx 10 prog_12_method_41_code x := hx
  have hc : Cc y 2 1 x := hc
  show G x 0 [some (.ref 66), some (.int v1)] [] σ
  unfold f_m_isBoots at h
  refine g_run hx [(.aload_n 0, 0, 0), (.getfield 187, 0, 0)] (pc' := 4) (lo' := [some (.ref 66), some (.int v1)]) (st' := [.int (gI σ 66 14)]) (σ' := σ) (by decide +kernel) rfl rfl ?_
  refine g_if_eq hx (off := 23) (tgt := 27) (by decide +kernel) (by decide) (fun c4 => ?_) (fun c4 => ?_)
  · have h := ok_t h c4
    refine g_run hx [(.iconst 0, 0, 0)] (pc' := 28) (lo' := [some (.ref 66), some (.int v1)]) (st' := [.int 0]) (σ' := σ) (by decide +kernel) rfl rfl ?_
    exact g_zret (b := false) hx hr rfl false rfl (by decide +kernel) (ok_some h)
  · have h := ok_f h c4
    refine g_run hx [(.iload_n 1, 0, 0), (.iconst 0, 0, 0), (.aload_n 0, 0, 0), (.getfield 20, 0, 0), (.iconst 2, 2, 0), (.iaload, 0, 0), (.iconst 1, 1, 0), (.isub, 0, 0)] (pc' := 17) (lo' := [some (.ref 66), some (.int v1)]) (st' := [.int ((gA σ 69 2) - 1), .int 0, .int v1]) (σ' := σ) (by decide +kernel) rfl rfl ?_
    refine g_callS (rest := []) [.int v1, .int 0, .int ((gA σ 69 2) - 1)] hx hc mk_m_in ln_10_156 (by decide +kernel) (by decide) (Nat.le_of_ble_eq_true rfl) (s_m_in (ok_b h)) (fun r1 s1 h => ?_)
    refine g_ifb_eq hx (off := 7) (tgt := 27) (by decide +kernel) (by decide) (fun c20 => ?_) (fun c20 => ?_)
    · have h := ok_f h c20
      refine g_run hx [(.iconst 0, 0, 0)] (pc' := 28) (lo' := [some (.ref 66), some (.int v1)]) (st' := [.int 0]) (σ' := s1) (by decide +kernel) rfl rfl ?_
      exact g_zret (b := false) hx hr rfl false rfl (by decide +kernel) (ok_some h)
    · have h := ok_t h c20
      refine g_run hx [(.iconst 1, 1, 0)] (pc' := 24) (lo' := [some (.ref 66), some (.int v1)]) (st' := [.int 1]) (σ' := s1) (by decide +kernel) rfl rfl ?_
      refine g_goto hx (off := 4) (tgt := 28) (by decide +kernel) (by decide) ?_
      exact g_zret (b := true) hx hr rfl true rfl (by decide +kernel) (ok_some h)
def f_m_boots (N : Nat) (v1 : Int32) (σ : Sg) : Option (Int32 × Sg) :=
  (f_m_anew N σ).bind fun q1 =>
  (f_m_isBoots N v1 q1.2).bind fun q2 =>
  if q2.1 = true then
    if vin (9 + v1) 189 then
    some ((gA q2.2 69 (9 + v1)), q2.2)
    else none
  else
    (f_m_no N 1 q2.2).bind fun q3 =>
    some (q3.1, q3.2)
set_option maxRecDepth 100000 in
theorem s_m_boots {y : EX} {N : Nat} {v1 : Int32} {σ : Sg} {P : Int32 × Sg → Prop} (h : ok (f_m_boots N v1 σ) P) : Ev y M_m_boots 2 [.ref 66, .int v1] σ rvI P := by
  refine Ev.of mk_m_boots (Nat.le_of_ble_eq_true rfl) (fun x hx hc hr => ?_)
  have hx : Cx 10 prog_12_method_55_code x := hx
  have hc : Cc y 2 2 x := hc
  show G x 0 [some (.ref 66), some (.int v1)] [] σ
  unfold f_m_boots at h
  refine g_run hx [(.aload_n 0, 0, 0)] (pc' := 1) (lo' := [some (.ref 66), some (.int v1)]) (st' := [.ref 66]) (σ' := σ) (by decide +kernel) rfl rfl ?_
  refine g_callV (rest := []) [] hx hc mk_m_anew ln_10_174 rfl (by decide +kernel) (by decide) (Nat.le_of_ble_eq_true rfl) (s_m_anew (ok_b h)) (fun r1 s1 h => ?_)
  refine g_run hx [(.aload_n 0, 0, 0), (.iload_n 1, 0, 0)] (pc' := 6) (lo' := [some (.ref 66), some (.int v1)]) (st' := [.int v1, .ref 66]) (σ' := s1) (by decide +kernel) rfl rfl ?_
  refine g_callV (rest := []) [.int v1] hx hc mk_m_isBoots ln_10_288 rfl (by decide +kernel) (by decide) (Nat.le_of_ble_eq_true rfl) (s_m_isBoots (ok_b h)) (fun r2 s2 h => ?_)
  refine g_ifb_eq hx (off := 15) (tgt := 24) (by decide +kernel) (by decide) (fun c9 => ?_) (fun c9 => ?_)
  · have h := ok_f h c9
    refine g_run hx [(.aload_n 0, 0, 0), (.iconst 1, 1, 0)] (pc' := 26) (lo' := [some (.ref 66), some (.int v1)]) (st' := [.int 1, .ref 66]) (σ' := s2) (by decide +kernel) rfl rfl ?_
    refine g_callV (rest := []) [.int 1] hx hc mk_m_no ln_10_177 rfl (by decide +kernel) (by decide) (Nat.le_of_ble_eq_true rfl) (s_m_no (ok_b h)) (fun r3 s3 h => ?_)
    exact g_iret hx hr rfl _ rfl (by decide +kernel) (ok_some h)
  · have h := ok_t h c9
    refine g_run hx [(.aload_n 0, 0, 0), (.getfield 20, 0, 0), (.bipush 9, 9, 0), (.iload_n 1, 0, 0), (.iadd, 0, 0)] (pc' := 20) (lo' := [some (.ref 66), some (.int v1)]) (st' := [.int (9 + v1), .ref 69]) (σ' := s2) (by decide +kernel) rfl rfl ?_
    obtain ⟨c20, h⟩ := ok_g h
    refine g_iald hx (by decide +kernel) (i := 69) (n := 189) rfl c20 ?_
    refine g_goto hx (off := 8) (tgt := 29) (by decide +kernel) (by decide) ?_
    exact g_iret hx hr rfl _ rfl (by decide +kernel) (ok_some h)
def f_m_placeAt_L2 (N : Nat) : Nat → Int32 → Int32 → Sg → Option (Int32 × Sg)
  | 0, _, _, _ => none
  | n + 1, v1, v2, σ =>
    if (gA σ 69 3) ≤ v2 then
      some ((-2), σ)
    else
      if vin (12 + (2 * v2)) 189 then
      if (gA σ 69 (12 + (2 * v2))) = v1 then
        some (v2, σ)
      else
        f_m_placeAt_L2 N n v1 (v2 + 1) σ
      else none
def f_m_placeAt (N : Nat) (v1 : Int32) (σ : Sg) : Option (Int32 × Sg) :=
  f_m_placeAt_L2 N N v1 0 σ
set_option maxRecDepth 100000 in
theorem s_m_placeAt_L2 {y : EX} {N : Nat} {x : CX} {P : Int32 × Sg → Prop} (hx : Cx 10 prog_12_method_52_code x) (hc : Cc y 3 0 x) (hr : Cr M_m_placeAt rvI P x) : ∀ (n : Nat) (v1 : Int32) (v2 : Int32) (σ : Sg), ok (f_m_placeAt_L2 N n v1 v2 σ) P → G x 2 [some (.ref 66), some (.int v1), some (.int v2)] [] σ := by
  intro n
  induction n with
  | zero => intro v1 v2 σ h; exact ok_none h
  | succ n ih =>
    intro v1 v2 σ h
    rw [f_m_placeAt_L2] at h
    refine g_run hx [(.iload_n 2, 0, 0), (.aload_n 0, 0, 0), (.getfield 20, 0, 0), (.iconst 3, 3, 0), (.iaload, 0, 0)] (pc' := 9) (lo' := [some (.ref 66), some (.int v1), some (.int v2)]) (st' := [.int (gA σ 69 3), .int v2]) (σ' := σ) (by decide +kernel) rfl rfl ?_
    refine g_ic_ge hx (off := 26) (tgt := 35) (by decide +kernel) (by decide) (fun c9 => ?_) (fun c9 => ?_)
    · have h := ok_t h c9
      refine g_run hx [(.bipush (-2), (-2), 0)] (pc' := 37) (lo' := [some (.ref 66), some (.int v1), some (.int v2)]) (st' := [.int (-2)]) (σ' := σ) (by decide +kernel) rfl rfl ?_
      exact g_iret hx hr rfl _ rfl (by decide +kernel) (ok_some h)
    · have h := ok_f h c9
      refine g_run hx [(.aload_n 0, 0, 0), (.getfield 20, 0, 0), (.bipush 12, 12, 0), (.iconst 2, 2, 0), (.iload_n 2, 0, 0), (.imul, 0, 0), (.iadd, 0, 0)] (pc' := 22) (lo' := [some (.ref 66), some (.int v1), some (.int v2)]) (st' := [.int (12 + (2 * v2)), .ref 69]) (σ' := σ) (by decide +kernel) rfl rfl ?_
      obtain ⟨c22, h⟩ := ok_g h
      refine g_iald hx (by decide +kernel) (i := 69) (n := 189) rfl c22 ?_
      refine g_run hx [(.iload_n 1, 0, 0)] (pc' := 24) (lo' := [some (.ref 66), some (.int v1), some (.int v2)]) (st' := [.int v1, .int (gA σ 69 (12 + (2 * v2)))]) (σ' := σ) (by decide +kernel) rfl rfl ?_
      refine g_ic_ne hx (off := 5) (tgt := 29) (by decide +kernel) (by decide) (fun c24 => ?_) (fun c24 => ?_)
      · have h := ok_f h c24
        refine g_run hx [(.iinc 2 1, 1, 0)] (pc' := 32) (lo' := [some (.ref 66), some (.int v1), some (.int (v2 + 1))]) (st' := []) (σ' := σ) (by decide +kernel) rfl rfl ?_
        refine g_goto hx (off := (-30)) (tgt := 2) (by decide +kernel) (by decide) ?_
        exact ih _ _ _ h
      · have h := ok_t h c24
        refine g_run hx [(.iload_n 2, 0, 0)] (pc' := 28) (lo' := [some (.ref 66), some (.int v1), some (.int v2)]) (st' := [.int v2]) (σ' := σ) (by decide +kernel) rfl rfl ?_
        exact g_iret hx hr rfl _ rfl (by decide +kernel) (ok_some h)
set_option maxRecDepth 100000 in
theorem s_m_placeAt {y : EX} {N : Nat} {v1 : Int32} {σ : Sg} {P : Int32 × Sg → Prop} (h : ok (f_m_placeAt N v1 σ) P) : Ev y M_m_placeAt 0 [.ref 66, .int v1] σ rvI P := by
  refine Ev.of mk_m_placeAt (Nat.le_of_ble_eq_true rfl) (fun x hx hc hr => ?_)
  have hx : Cx 10 prog_12_method_52_code x := hx
  have hc : Cc y 3 0 x := hc
  show G x 0 [some (.ref 66), some (.int v1), none] [] σ
  unfold f_m_placeAt at h
  refine g_run hx [(.iconst 0, 0, 0), (.istore_n 2, 0, 0)] (pc' := 2) (lo' := [some (.ref 66), some (.int v1), some (.int 0)]) (st' := []) (σ' := σ) (by decide +kernel) rfl rfl ?_
  refine s_m_placeAt_L2 hx hc hr N _ _ _ h
