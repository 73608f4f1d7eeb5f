def f_shelf_fetch (N : Nat) (a0 : Nat) (a1 : Nat) (a2 : Nat) (a3 : Nat) (a4 : Nat) (a5 : Nat) (a6 : Nat) (a7 : Nat) (a8 : Nat) (a9 : Nat) (a10 : Nat) (v1 : Int32) (σ : Sg) : Option (Unit × Sg) :=
  (f_shelf_has N a0 a1 a2 a3 a4 v1 σ).bind fun q1 =>
  if q1.1 = true then
    if vin v1 a0 then
    if vin v1 a1 then
    if vin v1 a2 then
    if vin v1 a3 then
    if vin v1 a4 then
    some ((), sI (sI (sI (sL (sL q1.2 a5 0 (gM q1.2 a6 v1)) a5 1 (gM (sL q1.2 a5 0 (gM q1.2 a6 v1)) a7 v1)) a5 2 (gA (sL (sL q1.2 a5 0 (gM q1.2 a6 v1)) a5 1 (gM (sL q1.2 a5 0 (gM q1.2 a6 v1)) a7 v1)) a8 v1)) a5 3 (gA (sI (sL (sL q1.2 a5 0 (gM q1.2 a6 v1)) a5 1 (gM (sL q1.2 a5 0 (gM q1.2 a6 v1)) a7 v1)) a5 2 (gA (sL (sL q1.2 a5 0 (gM q1.2 a6 v1)) a5 1 (gM (sL q1.2 a5 0 (gM q1.2 a6 v1)) a7 v1)) a8 v1)) a9 v1)) a5 4 (gA (sI (sI (sL (sL q1.2 a5 0 (gM q1.2 a6 v1)) a5 1 (gM (sL q1.2 a5 0 (gM q1.2 a6 v1)) a7 v1)) a5 2 (gA (sL (sL q1.2 a5 0 (gM q1.2 a6 v1)) a5 1 (gM (sL q1.2 a5 0 (gM q1.2 a6 v1)) a7 v1)) a8 v1)) a5 3 (gA (sI (sL (sL q1.2 a5 0 (gM q1.2 a6 v1)) a5 1 (gM (sL q1.2 a5 0 (gM q1.2 a6 v1)) a7 v1)) a5 2 (gA (sL (sL q1.2 a5 0 (gM q1.2 a6 v1)) a5 1 (gM (sL q1.2 a5 0 (gM q1.2 a6 v1)) a7 v1)) a8 v1)) a9 v1)) a10 v1))
    else none
    else none
    else none
    else none
    else none
  else
    some ((), q1.2)
set_option maxRecDepth 100000 in
theorem s_shelf_fetch_49_40 {y : EX} {N : Nat} {v1 : Int32} {σ : Sg} {P : Unit × Sg → Prop} (h : ok (f_shelf_fetch N 3 3 3 3 3 40 50 51 52 53 54 v1 σ) P) : Ev y M_shelf_fetch 1 [.ref 49, .int v1, .ref 40] σ rvN P := by
  refine Ev.of mk_shelf_fetch (Nat.le_of_ble_eq_true rfl) (fun x hx hc hr => ?_)
  have hx : Cx 6 prog_8_method_4_code x := hx
  have hc : Cc y 3 1 x := hc
  show G x 0 [some (.ref 49), some (.int v1), some (.ref 40)] [] σ
  unfold f_shelf_fetch at h
  refine g_run hx [(.aload_n 0, 0, 0), (.iload_n 1, 0, 0)] (pc' := 2) (lo' := [some (.ref 49), some (.int v1), some (.ref 40)]) (st' := [.int v1, .ref 49]) (σ' := σ) (by decide +kernel) rfl rfl ?_
  refine g_callV (rest := []) [.int v1] hx hc mk_shelf_has ln_6_32 rfl (by decide +kernel) (by decide) (Nat.le_of_ble_eq_true rfl) (s_shelf_has_49 (ok_b h)) (fun r1 s1 h => ?_)
  refine g_ifb_eq hx (off := 53) (tgt := 58) (by decide +kernel) (by decide) (fun c5 => ?_) (fun c5 => ?_)
  · have h := ok_f h c5
    exact g_vret hx hr rfl () rfl (by decide +kernel) (ok_some h)
  · have h := ok_t h c5
    refine g_run hx [(.aload_n 2, 0, 0), (.aload_n 0, 0, 0), (.getfield 13, 0, 0), (.iload_n 1, 0, 0)] (pc' := 14) (lo' := [some (.ref 49), some (.int v1), some (.ref 40)]) (st' := [.int v1, .ref 50, .ref 40]) (σ' := s1) (by decide +kernel) rfl rfl ?_
    obtain ⟨c14, h⟩ := ok_g h
    refine g_lald hx (by decide +kernel) (i := 50) (n := 3) rfl c14 ?_
    refine g_run hx [(.putfield 36, 0, 0), (.aload_n 2, 0, 0), (.aload_n 0, 0, 0), (.getfield 19, 0, 0), (.iload_n 1, 0, 0)] (pc' := 24) (lo' := [some (.ref 49), some (.int v1), some (.ref 40)]) (st' := [.int v1, .ref 51, .ref 40]) (σ' := sL s1 40 0 (gM s1 50 v1)) (by decide +kernel) rfl rfl ?_
    obtain ⟨c24, h⟩ := ok_g h
    refine g_lald hx (by decide +kernel) (i := 51) (n := 3) rfl c24 ?_
    refine g_run hx [(.putfield 42, 0, 0), (.aload_n 2, 0, 0), (.aload_n 0, 0, 0), (.getfield 22, 0, 0), (.iload_n 1, 0, 0)] (pc' := 34) (lo' := [some (.ref 49), some (.int v1), some (.ref 40)]) (st' := [.int v1, .ref 52, .ref 40]) (σ' := sL (sL s1 40 0 (gM s1 50 v1)) 40 1 (gM (sL s1 40 0 (gM s1 50 v1)) 51 v1)) (by decide +kernel) rfl rfl ?_
    obtain ⟨c34, h⟩ := ok_g h
    refine g_iald hx (by decide +kernel) (i := 52) (n := 3) rfl c34 ?_
    refine g_run hx [(.putfield 45, 0, 0), (.aload_n 2, 0, 0), (.aload_n 0, 0, 0), (.getfield 26, 0, 0), (.iload_n 1, 0, 0)] (pc' := 44) (lo' := [some (.ref 49), some (.int v1), some (.ref 40)]) (st' := [.int v1, .ref 53, .ref 40]) (σ' := sI (sL (sL s1 40 0 (gM s1 50 v1)) 40 1 (gM (sL s1 40 0 (gM s1 50 v1)) 51 v1)) 40 2 (gA (sL (sL s1 40 0 (gM s1 50 v1)) 40 1 (gM (sL s1 40 0 (gM s1 50 v1)) 51 v1)) 52 v1)) (by decide +kernel) rfl rfl ?_
    obtain ⟨c44, h⟩ := ok_g h
    refine g_iald hx (by decide +kernel) (i := 53) (n := 3) rfl c44 ?_
    refine g_run hx [(.putfield 49, 0, 0), (.aload_n 2, 0, 0), (.aload_n 0, 0, 0), (.getfield 29, 0, 0), (.iload_n 1, 0, 0)] (pc' := 54) (lo' := [some (.ref 49), some (.int v1), some (.ref 40)]) (st' := [.int v1, .ref 54, .ref 40]) (σ' := sI (sI (sL (sL s1 40 0 (gM s1 50 v1)) 40 1 (gM (sL s1 40 0 (gM s1 50 v1)) 51 v1)) 40 2 (gA (sL (sL s1 40 0 (gM s1 50 v1)) 40 1 (gM (sL s1 40 0 (gM s1 50 v1)) 51 v1)) 52 v1)) 40 3 (gA (sI (sL (sL s1 40 0 (gM s1 50 v1)) 40 1 (gM (sL s1 40 0 (gM s1 50 v1)) 51 v1)) 40 2 (gA (sL (sL s1 40 0 (gM s1 50 v1)) 40 1 (gM (sL s1 40 0 (gM s1 50 v1)) 51 v1)) 52 v1)) 53 v1)) (by decide +kernel) rfl rfl ?_
    obtain ⟨c54, h⟩ := ok_g h
    refine g_iald hx (by decide +kernel) (i := 54) (n := 3) rfl c54 ?_
    refine g_run hx [(.putfield 52, 0, 0)] (pc' := 58) (lo' := [some (.ref 49), some (.int v1), some (.ref 40)]) (st' := []) (σ' := sI (sI (sI (sL (sL s1 40 0 (gM s1 50 v1)) 40 1 (gM (sL s1 40 0 (gM s1 50 v1)) 51 v1)) 40 2 (gA (sL (sL s1 40 0 (gM s1 50 v1)) 40 1 (gM (sL s1 40 0 (gM s1 50 v1)) 51 v1)) 52 v1)) 40 3 (gA (sI (sL (sL s1 40 0 (gM s1 50 v1)) 40 1 (gM (sL s1 40 0 (gM s1 50 v1)) 51 v1)) 40 2 (gA (sL (sL s1 40 0 (gM s1 50 v1)) 40 1 (gM (sL s1 40 0 (gM s1 50 v1)) 51 v1)) 52 v1)) 53 v1)) 40 4 (gA (sI (sI (sL (sL s1 40 0 (gM s1 50 v1)) 40 1 (gM (sL s1 40 0 (gM s1 50 v1)) 51 v1)) 40 2 (gA (sL (sL s1 40 0 (gM s1 50 v1)) 40 1 (gM (sL s1 40 0 (gM s1 50 v1)) 51 v1)) 52 v1)) 40 3 (gA (sI (sL (sL s1 40 0 (gM s1 50 v1)) 40 1 (gM (sL s1 40 0 (gM s1 50 v1)) 51 v1)) 40 2 (gA (sL (sL s1 40 0 (gM s1 50 v1)) 40 1 (gM (sL s1 40 0 (gM s1 50 v1)) 51 v1)) 52 v1)) 53 v1)) 54 v1)) (by decide +kernel) rfl rfl ?_
    exact g_vret hx hr rfl () rfl (by decide +kernel) (ok_some h)
def f_history_forget (N : Nat) (σ : Sg) : Option (Unit × Sg) :=
  some ((), sI σ 42 2 0)
set_option maxRecDepth 100000 in
theorem s_history_forget {y : EX} {N : Nat} {σ : Sg} {P : Unit × Sg → Prop} (h : ok (f_history_forget N σ) P) : Ev y M_history_forget 0 [.ref 42] σ rvN P := by
  refine Ev.of mk_history_forget (Nat.le_of_ble_eq_true rfl) (fun x hx hc hr => ?_)
  have hx : Cx 2 prog_4_method_2_code x := hx
  have hc : Cc y 1 0 x := hc
  show G x 0 [some (.ref 42)] [] σ
  unfold f_history_forget at h
  refine g_run hx [(.aload_n 0, 0, 0), (.iconst 0, 0, 0), (.putfield 24, 0, 0)] (pc' := 5) (lo' := [some (.ref 42)]) (st' := []) (σ' := sI σ 42 2 0) (by decide +kernel) rfl rfl ?_
  exact g_vret hx hr rfl () rfl (by decide +kernel) (ok_some h)
def f_x_back (N : Nat) (v1 : Int32) (σ : Sg) : Option (Bool × Sg) :=
  if v1 < 0 then
    (f_x_granted N 1 σ).bind fun q1 =>
    if q1.1 = true then
      (f_shelf_fetch N 3 3 3 3 3 40 50 51 52 53 54 v1 q1.2).bind fun q2 =>
      (f_history_forget N q2.2).bind fun q3 =>
      some (true, q3.2)
    else
      some (false, q1.2)
  else
    (f_x_granted N (b2i (decide (¬ (v1 < (gI σ 0 6))))) σ).bind fun q4 =>
    if q4.1 = true then
      (f_shelf_fetch N 3 3 3 3 3 40 50 51 52 53 54 v1 q4.2).bind fun q5 =>
      (f_history_forget N q5.2).bind fun q6 =>
      some (true, q6.2)
    else
      some (false, q4.2)
set_option maxRecDepth 100000 in
theorem s_x_back {y : EX} {N : Nat} {v1 : Int32} {σ : Sg} {P : Bool × Sg → Prop} (h : ok (f_x_back N v1 σ) P) : Ev y M_x_back 2 [.ref 0, .int v1] σ rvB P := by
  refine Ev.of mk_x_back (Nat.le_of_ble_eq_true rfl) (fun x hx hc hr => ?_)
  have hx : Cx 9 prog_1_method_59_code x := hx
  have hc : Cc y 2 2 x := hc
  show G x 0 [some (.ref 0), some (.int v1)] [] σ
  unfold f_x_back at h
  refine g_run hx [(.aload_n 0, 0, 0), (.iload_n 1, 0, 0)] (pc' := 2) (lo' := [some (.ref 0), some (.int v1)]) (st' := [.int v1, .ref 0]) (σ' := σ) (by decide +kernel) rfl rfl ?_
  refine g_if_lt hx (off := 11) (tgt := 13) (by decide +kernel) (by decide) (fun c2 => ?_) (fun c2 => ?_)
  · have h := ok_t h c2
    refine g_run hx [(.iconst 1, 1, 0)] (pc' := 14) (lo' := [some (.ref 0), some (.int v1)]) (st' := [.int 1, .ref 0]) (σ' := σ) (by decide +kernel) rfl rfl ?_
    refine g_goto hx (off := 4) (tgt := 18) (by decide +kernel) (by decide) ?_
    refine g_callV (rest := []) [.int 1] hx hc mk_x_granted ln_9_83 rfl (by decide +kernel) (by decide) (Nat.le_of_ble_eq_true rfl) (s_x_granted (ok_b h)) (fun r1 s1 h => ?_)
    refine g_ifb_ne hx (off := 5) (tgt := 26) (by decide +kernel) (by decide) (fun c21 => ?_) (fun c21 => ?_)
    · have h := ok_t h c21
      refine g_run hx [(.aload_n 0, 0, 0), (.getfield 45, 0, 0), (.iload_n 1, 0, 0), (.aload_n 0, 0, 0), (.getfield 26, 0, 0)] (pc' := 35) (lo' := [some (.ref 0), some (.int v1)]) (st' := [.ref 40, .int v1, .ref 49]) (σ' := s1) (by decide +kernel) rfl rfl ?_
      refine g_callV (rest := []) [.int v1, .ref 40] hx hc mk_shelf_fetch ln_9_369 rfl (by decide +kernel) (by decide) (Nat.le_of_ble_eq_true rfl) (s_shelf_fetch_49_40 (ok_b h)) (fun r2 s2 h => ?_)
      refine g_run hx [(.aload_n 0, 0, 0), (.getfield 36, 0, 0)] (pc' := 42) (lo' := [some (.ref 0), some (.int v1)]) (st' := [.ref 42]) (σ' := s2) (by decide +kernel) rfl rfl ?_
      refine g_callV (rest := []) [] hx hc mk_history_forget ln_9_100 rfl (by decide +kernel) (by decide) (Nat.le_of_ble_eq_true rfl) (s_history_forget (ok_b h)) (fun r3 s3 h => ?_)
      refine g_run hx [(.iconst 1, 1, 0)] (pc' := 46) (lo' := [some (.ref 0), some (.int v1)]) (st' := [.int 1]) (σ' := s3) (by decide +kernel) rfl rfl ?_
      exact g_zret (b := true) hx hr rfl true rfl (by decide +kernel) (ok_some h)
    · have h := ok_f h c21
      refine g_run hx [(.iconst 0, 0, 0)] (pc' := 25) (lo' := [some (.ref 0), some (.int v1)]) (st' := [.int 0]) (σ' := s1) (by decide +kernel) rfl rfl ?_
      exact g_zret (b := false) hx hr rfl false rfl (by decide +kernel) (ok_some h)
  · have h := ok_f h c2
    refine g_run hx [(.iload_n 1, 0, 0), (.aload_n 0, 0, 0), (.getfield 49, 0, 0)] (pc' := 10) (lo' := [some (.ref 0), some (.int v1)]) (st' := [.int (gI σ 0 6), .int v1, .ref 0]) (σ' := σ) (by decide +kernel) rfl rfl ?_
    have hm : G x 18 [some (.ref 0), some (.int v1)] [.int (b2i (decide (¬ (v1 < (gI σ 0 6))))), .ref 0] σ := by
      refine g_callV (rest := []) [.int (b2i (decide (¬ (v1 < (gI σ 0 6)))))] hx hc mk_x_granted ln_9_83 rfl (by decide +kernel) (by decide) (Nat.le_of_ble_eq_true rfl) (s_x_granted (ok_b h)) (fun r4 s4 h => ?_)
      refine g_ifb_ne hx (off := 5) (tgt := 26) (by decide +kernel) (by decide) (fun c21 => ?_) (fun c21 => ?_)
      · have h := ok_t h c21
        refine g_run hx [(.aload_n 0, 0, 0), (.getfield 45, 0, 0), (.iload_n 1, 0, 0), (.aload_n 0, 0, 0), (.getfield 26, 0, 0)] (pc' := 35) (lo' := [some (.ref 0), some (.int v1)]) (st' := [.ref 40, .int v1, .ref 49]) (σ' := s4) (by decide +kernel) rfl rfl ?_
        refine g_callV (rest := []) [.int v1, .ref 40] hx hc mk_shelf_fetch ln_9_369 rfl (by decide +kernel) (by decide) (Nat.le_of_ble_eq_true rfl) (s_shelf_fetch_49_40 (ok_b h)) (fun r5 s5 h => ?_)
        refine g_run hx [(.aload_n 0, 0, 0), (.getfield 36, 0, 0)] (pc' := 42) (lo' := [some (.ref 0), some (.int v1)]) (st' := [.ref 42]) (σ' := s5) (by decide +kernel) rfl rfl ?_
        refine g_callV (rest := []) [] hx hc mk_history_forget ln_9_100 rfl (by decide +kernel) (by decide) (Nat.le_of_ble_eq_true rfl) (s_history_forget (ok_b h)) (fun r6 s6 h => ?_)
        refine g_run hx [(.iconst 1, 1, 0)] (pc' := 46) (lo' := [some (.ref 0), some (.int v1)]) (st' := [.int 1]) (σ' := s6) (by decide +kernel) rfl rfl ?_
        exact g_zret (b := true) hx hr rfl true rfl (by decide +kernel) (ok_some h)
      · have h := ok_f h c21
        refine g_run hx [(.iconst 0, 0, 0)] (pc' := 25) (lo' := [some (.ref 0), some (.int v1)]) (st' := [.int 0]) (σ' := s4) (by decide +kernel) rfl rfl ?_
        exact g_zret (b := false) hx hr rfl false rfl (by decide +kernel) (ok_some h)
    refine g_ic_lt hx (off := 7) (tgt := 17) (by decide +kernel) (by decide) (fun c10 => ?_) (fun c10 => ?_)
    · refine g_run hx [(.iconst 0, 0, 0)] (pc' := 18) (lo' := [some (.ref 0), some (.int v1)]) (st' := [.int 0, .ref 0]) (σ' := σ) (by decide +kernel) rfl rfl ?_
      exact g_bf (fun z => z c10) hm
    · refine g_run hx [(.iconst 1, 1, 0)] (pc' := 14) (lo' := [some (.ref 0), some (.int v1)]) (st' := [.int 1, .ref 0]) (σ' := σ) (by decide +kernel) rfl rfl ?_
      refine g_goto hx (off := 4) (tgt := 18) (by decide +kernel) (by decide) ?_
      exact g_bt c10 hm
def f_x_cellTrouble (N : Nat) (v1 : Int32) (σ : Sg) : Option (Int32 × Sg) :=
  if v1 < 0 then
    some (1, σ)
  else
    if v1 < (gI σ 10 0) then
      some (0, σ)
    else
      some (1, σ)
set_option maxRecDepth 100000 in
theorem s_x_cellTrouble {y : EX} {N : Nat} {v1 : Int32} {σ : Sg} {P : Int32 × Sg → Prop} (h : ok (f_x_cellTrouble N v1 σ) P) : Ev y M_x_cellTrouble 0 [.ref 0, .int v1] σ rvI P := by
  refine Ev.of mk_x_cellTrouble (Nat.le_of_ble_eq_true rfl) (fun x hx hc hr => ?_)
  have hx : Cx 9 prog_1_method_65_code x := hx
  have hc : Cc y 2 0 x := hc
  show G x 0 [some (.ref 0), some (.int v1)] [] σ
  unfold f_x_cellTrouble at h
  refine g_run hx [(.iload_n 1, 0, 0)] (pc' := 1) (lo' := [some (.ref 0), some (.int v1)]) (st' := [.int v1]) (σ' := σ) (by decide +kernel) rfl rfl ?_
  refine g_if_lt hx (off := 14) (tgt := 15) (by decide +kernel) (by decide) (fun c1 => ?_) (fun c1 => ?_)
  · have h := ok_t h c1
    refine g_run hx [(.iconst 1, 1, 0)] (pc' := 16) (lo' := [some (.ref 0), some (.int v1)]) (st' := [.int 1]) (σ' := σ) (by decide +kernel) rfl rfl ?_
    refine g_goto hx (off := 4) (tgt := 20) (by decide +kernel) (by decide) ?_
    exact g_iret hx hr rfl _ rfl (by decide +kernel) (ok_some h)
  · have h := ok_f h c1
    refine g_run hx [(.iload_n 1, 0, 0), (.aload_n 0, 0, 0), (.getfield 19, 0, 0), (.getfield 104, 0, 0)] (pc' := 12) (lo' := [some (.ref 0), some (.int v1)]) (st' := [.int (gI σ 10 0), .int v1]) (σ' := σ) (by decide +kernel) rfl rfl ?_
    refine g_ic_lt hx (off := 7) (tgt := 19) (by decide +kernel) (by decide) (fun c12 => ?_) (fun c12 => ?_)
    · have h := ok_t h c12
      refine g_run hx [(.iconst 0, 0, 0)] (pc' := 20) (lo' := [some (.ref 0), some (.int v1)]) (st' := [.int 0]) (σ' := σ) (by decide +kernel) rfl rfl ?_
      exact g_iret hx hr rfl _ rfl (by decide +kernel) (ok_some h)
    · have h := ok_f h c12
      refine g_run hx [(.iconst 1, 1, 0)] (pc' := 16) (lo' := [some (.ref 0), some (.int v1)]) (st' := [.int 1]) (σ' := σ) (by decide +kernel) rfl rfl ?_
      refine g_goto hx (off := 4) (tgt := 20) (by decide +kernel) (by decide) ?_
      exact g_iret hx hr rfl _ rfl (by decide +kernel) (ok_some h)
def f_state_copy (N : Nat) (σ : Sg) : Option (Unit × Sg) :=
  some ((), sI (sI (sI (sL (sL σ 41 0 (gL σ 40 0)) 41 1 (gL (sL σ 41 0 (gL σ 40 0)) 40 1)) 41 2 (gI (sL (sL σ 41 0 (gL σ 40 0)) 41 1 (gL (sL σ 41 0 (gL σ 40 0)) 40 1)) 40 2)) 41 3 (gI (sI (sL (sL σ 41 0 (gL σ 40 0)) 41 1 (gL (sL σ 41 0 (gL σ 40 0)) 40 1)) 41 2 (gI (sL (sL σ 41 0 (gL σ 40 0)) 41 1 (gL (sL σ 41 0 (gL σ 40 0)) 40 1)) 40 2)) 40 3)) 41 4 (gI (sI (sI (sL (sL σ 41 0 (gL σ 40 0)) 41 1 (gL (sL σ 41 0 (gL σ 40 0)) 40 1)) 41 2 (gI (sL (sL σ 41 0 (gL σ 40 0)) 41 1 (gL (sL σ 41 0 (gL σ 40 0)) 40 1)) 40 2)) 41 3 (gI (sI (sL (sL σ 41 0 (gL σ 40 0)) 41 1 (gL (sL σ 41 0 (gL σ 40 0)) 40 1)) 41 2 (gI (sL (sL σ 41 0 (gL σ 40 0)) 41 1 (gL (sL σ 41 0 (gL σ 40 0)) 40 1)) 40 2)) 40 3)) 40 4))
set_option maxRecDepth 100000 in
theorem s_state_copy {y : EX} {N : Nat} {σ : Sg} {P : Unit × Sg → Prop} (h : ok (f_state_copy N σ) P) : Ev y M_state_copy 0 [.ref 41, .ref 40] σ rvN P := by
  refine Ev.of mk_state_copy (Nat.le_of_ble_eq_true rfl) (fun x hx hc hr => ?_)
  have hx : Cx 7 prog_9_method_3_code x := hx
  have hc : Cc y 2 0 x := hc
  show G x 0 [some (.ref 41), some (.ref 40)] [] σ
  unfold f_state_copy at h
  refine g_run hx [(.aload_n 0, 0, 0), (.aload_n 1, 0, 0), (.getfield 9, 0, 0), (.putfield 9, 0, 0), (.aload_n 0, 0, 0), (.aload_n 1, 0, 0), (.getfield 15, 0, 0), (.putfield 15, 0, 0), (.aload_n 0, 0, 0), (.aload_n 1, 0, 0), (.getfield 18, 0, 0), (.putfield 18, 0, 0), (.aload_n 0, 0, 0), (.aload_n 1, 0, 0), (.getfield 22, 0, 0), (.putfield 22, 0, 0), (.aload_n 0, 0, 0), (.aload_n 1, 0, 0), (.getfield 25, 0, 0), (.putfield 25, 0, 0)] (pc' := 40) (lo' := [some (.ref 41), some (.ref 40)]) (st' := []) (σ' := sI (sI (sI (sL (sL σ 41 0 (gL σ 40 0)) 41 1 (gL (sL σ 41 0 (gL σ 40 0)) 40 1)) 41 2 (gI (sL (sL σ 41 0 (gL σ 40 0)) 41 1 (gL (sL σ 41 0 (gL σ 40 0)) 40 1)) 40 2)) 41 3 (gI (sI (sL (sL σ 41 0 (gL σ 40 0)) 41 1 (gL (sL σ 41 0 (gL σ 40 0)) 40 1)) 41 2 (gI (sL (sL σ 41 0 (gL σ 40 0)) 41 1 (gL (sL σ 41 0 (gL σ 40 0)) 40 1)) 40 2)) 40 3)) 41 4 (gI (sI (sI (sL (sL σ 41 0 (gL σ 40 0)) 41 1 (gL (sL σ 41 0 (gL σ 40 0)) 40 1)) 41 2 (gI (sL (sL σ 41 0 (gL σ 40 0)) 41 1 (gL (sL σ 41 0 (gL σ 40 0)) 40 1)) 40 2)) 41 3 (gI (sI (sL (sL σ 41 0 (gL σ 40 0)) 41 1 (gL (sL σ 41 0 (gL σ 40 0)) 40 1)) 41 2 (gI (sL (sL σ 41 0 (gL σ 40 0)) 41 1 (gL (sL σ 41 0 (gL σ 40 0)) 40 1)) 40 2)) 40 3)) 40 4)) (by decide +kernel) rfl rfl ?_
  exact g_vret hx hr rfl () rfl (by decide +kernel) (ok_some h)
def f_state_depthAt (N : Nat) (a0 : Nat) (v1 : Int32) (σ : Sg) : Option (Int32 × Sg) :=
  (f_x_bit N (gL σ a0 0) v1 σ).bind fun q1 =>
  (f_x_bit N (gL q1.2 a0 1) v1 q1.2).bind fun q2 =>
  if q2.1 = true then
    some (((b2i (decide (q1.1 = true))) + 2), q2.2)
  else
    some (((b2i (decide (q1.1 = true))) + 0), q2.2)
set_option maxRecDepth 100000 in
theorem s_state_depthAt_41 {y : EX} {N : Nat} {v1 : Int32} {σ : Sg} {P : Int32 × Sg → Prop} (h : ok (f_state_depthAt N 41 v1 σ) P) : Ev y M_state_depthAt 1 [.ref 41, .int v1] σ rvI P := by
  refine Ev.of mk_state_depthAt (Nat.le_of_ble_eq_true rfl) (fun x hx hc hr => ?_)
  have hx : Cx 7 prog_9_method_5_code x := hx
  have hc : Cc y 2 1 x := hc
  show G x 0 [some (.ref 41), some (.int v1)] [] σ
  unfold f_state_depthAt at h
  refine g_run hx [(.aload_n 0, 0, 0), (.getfield 9, 0, 0), (.iload_n 1, 0, 0)] (pc' := 5) (lo' := [some (.ref 41), some (.int v1)]) (st' := [.int v1, .long (gL σ 41 0)]) (σ' := σ) (by decide +kernel) rfl rfl ?_
  refine g_callN (rest := []) [.long (gL σ 41 0), .int v1] hx hc mk_x_bit ln_7_46 (by decide +kernel) (by decide) (Nat.le_of_ble_eq_true rfl) (s_x_bit (ok_b h)) (fun r1 s1 h => ?_)
  have hm : G x 16 [some (.ref 41), some (.int v1)] [.int (b2i (decide (r1 = true)))] s1 := by
    refine g_run hx [(.aload_n 0, 0, 0), (.getfield 15, 0, 0), (.iload_n 1, 0, 0)] (pc' := 21) (lo' := [some (.ref 41), some (.int v1)]) (st' := [.int v1, .long (gL s1 41 1), .int (b2i (decide (r1 = true)))]) (σ' := s1) (by decide +kernel) rfl rfl ?_
    refine g_callN (rest := [.int (b2i (decide (r1 = true)))]) [.long (gL s1 41 1), .int v1] hx hc mk_x_bit ln_7_46 (by decide +kernel) (by decide) (Nat.le_of_ble_eq_true rfl) (s_x_bit (ok_b h)) (fun r2 s2 h => ?_)
    refine g_ifb_eq hx (off := 7) (tgt := 31) (by decide +kernel) (by decide) (fun c24 => ?_) (fun c24 => ?_)
    · have h := ok_f h c24
      refine g_run hx [(.iconst 0, 0, 0), (.iadd, 0, 0)] (pc' := 33) (lo' := [some (.ref 41), some (.int v1)]) (st' := [.int ((b2i (decide (r1 = true))) + 0)]) (σ' := s2) (by decide +kernel) rfl rfl ?_
      exact g_iret hx hr rfl _ rfl (by decide +kernel) (ok_some h)
    · have h := ok_t h c24
      refine g_run hx [(.iconst 2, 2, 0)] (pc' := 28) (lo' := [some (.ref 41), some (.int v1)]) (st' := [.int 2, .int (b2i (decide (r1 = true)))]) (σ' := s2) (by decide +kernel) rfl rfl ?_
      refine g_goto hx (off := 4) (tgt := 32) (by decide +kernel) (by decide) ?_
      refine g_run hx [(.iadd, 0, 0)] (pc' := 33) (lo' := [some (.ref 41), some (.int v1)]) (st' := [.int ((b2i (decide (r1 = true))) + 2)]) (σ' := s2) (by decide +kernel) rfl rfl ?_
      exact g_iret hx hr rfl _ rfl (by decide +kernel) (ok_some h)
  refine g_ifb_eq hx (off := 7) (tgt := 15) (by decide +kernel) (by decide) (fun c8 => ?_) (fun c8 => ?_)
  · refine g_run hx [(.iconst 0, 0, 0)] (pc' := 16) (lo' := [some (.ref 41), some (.int v1)]) (st' := [.int 0]) (σ' := s1) (by decide +kernel) rfl rfl ?_
    exact g_bf c8 hm
  · refine g_run hx [(.iconst 1, 1, 0)] (pc' := 12) (lo' := [some (.ref 41), some (.int v1)]) (st' := [.int 1]) (σ' := s1) (by decide +kernel) rfl rfl ?_
    refine g_goto hx (off := 4) (tgt := 16) (by decide +kernel) (by decide) ?_
    exact g_bt c8 hm
def f_country_allCells (N : Nat) (σ : Sg) : Option (Int64 × Sg) :=
  (f_x_below N (gI σ 10 0) σ).bind fun q1 =>
  some (q1.1, q1.2)
set_option maxRecDepth 100000 in
theorem s_country_allCells {y : EX} {N : Nat} {σ : Sg} {P : Int64 × Sg → Prop} (h : ok (f_country_allCells N σ) P) : Ev y M_country_allCells 1 [.ref 10] σ rvL P := by
  refine Ev.of mk_country_allCells (Nat.le_of_ble_eq_true rfl) (fun x hx hc hr => ?_)
  have hx : Cx 1 prog_3_method_3_code x := hx
  have hc : Cc y 1 1 x := hc
  show G x 0 [some (.ref 10)] [] σ
  unfold f_country_allCells at h
  refine g_run hx [(.aload_n 0, 0, 0), (.getfield 9, 0, 0)] (pc' := 4) (lo' := [some (.ref 10)]) (st' := [.int (gI σ 10 0)]) (σ' := σ) (by decide +kernel) rfl rfl ?_
  refine g_callN (rest := []) [.int (gI σ 10 0)] hx hc mk_x_below ln_1_67 (by decide +kernel) (by decide) (Nat.le_of_ble_eq_true rfl) (s_x_below (ok_b h)) (fun r1 s1 h => ?_)
  exact g_lret hx hr rfl _ rfl (by decide +kernel) (ok_some h)
def f_state_goneCells (N : Nat) (a0 : Nat) (σ : Sg) : Option (Int64 × Sg) :=
  some ((gL σ a0 0) ||| (gL σ a0 1), σ)
set_option maxRecDepth 100000 in
theorem s_state_goneCells_41 {y : EX} {N : Nat} {σ : Sg} {P : Int64 × Sg → Prop} (h : ok (f_state_goneCells N 41 σ) P) : Ev y M_state_goneCells 0 [.ref 41] σ rvL P := by
  refine Ev.of mk_state_goneCells (Nat.le_of_ble_eq_true rfl) (fun x hx hc hr => ?_)
  have hx : Cx 7 prog_9_method_4_code x := hx
  have hc : Cc y 1 0 x := hc
  show G x 0 [some (.ref 41)] [] σ
  unfold f_state_goneCells at h
  refine g_run hx [(.aload_n 0, 0, 0), (.getfield 9, 0, 0), (.aload_n 0, 0, 0), (.getfield 15, 0, 0), (.lor, 0, 0)] (pc' := 9) (lo' := [some (.ref 41)]) (st' := [.long ((gL σ 41 0) ||| (gL σ 41 1))]) (σ' := σ) (by decide +kernel) rfl rfl ?_
  exact g_lret hx hr rfl _ rfl (by decide +kernel) (ok_some h)
def f_country_healable (N : Nat) (v1 : Int64) (σ : Sg) : Option (Int64 × Sg) :=
  some (v1 &&& ((gL σ 10 4) ^^^ (-1)), σ)
set_option maxRecDepth 100000 in
theorem s_country_healable {y : EX} {N : Nat} {v1 : Int64} {σ : Sg} {P : Int64 × Sg → Prop} (h : ok (f_country_healable N v1 σ) P) : Ev y M_country_healable 0 [.ref 10, .long v1] σ rvL P := by
  refine Ev.of mk_country_healable (Nat.le_of_ble_eq_true rfl) (fun x hx hc hr => ?_)
  have hx : Cx 1 prog_3_method_8_code x := hx
  have hc : Cc y 3 0 x := hc
  show G x 0 [some (.ref 10), some (.long v1), none] [] σ
  unfold f_country_healable at h
  refine g_run hx [(.lload_n 1, 0, 0), (.aload_n 0, 0, 0), (.getfield 24, 0, 0), (.ldc2_w 71, 0, (-1)), (.lxor, 0, 0), (.land, 0, 0)] (pc' := 10) (lo' := [some (.ref 10), some (.long v1), none]) (st' := [.long (v1 &&& ((gL σ 10 4) ^^^ (-1)))]) (σ' := σ) (by decide +kernel) rfl rfl ?_
  exact g_lret hx hr rfl _ rfl (by decide +kernel) (ok_some h)
def f_state_healing (N : Nat) (a0 : Nat) (σ : Sg) : Option (Int64 × Sg) :=
  (f_country_allCells N σ).bind fun q1 =>
  (f_state_goneCells N a0 q1.2).bind fun q2 =>
  (f_state_goneCells N a0 q2.2).bind fun q3 =>
  (f_country_healable N (q3.1 &&& (((q1.1 &&& (q2.1 ^^^ (-1))) <<< (Int32.toInt64 1 &&& 63)) ||| (UInt64.toInt64 (Int64.toUInt64 (q1.1 &&& (q2.1 ^^^ (-1))) >>> (Int64.toUInt64 (Int32.toInt64 1) &&& Int64.toUInt64 63))))) q3.2).bind fun q4 =>
  some (q4.1, q4.2)
set_option maxRecDepth 100000 in
theorem s_state_healing_41_10 {y : EX} {N : Nat} {σ : Sg} {P : Int64 × Sg → Prop} (h : ok (f_state_healing N 41 σ) P) : Ev y M_state_healing 2 [.ref 41, .ref 10] σ rvL P := by
  refine Ev.of mk_state_healing (Nat.le_of_ble_eq_true rfl) (fun x hx hc hr => ?_)
  have hx : Cx 7 prog_9_method_9_code x := hx
  have hc : Cc y 4 2 x := hc
  show G x 0 [some (.ref 41), some (.ref 10), none, none] [] σ
  unfold f_state_healing at h
  refine g_run hx [(.aload_n 1, 0, 0)] (pc' := 1) (lo' := [some (.ref 41), some (.ref 10), none, none]) (st' := [.ref 10]) (σ' := σ) (by decide +kernel) rfl rfl ?_
  refine g_callV (rest := []) [] hx hc mk_country_allCells ln_7_77 rfl (by decide +kernel) (by decide) (Nat.le_of_ble_eq_true rfl) (s_country_allCells (ok_b h)) (fun r1 s1 h => ?_)
  refine g_run hx [(.aload_n 0, 0, 0)] (pc' := 5) (lo' := [some (.ref 41), some (.ref 10), none, none]) (st' := [.ref 41, .long r1]) (σ' := s1) (by decide +kernel) rfl rfl ?_
  refine g_callV (rest := [.long r1]) [] hx hc mk_state_goneCells ln_7_56 rfl (by decide +kernel) (by decide) (Nat.le_of_ble_eq_true rfl) (s_state_goneCells_41 (ok_b h)) (fun r2 s2 h => ?_)
  refine g_run hx [(.ldc2_w 68, 0, (-1)), (.lxor, 0, 0), (.land, 0, 0), (.lstore_n 2, 0, 0), (.aload_n 1, 0, 0), (.aload_n 0, 0, 0)] (pc' := 16) (lo' := [some (.ref 41), some (.ref 10), some (.long (r1 &&& (r2 ^^^ (-1)))), none]) (st' := [.ref 41, .ref 10]) (σ' := s2) (by decide +kernel) rfl rfl ?_
  refine g_callV (rest := [.ref 10]) [] hx hc mk_state_goneCells ln_7_56 rfl (by decide +kernel) (by decide) (Nat.le_of_ble_eq_true rfl) (s_state_goneCells_41 (ok_b h)) (fun r3 s3 h => ?_)
  refine g_run hx [(.lload_n 2, 0, 0), (.iconst 1, 1, 0), (.lshl, 0, 0), (.lload_n 2, 0, 0), (.iconst 1, 1, 0), (.lushr, 0, 0), (.lor, 0, 0), (.land, 0, 0)] (pc' := 27) (lo' := [some (.ref 41), some (.ref 10), some (.long (r1 &&& (r2 ^^^ (-1)))), none]) (st' := [.long (r3 &&& (((r1 &&& (r2 ^^^ (-1))) <<< (Int32.toInt64 1 &&& 63)) ||| (UInt64.toInt64 (Int64.toUInt64 (r1 &&& (r2 ^^^ (-1))) >>> (Int64.toUInt64 (Int32.toInt64 1) &&& Int64.toUInt64 63))))), .ref 10]) (σ' := s3) (by decide +kernel) rfl rfl ?_
  refine g_callV (rest := []) [.long (r3 &&& (((r1 &&& (r2 ^^^ (-1))) <<< (Int32.toInt64 1 &&& 63)) ||| (UInt64.toInt64 (Int64.toUInt64 (r1 &&& (r2 ^^^ (-1))) >>> (Int64.toUInt64 (Int32.toInt64 1) &&& Int64.toUInt64 63)))))] hx hc mk_country_healable ln_7_80 rfl (by decide +kernel) (by decide) (Nat.le_of_ble_eq_true rfl) (s_country_healable (ok_b h)) (fun r4 s4 h => ?_)
  exact g_lret hx hr rfl _ rfl (by decide +kernel) (ok_some h)
def f_state_lessen (N : Nat) (a0 : Nat) (v1 : Int64) (σ : Sg) : Option (Unit × Sg) :=
  some ((), sL (sL σ a0 0 ((gL σ a0 0) ^^^ v1)) a0 1 ((gL (sL σ a0 0 ((gL σ a0 0) ^^^ v1)) a0 1) ^^^ (v1 &&& ((gL σ a0 0) ^^^ (-1)))))
set_option maxRecDepth 100000 in
theorem s_state_lessen_41 {y : EX} {N : Nat} {v1 : Int64} {σ : Sg} {P : Unit × Sg → Prop} (h : ok (f_state_lessen N 41 v1 σ) P) : Ev y M_state_lessen 0 [.ref 41, .long v1] σ rvN P := by
  refine Ev.of mk_state_lessen (Nat.le_of_ble_eq_true rfl) (fun x hx hc hr => ?_)
  have hx : Cx 7 prog_9_method_12_code x := hx
  have hc : Cc y 5 0 x := hc
  show G x 0 [some (.ref 41), some (.long v1), none, none, none] [] σ
  unfold f_state_lessen at h
  refine g_run hx [(.lload_n 1, 0, 0), (.aload_n 0, 0, 0), (.getfield 9, 0, 0), (.ldc2_w 68, 0, (-1)), (.lxor, 0, 0), (.land, 0, 0), (.lstore_n 3, 0, 0), (.aload_n 0, 0, 0), (.dup, 0, 0), (.getfield 9, 0, 0), (.lload_n 1, 0, 0), (.lxor, 0, 0), (.putfield 9, 0, 0), (.aload_n 0, 0, 0), (.dup, 0, 0), (.getfield 15, 0, 0), (.lload_n 3, 0, 0), (.lxor, 0, 0), (.putfield 15, 0, 0)] (pc' := 31) (lo' := [some (.ref 41), some (.long v1), none, some (.long (v1 &&& ((gL σ 41 0) ^^^ (-1)))), none]) (st' := []) (σ' := sL (sL σ 41 0 ((gL σ 41 0) ^^^ v1)) 41 1 ((gL (sL σ 41 0 ((gL σ 41 0) ^^^ v1)) 41 1) ^^^ (v1 &&& ((gL σ 41 0) ^^^ (-1))))) (by decide +kernel) rfl rfl ?_
  exact g_vret hx hr rfl () rfl (by decide +kernel) (ok_some h)
def f_state_passYear (N : Nat) (a0 : Nat) (σ : Sg) : Option (Unit × Sg) :=
  (f_state_healing N a0 σ).bind fun q1 =>
  (f_state_lessen N a0 q1.1 q1.2).bind fun q2 =>
  some ((), q2.2)
set_option maxRecDepth 100000 in
theorem s_state_passYear_41_10 {y : EX} {N : Nat} {σ : Sg} {P : Unit × Sg → Prop} (h : ok (f_state_passYear N 41 σ) P) : Ev y M_state_passYear 3 [.ref 41, .ref 10] σ rvN P := by
  refine Ev.of mk_state_passYear (Nat.le_of_ble_eq_true rfl) (fun x hx hc hr => ?_)
  have hx : Cx 7 prog_9_method_10_code x := hx
  have hc : Cc y 2 3 x := hc
  show G x 0 [some (.ref 41), some (.ref 10)] [] σ
  unfold f_state_passYear at h
  refine g_run hx [(.aload_n 0, 0, 0), (.aload_n 0, 0, 0), (.aload_n 1, 0, 0)] (pc' := 3) (lo' := [some (.ref 41), some (.ref 10)]) (st' := [.ref 10, .ref 41, .ref 41]) (σ' := σ) (by decide +kernel) rfl rfl ?_
  refine g_callV (rest := [.ref 41]) [.ref 10] hx hc mk_state_healing ln_7_83 rfl (by decide +kernel) (by decide) (Nat.le_of_ble_eq_true rfl) (s_state_healing_41_10 (ok_b h)) (fun r1 s1 h => ?_)
  refine g_callV (rest := []) [.long r1] hx hc mk_state_lessen ln_7_73 rfl (by decide +kernel) (by decide) (Nat.le_of_ble_eq_true rfl) (s_state_lessen_41 (ok_b h)) (fun r2 s2 h => ?_)
  exact g_vret hx hr rfl () rfl (by decide +kernel) (ok_some h)
def f_x_backIn_L27 (N : Nat) : Nat → Int32 → Int32 → Sg → Option (Int32 × Sg)
  | 0, _, _, _ => none
  | n + 1, v1, v2, σ =>
    if 60 < v2 then
      some ((-2), σ)
    else
      (f_state_depthAt N 41 v1 σ).bind fun q4 =>
      if q4.1 = 0 then
        some (v2, q4.2)
      else
        (f_state_passYear N 41 q4.2).bind fun q5 =>
        f_x_backIn_L27 N n v1 (v2 + 1) q5.2
def f_x_backIn (N : Nat) (v1 : Int32) (σ : Sg) : Option (Int32 × Sg) :=
  (f_x_cellTrouble N v1 σ).bind fun q1 =>
  (f_x_granted N q1.1 q1.2).bind fun q2 =>
  if q2.1 = true then
    (f_state_copy N q2.2).bind fun q3 =>
    f_x_backIn_L27 N N v1 0 q3.2
  else
    some ((-1), q2.2)
set_option maxRecDepth 100000 in
theorem s_x_backIn_L27 {y : EX} {N : Nat} {x : CX} {P : Int32 × Sg → Prop} (hx : Cx 9 prog_1_method_21_code x) (hc : Cc y 3 4 x) (hr : Cr M_x_backIn rvI P x) : ∀ (n : Nat) (v1 : Int32) (v2 : Int32) (σ : Sg), ok (f_x_backIn_L27 N n v1 v2 σ) P → G x 27 [some (.ref 0), some (.int v1), some (.int v2)] [] σ := by
  intro n
  induction n with
  | zero => intro v1 v2 σ h; exact ok_none h
  | succ n ih =>
    intro v1 v2 σ h
    rw [f_x_backIn_L27] at h
    refine g_run hx [(.iload_n 2, 0, 0), (.bipush 60, 60, 0)] (pc' := 30) (lo' := [some (.ref 0), some (.int v1), some (.int v2)]) (st' := [.int 60, .int v2]) (σ' := σ) (by decide +kernel) rfl rfl ?_
    refine g_ic_gt hx (off := 33) (tgt := 63) (by decide +kernel) (by decide) (fun c30 => ?_) (fun c30 => ?_)
    · have h := ok_t h c30
      refine g_run hx [(.bipush (-2), (-2), 0)] (pc' := 65) (lo' := [some (.ref 0), some (.int v1), some (.int v2)]) (st' := [.int (-2)]) (σ' := σ) (by decide +kernel) rfl rfl ?_
      exact g_iret hx hr rfl _ rfl (by decide +kernel) (ok_some h)
    · have h := ok_f h c30
      refine g_run hx [(.aload_n 0, 0, 0), (.getfield 30, 0, 0), (.iload_n 1, 0, 0)] (pc' := 38) (lo' := [some (.ref 0), some (.int v1), some (.int v2)]) (st' := [.int v1, .ref 41]) (σ' := σ) (by decide +kernel) rfl rfl ?_
      refine g_callV (rest := []) [.int v1] hx hc mk_state_depthAt ln_9_117 rfl (by decide +kernel) (by decide) (Nat.le_of_ble_eq_true rfl) (s_state_depthAt_41 (ok_b h)) (fun r4 s4 h => ?_)
      refine g_if_ne hx (off := 5) (tgt := 46) (by decide +kernel) (by decide) (fun c41 => ?_) (fun c41 => ?_)
      · have h := ok_f h c41
        refine g_run hx [(.aload_n 0, 0, 0), (.getfield 30, 0, 0), (.aload_n 0, 0, 0), (.getfield 19, 0, 0)] (pc' := 54) (lo' := [some (.ref 0), some (.int v1), some (.int v2)]) (st' := [.ref 10, .ref 41]) (σ' := s4) (by decide +kernel) rfl rfl ?_
        refine g_callV (rest := []) [.ref 10] hx hc mk_state_passYear ln_9_208 rfl (by decide +kernel) (by decide) (Nat.le_of_ble_eq_true rfl) (s_state_passYear_41_10 (ok_b h)) (fun r5 s5 h => ?_)
        refine g_run hx [(.iinc 2 1, 1, 0)] (pc' := 60) (lo' := [some (.ref 0), some (.int v1), some (.int (v2 + 1))]) (st' := []) (σ' := s5) (by decide +kernel) rfl rfl ?_
        refine g_goto hx (off := (-33)) (tgt := 27) (by decide +kernel) (by decide) ?_
        exact ih _ _ _ h
      · have h := ok_t h c41
        refine g_run hx [(.iload_n 2, 0, 0)] (pc' := 45) (lo' := [some (.ref 0), some (.int v1), some (.int v2)]) (st' := [.int v2]) (σ' := s4) (by decide +kernel) rfl rfl ?_
        exact g_iret hx hr rfl _ rfl (by decide +kernel) (ok_some h)
set_option maxRecDepth 100000 in
theorem s_x_backIn {y : EX} {N : Nat} {v1 : Int32} {σ : Sg} {P : Int32 × Sg → Prop} (h : ok (f_x_backIn N v1 σ) P) : Ev y M_x_backIn 4 [.ref 0, .int v1] σ rvI P := by
  refine Ev.of mk_x_backIn (Nat.le_of_ble_eq_true rfl) (fun x hx hc hr => ?_)
  have hx : Cx 9 prog_1_method_21_code x := hx
  have hc : Cc y 3 4 x := hc
  show G x 0 [some (.ref 0), some (.int v1), none] [] σ
  unfold f_x_backIn at h
  refine g_run hx [(.aload_n 0, 0, 0), (.aload_n 0, 0, 0), (.iload_n 1, 0, 0)] (pc' := 3) (lo' := [some (.ref 0), some (.int v1), none]) (st' := [.int v1, .ref 0, .ref 0]) (σ' := σ) (by decide +kernel) rfl rfl ?_
  refine g_callV (rest := [.ref 0]) [.int v1] hx hc mk_x_cellTrouble ln_9_110 rfl (by decide +kernel) (by decide) (Nat.le_of_ble_eq_true rfl) (s_x_cellTrouble (ok_b h)) (fun r1 s1 h => ?_)
  refine g_callV (rest := []) [.int r1] hx hc mk_x_granted ln_9_83 rfl (by decide +kernel) (by decide) (Nat.le_of_ble_eq_true rfl) (s_x_granted (ok_b h)) (fun r2 s2 h => ?_)
  refine g_ifb_ne hx (off := 5) (tgt := 14) (by decide +kernel) (by decide) (fun c9 => ?_) (fun c9 => ?_)
  · have h := ok_t h c9
    refine g_run hx [(.aload_n 0, 0, 0), (.getfield 30, 0, 0), (.aload_n 0, 0, 0), (.getfield 26, 0, 0)] (pc' := 22) (lo' := [some (.ref 0), some (.int v1), none]) (st' := [.ref 40, .ref 41]) (σ' := s2) (by decide +kernel) rfl rfl ?_
    refine g_callV (rest := []) [.ref 40] hx hc mk_state_copy ln_9_204 rfl (by decide +kernel) (by decide) (Nat.le_of_ble_eq_true rfl) (s_state_copy (ok_b h)) (fun r3 s3 h => ?_)
    refine g_run hx [(.iconst 0, 0, 0), (.istore_n 2, 0, 0)] (pc' := 27) (lo' := [some (.ref 0), some (.int v1), some (.int 0)]) (st' := []) (σ' := s3) (by decide +kernel) rfl rfl ?_
    refine s_x_backIn_L27 hx hc hr N _ _ _ h
  · have h := ok_f h c9
    refine g_run hx [(.iconst (-1), (-1), 0)] (pc' := 13) (lo' := [some (.ref 0), some (.int v1), none]) (st' := [.int (-1)]) (σ' := s2) (by decide +kernel) rfl rfl ?_
    exact g_iret hx hr rfl _ rfl (by decide +kernel) (ok_some h)
def f_x_pairTrouble (N : Nat) (v1 : Int32) (v2 : Int32) (σ : Sg) : Option (Int32 × Sg) :=
  (f_x_cellTrouble N v1 σ).bind fun q1 =>
  if q1.1 = 0 then
    (f_x_cellTrouble N v2 q1.2).bind fun q2 =>
    some (q2.1, q2.2)
  else
    some (1, q1.2)
set_option maxRecDepth 100000 in
theorem s_x_pairTrouble {y : EX} {N : Nat} {v1 : Int32} {v2 : Int32} {σ : Sg} {P : Int32 × Sg → Prop} (h : ok (f_x_pairTrouble N v1 v2 σ) P) : Ev y M_x_pairTrouble 1 [.ref 0, .int v1, .int v2] σ rvI P := by
  refine Ev.of mk_x_pairTrouble (Nat.le_of_ble_eq_true rfl) (fun x hx hc hr => ?_)
  have hx : Cx 9 prog_1_method_66_code x := hx
  have hc : Cc y 3 1 x := hc
  show G x 0 [some (.ref 0), some (.int v1), some (.int v2)] [] σ
  unfold f_x_pairTrouble at h
  refine g_run hx [(.aload_n 0, 0, 0), (.iload_n 1, 0, 0)] (pc' := 2) (lo' := [some (.ref 0), some (.int v1), some (.int v2)]) (st' := [.int v1, .ref 0]) (σ' := σ) (by decide +kernel) rfl rfl ?_
  refine g_callV (rest := []) [.int v1] hx hc mk_x_cellTrouble ln_9_110 rfl (by decide +kernel) (by decide) (Nat.le_of_ble_eq_true rfl) (s_x_cellTrouble (ok_b h)) (fun r1 s1 h => ?_)
  refine g_if_eq hx (off := 7) (tgt := 12) (by decide +kernel) (by decide) (fun c5 => ?_) (fun c5 => ?_)
  · have h := ok_t h c5
    refine g_run hx [(.aload_n 0, 0, 0), (.iload_n 2, 0, 0)] (pc' := 14) (lo' := [some (.ref 0), some (.int v1), some (.int v2)]) (st' := [.int v2, .ref 0]) (σ' := s1) (by decide +kernel) rfl rfl ?_
    refine g_callV (rest := []) [.int v2] hx hc mk_x_cellTrouble ln_9_110 rfl (by decide +kernel) (by decide) (Nat.le_of_ble_eq_true rfl) (s_x_cellTrouble (ok_b h)) (fun r2 s2 h => ?_)
    exact g_iret hx hr rfl _ rfl (by decide +kernel) (ok_some h)
  · have h := ok_f h c5
    refine g_run hx [(.iconst 1, 1, 0)] (pc' := 9) (lo' := [some (.ref 0), some (.int v1), some (.int v2)]) (st' := [.int 1]) (σ' := s1) (by decide +kernel) rfl rfl ?_
    refine g_goto hx (off := 8) (tgt := 17) (by decide +kernel) (by decide) ?_
    exact g_iret hx hr rfl _ rfl (by decide +kernel) (ok_some h)
set_option maxRecDepth 100000 in
theorem s_state_goneCells_40 {y : EX} {N : Nat} {σ : Sg} {P : Int64 × Sg → Prop} (h : ok (f_state_goneCells N 40 σ) P) : Ev y M_state_goneCells 0 [.ref 40] σ rvL P := by
  refine Ev.of mk_state_goneCells (Nat.le_of_ble_eq_true rfl) (fun x hx hc hr => ?_)
  have hx : Cx 7 prog_9_method_4_code x := hx
  have hc : Cc y 1 0 x := hc
  show G x 0 [some (.ref 40)] [] σ
  unfold f_state_goneCells at h
  refine g_run hx [(.aload_n 0, 0, 0), (.getfield 9, 0, 0), (.aload_n 0, 0, 0), (.getfield 15, 0, 0), (.lor, 0, 0)] (pc' := 9) (lo' := [some (.ref 40)]) (st' := [.long ((gL σ 40 0) ||| (gL σ 40 1))]) (σ' := σ) (by decide +kernel) rfl rfl ?_
  exact g_lret hx hr rfl _ rfl (by decide +kernel) (ok_some h)
def f_x_span (N : Nat) (v0 : Int32) (v1 : Int32) (σ : Sg) : Option (Int64 × Sg) :=
  (f_x_below N ((jmax v0 v1) + 1) σ).bind fun q1 =>
  (f_x_below N (jmin v0 v1) q1.2).bind fun q2 =>
  some (q1.1 &&& (q2.1 ^^^ (-1)), q2.2)
set_option maxRecDepth 100000 in
theorem s_x_span {y : EX} {N : Nat} {v0 : Int32} {v1 : Int32} {σ : Sg} {P : Int64 × Sg → Prop} (h : ok (f_x_span N v0 v1 σ) P) : Ev y M_x_span 1 [.int v0, .int v1] σ rvL P := by
  refine Ev.of mk_x_span (Nat.le_of_ble_eq_true rfl) (fun x hx hc hr => ?_)
  have hx : Cx 9 prog_1_method_84_code x := hx
  have hc : Cc y 2 1 x := hc
  show G x 0 [some (.int v0), some (.int v1)] [] σ
  unfold f_x_span at h
  refine g_run hx [(.iload_n 0, 0, 0), (.iload_n 1, 0, 0)] (pc' := 2) (lo' := [some (.int v0), some (.int v1)]) (st' := [.int v1, .int v0]) (σ' := σ) (by decide +kernel) rfl rfl ?_
  refine g_mmax hx hc (by decide) ln_9_402 (by decide +kernel) (Nat.le_of_ble_eq_true rfl) ?_
  refine g_run hx [(.iconst 1, 1, 0), (.iadd, 0, 0)] (pc' := 7) (lo' := [some (.int v0), some (.int v1)]) (st' := [.int ((jmax v0 v1) + 1)]) (σ' := σ) (by decide +kernel) rfl rfl ?_
  refine g_callS (rest := []) [.int ((jmax v0 v1) + 1)] hx hc mk_x_below ln_9_405 (by decide +kernel) (by decide) (Nat.le_of_ble_eq_true rfl) (s_x_below (ok_b h)) (fun r1 s1 h => ?_)
  refine g_run hx [(.iload_n 0, 0, 0), (.iload_n 1, 0, 0)] (pc' := 12) (lo' := [some (.int v0), some (.int v1)]) (st' := [.int v1, .int v0, .long r1]) (σ' := s1) (by decide +kernel) rfl rfl ?_
  refine g_mmin hx hc (by decide) ln_9_408 (by decide +kernel) (Nat.le_of_ble_eq_true rfl) ?_
  refine g_callS (rest := [.long r1]) [.int (jmin v0 v1)] hx hc mk_x_below ln_9_405 (by decide +kernel) (by decide) (Nat.le_of_ble_eq_true rfl) (s_x_below (ok_b h)) (fun r2 s2 h => ?_)
  refine g_run hx [(.ldc2_w 174, 0, (-1)), (.lxor, 0, 0), (.land, 0, 0)] (pc' := 23) (lo' := [some (.int v0), some (.int v1)]) (st' := [.long (r1 &&& (r2 ^^^ (-1)))]) (σ' := s2) (by decide +kernel) rfl rfl ?_
  exact g_lret hx hr rfl _ rfl (by decide +kernel) (ok_some h)
def f_jl_bitCount (N : Nat) (v0 : Int64) (σ : Sg) : Option (Int32 × Sg) :=
  some (((Int64.toInt32 ((((((((v0 - ((UInt64.toInt64 (Int64.toUInt64 v0 >>> (Int64.toUInt64 (Int32.toInt64 1) &&& Int64.toUInt64 63))) &&& 6148914691236517205)) &&& 3689348814741910323) + ((UInt64.toInt64 (Int64.toUInt64 (v0 - ((UInt64.toInt64 (Int64.toUInt64 v0 >>> (Int64.toUInt64 (Int32.toInt64 1) &&& Int64.toUInt64 63))) &&& 6148914691236517205)) >>> (Int64.toUInt64 (Int32.toInt64 2) &&& Int64.toUInt64 63))) &&& 3689348814741910323)) + (UInt64.toInt64 (Int64.toUInt64 (((v0 - ((UInt64.toInt64 (Int64.toUInt64 v0 >>> (Int64.toUInt64 (Int32.toInt64 1) &&& Int64.toUInt64 63))) &&& 6148914691236517205)) &&& 3689348814741910323) + ((UInt64.toInt64 (Int64.toUInt64 (v0 - ((UInt64.toInt64 (Int64.toUInt64 v0 >>> (Int64.toUInt64 (Int32.toInt64 1) &&& Int64.toUInt64 63))) &&& 6148914691236517205)) >>> (Int64.toUInt64 (Int32.toInt64 2) &&& Int64.toUInt64 63))) &&& 3689348814741910323)) >>> (Int64.toUInt64 (Int32.toInt64 4) &&& Int64.toUInt64 63)))) &&& 1085102592571150095) + (UInt64.toInt64 (Int64.toUInt64 (((((v0 - ((UInt64.toInt64 (Int64.toUInt64 v0 >>> (Int64.toUInt64 (Int32.toInt64 1) &&& Int64.toUInt64 63))) &&& 6148914691236517205)) &&& 3689348814741910323) + ((UInt64.toInt64 (Int64.toUInt64 (v0 - ((UInt64.toInt64 (Int64.toUInt64 v0 >>> (Int64.toUInt64 (Int32.toInt64 1) &&& Int64.toUInt64 63))) &&& 6148914691236517205)) >>> (Int64.toUInt64 (Int32.toInt64 2) &&& Int64.toUInt64 63))) &&& 3689348814741910323)) + (UInt64.toInt64 (Int64.toUInt64 (((v0 - ((UInt64.toInt64 (Int64.toUInt64 v0 >>> (Int64.toUInt64 (Int32.toInt64 1) &&& Int64.toUInt64 63))) &&& 6148914691236517205)) &&& 3689348814741910323) + ((UInt64.toInt64 (Int64.toUInt64 (v0 - ((UInt64.toInt64 (Int64.toUInt64 v0 >>> (Int64.toUInt64 (Int32.toInt64 1) &&& Int64.toUInt64 63))) &&& 6148914691236517205)) >>> (Int64.toUInt64 (Int32.toInt64 2) &&& Int64.toUInt64 63))) &&& 3689348814741910323)) >>> (Int64.toUInt64 (Int32.toInt64 4) &&& Int64.toUInt64 63)))) &&& 1085102592571150095) >>> (Int64.toUInt64 (Int32.toInt64 8) &&& Int64.toUInt64 63)))) + (UInt64.toInt64 (Int64.toUInt64 ((((((v0 - ((UInt64.toInt64 (Int64.toUInt64 v0 >>> (Int64.toUInt64 (Int32.toInt64 1) &&& Int64.toUInt64 63))) &&& 6148914691236517205)) &&& 3689348814741910323) + ((UInt64.toInt64 (Int64.toUInt64 (v0 - ((UInt64.toInt64 (Int64.toUInt64 v0 >>> (Int64.toUInt64 (Int32.toInt64 1) &&& Int64.toUInt64 63))) &&& 6148914691236517205)) >>> (Int64.toUInt64 (Int32.toInt64 2) &&& Int64.toUInt64 63))) &&& 3689348814741910323)) + (UInt64.toInt64 (Int64.toUInt64 (((v0 - ((UInt64.toInt64 (Int64.toUInt64 v0 >>> (Int64.toUInt64 (Int32.toInt64 1) &&& Int64.toUInt64 63))) &&& 6148914691236517205)) &&& 3689348814741910323) + ((UInt64.toInt64 (Int64.toUInt64 (v0 - ((UInt64.toInt64 (Int64.toUInt64 v0 >>> (Int64.toUInt64 (Int32.toInt64 1) &&& Int64.toUInt64 63))) &&& 6148914691236517205)) >>> (Int64.toUInt64 (Int32.toInt64 2) &&& Int64.toUInt64 63))) &&& 3689348814741910323)) >>> (Int64.toUInt64 (Int32.toInt64 4) &&& Int64.toUInt64 63)))) &&& 1085102592571150095) + (UInt64.toInt64 (Int64.toUInt64 (((((v0 - ((UInt64.toInt64 (Int64.toUInt64 v0 >>> (Int64.toUInt64 (Int32.toInt64 1) &&& Int64.toUInt64 63))) &&& 6148914691236517205)) &&& 3689348814741910323) + ((UInt64.toInt64 (Int64.toUInt64 (v0 - ((UInt64.toInt64 (Int64.toUInt64 v0 >>> (Int64.toUInt64 (Int32.toInt64 1) &&& Int64.toUInt64 63))) &&& 6148914691236517205)) >>> (Int64.toUInt64 (Int32.toInt64 2) &&& Int64.toUInt64 63))) &&& 3689348814741910323)) + (UInt64.toInt64 (Int64.toUInt64 (((v0 - ((UInt64.toInt64 (Int64.toUInt64 v0 >>> (Int64.toUInt64 (Int32.toInt64 1) &&& Int64.toUInt64 63))) &&& 6148914691236517205)) &&& 3689348814741910323) + ((UInt64.toInt64 (Int64.toUInt64 (v0 - ((UInt64.toInt64 (Int64.toUInt64 v0 >>> (Int64.toUInt64 (Int32.toInt64 1) &&& Int64.toUInt64 63))) &&& 6148914691236517205)) >>> (Int64.toUInt64 (Int32.toInt64 2) &&& Int64.toUInt64 63))) &&& 3689348814741910323)) >>> (Int64.toUInt64 (Int32.toInt64 4) &&& Int64.toUInt64 63)))) &&& 1085102592571150095) >>> (Int64.toUInt64 (Int32.toInt64 8) &&& Int64.toUInt64 63)))) >>> (Int64.toUInt64 (Int32.toInt64 16) &&& Int64.toUInt64 63)))) + (UInt64.toInt64 (Int64.toUInt64 (((((((v0 - ((UInt64.toInt64 (Int64.toUInt64 v0 >>> (Int64.toUInt64 (Int32.toInt64 1) &&& Int64.toUInt64 63))) &&& 6148914691236517205)) &&& 3689348814741910323) + ((UInt64.toInt64 (Int64.toUInt64 (v0 - ((UInt64.toInt64 (Int64.toUInt64 v0 >>> (Int64.toUInt64 (Int32.toInt64 1) &&& Int64.toUInt64 63))) &&& 6148914691236517205)) >>> (Int64.toUInt64 (Int32.toInt64 2) &&& Int64.toUInt64 63))) &&& 3689348814741910323)) + (UInt64.toInt64 (Int64.toUInt64 (((v0 - ((UInt64.toInt64 (Int64.toUInt64 v0 >>> (Int64.toUInt64 (Int32.toInt64 1) &&& Int64.toUInt64 63))) &&& 6148914691236517205)) &&& 3689348814741910323) + ((UInt64.toInt64 (Int64.toUInt64 (v0 - ((UInt64.toInt64 (Int64.toUInt64 v0 >>> (Int64.toUInt64 (Int32.toInt64 1) &&& Int64.toUInt64 63))) &&& 6148914691236517205)) >>> (Int64.toUInt64 (Int32.toInt64 2) &&& Int64.toUInt64 63))) &&& 3689348814741910323)) >>> (Int64.toUInt64 (Int32.toInt64 4) &&& Int64.toUInt64 63)))) &&& 1085102592571150095) + (UInt64.toInt64 (Int64.toUInt64 (((((v0 - ((UInt64.toInt64 (Int64.toUInt64 v0 >>> (Int64.toUInt64 (Int32.toInt64 1) &&& Int64.toUInt64 63))) &&& 6148914691236517205)) &&& 3689348814741910323) + ((UInt64.toInt64 (Int64.toUInt64 (v0 - ((UInt64.toInt64 (Int64.toUInt64 v0 >>> (Int64.toUInt64 (Int32.toInt64 1) &&& Int64.toUInt64 63))) &&& 6148914691236517205)) >>> (Int64.toUInt64 (Int32.toInt64 2) &&& Int64.toUInt64 63))) &&& 3689348814741910323)) + (UInt64.toInt64 (Int64.toUInt64 (((v0 - ((UInt64.toInt64 (Int64.toUInt64 v0 >>> (Int64.toUInt64 (Int32.toInt64 1) &&& Int64.toUInt64 63))) &&& 6148914691236517205)) &&& 3689348814741910323) + ((UInt64.toInt64 (Int64.toUInt64 (v0 - ((UInt64.toInt64 (Int64.toUInt64 v0 >>> (Int64.toUInt64 (Int32.toInt64 1) &&& Int64.toUInt64 63))) &&& 6148914691236517205)) >>> (Int64.toUInt64 (Int32.toInt64 2) &&& Int64.toUInt64 63))) &&& 3689348814741910323)) >>> (Int64.toUInt64 (Int32.toInt64 4) &&& Int64.toUInt64 63)))) &&& 1085102592571150095) >>> (Int64.toUInt64 (Int32.toInt64 8) &&& Int64.toUInt64 63)))) + (UInt64.toInt64 (Int64.toUInt64 ((((((v0 - ((UInt64.toInt64 (Int64.toUInt64 v0 >>> (Int64.toUInt64 (Int32.toInt64 1) &&& Int64.toUInt64 63))) &&& 6148914691236517205)) &&& 3689348814741910323) + ((UInt64.toInt64 (Int64.toUInt64 (v0 - ((UInt64.toInt64 (Int64.toUInt64 v0 >>> (Int64.toUInt64 (Int32.toInt64 1) &&& Int64.toUInt64 63))) &&& 6148914691236517205)) >>> (Int64.toUInt64 (Int32.toInt64 2) &&& Int64.toUInt64 63))) &&& 3689348814741910323)) + (UInt64.toInt64 (Int64.toUInt64 (((v0 - ((UInt64.toInt64 (Int64.toUInt64 v0 >>> (Int64.toUInt64 (Int32.toInt64 1) &&& Int64.toUInt64 63))) &&& 6148914691236517205)) &&& 3689348814741910323) + ((UInt64.toInt64 (Int64.toUInt64 (v0 - ((UInt64.toInt64 (Int64.toUInt64 v0 >>> (Int64.toUInt64 (Int32.toInt64 1) &&& Int64.toUInt64 63))) &&& 6148914691236517205)) >>> (Int64.toUInt64 (Int32.toInt64 2) &&& Int64.toUInt64 63))) &&& 3689348814741910323)) >>> (Int64.toUInt64 (Int32.toInt64 4) &&& Int64.toUInt64 63)))) &&& 1085102592571150095) + (UInt64.toInt64 (Int64.toUInt64 (((((v0 - ((UInt64.toInt64 (Int64.toUInt64 v0 >>> (Int64.toUInt64 (Int32.toInt64 1) &&& Int64.toUInt64 63))) &&& 6148914691236517205)) &&& 3689348814741910323) + ((UInt64.toInt64 (Int64.toUInt64 (v0 - ((UInt64.toInt64 (Int64.toUInt64 v0 >>> (Int64.toUInt64 (Int32.toInt64 1) &&& Int64.toUInt64 63))) &&& 6148914691236517205)) >>> (Int64.toUInt64 (Int32.toInt64 2) &&& Int64.toUInt64 63))) &&& 3689348814741910323)) + (UInt64.toInt64 (Int64.toUInt64 (((v0 - ((UInt64.toInt64 (Int64.toUInt64 v0 >>> (Int64.toUInt64 (Int32.toInt64 1) &&& Int64.toUInt64 63))) &&& 6148914691236517205)) &&& 3689348814741910323) + ((UInt64.toInt64 (Int64.toUInt64 (v0 - ((UInt64.toInt64 (Int64.toUInt64 v0 >>> (Int64.toUInt64 (Int32.toInt64 1) &&& Int64.toUInt64 63))) &&& 6148914691236517205)) >>> (Int64.toUInt64 (Int32.toInt64 2) &&& Int64.toUInt64 63))) &&& 3689348814741910323)) >>> (Int64.toUInt64 (Int32.toInt64 4) &&& Int64.toUInt64 63)))) &&& 1085102592571150095) >>> (Int64.toUInt64 (Int32.toInt64 8) &&& Int64.toUInt64 63)))) >>> (Int64.toUInt64 (Int32.toInt64 16) &&& Int64.toUInt64 63)))) >>> (Int64.toUInt64 (Int32.toInt64 32) &&& Int64.toUInt64 63))))) &&& 127), σ)
set_option maxRecDepth 100000 in
theorem s_jl_bitCount {y : EX} {N : Nat} {v0 : Int64} {σ : Sg} {P : Int32 × Sg → Prop} (h : ok (f_jl_bitCount N v0 σ) P) : Ev y M_jl_bitCount 0 [.long v0] σ rvI P := by
  refine Ev.of mk_jl_bitCount (Nat.le_of_ble_eq_true rfl) (fun x hx hc hr => ?_)
  have hx : Cx 13 prog_18_method_50_code x := hx
  have hc : Cc y 2 0 x := hc
  show G x 0 [some (.long v0), none] [] σ
  unfold f_jl_bitCount at h
  refine g_run hx [(.lload_n 0, 0, 0), (.lload_n 0, 0, 0), (.iconst 1, 1, 0), (.lushr, 0, 0), (.ldc2_w 314, 0, 6148914691236517205), (.land, 0, 0), (.lsub, 0, 0), (.lstore_n 0, 0, 0), (.lload_n 0, 0, 0), (.ldc2_w 316, 0, 3689348814741910323), (.land, 0, 0), (.lload_n 0, 0, 0), (.iconst 2, 2, 0), (.lushr, 0, 0), (.ldc2_w 316, 0, 3689348814741910323), (.land, 0, 0), (.ladd, 0, 0), (.lstore_n 0, 0, 0), (.lload_n 0, 0, 0), (.lload_n 0, 0, 0), (.iconst 4, 4, 0), (.lushr, 0, 0), (.ladd, 0, 0), (.ldc2_w 318, 0, 1085102592571150095), (.land, 0, 0), (.lstore_n 0, 0, 0), (.lload_n 0, 0, 0), (.lload_n 0, 0, 0), (.bipush 8, 8, 0), (.lushr, 0, 0), (.ladd, 0, 0), (.lstore_n 0, 0, 0), (.lload_n 0, 0, 0), (.lload_n 0, 0, 0), (.bipush 16, 16, 0), (.lushr, 0, 0), (.ladd, 0, 0), (.lstore_n 0, 0, 0), (.lload_n 0, 0, 0), (.lload_n 0, 0, 0), (.bipush 32, 32, 0), (.lushr, 0, 0), (.ladd, 0, 0), (.lstore_n 0, 0, 0), (.lload_n 0, 0, 0), (.l2i, 0, 0), (.bipush 127, 127, 0), (.iand, 0, 0)] (pc' := 60) (lo' := [some (.long ((((((((v0 - ((UInt64.toInt64 (Int64.toUInt64 v0 >>> (Int64.toUInt64 (Int32.toInt64 1) &&& Int64.toUInt64 63))) &&& 6148914691236517205)) &&& 3689348814741910323) + ((UInt64.toInt64 (Int64.toUInt64 (v0 - ((UInt64.toInt64 (Int64.toUInt64 v0 >>> (Int64.toUInt64 (Int32.toInt64 1) &&& Int64.toUInt64 63))) &&& 6148914691236517205)) >>> (Int64.toUInt64 (Int32.toInt64 2) &&& Int64.toUInt64 63))) &&& 3689348814741910323)) + (UInt64.toInt64 (Int64.toUInt64 (((v0 - ((UInt64.toInt64 (Int64.toUInt64 v0 >>> (Int64.toUInt64 (Int32.toInt64 1) &&& Int64.toUInt64 63))) &&& 6148914691236517205)) &&& 3689348814741910323) + ((UInt64.toInt64 (Int64.toUInt64 (v0 - ((UInt64.toInt64 (Int64.toUInt64 v0 >>> (Int64.toUInt64 (Int32.toInt64 1) &&& Int64.toUInt64 63))) &&& 6148914691236517205)) >>> (Int64.toUInt64 (Int32.toInt64 2) &&& Int64.toUInt64 63))) &&& 3689348814741910323)) >>> (Int64.toUInt64 (Int32.toInt64 4) &&& Int64.toUInt64 63)))) &&& 1085102592571150095) + (UInt64.toInt64 (Int64.toUInt64 (((((v0 - ((UInt64.toInt64 (Int64.toUInt64 v0 >>> (Int64.toUInt64 (Int32.toInt64 1) &&& Int64.toUInt64 63))) &&& 6148914691236517205)) &&& 3689348814741910323) + ((UInt64.toInt64 (Int64.toUInt64 (v0 - ((UInt64.toInt64 (Int64.toUInt64 v0 >>> (Int64.toUInt64 (Int32.toInt64 1) &&& Int64.toUInt64 63))) &&& 6148914691236517205)) >>> (Int64.toUInt64 (Int32.toInt64 2) &&& Int64.toUInt64 63))) &&& 3689348814741910323)) + (UInt64.toInt64 (Int64.toUInt64 (((v0 - ((UInt64.toInt64 (Int64.toUInt64 v0 >>> (Int64.toUInt64 (Int32.toInt64 1) &&& Int64.toUInt64 63))) &&& 6148914691236517205)) &&& 3689348814741910323) + ((UInt64.toInt64 (Int64.toUInt64 (v0 - ((UInt64.toInt64 (Int64.toUInt64 v0 >>> (Int64.toUInt64 (Int32.toInt64 1) &&& Int64.toUInt64 63))) &&& 6148914691236517205)) >>> (Int64.toUInt64 (Int32.toInt64 2) &&& Int64.toUInt64 63))) &&& 3689348814741910323)) >>> (Int64.toUInt64 (Int32.toInt64 4) &&& Int64.toUInt64 63)))) &&& 1085102592571150095) >>> (Int64.toUInt64 (Int32.toInt64 8) &&& Int64.toUInt64 63)))) + (UInt64.toInt64 (Int64.toUInt64 ((((((v0 - ((UInt64.toInt64 (Int64.toUInt64 v0 >>> (Int64.toUInt64 (Int32.toInt64 1) &&& Int64.toUInt64 63))) &&& 6148914691236517205)) &&& 3689348814741910323) + ((UInt64.toInt64 (Int64.toUInt64 (v0 - ((UInt64.toInt64 (Int64.toUInt64 v0 >>> (Int64.toUInt64 (Int32.toInt64 1) &&& Int64.toUInt64 63))) &&& 6148914691236517205)) >>> (Int64.toUInt64 (Int32.toInt64 2) &&& Int64.toUInt64 63))) &&& 3689348814741910323)) + (UInt64.toInt64 (Int64.toUInt64 (((v0 - ((UInt64.toInt64 (Int64.toUInt64 v0 >>> (Int64.toUInt64 (Int32.toInt64 1) &&& Int64.toUInt64 63))) &&& 6148914691236517205)) &&& 3689348814741910323) + ((UInt64.toInt64 (Int64.toUInt64 (v0 - ((UInt64.toInt64 (Int64.toUInt64 v0 >>> (Int64.toUInt64 (Int32.toInt64 1) &&& Int64.toUInt64 63))) &&& 6148914691236517205)) >>> (Int64.toUInt64 (Int32.toInt64 2) &&& Int64.toUInt64 63))) &&& 3689348814741910323)) >>> (Int64.toUInt64 (Int32.toInt64 4) &&& Int64.toUInt64 63)))) &&& 1085102592571150095) + (UInt64.toInt64 (Int64.toUInt64 (((((v0 - ((UInt64.toInt64 (Int64.toUInt64 v0 >>> (Int64.toUInt64 (Int32.toInt64 1) &&& Int64.toUInt64 63))) &&& 6148914691236517205)) &&& 3689348814741910323) + ((UInt64.toInt64 (Int64.toUInt64 (v0 - ((UInt64.toInt64 (Int64.toUInt64 v0 >>> (Int64.toUInt64 (Int32.toInt64 1) &&& Int64.toUInt64 63))) &&& 6148914691236517205)) >>> (Int64.toUInt64 (Int32.toInt64 2) &&& Int64.toUInt64 63))) &&& 3689348814741910323)) + (UInt64.toInt64 (Int64.toUInt64 (((v0 - ((UInt64.toInt64 (Int64.toUInt64 v0 >>> (Int64.toUInt64 (Int32.toInt64 1) &&& Int64.toUInt64 63))) &&& 6148914691236517205)) &&& 3689348814741910323) + ((UInt64.toInt64 (Int64.toUInt64 (v0 - ((UInt64.toInt64 (Int64.toUInt64 v0 >>> (Int64.toUInt64 (Int32.toInt64 1) &&& Int64.toUInt64 63))) &&& 6148914691236517205)) >>> (Int64.toUInt64 (Int32.toInt64 2) &&& Int64.toUInt64 63))) &&& 3689348814741910323)) >>> (Int64.toUInt64 (Int32.toInt64 4) &&& Int64.toUInt64 63)))) &&& 1085102592571150095) >>> (Int64.toUInt64 (Int32.toInt64 8) &&& Int64.toUInt64 63)))) >>> (Int64.toUInt64 (Int32.toInt64 16) &&& Int64.toUInt64 63)))) + (UInt64.toInt64 (Int64.toUInt64 (((((((v0 - ((UInt64.toInt64 (Int64.toUInt64 v0 >>> (Int64.toUInt64 (Int32.toInt64 1) &&& Int64.toUInt64 63))) &&& 6148914691236517205)) &&& 3689348814741910323) + ((UInt64.toInt64 (Int64.toUInt64 (v0 - ((UInt64.toInt64 (Int64.toUInt64 v0 >>> (Int64.toUInt64 (Int32.toInt64 1) &&& Int64.toUInt64 63))) &&& 6148914691236517205)) >>> (Int64.toUInt64 (Int32.toInt64 2) &&& Int64.toUInt64 63))) &&& 3689348814741910323)) + (UInt64.toInt64 (Int64.toUInt64 (((v0 - ((UInt64.toInt64 (Int64.toUInt64 v0 >>> (Int64.toUInt64 (Int32.toInt64 1) &&& Int64.toUInt64 63))) &&& 6148914691236517205)) &&& 3689348814741910323) + ((UInt64.toInt64 (Int64.toUInt64 (v0 - ((UInt64.toInt64 (Int64.toUInt64 v0 >>> (Int64.toUInt64 (Int32.toInt64 1) &&& Int64.toUInt64 63))) &&& 6148914691236517205)) >>> (Int64.toUInt64 (Int32.toInt64 2) &&& Int64.toUInt64 63))) &&& 3689348814741910323)) >>> (Int64.toUInt64 (Int32.toInt64 4) &&& Int64.toUInt64 63)))) &&& 1085102592571150095) + (UInt64.toInt64 (Int64.toUInt64 (((((v0 - ((UInt64.toInt64 (Int64.toUInt64 v0 >>> (Int64.toUInt64 (Int32.toInt64 1) &&& Int64.toUInt64 63))) &&& 6148914691236517205)) &&& 3689348814741910323) + ((UInt64.toInt64 (Int64.toUInt64 (v0 - ((UInt64.toInt64 (Int64.toUInt64 v0 >>> (Int64.toUInt64 (Int32.toInt64 1) &&& Int64.toUInt64 63))) &&& 6148914691236517205)) >>> (Int64.toUInt64 (Int32.toInt64 2) &&& Int64.toUInt64 63))) &&& 3689348814741910323)) + (UInt64.toInt64 (Int64.toUInt64 (((v0 - ((UInt64.toInt64 (Int64.toUInt64 v0 >>> (Int64.toUInt64 (Int32.toInt64 1) &&& Int64.toUInt64 63))) &&& 6148914691236517205)) &&& 3689348814741910323) + ((UInt64.toInt64 (Int64.toUInt64 (v0 - ((UInt64.toInt64 (Int64.toUInt64 v0 >>> (Int64.toUInt64 (Int32.toInt64 1) &&& Int64.toUInt64 63))) &&& 6148914691236517205)) >>> (Int64.toUInt64 (Int32.toInt64 2) &&& Int64.toUInt64 63))) &&& 3689348814741910323)) >>> (Int64.toUInt64 (Int32.toInt64 4) &&& Int64.toUInt64 63)))) &&& 1085102592571150095) >>> (Int64.toUInt64 (Int32.toInt64 8) &&& Int64.toUInt64 63)))) + (UInt64.toInt64 (Int64.toUInt64 ((((((v0 - ((UInt64.toInt64 (Int64.toUInt64 v0 >>> (Int64.toUInt64 (Int32.toInt64 1) &&& Int64.toUInt64 63))) &&& 6148914691236517205)) &&& 3689348814741910323) + ((UInt64.toInt64 (Int64.toUInt64 (v0 - ((UInt64.toInt64 (Int64.toUInt64 v0 >>> (Int64.toUInt64 (Int32.toInt64 1) &&& Int64.toUInt64 63))) &&& 6148914691236517205)) >>> (Int64.toUInt64 (Int32.toInt64 2) &&& Int64.toUInt64 63))) &&& 3689348814741910323)) + (UInt64.toInt64 (Int64.toUInt64 (((v0 - ((UInt64.toInt64 (Int64.toUInt64 v0 >>> (Int64.toUInt64 (Int32.toInt64 1) &&& Int64.toUInt64 63))) &&& 6148914691236517205)) &&& 3689348814741910323) + ((UInt64.toInt64 (Int64.toUInt64 (v0 - ((UInt64.toInt64 (Int64.toUInt64 v0 >>> (Int64.toUInt64 (Int32.toInt64 1) &&& Int64.toUInt64 63))) &&& 6148914691236517205)) >>> (Int64.toUInt64 (Int32.toInt64 2) &&& Int64.toUInt64 63))) &&& 3689348814741910323)) >>> (Int64.toUInt64 (Int32.toInt64 4) &&& Int64.toUInt64 63)))) &&& 1085102592571150095) + (UInt64.toInt64 (Int64.toUInt64 (((((v0 - ((UInt64.toInt64 (Int64.toUInt64 v0 >>> (Int64.toUInt64 (Int32.toInt64 1) &&& Int64.toUInt64 63))) &&& 6148914691236517205)) &&& 3689348814741910323) + ((UInt64.toInt64 (Int64.toUInt64 (v0 - ((UInt64.toInt64 (Int64.toUInt64 v0 >>> (Int64.toUInt64 (Int32.toInt64 1) &&& Int64.toUInt64 63))) &&& 6148914691236517205)) >>> (Int64.toUInt64 (Int32.toInt64 2) &&& Int64.toUInt64 63))) &&& 3689348814741910323)) + (UInt64.toInt64 (Int64.toUInt64 (((v0 - ((UInt64.toInt64 (Int64.toUInt64 v0 >>> (Int64.toUInt64 (Int32.toInt64 1) &&& Int64.toUInt64 63))) &&& 6148914691236517205)) &&& 3689348814741910323) + ((UInt64.toInt64 (Int64.toUInt64 (v0 - ((UInt64.toInt64 (Int64.toUInt64 v0 >>> (Int64.toUInt64 (Int32.toInt64 1) &&& Int64.toUInt64 63))) &&& 6148914691236517205)) >>> (Int64.toUInt64 (Int32.toInt64 2) &&& Int64.toUInt64 63))) &&& 3689348814741910323)) >>> (Int64.toUInt64 (Int32.toInt64 4) &&& Int64.toUInt64 63)))) &&& 1085102592571150095) >>> (Int64.toUInt64 (Int32.toInt64 8) &&& Int64.toUInt64 63)))) >>> (Int64.toUInt64 (Int32.toInt64 16) &&& Int64.toUInt64 63)))) >>> (Int64.toUInt64 (Int32.toInt64 32) &&& Int64.toUInt64 63))))), none]) (st' := [.int ((Int64.toInt32 ((((((((v0 - ((UInt64.toInt64 (Int64.toUInt64 v0 >>> (Int64.toUInt64 (Int32.toInt64 1) &&& Int64.toUInt64 63))) &&& 6148914691236517205)) &&& 3689348814741910323) + ((UInt64.toInt64 (Int64.toUInt64 (v0 - ((UInt64.toInt64 (Int64.toUInt64 v0 >>> (Int64.toUInt64 (Int32.toInt64 1) &&& Int64.toUInt64 63))) &&& 6148914691236517205)) >>> (Int64.toUInt64 (Int32.toInt64 2) &&& Int64.toUInt64 63))) &&& 3689348814741910323)) + (UInt64.toInt64 (Int64.toUInt64 (((v0 - ((UInt64.toInt64 (Int64.toUInt64 v0 >>> (Int64.toUInt64 (Int32.toInt64 1) &&& Int64.toUInt64 63))) &&& 6148914691236517205)) &&& 3689348814741910323) + ((UInt64.toInt64 (Int64.toUInt64 (v0 - ((UInt64.toInt64 (Int64.toUInt64 v0 >>> (Int64.toUInt64 (Int32.toInt64 1) &&& Int64.toUInt64 63))) &&& 6148914691236517205)) >>> (Int64.toUInt64 (Int32.toInt64 2) &&& Int64.toUInt64 63))) &&& 3689348814741910323)) >>> (Int64.toUInt64 (Int32.toInt64 4) &&& Int64.toUInt64 63)))) &&& 1085102592571150095) + (UInt64.toInt64 (Int64.toUInt64 (((((v0 - ((UInt64.toInt64 (Int64.toUInt64 v0 >>> (Int64.toUInt64 (Int32.toInt64 1) &&& Int64.toUInt64 63))) &&& 6148914691236517205)) &&& 3689348814741910323) + ((UInt64.toInt64 (Int64.toUInt64 (v0 - ((UInt64.toInt64 (Int64.toUInt64 v0 >>> (Int64.toUInt64 (Int32.toInt64 1) &&& Int64.toUInt64 63))) &&& 6148914691236517205)) >>> (Int64.toUInt64 (Int32.toInt64 2) &&& Int64.toUInt64 63))) &&& 3689348814741910323)) + (UInt64.toInt64 (Int64.toUInt64 (((v0 - ((UInt64.toInt64 (Int64.toUInt64 v0 >>> (Int64.toUInt64 (Int32.toInt64 1) &&& Int64.toUInt64 63))) &&& 6148914691236517205)) &&& 3689348814741910323) + ((UInt64.toInt64 (Int64.toUInt64 (v0 - ((UInt64.toInt64 (Int64.toUInt64 v0 >>> (Int64.toUInt64 (Int32.toInt64 1) &&& Int64.toUInt64 63))) &&& 6148914691236517205)) >>> (Int64.toUInt64 (Int32.toInt64 2) &&& Int64.toUInt64 63))) &&& 3689348814741910323)) >>> (Int64.toUInt64 (Int32.toInt64 4) &&& Int64.toUInt64 63)))) &&& 1085102592571150095) >>> (Int64.toUInt64 (Int32.toInt64 8) &&& Int64.toUInt64 63)))) + (UInt64.toInt64 (Int64.toUInt64 ((((((v0 - ((UInt64.toInt64 (Int64.toUInt64 v0 >>> (Int64.toUInt64 (Int32.toInt64 1) &&& Int64.toUInt64 63))) &&& 6148914691236517205)) &&& 3689348814741910323) + ((UInt64.toInt64 (Int64.toUInt64 (v0 - ((UInt64.toInt64 (Int64.toUInt64 v0 >>> (Int64.toUInt64 (Int32.toInt64 1) &&& Int64.toUInt64 63))) &&& 6148914691236517205)) >>> (Int64.toUInt64 (Int32.toInt64 2) &&& Int64.toUInt64 63))) &&& 3689348814741910323)) + (UInt64.toInt64 (Int64.toUInt64 (((v0 - ((UInt64.toInt64 (Int64.toUInt64 v0 >>> (Int64.toUInt64 (Int32.toInt64 1) &&& Int64.toUInt64 63))) &&& 6148914691236517205)) &&& 3689348814741910323) + ((UInt64.toInt64 (Int64.toUInt64 (v0 - ((UInt64.toInt64 (Int64.toUInt64 v0 >>> (Int64.toUInt64 (Int32.toInt64 1) &&& Int64.toUInt64 63))) &&& 6148914691236517205)) >>> (Int64.toUInt64 (Int32.toInt64 2) &&& Int64.toUInt64 63))) &&& 3689348814741910323)) >>> (Int64.toUInt64 (Int32.toInt64 4) &&& Int64.toUInt64 63)))) &&& 1085102592571150095) + (UInt64.toInt64 (Int64.toUInt64 (((((v0 - ((UInt64.toInt64 (Int64.toUInt64 v0 >>> (Int64.toUInt64 (Int32.toInt64 1) &&& Int64.toUInt64 63))) &&& 6148914691236517205)) &&& 3689348814741910323) + ((UInt64.toInt64 (Int64.toUInt64 (v0 - ((UInt64.toInt64 (Int64.toUInt64 v0 >>> (Int64.toUInt64 (Int32.toInt64 1) &&& Int64.toUInt64 63))) &&& 6148914691236517205)) >>> (Int64.toUInt64 (Int32.toInt64 2) &&& Int64.toUInt64 63))) &&& 3689348814741910323)) + (UInt64.toInt64 (Int64.toUInt64 (((v0 - ((UInt64.toInt64 (Int64.toUInt64 v0 >>> (Int64.toUInt64 (Int32.toInt64 1) &&& Int64.toUInt64 63))) &&& 6148914691236517205)) &&& 3689348814741910323) + ((UInt64.toInt64 (Int64.toUInt64 (v0 - ((UInt64.toInt64 (Int64.toUInt64 v0 >>> (Int64.toUInt64 (Int32.toInt64 1) &&& Int64.toUInt64 63))) &&& 6148914691236517205)) >>> (Int64.toUInt64 (Int32.toInt64 2) &&& Int64.toUInt64 63))) &&& 3689348814741910323)) >>> (Int64.toUInt64 (Int32.toInt64 4) &&& Int64.toUInt64 63)))) &&& 1085102592571150095) >>> (Int64.toUInt64 (Int32.toInt64 8) &&& Int64.toUInt64 63)))) >>> (Int64.toUInt64 (Int32.toInt64 16) &&& Int64.toUInt64 63)))) + (UInt64.toInt64 (Int64.toUInt64 (((((((v0 - ((UInt64.toInt64 (Int64.toUInt64 v0 >>> (Int64.toUInt64 (Int32.toInt64 1) &&& Int64.toUInt64 63))) &&& 6148914691236517205)) &&& 3689348814741910323) + ((UInt64.toInt64 (Int64.toUInt64 (v0 - ((UInt64.toInt64 (Int64.toUInt64 v0 >>> (Int64.toUInt64 (Int32.toInt64 1) &&& Int64.toUInt64 63))) &&& 6148914691236517205)) >>> (Int64.toUInt64 (Int32.toInt64 2) &&& Int64.toUInt64 63))) &&& 3689348814741910323)) + (UInt64.toInt64 (Int64.toUInt64 (((v0 - ((UInt64.toInt64 (Int64.toUInt64 v0 >>> (Int64.toUInt64 (Int32.toInt64 1) &&& Int64.toUInt64 63))) &&& 6148914691236517205)) &&& 3689348814741910323) + ((UInt64.toInt64 (Int64.toUInt64 (v0 - ((UInt64.toInt64 (Int64.toUInt64 v0 >>> (Int64.toUInt64 (Int32.toInt64 1) &&& Int64.toUInt64 63))) &&& 6148914691236517205)) >>> (Int64.toUInt64 (Int32.toInt64 2) &&& Int64.toUInt64 63))) &&& 3689348814741910323)) >>> (Int64.toUInt64 (Int32.toInt64 4) &&& Int64.toUInt64 63)))) &&& 1085102592571150095) + (UInt64.toInt64 (Int64.toUInt64 (((((v0 - ((UInt64.toInt64 (Int64.toUInt64 v0 >>> (Int64.toUInt64 (Int32.toInt64 1) &&& Int64.toUInt64 63))) &&& 6148914691236517205)) &&& 3689348814741910323) + ((UInt64.toInt64 (Int64.toUInt64 (v0 - ((UInt64.toInt64 (Int64.toUInt64 v0 >>> (Int64.toUInt64 (Int32.toInt64 1) &&& Int64.toUInt64 63))) &&& 6148914691236517205)) >>> (Int64.toUInt64 (Int32.toInt64 2) &&& Int64.toUInt64 63))) &&& 3689348814741910323)) + (UInt64.toInt64 (Int64.toUInt64 (((v0 - ((UInt64.toInt64 (Int64.toUInt64 v0 >>> (Int64.toUInt64 (Int32.toInt64 1) &&& Int64.toUInt64 63))) &&& 6148914691236517205)) &&& 3689348814741910323) + ((UInt64.toInt64 (Int64.toUInt64 (v0 - ((UInt64.toInt64 (Int64.toUInt64 v0 >>> (Int64.toUInt64 (Int32.toInt64 1) &&& Int64.toUInt64 63))) &&& 6148914691236517205)) >>> (Int64.toUInt64 (Int32.toInt64 2) &&& Int64.toUInt64 63))) &&& 3689348814741910323)) >>> (Int64.toUInt64 (Int32.toInt64 4) &&& Int64.toUInt64 63)))) &&& 1085102592571150095) >>> (Int64.toUInt64 (Int32.toInt64 8) &&& Int64.toUInt64 63)))) + (UInt64.toInt64 (Int64.toUInt64 ((((((v0 - ((UInt64.toInt64 (Int64.toUInt64 v0 >>> (Int64.toUInt64 (Int32.toInt64 1) &&& Int64.toUInt64 63))) &&& 6148914691236517205)) &&& 3689348814741910323) + ((UInt64.toInt64 (Int64.toUInt64 (v0 - ((UInt64.toInt64 (Int64.toUInt64 v0 >>> (Int64.toUInt64 (Int32.toInt64 1) &&& Int64.toUInt64 63))) &&& 6148914691236517205)) >>> (Int64.toUInt64 (Int32.toInt64 2) &&& Int64.toUInt64 63))) &&& 3689348814741910323)) + (UInt64.toInt64 (Int64.toUInt64 (((v0 - ((UInt64.toInt64 (Int64.toUInt64 v0 >>> (Int64.toUInt64 (Int32.toInt64 1) &&& Int64.toUInt64 63))) &&& 6148914691236517205)) &&& 3689348814741910323) + ((UInt64.toInt64 (Int64.toUInt64 (v0 - ((UInt64.toInt64 (Int64.toUInt64 v0 >>> (Int64.toUInt64 (Int32.toInt64 1) &&& Int64.toUInt64 63))) &&& 6148914691236517205)) >>> (Int64.toUInt64 (Int32.toInt64 2) &&& Int64.toUInt64 63))) &&& 3689348814741910323)) >>> (Int64.toUInt64 (Int32.toInt64 4) &&& Int64.toUInt64 63)))) &&& 1085102592571150095) + (UInt64.toInt64 (Int64.toUInt64 (((((v0 - ((UInt64.toInt64 (Int64.toUInt64 v0 >>> (Int64.toUInt64 (Int32.toInt64 1) &&& Int64.toUInt64 63))) &&& 6148914691236517205)) &&& 3689348814741910323) + ((UInt64.toInt64 (Int64.toUInt64 (v0 - ((UInt64.toInt64 (Int64.toUInt64 v0 >>> (Int64.toUInt64 (Int32.toInt64 1) &&& Int64.toUInt64 63))) &&& 6148914691236517205)) >>> (Int64.toUInt64 (Int32.toInt64 2) &&& Int64.toUInt64 63))) &&& 3689348814741910323)) + (UInt64.toInt64 (Int64.toUInt64 (((v0 - ((UInt64.toInt64 (Int64.toUInt64 v0 >>> (Int64.toUInt64 (Int32.toInt64 1) &&& Int64.toUInt64 63))) &&& 6148914691236517205)) &&& 3689348814741910323) + ((UInt64.toInt64 (Int64.toUInt64 (v0 - ((UInt64.toInt64 (Int64.toUInt64 v0 >>> (Int64.toUInt64 (Int32.toInt64 1) &&& Int64.toUInt64 63))) &&& 6148914691236517205)) >>> (Int64.toUInt64 (Int32.toInt64 2) &&& Int64.toUInt64 63))) &&& 3689348814741910323)) >>> (Int64.toUInt64 (Int32.toInt64 4) &&& Int64.toUInt64 63)))) &&& 1085102592571150095) >>> (Int64.toUInt64 (Int32.toInt64 8) &&& Int64.toUInt64 63)))) >>> (Int64.toUInt64 (Int32.toInt64 16) &&& Int64.toUInt64 63)))) >>> (Int64.toUInt64 (Int32.toInt64 32) &&& Int64.toUInt64 63))))) &&& 127)]) (σ' := σ) (by decide +kernel) rfl rfl ?_
  exact g_iret hx hr rfl _ rfl (by decide +kernel) (ok_some h)
def f_x_between (N : Nat) (v1 : Int32) (v2 : Int32) (σ : Sg) : Option (Int32 × Sg) :=
  (f_x_pairTrouble N v1 v2 σ).bind fun q1 =>
  (f_x_granted N q1.1 q1.2).bind fun q2 =>
  if q2.1 = true then
    (f_state_goneCells N 40 q2.2).bind fun q3 =>
    (f_x_span N v1 v2 q3.2).bind fun q4 =>
    (f_jl_bitCount N (q3.1 &&& q4.1) q4.2).bind fun q5 =>
    some (q5.1, q5.2)
  else
    some ((-1), q2.2)
set_option maxRecDepth 100000 in
theorem s_x_between {y : EX} {N : Nat} {v1 : Int32} {v2 : Int32} {σ : Sg} {P : Int32 × Sg → Prop} (h : ok (f_x_between N v1 v2 σ) P) : Ev y M_x_between 2 [.ref 0, .int v1, .int v2] σ rvI P := by
  refine Ev.of mk_x_between (Nat.le_of_ble_eq_true rfl) (fun x hx hc hr => ?_)
  have hx : Cx 9 prog_1_method_16_code x := hx
  have hc : Cc y 3 2 x := hc
  show G x 0 [some (.ref 0), some (.int v1), some (.int v2)] [] σ
  unfold f_x_between at h
  refine g_run hx [(.aload_n 0, 0, 0), (.aload_n 0, 0, 0), (.iload_n 1, 0, 0), (.iload_n 2, 0, 0)] (pc' := 4) (lo' := [some (.ref 0), some (.int v1), some (.int v2)]) (st' := [.int v2, .int v1, .ref 0, .ref 0]) (σ' := σ) (by decide +kernel) rfl rfl ?_
  refine g_callV (rest := [.ref 0]) [.int v1, .int v2] hx hc mk_x_pairTrouble ln_9_183 rfl (by decide +kernel) (by decide) (Nat.le_of_ble_eq_true rfl) (s_x_pairTrouble (ok_b h)) (fun r1 s1 h => ?_)
  refine g_callV (rest := []) [.int r1] hx hc mk_x_granted ln_9_83 rfl (by decide +kernel) (by decide) (Nat.le_of_ble_eq_true rfl) (s_x_granted (ok_b h)) (fun r2 s2 h => ?_)
  refine g_ifb_ne hx (off := 5) (tgt := 15) (by decide +kernel) (by decide) (fun c10 => ?_) (fun c10 => ?_)
  · have h := ok_t h c10
    refine g_run hx [(.aload_n 0, 0, 0), (.getfield 26, 0, 0)] (pc' := 19) (lo' := [some (.ref 0), some (.int v1), some (.int v2)]) (st' := [.ref 40]) (σ' := s2) (by decide +kernel) rfl rfl ?_
    refine g_callV (rest := []) [] hx hc mk_state_goneCells ln_9_144 rfl (by decide +kernel) (by decide) (Nat.le_of_ble_eq_true rfl) (s_state_goneCells_40 (ok_b h)) (fun r3 s3 h => ?_)
    refine g_run hx [(.iload_n 1, 0, 0), (.iload_n 2, 0, 0)] (pc' := 24) (lo' := [some (.ref 0), some (.int v1), some (.int v2)]) (st' := [.int v2, .int v1, .long r3]) (σ' := s3) (by decide +kernel) rfl rfl ?_
    refine g_callS (rest := [.long r3]) [.int v1, .int v2] hx hc mk_x_span ln_9_187 (by decide +kernel) (by decide) (Nat.le_of_ble_eq_true rfl) (s_x_span (ok_b h)) (fun r4 s4 h => ?_)
    refine g_run hx [(.land, 0, 0)] (pc' := 28) (lo' := [some (.ref 0), some (.int v1), some (.int v2)]) (st' := [.long (r3 &&& r4)]) (σ' := s4) (by decide +kernel) rfl rfl ?_
    refine g_callS (rest := []) [.long (r3 &&& r4)] hx hc mk_jl_bitCount ln_9_162 (by decide +kernel) (by decide) (Nat.le_of_ble_eq_true rfl) (s_jl_bitCount (ok_b h)) (fun r5 s5 h => ?_)
    exact g_iret hx hr rfl _ rfl (by decide +kernel) (ok_some h)
  · have h := ok_f h c10
    refine g_run hx [(.iconst (-1), (-1), 0)] (pc' := 14) (lo' := [some (.ref 0), some (.int v1), some (.int v2)]) (st' := [.int (-1)]) (σ' := s2) (by decide +kernel) rfl rfl ?_
    exact g_iret hx hr rfl _ rfl (by decide +kernel) (ok_some h)
def f_x_bootsTrouble (N : Nat) (v1 : Int32) (σ : Sg) : Option (Int32 × Sg) :=
  if v1 < 0 then
    some (1, σ)
  else
    if v1 < (gI σ 11 1) then
      some (0, σ)
    else
      some (1, σ)
set_option maxRecDepth 100000 in
theorem s_x_bootsTrouble {y : EX} {N : Nat} {v1 : Int32} {σ : Sg} {P : Int32 × Sg → Prop} (h : ok (f_x_bootsTrouble N v1 σ) P) : Ev y M_x_bootsTrouble 0 [.ref 0, .int v1] σ rvI P := by
  refine Ev.of mk_x_bootsTrouble (Nat.le_of_ble_eq_true rfl) (fun x hx hc hr => ?_)
  have hx : Cx 9 prog_1_method_67_code x := hx
  have hc : Cc y 2 0 x := hc
  show G x 0 [some (.ref 0), some (.int v1)] [] σ
  unfold f_x_bootsTrouble at h
  refine g_run hx [(.iload_n 1, 0, 0)] (pc' := 1) (lo' := [some (.ref 0), some (.int v1)]) (st' := [.int v1]) (σ' := σ) (by decide +kernel) rfl rfl ?_
  refine g_if_lt hx (off := 17) (tgt := 18) (by decide +kernel) (by decide) (fun c1 => ?_) (fun c1 => ?_)
  · have h := ok_t h c1
    refine g_run hx [(.iconst 1, 1, 0)] (pc' := 19) (lo' := [some (.ref 0), some (.int v1)]) (st' := [.int 1]) (σ' := σ) (by decide +kernel) rfl rfl ?_
    refine g_goto hx (off := 4) (tgt := 23) (by decide +kernel) (by decide) ?_
    exact g_iret hx hr rfl _ rfl (by decide +kernel) (ok_some h)
  · have h := ok_f h c1
    refine g_run hx [(.iload_n 1, 0, 0), (.aload_n 0, 0, 0), (.getfield 19, 0, 0), (.getfield 155, 0, 0), (.getfield 133, 0, 0)] (pc' := 15) (lo' := [some (.ref 0), some (.int v1)]) (st' := [.int (gI σ 11 1), .int v1]) (σ' := σ) (by decide +kernel) rfl rfl ?_
    refine g_ic_lt hx (off := 7) (tgt := 22) (by decide +kernel) (by decide) (fun c15 => ?_) (fun c15 => ?_)
    · have h := ok_t h c15
      refine g_run hx [(.iconst 0, 0, 0)] (pc' := 23) (lo' := [some (.ref 0), some (.int v1)]) (st' := [.int 0]) (σ' := σ) (by decide +kernel) rfl rfl ?_
      exact g_iret hx hr rfl _ rfl (by decide +kernel) (ok_some h)
    · have h := ok_f h c15
      refine g_run hx [(.iconst 1, 1, 0)] (pc' := 19) (lo' := [some (.ref 0), some (.int v1)]) (st' := [.int 1]) (σ' := σ) (by decide +kernel) rfl rfl ?_
      refine g_goto hx (off := 4) (tgt := 23) (by decide +kernel) (by decide) ?_
      exact g_iret hx hr rfl _ rfl (by decide +kernel) (ok_some h)
def f_x_boots (N : Nat) (v1 : Int32) (σ : Sg) : Option (Int32 × Sg) :=
  (f_x_bootsTrouble N v1 σ).bind fun q1 =>
  (f_x_granted N q1.1 q1.2).bind fun q2 =>
  if q2.1 = true then
    (f_numbers_at N 11 3 12 v1 q2.2).bind fun q3 =>
    some (q3.1, q3.2)
  else
    some ((-1), q2.2)
set_option maxRecDepth 100000 in
theorem s_x_boots {y : EX} {N : Nat} {v1 : Int32} {σ : Sg} {P : Int32 × Sg → Prop} (h : ok (f_x_boots N v1 σ) P) : Ev y M_x_boots 1 [.ref 0, .int v1] σ rvI P := by
  refine Ev.of mk_x_boots (Nat.le_of_ble_eq_true rfl) (fun x hx hc hr => ?_)
  have hx : Cx 9 prog_1_method_8_code x := hx
  have hc : Cc y 2 1 x := hc
  show G x 0 [some (.ref 0), some (.int v1)] [] σ
  unfold f_x_boots at h
  refine g_run hx [(.aload_n 0, 0, 0), (.aload_n 0, 0, 0), (.iload_n 1, 0, 0)] (pc' := 3) (lo' := [some (.ref 0), some (.int v1)]) (st' := [.int v1, .ref 0, .ref 0]) (σ' := σ) (by decide +kernel) rfl rfl ?_
  refine g_callV (rest := [.ref 0]) [.int v1] hx hc mk_x_bootsTrouble ln_9_152 rfl (by decide +kernel) (by decide) (Nat.le_of_ble_eq_true rfl) (s_x_bootsTrouble (ok_b h)) (fun r1 s1 h => ?_)
  refine g_callV (rest := []) [.int r1] hx hc mk_x_granted ln_9_83 rfl (by decide +kernel) (by decide) (Nat.le_of_ble_eq_true rfl) (s_x_granted (ok_b h)) (fun r2 s2 h => ?_)
  refine g_ifb_eq hx (off := 17) (tgt := 26) (by decide +kernel) (by decide) (fun c9 => ?_) (fun c9 => ?_)
  · have h := ok_f h c9
    refine g_run hx [(.iconst (-1), (-1), 0)] (pc' := 27) (lo' := [some (.ref 0), some (.int v1)]) (st' := [.int (-1)]) (σ' := s2) (by decide +kernel) rfl rfl ?_
    exact g_iret hx hr rfl _ rfl (by decide +kernel) (ok_some h)
  · have h := ok_t h c9
    refine g_run hx [(.aload_n 0, 0, 0), (.getfield 19, 0, 0), (.getfield 155, 0, 0), (.iload_n 1, 0, 0)] (pc' := 20) (lo' := [some (.ref 0), some (.int v1)]) (st' := [.int v1, .ref 11]) (σ' := s2) (by decide +kernel) rfl rfl ?_
    refine g_callV (rest := []) [.int v1] hx hc mk_numbers_at ln_9_138 rfl (by decide +kernel) (by decide) (Nat.le_of_ble_eq_true rfl) (s_numbers_at_11 (ok_b h)) (fun r3 s3 h => ?_)
    refine g_goto hx (off := 4) (tgt := 27) (by decide +kernel) (by decide) ?_
    exact g_iret hx hr rfl _ rfl (by decide +kernel) (ok_some h)
def f_country_groundAt (N : Nat) (v1 : Int32) (σ : Sg) : Option (Int32 × Sg) :=
  (f_x_bit N (gL σ 10 4) v1 σ).bind fun q1 =>
  if q1.1 = true then
    some (1, q1.2)
  else
    (f_x_bit N (gL q1.2 10 5) v1 q1.2).bind fun q2 =>
    if q2.1 = true then
      some (2, q2.2)
    else
      some (0, q2.2)
set_option maxRecDepth 100000 in
theorem s_country_groundAt {y : EX} {N : Nat} {v1 : Int32} {σ : Sg} {P : Int32 × Sg → Prop} (h : ok (f_country_groundAt N v1 σ) P) : Ev y M_country_groundAt 1 [.ref 10, .int v1] σ rvI P := by
  refine Ev.of mk_country_groundAt (Nat.le_of_ble_eq_true rfl) (fun x hx hc hr => ?_)
  have hx : Cx 1 prog_3_method_5_code x := hx
  have hc : Cc y 2 1 x := hc
  show G x 0 [some (.ref 10), some (.int v1)] [] σ
  unfold f_country_groundAt at h
  refine g_run hx [(.aload_n 0, 0, 0), (.getfield 24, 0, 0), (.iload_n 1, 0, 0)] (pc' := 5) (lo' := [some (.ref 10), some (.int v1)]) (st' := [.int v1, .long (gL σ 10 4)]) (σ' := σ) (by decide +kernel) rfl rfl ?_
  refine g_callN (rest := []) [.long (gL σ 10 4), .int v1] hx hc mk_x_bit ln_1_73 (by decide +kernel) (by decide) (Nat.le_of_ble_eq_true rfl) (s_x_bit (ok_b h)) (fun r1 s1 h => ?_)
  refine g_ifb_eq hx (off := 7) (tgt := 15) (by decide +kernel) (by decide) (fun c8 => ?_) (fun c8 => ?_)
  · have h := ok_f h c8
    refine g_run hx [(.aload_n 0, 0, 0), (.getfield 28, 0, 0), (.iload_n 1, 0, 0)] (pc' := 20) (lo' := [some (.ref 10), some (.int v1)]) (st' := [.int v1, .long (gL s1 10 5)]) (σ' := s1) (by decide +kernel) rfl rfl ?_
    refine g_callN (rest := []) [.long (gL s1 10 5), .int v1] hx hc mk_x_bit ln_1_73 (by decide +kernel) (by decide) (Nat.le_of_ble_eq_true rfl) (s_x_bit (ok_b h)) (fun r2 s2 h => ?_)
    refine g_ifb_eq hx (off := 7) (tgt := 30) (by decide +kernel) (by decide) (fun c23 => ?_) (fun c23 => ?_)
    · have h := ok_f h c23
      refine g_run hx [(.iconst 0, 0, 0)] (pc' := 31) (lo' := [some (.ref 10), some (.int v1)]) (st' := [.int 0]) (σ' := s2) (by decide +kernel) rfl rfl ?_
      exact g_iret hx hr rfl _ rfl (by decide +kernel) (ok_some h)
    · have h := ok_t h c23
      refine g_run hx [(.iconst 2, 2, 0)] (pc' := 27) (lo' := [some (.ref 10), some (.int v1)]) (st' := [.int 2]) (σ' := s2) (by decide +kernel) rfl rfl ?_
      refine g_goto hx (off := 4) (tgt := 31) (by decide +kernel) (by decide) ?_
      exact g_iret hx hr rfl _ rfl (by decide +kernel) (ok_some h)
  · have h := ok_t h c8
    refine g_run hx [(.iconst 1, 1, 0)] (pc' := 12) (lo' := [some (.ref 10), some (.int v1)]) (st' := [.int 1]) (σ' := s1) (by decide +kernel) rfl rfl ?_
    refine g_goto hx (off := 19) (tgt := 31) (by decide +kernel) (by decide) ?_
    exact g_iret hx hr rfl _ rfl (by decide +kernel) (ok_some h)
set_option maxRecDepth 100000 in
theorem s_state_depthAt_40 {y : EX} {N : Nat} {v1 : Int32} {σ : Sg} {P : Int32 × Sg → Prop} (h : ok (f_state_depthAt N 40 v1 σ) P) : Ev y M_state_depthAt 1 [.ref 40, .int v1] σ rvI P := by
  refine Ev.of mk_state_depthAt (Nat.le_of_ble_eq_true rfl) (fun x hx hc hr => ?_)
  have hx : Cx 7 prog_9_method_5_code x := hx
  have hc : Cc y 2 1 x := hc
  show G x 0 [some (.ref 40), some (.int v1)] [] σ
  unfold f_state_depthAt at h
  refine g_run hx [(.aload_n 0, 0, 0), (.getfield 9, 0, 0), (.iload_n 1, 0, 0)] (pc' := 5) (lo' := [some (.ref 40), some (.int v1)]) (st' := [.int v1, .long (gL σ 40 0)]) (σ' := σ) (by decide +kernel) rfl rfl ?_
  refine g_callN (rest := []) [.long (gL σ 40 0), .int v1] hx hc mk_x_bit ln_7_46 (by decide +kernel) (by decide) (Nat.le_of_ble_eq_true rfl) (s_x_bit (ok_b h)) (fun r1 s1 h => ?_)
  have hm : G x 16 [some (.ref 40), some (.int v1)] [.int (b2i (decide (r1 = true)))] s1 := by
    refine g_run hx [(.aload_n 0, 0, 0), (.getfield 15, 0, 0), (.iload_n 1, 0, 0)] (pc' := 21) (lo' := [some (.ref 40), some (.int v1)]) (st' := [.int v1, .long (gL s1 40 1), .int (b2i (decide (r1 = true)))]) (σ' := s1) (by decide +kernel) rfl rfl ?_
    refine g_callN (rest := [.int (b2i (decide (r1 = true)))]) [.long (gL s1 40 1), .int v1] hx hc mk_x_bit ln_7_46 (by decide +kernel) (by decide) (Nat.le_of_ble_eq_true rfl) (s_x_bit (ok_b h)) (fun r2 s2 h => ?_)
    refine g_ifb_eq hx (off := 7) (tgt := 31) (by decide +kernel) (by decide) (fun c24 => ?_) (fun c24 => ?_)
    · have h := ok_f h c24
      refine g_run hx [(.iconst 0, 0, 0), (.iadd, 0, 0)] (pc' := 33) (lo' := [some (.ref 40), some (.int v1)]) (st' := [.int ((b2i (decide (r1 = true))) + 0)]) (σ' := s2) (by decide +kernel) rfl rfl ?_
      exact g_iret hx hr rfl _ rfl (by decide +kernel) (ok_some h)
    · have h := ok_t h c24
      refine g_run hx [(.iconst 2, 2, 0)] (pc' := 28) (lo' := [some (.ref 40), some (.int v1)]) (st' := [.int 2, .int (b2i (decide (r1 = true)))]) (σ' := s2) (by decide +kernel) rfl rfl ?_
      refine g_goto hx (off := 4) (tgt := 32) (by decide +kernel) (by decide) ?_
      refine g_run hx [(.iadd, 0, 0)] (pc' := 33) (lo' := [some (.ref 40), some (.int v1)]) (st' := [.int ((b2i (decide (r1 = true))) + 2)]) (σ' := s2) (by decide +kernel) rfl rfl ?_
      exact g_iret hx hr rfl _ rfl (by decide +kernel) (ok_some h)
  refine g_ifb_eq hx (off := 7) (tgt := 15) (by decide +kernel) (by decide) (fun c8 => ?_) (fun c8 => ?_)
  · refine g_run hx [(.iconst 0, 0, 0)] (pc' := 16) (lo' := [some (.ref 40), some (.int v1)]) (st' := [.int 0]) (σ' := s1) (by decide +kernel) rfl rfl ?_
    exact g_bf c8 hm
  · refine g_run hx [(.iconst 1, 1, 0)] (pc' := 12) (lo' := [some (.ref 40), some (.int v1)]) (st' := [.int 1]) (σ' := s1) (by decide +kernel) rfl rfl ?_
    refine g_goto hx (off := 4) (tgt := 16) (by decide +kernel) (by decide) ?_
    exact g_bt c8 hm
set_option maxRecDepth 100000 in
theorem s_numbers_at_13 {y : EX} {N : Nat} {v1 : Int32} {σ : Sg} {P : Int32 × Sg → Prop} (h : ok (f_numbers_at N 13 6 14 v1 σ) P) : Ev y M_numbers_at 0 [.ref 13, .int v1] σ rvI P := by
  refine Ev.of mk_numbers_at (Nat.le_of_ble_eq_true rfl) (fun x hx hc hr => ?_)
  have hx : Cx 3 prog_5_method_3_code x := hx
  have hc : Cc y 2 0 x := hc
  show G x 0 [some (.ref 13), some (.int v1)] [] σ
  unfold f_numbers_at at h
  refine g_run hx [(.iload_n 1, 0, 0)] (pc' := 1) (lo' := [some (.ref 13), some (.int v1)]) (st' := [.int v1]) (σ' := σ) (by decide +kernel) rfl rfl ?_
  refine g_if_lt hx (off := 29) (tgt := 30) (by decide +kernel) (by decide) (fun c1 => ?_) (fun c1 => ?_)
  · have h := ok_t h c1
    refine g_run hx [(.iconst (-1), (-1), 0)] (pc' := 31) (lo' := [some (.ref 13), some (.int v1)]) (st' := [.int (-1)]) (σ' := σ) (by decide +kernel) rfl rfl ?_
    exact g_iret hx hr rfl _ rfl (by decide +kernel) (ok_some h)
  · have h := ok_f h c1
    refine g_run hx [(.iload_n 1, 0, 0), (.aload_n 0, 0, 0), (.getfield 9, 0, 0)] (pc' := 9) (lo' := [some (.ref 13), some (.int v1)]) (st' := [.int (gI σ 13 1), .int v1]) (σ' := σ) (by decide +kernel) rfl rfl ?_
    refine g_ic_ge hx (off := 21) (tgt := 30) (by decide +kernel) (by decide) (fun c9 => ?_) (fun c9 => ?_)
    · have h := ok_t h c9
      refine g_run hx [(.iconst (-1), (-1), 0)] (pc' := 31) (lo' := [some (.ref 13), some (.int v1)]) (st' := [.int (-1)]) (σ' := σ) (by decide +kernel) rfl rfl ?_
      exact g_iret hx hr rfl _ rfl (by decide +kernel) (ok_some h)
    · have h := ok_f h c9
      refine g_run hx [(.iload_n 1, 0, 0), (.aload_n 0, 0, 0), (.getfield 21, 0, 0), (.arraylength, 0, 0)] (pc' := 18) (lo' := [some (.ref 13), some (.int v1)]) (st' := [.int (nI 6), .int v1]) (σ' := σ) (by decide +kernel) rfl rfl ?_
      refine g_ic_ge hx (off := 12) (tgt := 30) (by decide +kernel) (by decide) (fun c18 => ?_) (fun c18 => ?_)
      · have h := ok_t h c18
        refine g_run hx [(.iconst (-1), (-1), 0)] (pc' := 31) (lo' := [some (.ref 13), some (.int v1)]) (st' := [.int (-1)]) (σ' := σ) (by decide +kernel) rfl rfl ?_
        exact g_iret hx hr rfl _ rfl (by decide +kernel) (ok_some h)
      · have h := ok_f h c18
        refine g_run hx [(.aload_n 0, 0, 0), (.getfield 21, 0, 0), (.iload_n 1, 0, 0)] (pc' := 26) (lo' := [some (.ref 13), some (.int v1)]) (st' := [.int v1, .ref 14]) (σ' := σ) (by decide +kernel) rfl rfl ?_
        obtain ⟨c26, h⟩ := ok_g h
        refine g_iald hx (by decide +kernel) (i := 14) (n := 6) rfl c26 ?_
        refine g_goto hx (off := 4) (tgt := 31) (by decide +kernel) (by decide) ?_
        exact g_iret hx hr rfl _ rfl (by decide +kernel) (ok_some h)
set_option maxRecDepth 100000 in
theorem s_numbers_indexOf_13_L2 {y : EX} {N : Nat} {x : CX} {P : Int32 × Sg → Prop} (hx : Cx 3 prog_5_method_4_code x) (hc : Cc y 3 1 x) (hr : Cr M_numbers_indexOf rvI P x) : ∀ (n : Nat) (v1 : Int32) (v2 : Int32) (σ : Sg), ok (f_numbers_indexOf_L2 N 13 6 14 n v1 v2 σ) P → G x 2 [some (.ref 13), some (.int v1), some (.int v2)] [] σ := by
  intro n
  induction n with
  | zero => intro v1 v2 σ h; exact ok_none h
  | succ n ih =>
    intro v1 v2 σ h
    rw [f_numbers_indexOf_L2] at h
    refine g_run hx [(.iload_n 2, 0, 0), (.aload_n 0, 0, 0), (.getfield 9, 0, 0)] (pc' := 7) (lo' := [some (.ref 13), some (.int v1), some (.int v2)]) (st' := [.int (gI σ 13 1), .int v2]) (σ' := σ) (by decide +kernel) rfl rfl ?_
    refine g_ic_ge hx (off := 20) (tgt := 27) (by decide +kernel) (by decide) (fun c7 => ?_) (fun c7 => ?_)
    · have h := ok_t h c7
      refine g_run hx [(.bipush (-2), (-2), 0)] (pc' := 29) (lo' := [some (.ref 13), some (.int v1), some (.int v2)]) (st' := [.int (-2)]) (σ' := σ) (by decide +kernel) rfl rfl ?_
      exact g_iret hx hr rfl _ rfl (by decide +kernel) (ok_some h)
    · have h := ok_f h c7
      refine g_run hx [(.aload_n 0, 0, 0), (.iload_n 2, 0, 0)] (pc' := 12) (lo' := [some (.ref 13), some (.int v1), some (.int v2)]) (st' := [.int v2, .ref 13]) (σ' := σ) (by decide +kernel) rfl rfl ?_
      refine g_callV (rest := []) [.int v2] hx hc mk_numbers_at ln_3_25 rfl (by decide +kernel) (by decide) (Nat.le_of_ble_eq_true rfl) (s_numbers_at_13 (ok_b h)) (fun r1 s1 h => ?_)
      refine g_run hx [(.iload_n 1, 0, 0)] (pc' := 16) (lo' := [some (.ref 13), some (.int v1), some (.int v2)]) (st' := [.int v1, .int r1]) (σ' := s1) (by decide +kernel) rfl rfl ?_
      refine g_ic_ne hx (off := 5) (tgt := 21) (by decide +kernel) (by decide) (fun c16 => ?_) (fun c16 => ?_)
      · have h := ok_f h c16
        refine g_run hx [(.iinc 2 1, 1, 0)] (pc' := 24) (lo' := [some (.ref 13), some (.int v1), some (.int (v2 + 1))]) (st' := []) (σ' := s1) (by decide +kernel) rfl rfl ?_
        refine g_goto hx (off := (-22)) (tgt := 2) (by decide +kernel) (by decide) ?_
        exact ih _ _ _ h
      · have h := ok_t h c16
        refine g_run hx [(.iload_n 2, 0, 0)] (pc' := 20) (lo' := [some (.ref 13), some (.int v1), some (.int v2)]) (st' := [.int v2]) (σ' := s1) (by decide +kernel) rfl rfl ?_
        exact g_iret hx hr rfl _ rfl (by decide +kernel) (ok_some h)
set_option maxRecDepth 100000 in
theorem s_numbers_indexOf_13 {y : EX} {N : Nat} {v1 : Int32} {σ : Sg} {P : Int32 × Sg → Prop} (h : ok (f_numbers_indexOf N 13 6 14 v1 σ) P) : Ev y M_numbers_indexOf 1 [.ref 13, .int v1] σ rvI P := by
  refine Ev.of mk_numbers_indexOf (Nat.le_of_ble_eq_true rfl) (fun x hx hc hr => ?_)
  have hx : Cx 3 prog_5_method_4_code x := hx
  have hc : Cc y 3 1 x := hc
  show G x 0 [some (.ref 13), some (.int v1), none] [] σ
  unfold f_numbers_indexOf at h
  refine g_run hx [(.iconst 0, 0, 0), (.istore_n 2, 0, 0)] (pc' := 2) (lo' := [some (.ref 13), some (.int v1), some (.int 0)]) (st' := []) (σ' := σ) (by decide +kernel) rfl rfl ?_
  refine s_numbers_indexOf_13_L2 hx hc hr N _ _ _ h
def f_country_placeAt (N : Nat) (a0 : Nat) (a1 : Nat) (a2 : Nat) (v1 : Int32) (σ : Sg) : Option (Int32 × Sg) :=
  (f_numbers_indexOf N a0 a1 a2 v1 σ).bind fun q1 =>
  some (q1.1, q1.2)
set_option maxRecDepth 100000 in
theorem s_country_placeAt_10 {y : EX} {N : Nat} {v1 : Int32} {σ : Sg} {P : Int32 × Sg → Prop} (h : ok (f_country_placeAt N 13 6 14 v1 σ) P) : Ev y M_country_placeAt 2 [.ref 10, .int v1] σ rvI P := by
  refine Ev.of mk_country_placeAt (Nat.le_of_ble_eq_true rfl) (fun x hx hc hr => ?_)
  have hx : Cx 1 prog_3_method_9_code x := hx
  have hc : Cc y 2 2 x := hc
  show G x 0 [some (.ref 10), some (.int v1)] [] σ
  unfold f_country_placeAt at h
  refine g_run hx [(.aload_n 0, 0, 0), (.getfield 40, 0, 0), (.iload_n 1, 0, 0)] (pc' := 5) (lo' := [some (.ref 10), some (.int v1)]) (st' := [.int v1, .ref 13]) (σ' := σ) (by decide +kernel) rfl rfl ?_
  refine g_callV (rest := []) [.int v1] hx hc mk_numbers_indexOf ln_1_77 rfl (by decide +kernel) (by decide) (Nat.le_of_ble_eq_true rfl) (s_numbers_indexOf_13 (ok_b h)) (fun r1 s1 h => ?_)
  exact g_iret hx hr rfl _ rfl (by decide +kernel) (ok_some h)
def f_x_cell (N : Nat) (v1 : Int32) (v2 : Int32) (σ : Sg) : Option (Int32 × Sg) :=
  if v2 < 0 then
    (f_x_granted N 1 σ).bind fun q1 =>
    if q1.1 = true then
      if v2 = 0 then
        (f_country_groundAt N v1 q1.2).bind fun q2 =>
        some (q2.1, q2.2)
      else if v2 = 1 then
        (f_state_depthAt N 40 v1 q1.2).bind fun q3 =>
        some (q3.1, q3.2)
      else if v2 = 2 then
        (f_country_placeAt N 13 6 14 v1 q1.2).bind fun q4 =>
        some (q4.1, q4.2)
      else 
        if (gI q1.2 40 3) = v1 then
          some (((b2i (decide ((gI q1.2 40 2) = v1))) + 2), q1.2)
        else
          some (((b2i (decide ((gI q1.2 40 2) = v1))) + 0), q1.2)
    else
      some ((-1), q1.2)
  else
    if v2 ≤ 3 then
      (f_x_cellTrouble N v1 σ).bind fun q5 =>
      (f_x_granted N q5.1 q5.2).bind fun q6 =>
      if q6.1 = true then
        if v2 = 0 then
          (f_country_groundAt N v1 q6.2).bind fun q7 =>
          some (q7.1, q7.2)
        else if v2 = 1 then
          (f_state_depthAt N 40 v1 q6.2).bind fun q8 =>
          some (q8.1, q8.2)
        else if v2 = 2 then
          (f_country_placeAt N 13 6 14 v1 q6.2).bind fun q9 =>
          some (q9.1, q9.2)
        else 
          if (gI q6.2 40 3) = v1 then
            some (((b2i (decide ((gI q6.2 40 2) = v1))) + 2), q6.2)
          else
            some (((b2i (decide ((gI q6.2 40 2) = v1))) + 0), q6.2)
      else
        some ((-1), q6.2)
    else
      (f_x_granted N 1 σ).bind fun q10 =>
      if q10.1 = true then
        if v2 = 0 then
          (f_country_groundAt N v1 q10.2).bind fun q11 =>
          some (q11.1, q11.2)
        else if v2 = 1 then
          (f_state_depthAt N 40 v1 q10.2).bind fun q12 =>
          some (q12.1, q12.2)
        else if v2 = 2 then
          (f_country_placeAt N 13 6 14 v1 q10.2).bind fun q13 =>
          some (q13.1, q13.2)
        else 
          if (gI q10.2 40 3) = v1 then
            some (((b2i (decide ((gI q10.2 40 2) = v1))) + 2), q10.2)
          else
            some (((b2i (decide ((gI q10.2 40 2) = v1))) + 0), q10.2)
      else
        some ((-1), q10.2)
set_option maxRecDepth 100000 in
theorem s_x_cell {y : EX} {N : Nat} {v1 : Int32} {v2 : Int32} {σ : Sg} {P : Int32 × Sg → Prop} (h : ok (f_x_cell N v1 v2 σ) P) : Ev y M_x_cell 3 [.ref 0, .int v1, .int v2] σ rvI P := by
  refine Ev.of mk_x_cell (Nat.le_of_ble_eq_true rfl) (fun x hx hc hr => ?_)
  have hx : Cx 9 prog_1_method_6_code x := hx
  have hc : Cc y 3 3 x := hc
  show G x 0 [some (.ref 0), some (.int v1), some (.int v2)] [] σ
  unfold f_x_cell at h
  refine g_run hx [(.aload_n 0, 0, 0), (.iload_n 2, 0, 0)] (pc' := 2) (lo' := [some (.ref 0), some (.int v1), some (.int v2)]) (st' := [.int v2, .ref 0]) (σ' := σ) (by decide +kernel) rfl rfl ?_
  refine g_if_lt hx (off := 8) (tgt := 10) (by decide +kernel) (by decide) (fun c2 => ?_) (fun c2 => ?_)
  · have h := ok_t h c2
    refine g_run hx [(.iconst 1, 1, 0)] (pc' := 11) (lo' := [some (.ref 0), some (.int v1), some (.int v2)]) (st' := [.int 1, .ref 0]) (σ' := σ) (by decide +kernel) rfl rfl ?_
    refine g_goto hx (off := 8) (tgt := 19) (by decide +kernel) (by decide) ?_
    refine g_callV (rest := []) [.int 1] hx hc mk_x_granted ln_9_83 rfl (by decide +kernel) (by decide) (Nat.le_of_ble_eq_true rfl) (s_x_granted (ok_b h)) (fun r1 s1 h => ?_)
    refine g_ifb_ne hx (off := 5) (tgt := 27) (by decide +kernel) (by decide) (fun c22 => ?_) (fun c22 => ?_)
    · have h := ok_t h c22
      refine g_run hx [(.iload_n 2, 0, 0)] (pc' := 28) (lo' := [some (.ref 0), some (.int v1), some (.int v2)]) (st' := [.int v2]) (σ' := s1) (by decide +kernel) rfl rfl ?_
      by_cases c28_0 : v2 = 0
      · have h := ok_t h c28_0
        refine g_tin hx (dflt := 55) (lo := 0) (hi := 2) (offs := #[28, 37, 46]) (len := 28) (off := 28) (tgt := 56) (v := 0) (by decide +kernel) c28_0 (by decide +kernel) (by decide +kernel) (by decide +kernel) (by decide) ?_
        refine g_run hx [(.aload_n 0, 0, 0), (.getfield 19, 0, 0), (.iload_n 1, 0, 0)] (pc' := 61) (lo' := [some (.ref 0), some (.int v1), some (.int v2)]) (st' := [.int v1, .ref 10]) (σ' := s1) (by decide +kernel) rfl rfl ?_
        refine g_callV (rest := []) [.int v1] hx hc mk_country_groundAt ln_9_114 rfl (by decide +kernel) (by decide) (Nat.le_of_ble_eq_true rfl) (s_country_groundAt (ok_b h)) (fun r2 s2 h => ?_)
        exact g_iret hx hr rfl _ rfl (by decide +kernel) (ok_some h)
      have h := ok_f h c28_0
      by_cases c28_1 : v2 = 1
      · have h := ok_t h c28_1
        refine g_tin hx (dflt := 55) (lo := 0) (hi := 2) (offs := #[28, 37, 46]) (len := 28) (off := 37) (tgt := 65) (v := 1) (by decide +kernel) c28_1 (by decide +kernel) (by decide +kernel) (by decide +kernel) (by decide) ?_
        refine g_run hx [(.aload_n 0, 0, 0), (.getfield 26, 0, 0), (.iload_n 1, 0, 0)] (pc' := 70) (lo' := [some (.ref 0), some (.int v1), some (.int v2)]) (st' := [.int v1, .ref 40]) (σ' := s1) (by decide +kernel) rfl rfl ?_
        refine g_callV (rest := []) [.int v1] hx hc mk_state_depthAt ln_9_117 rfl (by decide +kernel) (by decide) (Nat.le_of_ble_eq_true rfl) (s_state_depthAt_40 (ok_b h)) (fun r3 s3 h => ?_)
        exact g_iret hx hr rfl _ rfl (by decide +kernel) (ok_some h)
      have h := ok_f h c28_1
      by_cases c28_2 : v2 = 2
      · have h := ok_t h c28_2
        refine g_tin hx (dflt := 55) (lo := 0) (hi := 2) (offs := #[28, 37, 46]) (len := 28) (off := 46) (tgt := 74) (v := 2) (by decide +kernel) c28_2 (by decide +kernel) (by decide +kernel) (by decide +kernel) (by decide) ?_
        refine g_run hx [(.aload_n 0, 0, 0), (.getfield 19, 0, 0), (.iload_n 1, 0, 0)] (pc' := 79) (lo' := [some (.ref 0), some (.int v1), some (.int v2)]) (st' := [.int v1, .ref 10]) (σ' := s1) (by decide +kernel) rfl rfl ?_
        refine g_callV (rest := []) [.int v1] hx hc mk_country_placeAt ln_9_120 rfl (by decide +kernel) (by decide) (Nat.le_of_ble_eq_true rfl) (s_country_placeAt_10 (ok_b h)) (fun r4 s4 h => ?_)
        exact g_iret hx hr rfl _ rfl (by decide +kernel) (ok_some h)
      have h := ok_f h c28_2
      refine g_tout hx (dflt := 55) (n := 3) (offs := #[28, 37, 46]) (len := 28) (tgt := 83) (by decide +kernel) (by decide) (sw_ne ⟨c28_0, c28_1, c28_2, trivial⟩) (by decide) ?_
      refine g_run hx [(.aload_n 0, 0, 0), (.getfield 26, 0, 0), (.getfield 123, 0, 0), (.iload_n 1, 0, 0)] (pc' := 91) (lo' := [some (.ref 0), some (.int v1), some (.int v2)]) (st' := [.int v1, .int (gI s1 40 2)]) (σ' := s1) (by decide +kernel) rfl rfl ?_
      have hm : G x 99 [some (.ref 0), some (.int v1), some (.int v2)] [.int (b2i (decide ((gI s1 40 2) = v1)))] s1 := by
        refine g_run hx [(.aload_n 0, 0, 0), (.getfield 26, 0, 0), (.getfield 126, 0, 0), (.iload_n 1, 0, 0)] (pc' := 107) (lo' := [some (.ref 0), some (.int v1), some (.int v2)]) (st' := [.int v1, .int (gI s1 40 3), .int (b2i (decide ((gI s1 40 2) = v1)))]) (σ' := s1) (by decide +kernel) rfl rfl ?_
        refine g_ic_ne hx (off := 7) (tgt := 114) (by decide +kernel) (by decide) (fun c107 => ?_) (fun c107 => ?_)
        · have h := ok_f h c107
          refine g_run hx [(.iconst 0, 0, 0), (.iadd, 0, 0)] (pc' := 116) (lo' := [some (.ref 0), some (.int v1), some (.int v2)]) (st' := [.int ((b2i (decide ((gI s1 40 2) = v1))) + 0)]) (σ' := s1) (by decide +kernel) rfl rfl ?_
          exact g_iret hx hr rfl _ rfl (by decide +kernel) (ok_some h)
        · have h := ok_t h c107
          refine g_run hx [(.iconst 2, 2, 0)] (pc' := 111) (lo' := [some (.ref 0), some (.int v1), some (.int v2)]) (st' := [.int 2, .int (b2i (decide ((gI s1 40 2) = v1)))]) (σ' := s1) (by decide +kernel) rfl rfl ?_
          refine g_goto hx (off := 4) (tgt := 115) (by decide +kernel) (by decide) ?_
          refine g_run hx [(.iadd, 0, 0)] (pc' := 116) (lo' := [some (.ref 0), some (.int v1), some (.int v2)]) (st' := [.int ((b2i (decide ((gI s1 40 2) = v1))) + 2)]) (σ' := s1) (by decide +kernel) rfl rfl ?_
          exact g_iret hx hr rfl _ rfl (by decide +kernel) (ok_some h)
      refine g_ic_ne hx (off := 7) (tgt := 98) (by decide +kernel) (by decide) (fun c91 => ?_) (fun c91 => ?_)
      · refine g_run hx [(.iconst 0, 0, 0)] (pc' := 99) (lo' := [some (.ref 0), some (.int v1), some (.int v2)]) (st' := [.int 0]) (σ' := s1) (by decide +kernel) rfl rfl ?_
        exact g_bf c91 hm
      · refine g_run hx [(.iconst 1, 1, 0)] (pc' := 95) (lo' := [some (.ref 0), some (.int v1), some (.int v2)]) (st' := [.int 1]) (σ' := s1) (by decide +kernel) rfl rfl ?_
        refine g_goto hx (off := 4) (tgt := 99) (by decide +kernel) (by decide) ?_
        exact g_bt c91 hm
    · have h := ok_f h c22
      refine g_run hx [(.iconst (-1), (-1), 0)] (pc' := 26) (lo' := [some (.ref 0), some (.int v1), some (.int v2)]) (st' := [.int (-1)]) (σ' := s1) (by decide +kernel) rfl rfl ?_
      exact g_iret hx hr rfl _ rfl (by decide +kernel) (ok_some h)
  · have h := ok_f h c2
    refine g_run hx [(.iload_n 2, 0, 0), (.iconst 3, 3, 0)] (pc' := 7) (lo' := [some (.ref 0), some (.int v1), some (.int v2)]) (st' := [.int 3, .int v2, .ref 0]) (σ' := σ) (by decide +kernel) rfl rfl ?_
    refine g_ic_le hx (off := 7) (tgt := 14) (by decide +kernel) (by decide) (fun c7 => ?_) (fun c7 => ?_)
    · have h := ok_t h c7
      refine g_run hx [(.aload_n 0, 0, 0), (.iload_n 1, 0, 0)] (pc' := 16) (lo' := [some (.ref 0), some (.int v1), some (.int v2)]) (st' := [.int v1, .ref 0, .ref 0]) (σ' := σ) (by decide +kernel) rfl rfl ?_
      refine g_callV (rest := [.ref 0]) [.int v1] hx hc mk_x_cellTrouble ln_9_110 rfl (by decide +kernel) (by decide) (Nat.le_of_ble_eq_true rfl) (s_x_cellTrouble (ok_b h)) (fun r5 s5 h => ?_)
      refine g_callV (rest := []) [.int r5] hx hc mk_x_granted ln_9_83 rfl (by decide +kernel) (by decide) (Nat.le_of_ble_eq_true rfl) (s_x_granted (ok_b h)) (fun r6 s6 h => ?_)
      refine g_ifb_ne hx (off := 5) (tgt := 27) (by decide +kernel) (by decide) (fun c22 => ?_) (fun c22 => ?_)
      · have h := ok_t h c22
        refine g_run hx [(.iload_n 2, 0, 0)] (pc' := 28) (lo' := [some (.ref 0), some (.int v1), some (.int v2)]) (st' := [.int v2]) (σ' := s6) (by decide +kernel) rfl rfl ?_
        by_cases c28_0 : v2 = 0
        · have h := ok_t h c28_0
          refine g_tin hx (dflt := 55) (lo := 0) (hi := 2) (offs := #[28, 37, 46]) (len := 28) (off := 28) (tgt := 56) (v := 0) (by decide +kernel) c28_0 (by decide +kernel) (by decide +kernel) (by decide +kernel) (by decide) ?_
          refine g_run hx [(.aload_n 0, 0, 0), (.getfield 19, 0, 0), (.iload_n 1, 0, 0)] (pc' := 61) (lo' := [some (.ref 0), some (.int v1), some (.int v2)]) (st' := [.int v1, .ref 10]) (σ' := s6) (by decide +kernel) rfl rfl ?_
          refine g_callV (rest := []) [.int v1] hx hc mk_country_groundAt ln_9_114 rfl (by decide +kernel) (by decide) (Nat.le_of_ble_eq_true rfl) (s_country_groundAt (ok_b h)) (fun r7 s7 h => ?_)
          exact g_iret hx hr rfl _ rfl (by decide +kernel) (ok_some h)
        have h := ok_f h c28_0
        by_cases c28_1 : v2 = 1
        · have h := ok_t h c28_1
          refine g_tin hx (dflt := 55) (lo := 0) (hi := 2) (offs := #[28, 37, 46]) (len := 28) (off := 37) (tgt := 65) (v := 1) (by decide +kernel) c28_1 (by decide +kernel) (by decide +kernel) (by decide +kernel) (by decide) ?_
          refine g_run hx [(.aload_n 0, 0, 0), (.getfield 26, 0, 0), (.iload_n 1, 0, 0)] (pc' := 70) (lo' := [some (.ref 0), some (.int v1), some (.int v2)]) (st' := [.int v1, .ref 40]) (σ' := s6) (by decide +kernel) rfl rfl ?_
          refine g_callV (rest := []) [.int v1] hx hc mk_state_depthAt ln_9_117 rfl (by decide +kernel) (by decide) (Nat.le_of_ble_eq_true rfl) (s_state_depthAt_40 (ok_b h)) (fun r8 s8 h => ?_)
          exact g_iret hx hr rfl _ rfl (by decide +kernel) (ok_some h)
        have h := ok_f h c28_1
        by_cases c28_2 : v2 = 2
        · have h := ok_t h c28_2
          refine g_tin hx (dflt := 55) (lo := 0) (hi := 2) (offs := #[28, 37, 46]) (len := 28) (off := 46) (tgt := 74) (v := 2) (by decide +kernel) c28_2 (by decide +kernel) (by decide +kernel) (by decide +kernel) (by decide) ?_
          refine g_run hx [(.aload_n 0, 0, 0), (.getfield 19, 0, 0), (.iload_n 1, 0, 0)] (pc' := 79) (lo' := [some (.ref 0), some (.int v1), some (.int v2)]) (st' := [.int v1, .ref 10]) (σ' := s6) (by decide +kernel) rfl rfl ?_
          refine g_callV (rest := []) [.int v1] hx hc mk_country_placeAt ln_9_120 rfl (by decide +kernel) (by decide) (Nat.le_of_ble_eq_true rfl) (s_country_placeAt_10 (ok_b h)) (fun r9 s9 h => ?_)
          exact g_iret hx hr rfl _ rfl (by decide +kernel) (ok_some h)
        have h := ok_f h c28_2
        refine g_tout hx (dflt := 55) (n := 3) (offs := #[28, 37, 46]) (len := 28) (tgt := 83) (by decide +kernel) (by decide) (sw_ne ⟨c28_0, c28_1, c28_2, trivial⟩) (by decide) ?_
        refine g_run hx [(.aload_n 0, 0, 0), (.getfield 26, 0, 0), (.getfield 123, 0, 0), (.iload_n 1, 0, 0)] (pc' := 91) (lo' := [some (.ref 0), some (.int v1), some (.int v2)]) (st' := [.int v1, .int (gI s6 40 2)]) (σ' := s6) (by decide +kernel) rfl rfl ?_
        have hm : G x 99 [some (.ref 0), some (.int v1), some (.int v2)] [.int (b2i (decide ((gI s6 40 2) = v1)))] s6 := by
          refine g_run hx [(.aload_n 0, 0, 0), (.getfield 26, 0, 0), (.getfield 126, 0, 0), (.iload_n 1, 0, 0)] (pc' := 107) (lo' := [some (.ref 0), some (.int v1), some (.int v2)]) (st' := [.int v1, .int (gI s6 40 3), .int (b2i (decide ((gI s6 40 2) = v1)))]) (σ' := s6) (by decide +kernel) rfl rfl ?_
          refine g_ic_ne hx (off := 7) (tgt := 114) (by decide +kernel) (by decide) (fun c107 => ?_) (fun c107 => ?_)
          · have h := ok_f h c107
            refine g_run hx [(.iconst 0, 0, 0), (.iadd, 0, 0)] (pc' := 116) (lo' := [some (.ref 0), some (.int v1), some (.int v2)]) (st' := [.int ((b2i (decide ((gI s6 40 2) = v1))) + 0)]) (σ' := s6) (by decide +kernel) rfl rfl ?_
            exact g_iret hx hr rfl _ rfl (by decide +kernel) (ok_some h)
          · have h := ok_t h c107
            refine g_run hx [(.iconst 2, 2, 0)] (pc' := 111) (lo' := [some (.ref 0), some (.int v1), some (.int v2)]) (st' := [.int 2, .int (b2i (decide ((gI s6 40 2) = v1)))]) (σ' := s6) (by decide +kernel) rfl rfl ?_
            refine g_goto hx (off := 4) (tgt := 115) (by decide +kernel) (by decide) ?_
            refine g_run hx [(.iadd, 0, 0)] (pc' := 116) (lo' := [some (.ref 0), some (.int v1), some (.int v2)]) (st' := [.int ((b2i (decide ((gI s6 40 2) = v1))) + 2)]) (σ' := s6) (by decide +kernel) rfl rfl ?_
            exact g_iret hx hr rfl _ rfl (by decide +kernel) (ok_some h)
        refine g_ic_ne hx (off := 7) (tgt := 98) (by decide +kernel) (by decide) (fun c91 => ?_) (fun c91 => ?_)
        · refine g_run hx [(.iconst 0, 0, 0)] (pc' := 99) (lo' := [some (.ref 0), some (.int v1), some (.int v2)]) (st' := [.int 0]) (σ' := s6) (by decide +kernel) rfl rfl ?_
          exact g_bf c91 hm
        · refine g_run hx [(.iconst 1, 1, 0)] (pc' := 95) (lo' := [some (.ref 0), some (.int v1), some (.int v2)]) (st' := [.int 1]) (σ' := s6) (by decide +kernel) rfl rfl ?_
          refine g_goto hx (off := 4) (tgt := 99) (by decide +kernel) (by decide) ?_
          exact g_bt c91 hm
      · have h := ok_f h c22
        refine g_run hx [(.iconst (-1), (-1), 0)] (pc' := 26) (lo' := [some (.ref 0), some (.int v1), some (.int v2)]) (st' := [.int (-1)]) (σ' := s6) (by decide +kernel) rfl rfl ?_
        exact g_iret hx hr rfl _ rfl (by decide +kernel) (ok_some h)
    · have h := ok_f h c7
      refine g_run hx [(.iconst 1, 1, 0)] (pc' := 11) (lo' := [some (.ref 0), some (.int v1), some (.int v2)]) (st' := [.int 1, .ref 0]) (σ' := σ) (by decide +kernel) rfl rfl ?_
      refine g_goto hx (off := 8) (tgt := 19) (by decide +kernel) (by decide) ?_
      refine g_callV (rest := []) [.int 1] hx hc mk_x_granted ln_9_83 rfl (by decide +kernel) (by decide) (Nat.le_of_ble_eq_true rfl) (s_x_granted (ok_b h)) (fun r10 s10 h => ?_)
      refine g_ifb_ne hx (off := 5) (tgt := 27) (by decide +kernel) (by decide) (fun c22 => ?_) (fun c22 => ?_)
      · have h := ok_t h c22
        refine g_run hx [(.iload_n 2, 0, 0)] (pc' := 28) (lo' := [some (.ref 0), some (.int v1), some (.int v2)]) (st' := [.int v2]) (σ' := s10) (by decide +kernel) rfl rfl ?_
        by_cases c28_0 : v2 = 0
        · have h := ok_t h c28_0
          refine g_tin hx (dflt := 55) (lo := 0) (hi := 2) (offs := #[28, 37, 46]) (len := 28) (off := 28) (tgt := 56) (v := 0) (by decide +kernel) c28_0 (by decide +kernel) (by decide +kernel) (by decide +kernel) (by decide) ?_
          refine g_run hx [(.aload_n 0, 0, 0), (.getfield 19, 0, 0), (.iload_n 1, 0, 0)] (pc' := 61) (lo' := [some (.ref 0), some (.int v1), some (.int v2)]) (st' := [.int v1, .ref 10]) (σ' := s10) (by decide +kernel) rfl rfl ?_
          refine g_callV (rest := []) [.int v1] hx hc mk_country_groundAt ln_9_114 rfl (by decide +kernel) (by decide) (Nat.le_of_ble_eq_true rfl) (s_country_groundAt (ok_b h)) (fun r11 s11 h => ?_)
          exact g_iret hx hr rfl _ rfl (by decide +kernel) (ok_some h)
        have h := ok_f h c28_0
        by_cases c28_1 : v2 = 1
        · have h := ok_t h c28_1
          refine g_tin hx (dflt := 55) (lo := 0) (hi := 2) (offs := #[28, 37, 46]) (len := 28) (off := 37) (tgt := 65) (v := 1) (by decide +kernel) c28_1 (by decide +kernel) (by decide +kernel) (by decide +kernel) (by decide) ?_
          refine g_run hx [(.aload_n 0, 0, 0), (.getfield 26, 0, 0), (.iload_n 1, 0, 0)] (pc' := 70) (lo' := [some (.ref 0), some (.int v1), some (.int v2)]) (st' := [.int v1, .ref 40]) (σ' := s10) (by decide +kernel) rfl rfl ?_
          refine g_callV (rest := []) [.int v1] hx hc mk_state_depthAt ln_9_117 rfl (by decide +kernel) (by decide) (Nat.le_of_ble_eq_true rfl) (s_state_depthAt_40 (ok_b h)) (fun r12 s12 h => ?_)
          exact g_iret hx hr rfl _ rfl (by decide +kernel) (ok_some h)
        have h := ok_f h c28_1
        by_cases c28_2 : v2 = 2
        · have h := ok_t h c28_2
          refine g_tin hx (dflt := 55) (lo := 0) (hi := 2) (offs := #[28, 37, 46]) (len := 28) (off := 46) (tgt := 74) (v := 2) (by decide +kernel) c28_2 (by decide +kernel) (by decide +kernel) (by decide +kernel) (by decide) ?_
          refine g_run hx [(.aload_n 0, 0, 0), (.getfield 19, 0, 0), (.iload_n 1, 0, 0)] (pc' := 79) (lo' := [some (.ref 0), some (.int v1), some (.int v2)]) (st' := [.int v1, .ref 10]) (σ' := s10) (by decide +kernel) rfl rfl ?_
          refine g_callV (rest := []) [.int v1] hx hc mk_country_placeAt ln_9_120 rfl (by decide +kernel) (by decide) (Nat.le_of_ble_eq_true rfl) (s_country_placeAt_10 (ok_b h)) (fun r13 s13 h => ?_)
          exact g_iret hx hr rfl _ rfl (by decide +kernel) (ok_some h)
        have h := ok_f h c28_2
        refine g_tout hx (dflt := 55) (n := 3) (offs := #[28, 37, 46]) (len := 28) (tgt := 83) (by decide +kernel) (by decide) (sw_ne ⟨c28_0, c28_1, c28_2, trivial⟩) (by decide) ?_
        refine g_run hx [(.aload_n 0, 0, 0), (.getfield 26, 0, 0), (.getfield 123, 0, 0), (.iload_n 1, 0, 0)] (pc' := 91) (lo' := [some (.ref 0), some (.int v1), some (.int v2)]) (st' := [.int v1, .int (gI s10 40 2)]) (σ' := s10) (by decide +kernel) rfl rfl ?_
        have hm : G x 99 [some (.ref 0), some (.int v1), some (.int v2)] [.int (b2i (decide ((gI s10 40 2) = v1)))] s10 := by
          refine g_run hx [(.aload_n 0, 0, 0), (.getfield 26, 0, 0), (.getfield 126, 0, 0), (.iload_n 1, 0, 0)] (pc' := 107) (lo' := [some (.ref 0), some (.int v1), some (.int v2)]) (st' := [.int v1, .int (gI s10 40 3), .int (b2i (decide ((gI s10 40 2) = v1)))]) (σ' := s10) (by decide +kernel) rfl rfl ?_
          refine g_ic_ne hx (off := 7) (tgt := 114) (by decide +kernel) (by decide) (fun c107 => ?_) (fun c107 => ?_)
          · have h := ok_f h c107
            refine g_run hx [(.iconst 0, 0, 0), (.iadd, 0, 0)] (pc' := 116) (lo' := [some (.ref 0), some (.int v1), some (.int v2)]) (st' := [.int ((b2i (decide ((gI s10 40 2) = v1))) + 0)]) (σ' := s10) (by decide +kernel) rfl rfl ?_
            exact g_iret hx hr rfl _ rfl (by decide +kernel) (ok_some h)
          · have h := ok_t h c107
            refine g_run hx [(.iconst 2, 2, 0)] (pc' := 111) (lo' := [some (.ref 0), some (.int v1), some (.int v2)]) (st' := [.int 2, .int (b2i (decide ((gI s10 40 2) = v1)))]) (σ' := s10) (by decide +kernel) rfl rfl ?_
            refine g_goto hx (off := 4) (tgt := 115) (by decide +kernel) (by decide) ?_
            refine g_run hx [(.iadd, 0, 0)] (pc' := 116) (lo' := [some (.ref 0), some (.int v1), some (.int v2)]) (st' := [.int ((b2i (decide ((gI s10 40 2) = v1))) + 2)]) (σ' := s10) (by decide +kernel) rfl rfl ?_
            exact g_iret hx hr rfl _ rfl (by decide +kernel) (ok_some h)
        refine g_ic_ne hx (off := 7) (tgt := 98) (by decide +kernel) (by decide) (fun c91 => ?_) (fun c91 => ?_)
        · refine g_run hx [(.iconst 0, 0, 0)] (pc' := 99) (lo' := [some (.ref 0), some (.int v1), some (.int v2)]) (st' := [.int 0]) (σ' := s10) (by decide +kernel) rfl rfl ?_
          exact g_bf c91 hm
        · refine g_run hx [(.iconst 1, 1, 0)] (pc' := 95) (lo' := [some (.ref 0), some (.int v1), some (.int v2)]) (st' := [.int 1]) (σ' := s10) (by decide +kernel) rfl rfl ?_
          refine g_goto hx (off := 4) (tgt := 99) (by decide +kernel) (by decide) ?_
          exact g_bt c91 hm
      · have h := ok_f h c22
        refine g_run hx [(.iconst (-1), (-1), 0)] (pc' := 26) (lo' := [some (.ref 0), some (.int v1), some (.int v2)]) (st' := [.int (-1)]) (σ' := s10) (by decide +kernel) rfl rfl ?_
        exact g_iret hx hr rfl _ rfl (by decide +kernel) (ok_some h)
def f_country_isLost (N : Nat) (v1 : Int32) (v2 : Int64) (σ : Sg) : Option (Bool × Sg) :=
  (f_numbers_at N 13 6 14 v1 σ).bind fun q1 =>
  (f_x_bit N v2 q1.1 q1.2).bind fun q2 =>
  some (q2.1, q2.2)
set_option maxRecDepth 100000 in
theorem s_country_isLost {y : EX} {N : Nat} {v1 : Int32} {v2 : Int64} {σ : Sg} {P : Bool × Sg → Prop} (h : ok (f_country_isLost N v1 v2 σ) P) : Ev y M_country_isLost 1 [.ref 10, .int v1, .long v2] σ rvB P := by
  refine Ev.of mk_country_isLost (Nat.le_of_ble_eq_true rfl) (fun x hx hc hr => ?_)
  have hx : Cx 1 prog_3_method_10_code x := hx
  have hc : Cc y 4 1 x := hc
  show G x 0 [some (.ref 10), some (.int v1), some (.long v2), none] [] σ
  unfold f_country_isLost at h
  refine g_run hx [(.lload_n 2, 0, 0), (.aload_n 0, 0, 0), (.getfield 40, 0, 0), (.iload_n 1, 0, 0)] (pc' := 6) (lo' := [some (.ref 10), some (.int v1), some (.long v2), none]) (st' := [.int v1, .ref 13, .long v2]) (σ' := σ) (by decide +kernel) rfl rfl ?_
  refine g_callV (rest := [.long v2]) [.int v1] hx hc mk_numbers_at ln_1_81 rfl (by decide +kernel) (by decide) (Nat.le_of_ble_eq_true rfl) (s_numbers_at_13 (ok_b h)) (fun r1 s1 h => ?_)
  refine g_callN (rest := []) [.long v2, .int r1] hx hc mk_x_bit ln_1_73 (by decide +kernel) (by decide) (Nat.le_of_ble_eq_true rfl) (s_x_bit (ok_b h)) (fun r2 s2 h => ?_)
  exact g_zret hx hr rfl _ rfl (by decide +kernel) (ok_some h)
set_option maxRecDepth 100000 in
theorem s_numbers_at_15 {y : EX} {N : Nat} {v1 : Int32} {σ : Sg} {P : Int32 × Sg → Prop} (h : ok (f_numbers_at N 15 6 16 v1 σ) P) : Ev y M_numbers_at 0 [.ref 15, .int v1] σ rvI P := by
  refine Ev.of mk_numbers_at (Nat.le_of_ble_eq_true rfl) (fun x hx hc hr => ?_)
  have hx : Cx 3 prog_5_method_3_code x := hx
  have hc : Cc y 2 0 x := hc
  show G x 0 [some (.ref 15), some (.int v1)] [] σ
  unfold f_numbers_at at h
  refine g_run hx [(.iload_n 1, 0, 0)] (pc' := 1) (lo' := [some (.ref 15), some (.int v1)]) (st' := [.int v1]) (σ' := σ) (by decide +kernel) rfl rfl ?_
  refine g_if_lt hx (off := 29) (tgt := 30) (by decide +kernel) (by decide) (fun c1 => ?_) (fun c1 => ?_)
  · have h := ok_t h c1
    refine g_run hx [(.iconst (-1), (-1), 0)] (pc' := 31) (lo' := [some (.ref 15), some (.int v1)]) (st' := [.int (-1)]) (σ' := σ) (by decide +kernel) rfl rfl ?_
    exact g_iret hx hr rfl _ rfl (by decide +kernel) (ok_some h)
  · have h := ok_f h c1
    refine g_run hx [(.iload_n 1, 0, 0), (.aload_n 0, 0, 0), (.getfield 9, 0, 0)] (pc' := 9) (lo' := [some (.ref 15), some (.int v1)]) (st' := [.int (gI σ 15 1), .int v1]) (σ' := σ) (by decide +kernel) rfl rfl ?_
    refine g_ic_ge hx (off := 21) (tgt := 30) (by decide +kernel) (by decide) (fun c9 => ?_) (fun c9 => ?_)
    · have h := ok_t h c9
      refine g_run hx [(.iconst (-1), (-1), 0)] (pc' := 31) (lo' := [some (.ref 15), some (.int v1)]) (st' := [.int (-1)]) (σ' := σ) (by decide +kernel) rfl rfl ?_
      exact g_iret hx hr rfl _ rfl (by decide +kernel) (ok_some h)
    · have h := ok_f h c9
      refine g_run hx [(.iload_n 1, 0, 0), (.aload_n 0, 0, 0), (.getfield 21, 0, 0), (.arraylength, 0, 0)] (pc' := 18) (lo' := [some (.ref 15), some (.int v1)]) (st' := [.int (nI 6), .int v1]) (σ' := σ) (by decide +kernel) rfl rfl ?_
      refine g_ic_ge hx (off := 12) (tgt := 30) (by decide +kernel) (by decide) (fun c18 => ?_) (fun c18 => ?_)
      · have h := ok_t h c18
        refine g_run hx [(.iconst (-1), (-1), 0)] (pc' := 31) (lo' := [some (.ref 15), some (.int v1)]) (st' := [.int (-1)]) (σ' := σ) (by decide +kernel) rfl rfl ?_
        exact g_iret hx hr rfl _ rfl (by decide +kernel) (ok_some h)
      · have h := ok_f h c18
        refine g_run hx [(.aload_n 0, 0, 0), (.getfield 21, 0, 0), (.iload_n 1, 0, 0)] (pc' := 26) (lo' := [some (.ref 15), some (.int v1)]) (st' := [.int v1, .ref 16]) (σ' := σ) (by decide +kernel) rfl rfl ?_
        obtain ⟨c26, h⟩ := ok_g h
        refine g_iald hx (by decide +kernel) (i := 16) (n := 6) rfl c26 ?_
        refine g_goto hx (off := 4) (tgt := 31) (by decide +kernel) (by decide) ?_
        exact g_iret hx hr rfl _ rfl (by decide +kernel) (ok_some h)
