def f_x_landTrouble (N : Nat) (σ : Sg) : Option (Int32 × Sg) :=
  if (gI σ 10 0) = 0 then
    some (1, σ)
  else
    some (0, σ)
set_option maxRecDepth 100000 in
theorem s_x_landTrouble {y : EX} {N : Nat} {σ : Sg} {P : Int32 × Sg → Prop} (h : ok (f_x_landTrouble N σ) P) : Ev y M_x_landTrouble 0 [.ref 0] σ rvI P := by
  refine Ev.of mk_x_landTrouble (Nat.le_of_ble_eq_true rfl) (fun x hx hc hr => ?_)
  have hx : Cx 9 prog_1_method_64_code x := hx
  have hc : Cc y 1 0 x := hc
  show G x 0 [some (.ref 0)] [] σ
  unfold f_x_landTrouble at h
  refine g_run hx [(.aload_n 0, 0, 0), (.getfield 19, 0, 0), (.getfield 104, 0, 0)] (pc' := 7) (lo' := [some (.ref 0)]) (st' := [.int (gI σ 10 0)]) (σ' := σ) (by decide +kernel) rfl rfl ?_
  refine g_if_ne hx (off := 7) (tgt := 14) (by decide +kernel) (by decide) (fun c7 => ?_) (fun c7 => ?_)
  · have h := ok_f h c7
    refine g_run hx [(.iconst 0, 0, 0)] (pc' := 15) (lo' := [some (.ref 0)]) (st' := [.int 0]) (σ' := σ) (by decide +kernel) rfl rfl ?_
    exact g_iret hx hr rfl _ rfl (by decide +kernel) (ok_some h)
  · have h := ok_t h c7
    refine g_run hx [(.iconst 1, 1, 0)] (pc' := 11) (lo' := [some (.ref 0)]) (st' := [.int 1]) (σ' := σ) (by decide +kernel) rfl rfl ?_
    refine g_goto hx (off := 4) (tgt := 15) (by decide +kernel) (by decide) ?_
    exact g_iret hx hr rfl _ rfl (by decide +kernel) (ok_some h)
def f_x_granted (N : Nat) (v1 : Int32) (σ : Sg) : Option (Bool × Sg) :=
  if v1 = 0 then
    some (true, sI σ 0 10 v1)
  else
    some (false, sI σ 0 10 v1)
set_option maxRecDepth 100000 in
theorem s_x_granted {y : EX} {N : Nat} {v1 : Int32} {σ : Sg} {P : Bool × Sg → Prop} (h : ok (f_x_granted N v1 σ) P) : Ev y M_x_granted 0 [.ref 0, .int v1] σ rvB P := by
  refine Ev.of mk_x_granted (Nat.le_of_ble_eq_true rfl) (fun x hx hc hr => ?_)
  have hx : Cx 9 prog_1_method_63_code x := hx
  have hc : Cc y 2 0 x := hc
  show G x 0 [some (.ref 0), some (.int v1)] [] σ
  unfold f_x_granted at h
  refine g_run hx [(.aload_n 0, 0, 0), (.iload_n 1, 0, 0), (.putfield 74, 0, 0), (.iload_n 1, 0, 0)] (pc' := 6) (lo' := [some (.ref 0), some (.int v1)]) (st' := [.int v1]) (σ' := sI σ 0 10 v1) (by decide +kernel) rfl rfl ?_
  refine g_if_ne hx (off := 7) (tgt := 13) (by decide +kernel) (by decide) (fun c6 => ?_) (fun c6 => ?_)
  · have h := ok_f h c6
    refine g_run hx [(.iconst 0, 0, 0)] (pc' := 14) (lo' := [some (.ref 0), some (.int v1)]) (st' := [.int 0]) (σ' := sI σ 0 10 v1) (by decide +kernel) rfl rfl ?_
    exact g_zret (b := false) hx hr rfl false rfl (by decide +kernel) (ok_some h)
  · have h := ok_t h c6
    refine g_run hx [(.iconst 1, 1, 0)] (pc' := 10) (lo' := [some (.ref 0), some (.int v1)]) (st' := [.int 1]) (σ' := sI σ 0 10 v1) (by decide +kernel) rfl rfl ?_
    refine g_goto hx (off := 4) (tgt := 14) (by decide +kernel) (by decide) ?_
    exact g_zret (b := true) hx hr rfl true rfl (by decide +kernel) (ok_some h)
def f_numbers_at (N : Nat) (a0 : Nat) (a1 : Nat) (a2 : Nat) (v1 : Int32) (σ : Sg) : Option (Int32 × Sg) :=
  if v1 < 0 then
    some ((-1), σ)
  else
    if (gI σ a0 1) ≤ v1 then
      some ((-1), σ)
    else
      if (nI a1) ≤ v1 then
        some ((-1), σ)
      else
        if vin v1 a1 then
        some ((gA σ a2 v1), σ)
        else none
set_option maxRecDepth 100000 in
theorem s_numbers_at_21 {y : EX} {N : Nat} {v1 : Int32} {σ : Sg} {P : Int32 × Sg → Prop} (h : ok (f_numbers_at N 21 6 22 v1 σ) P) : Ev y M_numbers_at 0 [.ref 21, .int v1] σ rvI P := by
  refine Ev.of mk_numbers_at (Nat.le_of_ble_eq_true rfl) (fun x hx hc hr => ?_)
  have hx : Cx 3 prog_5_method_3_code x := hx
  have hc : Cc y 2 0 x := hc
  show G x 0 [some (.ref 21), some (.int v1)] [] σ
  unfold f_numbers_at at h
  refine g_run hx [(.iload_n 1, 0, 0)] (pc' := 1) (lo' := [some (.ref 21), some (.int v1)]) (st' := [.int v1]) (σ' := σ) (by decide +kernel) rfl rfl ?_
  refine g_if_lt hx (off := 29) (tgt := 30) (by decide +kernel) (by decide) (fun c1 => ?_) (fun c1 => ?_)
  · have h := ok_t h c1
    refine g_run hx [(.iconst (-1), (-1), 0)] (pc' := 31) (lo' := [some (.ref 21), some (.int v1)]) (st' := [.int (-1)]) (σ' := σ) (by decide +kernel) rfl rfl ?_
    exact g_iret hx hr rfl _ rfl (by decide +kernel) (ok_some h)
  · have h := ok_f h c1
    refine g_run hx [(.iload_n 1, 0, 0), (.aload_n 0, 0, 0), (.getfield 9, 0, 0)] (pc' := 9) (lo' := [some (.ref 21), some (.int v1)]) (st' := [.int (gI σ 21 1), .int v1]) (σ' := σ) (by decide +kernel) rfl rfl ?_
    refine g_ic_ge hx (off := 21) (tgt := 30) (by decide +kernel) (by decide) (fun c9 => ?_) (fun c9 => ?_)
    · have h := ok_t h c9
      refine g_run hx [(.iconst (-1), (-1), 0)] (pc' := 31) (lo' := [some (.ref 21), some (.int v1)]) (st' := [.int (-1)]) (σ' := σ) (by decide +kernel) rfl rfl ?_
      exact g_iret hx hr rfl _ rfl (by decide +kernel) (ok_some h)
    · have h := ok_f h c9
      refine g_run hx [(.iload_n 1, 0, 0), (.aload_n 0, 0, 0), (.getfield 21, 0, 0), (.arraylength, 0, 0)] (pc' := 18) (lo' := [some (.ref 21), some (.int v1)]) (st' := [.int (nI 6), .int v1]) (σ' := σ) (by decide +kernel) rfl rfl ?_
      refine g_ic_ge hx (off := 12) (tgt := 30) (by decide +kernel) (by decide) (fun c18 => ?_) (fun c18 => ?_)
      · have h := ok_t h c18
        refine g_run hx [(.iconst (-1), (-1), 0)] (pc' := 31) (lo' := [some (.ref 21), some (.int v1)]) (st' := [.int (-1)]) (σ' := σ) (by decide +kernel) rfl rfl ?_
        exact g_iret hx hr rfl _ rfl (by decide +kernel) (ok_some h)
      · have h := ok_f h c18
        refine g_run hx [(.aload_n 0, 0, 0), (.getfield 21, 0, 0), (.iload_n 1, 0, 0)] (pc' := 26) (lo' := [some (.ref 21), some (.int v1)]) (st' := [.int v1, .ref 22]) (σ' := σ) (by decide +kernel) rfl rfl ?_
        obtain ⟨c26, h⟩ := ok_g h
        refine g_iald hx (by decide +kernel) (i := 22) (n := 6) rfl c26 ?_
        refine g_goto hx (off := 4) (tgt := 31) (by decide +kernel) (by decide) ?_
        exact g_iret hx hr rfl _ rfl (by decide +kernel) (ok_some h)
def f_x_bit (N : Nat) (v0 : Int64) (v2 : Int32) (σ : Sg) : Option (Bool × Sg) :=
  if v2 < 0 then
    some (false, σ)
  else
    if 64 ≤ v2 then
      some (false, σ)
    else
      if (lg_cmp ((UInt64.toInt64 (Int64.toUInt64 v0 >>> (Int64.toUInt64 (Int32.toInt64 v2) &&& Int64.toUInt64 63))) &&& 1) 1) = 0 then
        some (true, σ)
      else
        some (false, σ)
set_option maxRecDepth 100000 in
theorem s_x_bit {y : EX} {N : Nat} {v0 : Int64} {v2 : Int32} {σ : Sg} {P : Bool × Sg → Prop} (h : ok (f_x_bit N v0 v2 σ) P) : Ev y M_x_bit 0 [.long v0, .int v2] σ rvB P := by
  refine Ev.of mk_x_bit (Nat.le_of_ble_eq_true rfl) (fun x hx hc hr => ?_)
  have hx : Cx 9 prog_1_method_82_code x := hx
  have hc : Cc y 3 0 x := hc
  show G x 0 [some (.long v0), none, some (.int v2)] [] σ
  unfold f_x_bit at h
  refine g_run hx [(.iload_n 2, 0, 0)] (pc' := 1) (lo' := [some (.long v0), none, some (.int v2)]) (st' := [.int v2]) (σ' := σ) (by decide +kernel) rfl rfl ?_
  refine g_if_lt hx (off := 23) (tgt := 24) (by decide +kernel) (by decide) (fun c1 => ?_) (fun c1 => ?_)
  · have h := ok_t h c1
    refine g_run hx [(.iconst 0, 0, 0)] (pc' := 25) (lo' := [some (.long v0), none, some (.int v2)]) (st' := [.int 0]) (σ' := σ) (by decide +kernel) rfl rfl ?_
    exact g_zret (b := false) hx hr rfl false rfl (by decide +kernel) (ok_some h)
  · have h := ok_f h c1
    refine g_run hx [(.iload_n 2, 0, 0), (.bipush 64, 64, 0)] (pc' := 7) (lo' := [some (.long v0), none, some (.int v2)]) (st' := [.int 64, .int v2]) (σ' := σ) (by decide +kernel) rfl rfl ?_
    refine g_ic_ge hx (off := 17) (tgt := 24) (by decide +kernel) (by decide) (fun c7 => ?_) (fun c7 => ?_)
    · have h := ok_t h c7
      refine g_run hx [(.iconst 0, 0, 0)] (pc' := 25) (lo' := [some (.long v0), none, some (.int v2)]) (st' := [.int 0]) (σ' := σ) (by decide +kernel) rfl rfl ?_
      exact g_zret (b := false) hx hr rfl false rfl (by decide +kernel) (ok_some h)
    · have h := ok_f h c7
      refine g_run hx [(.lload_n 0, 0, 0), (.iload_n 2, 0, 0), (.lushr, 0, 0), (.lconst 1, 0, 1), (.land, 0, 0), (.lconst 1, 0, 1), (.lcmp, 0, 0)] (pc' := 17) (lo' := [some (.long v0), none, some (.int v2)]) (st' := [.int (lg_cmp ((UInt64.toInt64 (Int64.toUInt64 v0 >>> (Int64.toUInt64 (Int32.toInt64 v2) &&& Int64.toUInt64 63))) &&& 1) 1)]) (σ' := σ) (by decide +kernel) rfl rfl ?_
      refine g_if_ne hx (off := 7) (tgt := 24) (by decide +kernel) (by decide) (fun c17 => ?_) (fun c17 => ?_)
      · have h := ok_f h c17
        refine g_run hx [(.iconst 0, 0, 0)] (pc' := 25) (lo' := [some (.long v0), none, some (.int v2)]) (st' := [.int 0]) (σ' := σ) (by decide +kernel) rfl rfl ?_
        exact g_zret (b := false) hx hr rfl false rfl (by decide +kernel) (ok_some h)
      · have h := ok_t h c17
        refine g_run hx [(.iconst 1, 1, 0)] (pc' := 21) (lo' := [some (.long v0), none, some (.int v2)]) (st' := [.int 1]) (σ' := σ) (by decide +kernel) rfl rfl ?_
        refine g_goto hx (off := 4) (tgt := 25) (by decide +kernel) (by decide) ?_
        exact g_zret (b := true) hx hr rfl true rfl (by decide +kernel) (ok_some h)
set_option maxRecDepth 100000 in
theorem s_numbers_at_23 {y : EX} {N : Nat} {v1 : Int32} {σ : Sg} {P : Int32 × Sg → Prop} (h : ok (f_numbers_at N 23 6 24 v1 σ) P) : Ev y M_numbers_at 0 [.ref 23, .int v1] σ rvI P := by
  refine Ev.of mk_numbers_at (Nat.le_of_ble_eq_true rfl) (fun x hx hc hr => ?_)
  have hx : Cx 3 prog_5_method_3_code x := hx
  have hc : Cc y 2 0 x := hc
  show G x 0 [some (.ref 23), some (.int v1)] [] σ
  unfold f_numbers_at at h
  refine g_run hx [(.iload_n 1, 0, 0)] (pc' := 1) (lo' := [some (.ref 23), some (.int v1)]) (st' := [.int v1]) (σ' := σ) (by decide +kernel) rfl rfl ?_
  refine g_if_lt hx (off := 29) (tgt := 30) (by decide +kernel) (by decide) (fun c1 => ?_) (fun c1 => ?_)
  · have h := ok_t h c1
    refine g_run hx [(.iconst (-1), (-1), 0)] (pc' := 31) (lo' := [some (.ref 23), some (.int v1)]) (st' := [.int (-1)]) (σ' := σ) (by decide +kernel) rfl rfl ?_
    exact g_iret hx hr rfl _ rfl (by decide +kernel) (ok_some h)
  · have h := ok_f h c1
    refine g_run hx [(.iload_n 1, 0, 0), (.aload_n 0, 0, 0), (.getfield 9, 0, 0)] (pc' := 9) (lo' := [some (.ref 23), some (.int v1)]) (st' := [.int (gI σ 23 1), .int v1]) (σ' := σ) (by decide +kernel) rfl rfl ?_
    refine g_ic_ge hx (off := 21) (tgt := 30) (by decide +kernel) (by decide) (fun c9 => ?_) (fun c9 => ?_)
    · have h := ok_t h c9
      refine g_run hx [(.iconst (-1), (-1), 0)] (pc' := 31) (lo' := [some (.ref 23), some (.int v1)]) (st' := [.int (-1)]) (σ' := σ) (by decide +kernel) rfl rfl ?_
      exact g_iret hx hr rfl _ rfl (by decide +kernel) (ok_some h)
    · have h := ok_f h c9
      refine g_run hx [(.iload_n 1, 0, 0), (.aload_n 0, 0, 0), (.getfield 21, 0, 0), (.arraylength, 0, 0)] (pc' := 18) (lo' := [some (.ref 23), some (.int v1)]) (st' := [.int (nI 6), .int v1]) (σ' := σ) (by decide +kernel) rfl rfl ?_
      refine g_ic_ge hx (off := 12) (tgt := 30) (by decide +kernel) (by decide) (fun c18 => ?_) (fun c18 => ?_)
      · have h := ok_t h c18
        refine g_run hx [(.iconst (-1), (-1), 0)] (pc' := 31) (lo' := [some (.ref 23), some (.int v1)]) (st' := [.int (-1)]) (σ' := σ) (by decide +kernel) rfl rfl ?_
        exact g_iret hx hr rfl _ rfl (by decide +kernel) (ok_some h)
      · have h := ok_f h c18
        refine g_run hx [(.aload_n 0, 0, 0), (.getfield 21, 0, 0), (.iload_n 1, 0, 0)] (pc' := 26) (lo' := [some (.ref 23), some (.int v1)]) (st' := [.int v1, .ref 24]) (σ' := σ) (by decide +kernel) rfl rfl ?_
        obtain ⟨c26, h⟩ := ok_g h
        refine g_iald hx (by decide +kernel) (i := 24) (n := 6) rfl c26 ?_
        refine g_goto hx (off := 4) (tgt := 31) (by decide +kernel) (by decide) ?_
        exact g_iret hx hr rfl _ rfl (by decide +kernel) (ok_some h)
def f_country_unlikeSeen_L2 (N : Nat) : Nat → Int64 → Int32 → Sg → Option (Int32 × Sg)
  | 0, _, _, _ => none
  | n + 1, v1, v3, σ =>
    if (gI σ 21 1) ≤ v3 then
      some ((-2), σ)
    else
      (f_numbers_at N 21 6 22 v3 σ).bind fun q1 =>
      (f_x_bit N v1 q1.1 q1.2).bind fun q2 =>
      (f_numbers_at N 23 6 24 v3 q2.2).bind fun q3 =>
      if q3.1 = 1 then
        if (b2i q2.1) = 1 then
          f_country_unlikeSeen_L2 N n v1 (v3 + 1) q3.2
        else
          some (v3, q3.2)
      else
        if (b2i q2.1) = 0 then
          f_country_unlikeSeen_L2 N n v1 (v3 + 1) q3.2
        else
          some (v3, q3.2)
def f_country_unlikeSeen (N : Nat) (v1 : Int64) (σ : Sg) : Option (Int32 × Sg) :=
  f_country_unlikeSeen_L2 N N v1 0 σ
set_option maxRecDepth 100000 in
theorem s_country_unlikeSeen_L2 {y : EX} {N : Nat} {x : CX} {P : Int32 × Sg → Prop} (hx : Cx 1 prog_3_method_20_code x) (hc : Cc y 4 1 x) (hr : Cr M_country_unlikeSeen rvI P x) : ∀ (n : Nat) (v1 : Int64) (v3 : Int32) (σ : Sg), ok (f_country_unlikeSeen_L2 N n v1 v3 σ) P → G x 2 [some (.ref 10), some (.long v1), none, some (.int v3)] [] σ := by
  intro n
  induction n with
  | zero => intro v1 v3 σ h; exact ok_none h
  | succ n ih =>
    intro v1 v3 σ h
    rw [f_country_unlikeSeen_L2] at h
    refine g_run hx [(.iload_n 3, 0, 0), (.aload_n 0, 0, 0), (.getfield 52, 0, 0), (.getfield 64, 0, 0)] (pc' := 10) (lo' := [some (.ref 10), some (.long v1), none, some (.int v3)]) (st' := [.int (gI σ 21 1), .int v3]) (σ' := σ) (by decide +kernel) rfl rfl ?_
    refine g_ic_ge hx (off := 43) (tgt := 53) (by decide +kernel) (by decide) (fun c10 => ?_) (fun c10 => ?_)
    · have h := ok_t h c10
      refine g_run hx [(.bipush (-2), (-2), 0)] (pc' := 55) (lo' := [some (.ref 10), some (.long v1), none, some (.int v3)]) (st' := [.int (-2)]) (σ' := σ) (by decide +kernel) rfl rfl ?_
      exact g_iret hx hr rfl _ rfl (by decide +kernel) (ok_some h)
    · have h := ok_f h c10
      refine g_run hx [(.lload_n 1, 0, 0), (.aload_n 0, 0, 0), (.getfield 52, 0, 0), (.iload_n 3, 0, 0)] (pc' := 19) (lo' := [some (.ref 10), some (.long v1), none, some (.int v3)]) (st' := [.int v3, .ref 21, .long v1]) (σ' := σ) (by decide +kernel) rfl rfl ?_
      refine g_callV (rest := [.long v1]) [.int v3] hx hc mk_numbers_at ln_1_81 rfl (by decide +kernel) (by decide) (Nat.le_of_ble_eq_true rfl) (s_numbers_at_21 (ok_b h)) (fun r1 s1 h => ?_)
      refine g_callN (rest := []) [.long v1, .int r1] hx hc mk_x_bit ln_1_73 (by decide +kernel) (by decide) (Nat.le_of_ble_eq_true rfl) (s_x_bit (ok_b h)) (fun r2 s2 h => ?_)
      refine g_run hx [(.aload_n 0, 0, 0), (.getfield 55, 0, 0), (.iload_n 3, 0, 0)] (pc' := 30) (lo' := [some (.ref 10), some (.long v1), none, some (.int v3)]) (st' := [.int v3, .ref 23, .int (b2i r2)]) (σ' := s2) (by decide +kernel) rfl rfl ?_
      refine g_callV (rest := [.int (b2i r2)]) [.int v3] hx hc mk_numbers_at ln_1_81 rfl (by decide +kernel) (by decide) (Nat.le_of_ble_eq_true rfl) (s_numbers_at_23 (ok_b h)) (fun r3 s3 h => ?_)
      refine g_run hx [(.iconst 1, 1, 0)] (pc' := 34) (lo' := [some (.ref 10), some (.long v1), none, some (.int v3)]) (st' := [.int 1, .int r3, .int (b2i r2)]) (σ' := s3) (by decide +kernel) rfl rfl ?_
      refine g_ic_ne hx (off := 7) (tgt := 41) (by decide +kernel) (by decide) (fun c34 => ?_) (fun c34 => ?_)
      · have h := ok_f h c34
        refine g_run hx [(.iconst 0, 0, 0)] (pc' := 42) (lo' := [some (.ref 10), some (.long v1), none, some (.int v3)]) (st' := [.int 0, .int (b2i r2)]) (σ' := s3) (by decide +kernel) rfl rfl ?_
        refine g_ic_eq hx (off := 5) (tgt := 47) (by decide +kernel) (by decide) (fun c42 => ?_) (fun c42 => ?_)
        · have h := ok_t h c42
          refine g_run hx [(.iinc 3 1, 1, 0)] (pc' := 50) (lo' := [some (.ref 10), some (.long v1), none, some (.int (v3 + 1))]) (st' := []) (σ' := s3) (by decide +kernel) rfl rfl ?_
          refine g_goto hx (off := (-48)) (tgt := 2) (by decide +kernel) (by decide) ?_
          exact ih _ _ _ h
        · have h := ok_f h c42
          refine g_run hx [(.iload_n 3, 0, 0)] (pc' := 46) (lo' := [some (.ref 10), some (.long v1), none, some (.int v3)]) (st' := [.int v3]) (σ' := s3) (by decide +kernel) rfl rfl ?_
          exact g_iret hx hr rfl _ rfl (by decide +kernel) (ok_some h)
      · have h := ok_t h c34
        refine g_run hx [(.iconst 1, 1, 0)] (pc' := 38) (lo' := [some (.ref 10), some (.long v1), none, some (.int v3)]) (st' := [.int 1, .int (b2i r2)]) (σ' := s3) (by decide +kernel) rfl rfl ?_
        refine g_goto hx (off := 4) (tgt := 42) (by decide +kernel) (by decide) ?_
        refine g_ic_eq hx (off := 5) (tgt := 47) (by decide +kernel) (by decide) (fun c42 => ?_) (fun c42 => ?_)
        · have h := ok_t h c42
          refine g_run hx [(.iinc 3 1, 1, 0)] (pc' := 50) (lo' := [some (.ref 10), some (.long v1), none, some (.int (v3 + 1))]) (st' := []) (σ' := s3) (by decide +kernel) rfl rfl ?_
          refine g_goto hx (off := (-48)) (tgt := 2) (by decide +kernel) (by decide) ?_
          exact ih _ _ _ h
        · have h := ok_f h c42
          refine g_run hx [(.iload_n 3, 0, 0)] (pc' := 46) (lo' := [some (.ref 10), some (.long v1), none, some (.int v3)]) (st' := [.int v3]) (σ' := s3) (by decide +kernel) rfl rfl ?_
          exact g_iret hx hr rfl _ rfl (by decide +kernel) (ok_some h)
set_option maxRecDepth 100000 in
theorem s_country_unlikeSeen {y : EX} {N : Nat} {v1 : Int64} {σ : Sg} {P : Int32 × Sg → Prop} (h : ok (f_country_unlikeSeen N v1 σ) P) : Ev y M_country_unlikeSeen 1 [.ref 10, .long v1] σ rvI P := by
  refine Ev.of mk_country_unlikeSeen (Nat.le_of_ble_eq_true rfl) (fun x hx hc hr => ?_)
  have hx : Cx 1 prog_3_method_20_code x := hx
  have hc : Cc y 4 1 x := hc
  show G x 0 [some (.ref 10), some (.long v1), none, none] [] σ
  unfold f_country_unlikeSeen at h
  refine g_run hx [(.iconst 0, 0, 0), (.istore_n 3, 0, 0)] (pc' := 2) (lo' := [some (.ref 10), some (.long v1), none, some (.int 0)]) (st' := []) (σ' := σ) (by decide +kernel) rfl rfl ?_
  refine s_country_unlikeSeen_L2 hx hc hr N _ _ _ h
set_option maxRecDepth 100000 in
theorem s_numbers_at_17 {y : EX} {N : Nat} {v1 : Int32} {σ : Sg} {P : Int32 × Sg → Prop} (h : ok (f_numbers_at N 17 8 18 v1 σ) P) : Ev y M_numbers_at 0 [.ref 17, .int v1] σ rvI P := by
  refine Ev.of mk_numbers_at (Nat.le_of_ble_eq_true rfl) (fun x hx hc hr => ?_)
  have hx : Cx 3 prog_5_method_3_code x := hx
  have hc : Cc y 2 0 x := hc
  show G x 0 [some (.ref 17), some (.int v1)] [] σ
  unfold f_numbers_at at h
  refine g_run hx [(.iload_n 1, 0, 0)] (pc' := 1) (lo' := [some (.ref 17), some (.int v1)]) (st' := [.int v1]) (σ' := σ) (by decide +kernel) rfl rfl ?_
  refine g_if_lt hx (off := 29) (tgt := 30) (by decide +kernel) (by decide) (fun c1 => ?_) (fun c1 => ?_)
  · have h := ok_t h c1
    refine g_run hx [(.iconst (-1), (-1), 0)] (pc' := 31) (lo' := [some (.ref 17), some (.int v1)]) (st' := [.int (-1)]) (σ' := σ) (by decide +kernel) rfl rfl ?_
    exact g_iret hx hr rfl _ rfl (by decide +kernel) (ok_some h)
  · have h := ok_f h c1
    refine g_run hx [(.iload_n 1, 0, 0), (.aload_n 0, 0, 0), (.getfield 9, 0, 0)] (pc' := 9) (lo' := [some (.ref 17), some (.int v1)]) (st' := [.int (gI σ 17 1), .int v1]) (σ' := σ) (by decide +kernel) rfl rfl ?_
    refine g_ic_ge hx (off := 21) (tgt := 30) (by decide +kernel) (by decide) (fun c9 => ?_) (fun c9 => ?_)
    · have h := ok_t h c9
      refine g_run hx [(.iconst (-1), (-1), 0)] (pc' := 31) (lo' := [some (.ref 17), some (.int v1)]) (st' := [.int (-1)]) (σ' := σ) (by decide +kernel) rfl rfl ?_
      exact g_iret hx hr rfl _ rfl (by decide +kernel) (ok_some h)
    · have h := ok_f h c9
      refine g_run hx [(.iload_n 1, 0, 0), (.aload_n 0, 0, 0), (.getfield 21, 0, 0), (.arraylength, 0, 0)] (pc' := 18) (lo' := [some (.ref 17), some (.int v1)]) (st' := [.int (nI 8), .int v1]) (σ' := σ) (by decide +kernel) rfl rfl ?_
      refine g_ic_ge hx (off := 12) (tgt := 30) (by decide +kernel) (by decide) (fun c18 => ?_) (fun c18 => ?_)
      · have h := ok_t h c18
        refine g_run hx [(.iconst (-1), (-1), 0)] (pc' := 31) (lo' := [some (.ref 17), some (.int v1)]) (st' := [.int (-1)]) (σ' := σ) (by decide +kernel) rfl rfl ?_
        exact g_iret hx hr rfl _ rfl (by decide +kernel) (ok_some h)
      · have h := ok_f h c18
        refine g_run hx [(.aload_n 0, 0, 0), (.getfield 21, 0, 0), (.iload_n 1, 0, 0)] (pc' := 26) (lo' := [some (.ref 17), some (.int v1)]) (st' := [.int v1, .ref 18]) (σ' := σ) (by decide +kernel) rfl rfl ?_
        obtain ⟨c26, h⟩ := ok_g h
        refine g_iald hx (by decide +kernel) (i := 18) (n := 8) rfl c26 ?_
        refine g_goto hx (off := 4) (tgt := 31) (by decide +kernel) (by decide) ?_
        exact g_iret hx hr rfl _ rfl (by decide +kernel) (ok_some h)
set_option maxRecDepth 100000 in
theorem s_numbers_at_19 {y : EX} {N : Nat} {v1 : Int32} {σ : Sg} {P : Int32 × Sg → Prop} (h : ok (f_numbers_at N 19 4 20 v1 σ) P) : Ev y M_numbers_at 0 [.ref 19, .int v1] σ rvI P := by
  refine Ev.of mk_numbers_at (Nat.le_of_ble_eq_true rfl) (fun x hx hc hr => ?_)
  have hx : Cx 3 prog_5_method_3_code x := hx
  have hc : Cc y 2 0 x := hc
  show G x 0 [some (.ref 19), some (.int v1)] [] σ
  unfold f_numbers_at at h
  refine g_run hx [(.iload_n 1, 0, 0)] (pc' := 1) (lo' := [some (.ref 19), some (.int v1)]) (st' := [.int v1]) (σ' := σ) (by decide +kernel) rfl rfl ?_
  refine g_if_lt hx (off := 29) (tgt := 30) (by decide +kernel) (by decide) (fun c1 => ?_) (fun c1 => ?_)
  · have h := ok_t h c1
    refine g_run hx [(.iconst (-1), (-1), 0)] (pc' := 31) (lo' := [some (.ref 19), some (.int v1)]) (st' := [.int (-1)]) (σ' := σ) (by decide +kernel) rfl rfl ?_
    exact g_iret hx hr rfl _ rfl (by decide +kernel) (ok_some h)
  · have h := ok_f h c1
    refine g_run hx [(.iload_n 1, 0, 0), (.aload_n 0, 0, 0), (.getfield 9, 0, 0)] (pc' := 9) (lo' := [some (.ref 19), some (.int v1)]) (st' := [.int (gI σ 19 1), .int v1]) (σ' := σ) (by decide +kernel) rfl rfl ?_
    refine g_ic_ge hx (off := 21) (tgt := 30) (by decide +kernel) (by decide) (fun c9 => ?_) (fun c9 => ?_)
    · have h := ok_t h c9
      refine g_run hx [(.iconst (-1), (-1), 0)] (pc' := 31) (lo' := [some (.ref 19), some (.int v1)]) (st' := [.int (-1)]) (σ' := σ) (by decide +kernel) rfl rfl ?_
      exact g_iret hx hr rfl _ rfl (by decide +kernel) (ok_some h)
    · have h := ok_f h c9
      refine g_run hx [(.iload_n 1, 0, 0), (.aload_n 0, 0, 0), (.getfield 21, 0, 0), (.arraylength, 0, 0)] (pc' := 18) (lo' := [some (.ref 19), some (.int v1)]) (st' := [.int (nI 4), .int v1]) (σ' := σ) (by decide +kernel) rfl rfl ?_
      refine g_ic_ge hx (off := 12) (tgt := 30) (by decide +kernel) (by decide) (fun c18 => ?_) (fun c18 => ?_)
      · have h := ok_t h c18
        refine g_run hx [(.iconst (-1), (-1), 0)] (pc' := 31) (lo' := [some (.ref 19), some (.int v1)]) (st' := [.int (-1)]) (σ' := σ) (by decide +kernel) rfl rfl ?_
        exact g_iret hx hr rfl _ rfl (by decide +kernel) (ok_some h)
      · have h := ok_f h c18
        refine g_run hx [(.aload_n 0, 0, 0), (.getfield 21, 0, 0), (.iload_n 1, 0, 0)] (pc' := 26) (lo' := [some (.ref 19), some (.int v1)]) (st' := [.int v1, .ref 20]) (σ' := σ) (by decide +kernel) rfl rfl ?_
        obtain ⟨c26, h⟩ := ok_g h
        refine g_iald hx (by decide +kernel) (i := 20) (n := 4) rfl c26 ?_
        refine g_goto hx (off := 4) (tgt := 31) (by decide +kernel) (by decide) ?_
        exact g_iret hx hr rfl _ rfl (by decide +kernel) (ok_some h)
def f_numbers_indexOf_L2 (N : Nat) (a0 : Nat) (a1 : Nat) (a2 : Nat) : Nat → Int32 → Int32 → Sg → Option (Int32 × Sg)
  | 0, _, _, _ => none
  | n + 1, v1, v2, σ =>
    if (gI σ a0 1) ≤ v2 then
      some ((-2), σ)
    else
      (f_numbers_at N a0 a1 a2 v2 σ).bind fun q1 =>
      if q1.1 = v1 then
        some (v2, q1.2)
      else
        f_numbers_indexOf_L2 N a0 a1 a2 n v1 (v2 + 1) q1.2
def f_numbers_indexOf (N : Nat) (a0 : Nat) (a1 : Nat) (a2 : Nat) (v1 : Int32) (σ : Sg) : Option (Int32 × Sg) :=
  f_numbers_indexOf_L2 N a0 a1 a2 N v1 0 σ
set_option maxRecDepth 100000 in
theorem s_numbers_indexOf_19_L2 {y : EX} {N : Nat} {x : CX} {P : Int32 × Sg → Prop} (hx : Cx 3 prog_5_method_4_code x) (hc : Cc y 3 1 x) (hr : Cr M_numbers_indexOf rvI P x) : ∀ (n : Nat) (v1 : Int32) (v2 : Int32) (σ : Sg), ok (f_numbers_indexOf_L2 N 19 4 20 n v1 v2 σ) P → G x 2 [some (.ref 19), some (.int v1), some (.int v2)] [] σ := by
  intro n
  induction n with
  | zero => intro v1 v2 σ h; exact ok_none h
  | succ n ih =>
    intro v1 v2 σ h
    rw [f_numbers_indexOf_L2] at h
    refine g_run hx [(.iload_n 2, 0, 0), (.aload_n 0, 0, 0), (.getfield 9, 0, 0)] (pc' := 7) (lo' := [some (.ref 19), some (.int v1), some (.int v2)]) (st' := [.int (gI σ 19 1), .int v2]) (σ' := σ) (by decide +kernel) rfl rfl ?_
    refine g_ic_ge hx (off := 20) (tgt := 27) (by decide +kernel) (by decide) (fun c7 => ?_) (fun c7 => ?_)
    · have h := ok_t h c7
      refine g_run hx [(.bipush (-2), (-2), 0)] (pc' := 29) (lo' := [some (.ref 19), some (.int v1), some (.int v2)]) (st' := [.int (-2)]) (σ' := σ) (by decide +kernel) rfl rfl ?_
      exact g_iret hx hr rfl _ rfl (by decide +kernel) (ok_some h)
    · have h := ok_f h c7
      refine g_run hx [(.aload_n 0, 0, 0), (.iload_n 2, 0, 0)] (pc' := 12) (lo' := [some (.ref 19), some (.int v1), some (.int v2)]) (st' := [.int v2, .ref 19]) (σ' := σ) (by decide +kernel) rfl rfl ?_
      refine g_callV (rest := []) [.int v2] hx hc mk_numbers_at ln_3_25 rfl (by decide +kernel) (by decide) (Nat.le_of_ble_eq_true rfl) (s_numbers_at_19 (ok_b h)) (fun r1 s1 h => ?_)
      refine g_run hx [(.iload_n 1, 0, 0)] (pc' := 16) (lo' := [some (.ref 19), some (.int v1), some (.int v2)]) (st' := [.int v1, .int r1]) (σ' := s1) (by decide +kernel) rfl rfl ?_
      refine g_ic_ne hx (off := 5) (tgt := 21) (by decide +kernel) (by decide) (fun c16 => ?_) (fun c16 => ?_)
      · have h := ok_f h c16
        refine g_run hx [(.iinc 2 1, 1, 0)] (pc' := 24) (lo' := [some (.ref 19), some (.int v1), some (.int (v2 + 1))]) (st' := []) (σ' := s1) (by decide +kernel) rfl rfl ?_
        refine g_goto hx (off := (-22)) (tgt := 2) (by decide +kernel) (by decide) ?_
        exact ih _ _ _ h
      · have h := ok_t h c16
        refine g_run hx [(.iload_n 2, 0, 0)] (pc' := 20) (lo' := [some (.ref 19), some (.int v1), some (.int v2)]) (st' := [.int v2]) (σ' := s1) (by decide +kernel) rfl rfl ?_
        exact g_iret hx hr rfl _ rfl (by decide +kernel) (ok_some h)
set_option maxRecDepth 100000 in
theorem s_numbers_indexOf_19 {y : EX} {N : Nat} {v1 : Int32} {σ : Sg} {P : Int32 × Sg → Prop} (h : ok (f_numbers_indexOf N 19 4 20 v1 σ) P) : Ev y M_numbers_indexOf 1 [.ref 19, .int v1] σ rvI P := by
  refine Ev.of mk_numbers_indexOf (Nat.le_of_ble_eq_true rfl) (fun x hx hc hr => ?_)
  have hx : Cx 3 prog_5_method_4_code x := hx
  have hc : Cc y 3 1 x := hc
  show G x 0 [some (.ref 19), some (.int v1), none] [] σ
  unfold f_numbers_indexOf at h
  refine g_run hx [(.iconst 0, 0, 0), (.istore_n 2, 0, 0)] (pc' := 2) (lo' := [some (.ref 19), some (.int v1), some (.int 0)]) (st' := []) (σ' := σ) (by decide +kernel) rfl rfl ?_
  refine s_numbers_indexOf_19_L2 hx hc hr N _ _ _ h
def f_country_digitIn (N : Nat) (v1 : Int32) (v2 : Int32) (σ : Sg) : Option (Int32 × Sg) :=
  (f_numbers_at N 17 8 18 v2 σ).bind fun q1 =>
  (f_numbers_indexOf N 19 4 20 v2 q1.2).bind fun q2 =>
  (f_x_bit N (Int32.toInt64 v1) q2.1 q2.2).bind fun q3 =>
  if q3.1 = true then
    if (q1.1 - q1.1 / 2 * 2) = 1 then
      some ((q1.1 + 1), q3.2)
    else
      some ((q1.1 - 1), q3.2)
  else
    some (q1.1, q3.2)
set_option maxRecDepth 100000 in
theorem s_country_digitIn {y : EX} {N : Nat} {v1 : Int32} {v2 : Int32} {σ : Sg} {P : Int32 × Sg → Prop} (h : ok (f_country_digitIn N v1 v2 σ) P) : Ev y M_country_digitIn 2 [.ref 10, .int v1, .int v2] σ rvI P := by
  refine Ev.of mk_country_digitIn (Nat.le_of_ble_eq_true rfl) (fun x hx hc hr => ?_)
  have hx : Cx 1 prog_3_method_19_code x := hx
  have hc : Cc y 4 2 x := hc
  show G x 0 [some (.ref 10), some (.int v1), some (.int v2), none] [] σ
  unfold f_country_digitIn at h
  refine g_run hx [(.aload_n 0, 0, 0), (.getfield 46, 0, 0), (.iload_n 2, 0, 0)] (pc' := 5) (lo' := [some (.ref 10), some (.int v1), some (.int v2), none]) (st' := [.int v2, .ref 17]) (σ' := σ) (by decide +kernel) rfl rfl ?_
  refine g_callV (rest := []) [.int v2] hx hc mk_numbers_at ln_1_81 rfl (by decide +kernel) (by decide) (Nat.le_of_ble_eq_true rfl) (s_numbers_at_17 (ok_b h)) (fun r1 s1 h => ?_)
  refine g_run hx [(.istore_n 3, 0, 0), (.iload_n 1, 0, 0), (.i2l, 0, 0), (.aload_n 0, 0, 0), (.getfield 49, 0, 0), (.iload_n 2, 0, 0)] (pc' := 16) (lo' := [some (.ref 10), some (.int v1), some (.int v2), some (.int r1)]) (st' := [.int v2, .ref 19, .long (Int32.toInt64 v1)]) (σ' := s1) (by decide +kernel) rfl rfl ?_
  refine g_callV (rest := [.long (Int32.toInt64 v1)]) [.int v2] hx hc mk_numbers_indexOf ln_1_77 rfl (by decide +kernel) (by decide) (Nat.le_of_ble_eq_true rfl) (s_numbers_indexOf_19 (ok_b h)) (fun r2 s2 h => ?_)
  refine g_callN (rest := []) [.long (Int32.toInt64 v1), .int r2] hx hc mk_x_bit ln_1_73 (by decide +kernel) (by decide) (Nat.le_of_ble_eq_true rfl) (s_x_bit (ok_b h)) (fun r3 s3 h => ?_)
  refine g_ifb_ne hx (off := 5) (tgt := 27) (by decide +kernel) (by decide) (fun c22 => ?_) (fun c22 => ?_)
  · have h := ok_t h c22
    refine g_run hx [(.iload_n 3, 0, 0), (.iconst 2, 2, 0), (.irem, 0, 0), (.iconst 1, 1, 0)] (pc' := 31) (lo' := [some (.ref 10), some (.int v1), some (.int v2), some (.int r1)]) (st' := [.int 1, .int (r1 - r1 / 2 * 2)]) (σ' := s3) (by decide +kernel) rfl rfl ?_
    refine g_ic_ne hx (off := 9) (tgt := 40) (by decide +kernel) (by decide) (fun c31 => ?_) (fun c31 => ?_)
    · have h := ok_f h c31
      refine g_run hx [(.iload_n 3, 0, 0), (.iconst 1, 1, 0), (.isub, 0, 0)] (pc' := 43) (lo' := [some (.ref 10), some (.int v1), some (.int v2), some (.int r1)]) (st' := [.int (r1 - 1)]) (σ' := s3) (by decide +kernel) rfl rfl ?_
      exact g_iret hx hr rfl _ rfl (by decide +kernel) (ok_some h)
    · have h := ok_t h c31
      refine g_run hx [(.iload_n 3, 0, 0), (.iconst 1, 1, 0), (.iadd, 0, 0)] (pc' := 37) (lo' := [some (.ref 10), some (.int v1), some (.int v2), some (.int r1)]) (st' := [.int (r1 + 1)]) (σ' := s3) (by decide +kernel) rfl rfl ?_
      refine g_goto hx (off := 6) (tgt := 43) (by decide +kernel) (by decide) ?_
      exact g_iret hx hr rfl _ rfl (by decide +kernel) (ok_some h)
  · have h := ok_f h c22
    refine g_run hx [(.iload_n 3, 0, 0)] (pc' := 26) (lo' := [some (.ref 10), some (.int v1), some (.int v2), some (.int r1)]) (st' := [.int r1]) (σ' := s3) (by decide +kernel) rfl rfl ?_
    exact g_iret hx hr rfl _ rfl (by decide +kernel) (ok_some h)
set_option maxRecDepth 100000 in
theorem s_numbers_at_11 {y : EX} {N : Nat} {v1 : Int32} {σ : Sg} {P : Int32 × Sg → Prop} (h : ok (f_numbers_at N 11 3 12 v1 σ) P) : Ev y M_numbers_at 0 [.ref 11, .int v1] σ rvI P := by
  refine Ev.of mk_numbers_at (Nat.le_of_ble_eq_true rfl) (fun x hx hc hr => ?_)
  have hx : Cx 3 prog_5_method_3_code x := hx
  have hc : Cc y 2 0 x := hc
  show G x 0 [some (.ref 11), some (.int v1)] [] σ
  unfold f_numbers_at at h
  refine g_run hx [(.iload_n 1, 0, 0)] (pc' := 1) (lo' := [some (.ref 11), some (.int v1)]) (st' := [.int v1]) (σ' := σ) (by decide +kernel) rfl rfl ?_
  refine g_if_lt hx (off := 29) (tgt := 30) (by decide +kernel) (by decide) (fun c1 => ?_) (fun c1 => ?_)
  · have h := ok_t h c1
    refine g_run hx [(.iconst (-1), (-1), 0)] (pc' := 31) (lo' := [some (.ref 11), some (.int v1)]) (st' := [.int (-1)]) (σ' := σ) (by decide +kernel) rfl rfl ?_
    exact g_iret hx hr rfl _ rfl (by decide +kernel) (ok_some h)
  · have h := ok_f h c1
    refine g_run hx [(.iload_n 1, 0, 0), (.aload_n 0, 0, 0), (.getfield 9, 0, 0)] (pc' := 9) (lo' := [some (.ref 11), some (.int v1)]) (st' := [.int (gI σ 11 1), .int v1]) (σ' := σ) (by decide +kernel) rfl rfl ?_
    refine g_ic_ge hx (off := 21) (tgt := 30) (by decide +kernel) (by decide) (fun c9 => ?_) (fun c9 => ?_)
    · have h := ok_t h c9
      refine g_run hx [(.iconst (-1), (-1), 0)] (pc' := 31) (lo' := [some (.ref 11), some (.int v1)]) (st' := [.int (-1)]) (σ' := σ) (by decide +kernel) rfl rfl ?_
      exact g_iret hx hr rfl _ rfl (by decide +kernel) (ok_some h)
    · have h := ok_f h c9
      refine g_run hx [(.iload_n 1, 0, 0), (.aload_n 0, 0, 0), (.getfield 21, 0, 0), (.arraylength, 0, 0)] (pc' := 18) (lo' := [some (.ref 11), some (.int v1)]) (st' := [.int (nI 3), .int v1]) (σ' := σ) (by decide +kernel) rfl rfl ?_
      refine g_ic_ge hx (off := 12) (tgt := 30) (by decide +kernel) (by decide) (fun c18 => ?_) (fun c18 => ?_)
      · have h := ok_t h c18
        refine g_run hx [(.iconst (-1), (-1), 0)] (pc' := 31) (lo' := [some (.ref 11), some (.int v1)]) (st' := [.int (-1)]) (σ' := σ) (by decide +kernel) rfl rfl ?_
        exact g_iret hx hr rfl _ rfl (by decide +kernel) (ok_some h)
      · have h := ok_f h c18
        refine g_run hx [(.aload_n 0, 0, 0), (.getfield 21, 0, 0), (.iload_n 1, 0, 0)] (pc' := 26) (lo' := [some (.ref 11), some (.int v1)]) (st' := [.int v1, .ref 12]) (σ' := σ) (by decide +kernel) rfl rfl ?_
        obtain ⟨c26, h⟩ := ok_g h
        refine g_iald hx (by decide +kernel) (i := 12) (n := 3) rfl c26 ?_
        refine g_goto hx (off := 4) (tgt := 31) (by decide +kernel) (by decide) ?_
        exact g_iret hx hr rfl _ rfl (by decide +kernel) (ok_some h)
def f_country_target (N : Nat) (a0 : Nat) (a1 : Nat) (a2 : Nat) (a3 : Nat) (v1 : Int64) (v3 : Int32) (v4 : Int32) (σ : Sg) : Option (Int32 × Sg) :=
  (f_numbers_at N a0 a1 a2 ((v4 - 1) / 2) σ).bind fun q1 =>
  if (v4 - v4 / 2 * 2) = 1 then
    if (v3 + q1.1) < 0 then
      some ((-2), q1.2)
    else
      if (gI q1.2 a3 0) ≤ (v3 + q1.1) then
        some ((-2), q1.2)
      else
        (f_x_bit N v1 (v3 + q1.1) q1.2).bind fun q3 =>
        if q3.1 = true then
          some ((-2), q3.2)
        else
          some ((v3 + q1.1), q3.2)
  else
    if (v3 - q1.1) < 0 then
      some ((-2), q1.2)
    else
      if (gI q1.2 a3 0) ≤ (v3 - q1.1) then
        some ((-2), q1.2)
      else
        (f_x_bit N v1 (v3 - q1.1) q1.2).bind fun q2 =>
        if q2.1 = true then
          some ((-2), q2.2)
        else
          some ((v3 - q1.1), q2.2)
set_option maxRecDepth 100000 in
theorem s_country_target_10 {y : EX} {N : Nat} {v1 : Int64} {v3 : Int32} {v4 : Int32} {σ : Sg} {P : Int32 × Sg → Prop} (h : ok (f_country_target N 11 3 12 10 v1 v3 v4 σ) P) : Ev y M_country_target 1 [.ref 10, .long v1, .int v3, .int v4] σ rvI P := by
  refine Ev.of mk_country_target (Nat.le_of_ble_eq_true rfl) (fun x hx hc hr => ?_)
  have hx : Cx 1 prog_3_method_13_code x := hx
  have hc : Cc y 7 1 x := hc
  show G x 0 [some (.ref 10), some (.long v1), none, some (.int v3), some (.int v4), none, none] [] σ
  unfold f_country_target at h
  refine g_run hx [(.aload_n 0, 0, 0), (.getfield 36, 0, 0), (.iload 4, 0, 0), (.iconst 1, 1, 0), (.isub, 0, 0), (.iconst 2, 2, 0), (.idiv, 0, 0)] (pc' := 10) (lo' := [some (.ref 10), some (.long v1), none, some (.int v3), some (.int v4), none, none]) (st' := [.int ((v4 - 1) / 2), .ref 11]) (σ' := σ) (by decide +kernel) rfl rfl ?_
  refine g_callV (rest := []) [.int ((v4 - 1) / 2)] hx hc mk_numbers_at ln_1_81 rfl (by decide +kernel) (by decide) (Nat.le_of_ble_eq_true rfl) (s_numbers_at_11 (ok_b h)) (fun r1 s1 h => ?_)
  refine g_run hx [(.istore 5, 0, 0), (.iload 4, 0, 0), (.iconst 2, 2, 0), (.irem, 0, 0), (.iconst 1, 1, 0)] (pc' := 20) (lo' := [some (.ref 10), some (.long v1), none, some (.int v3), some (.int v4), some (.int r1), none]) (st' := [.int 1, .int (v4 - v4 / 2 * 2)]) (σ' := s1) (by decide +kernel) rfl rfl ?_
  refine g_ic_ne hx (off := 10) (tgt := 30) (by decide +kernel) (by decide) (fun c20 => ?_) (fun c20 => ?_)
  · have h := ok_f h c20
    refine g_run hx [(.iload_n 3, 0, 0), (.iload 5, 0, 0), (.isub, 0, 0), (.istore 6, 0, 0), (.iload 6, 0, 0)] (pc' := 38) (lo' := [some (.ref 10), some (.long v1), none, some (.int v3), some (.int v4), some (.int r1), some (.int (v3 - r1))]) (st' := [.int (v3 - r1)]) (σ' := s1) (by decide +kernel) rfl rfl ?_
    refine g_if_lt hx (off := 21) (tgt := 59) (by decide +kernel) (by decide) (fun c38 => ?_) (fun c38 => ?_)
    · have h := ok_t h c38
      refine g_run hx [(.bipush (-2), (-2), 0)] (pc' := 61) (lo' := [some (.ref 10), some (.long v1), none, some (.int v3), some (.int v4), some (.int r1), some (.int (v3 - r1))]) (st' := [.int (-2)]) (σ' := s1) (by decide +kernel) rfl rfl ?_
      refine g_goto hx (off := 5) (tgt := 66) (by decide +kernel) (by decide) ?_
      exact g_iret hx hr rfl _ rfl (by decide +kernel) (ok_some h)
    · have h := ok_f h c38
      refine g_run hx [(.iload 6, 0, 0), (.aload_n 0, 0, 0), (.getfield 9, 0, 0)] (pc' := 47) (lo' := [some (.ref 10), some (.long v1), none, some (.int v3), some (.int v4), some (.int r1), some (.int (v3 - r1))]) (st' := [.int (gI s1 10 0), .int (v3 - r1)]) (σ' := s1) (by decide +kernel) rfl rfl ?_
      refine g_ic_ge hx (off := 12) (tgt := 59) (by decide +kernel) (by decide) (fun c47 => ?_) (fun c47 => ?_)
      · have h := ok_t h c47
        refine g_run hx [(.bipush (-2), (-2), 0)] (pc' := 61) (lo' := [some (.ref 10), some (.long v1), none, some (.int v3), some (.int v4), some (.int r1), some (.int (v3 - r1))]) (st' := [.int (-2)]) (σ' := s1) (by decide +kernel) rfl rfl ?_
        refine g_goto hx (off := 5) (tgt := 66) (by decide +kernel) (by decide) ?_
        exact g_iret hx hr rfl _ rfl (by decide +kernel) (ok_some h)
      · have h := ok_f h c47
        refine g_run hx [(.lload_n 1, 0, 0), (.iload 6, 0, 0)] (pc' := 53) (lo' := [some (.ref 10), some (.long v1), none, some (.int v3), some (.int v4), some (.int r1), some (.int (v3 - r1))]) (st' := [.int (v3 - r1), .long v1]) (σ' := s1) (by decide +kernel) rfl rfl ?_
        refine g_callN (rest := []) [.long v1, .int (v3 - r1)] hx hc mk_x_bit ln_1_73 (by decide +kernel) (by decide) (Nat.le_of_ble_eq_true rfl) (s_x_bit (ok_b h)) (fun r2 s2 h => ?_)
        refine g_ifb_eq hx (off := 8) (tgt := 64) (by decide +kernel) (by decide) (fun c56 => ?_) (fun c56 => ?_)
        · have h := ok_f h c56
          refine g_run hx [(.iload 6, 0, 0)] (pc' := 66) (lo' := [some (.ref 10), some (.long v1), none, some (.int v3), some (.int v4), some (.int r1), some (.int (v3 - r1))]) (st' := [.int (v3 - r1)]) (σ' := s2) (by decide +kernel) rfl rfl ?_
          exact g_iret hx hr rfl _ rfl (by decide +kernel) (ok_some h)
        · have h := ok_t h c56
          refine g_run hx [(.bipush (-2), (-2), 0)] (pc' := 61) (lo' := [some (.ref 10), some (.long v1), none, some (.int v3), some (.int v4), some (.int r1), some (.int (v3 - r1))]) (st' := [.int (-2)]) (σ' := s2) (by decide +kernel) rfl rfl ?_
          refine g_goto hx (off := 5) (tgt := 66) (by decide +kernel) (by decide) ?_
          exact g_iret hx hr rfl _ rfl (by decide +kernel) (ok_some h)
  · have h := ok_t h c20
    refine g_run hx [(.iload_n 3, 0, 0), (.iload 5, 0, 0), (.iadd, 0, 0)] (pc' := 27) (lo' := [some (.ref 10), some (.long v1), none, some (.int v3), some (.int v4), some (.int r1), none]) (st' := [.int (v3 + r1)]) (σ' := s1) (by decide +kernel) rfl rfl ?_
    refine g_goto hx (off := 7) (tgt := 34) (by decide +kernel) (by decide) ?_
    refine g_run hx [(.istore 6, 0, 0), (.iload 6, 0, 0)] (pc' := 38) (lo' := [some (.ref 10), some (.long v1), none, some (.int v3), some (.int v4), some (.int r1), some (.int (v3 + r1))]) (st' := [.int (v3 + r1)]) (σ' := s1) (by decide +kernel) rfl rfl ?_
    refine g_if_lt hx (off := 21) (tgt := 59) (by decide +kernel) (by decide) (fun c38 => ?_) (fun c38 => ?_)
    · have h := ok_t h c38
      refine g_run hx [(.bipush (-2), (-2), 0)] (pc' := 61) (lo' := [some (.ref 10), some (.long v1), none, some (.int v3), some (.int v4), some (.int r1), some (.int (v3 + r1))]) (st' := [.int (-2)]) (σ' := s1) (by decide +kernel) rfl rfl ?_
      refine g_goto hx (off := 5) (tgt := 66) (by decide +kernel) (by decide) ?_
      exact g_iret hx hr rfl _ rfl (by decide +kernel) (ok_some h)
    · have h := ok_f h c38
      refine g_run hx [(.iload 6, 0, 0), (.aload_n 0, 0, 0), (.getfield 9, 0, 0)] (pc' := 47) (lo' := [some (.ref 10), some (.long v1), none, some (.int v3), some (.int v4), some (.int r1), some (.int (v3 + r1))]) (st' := [.int (gI s1 10 0), .int (v3 + r1)]) (σ' := s1) (by decide +kernel) rfl rfl ?_
      refine g_ic_ge hx (off := 12) (tgt := 59) (by decide +kernel) (by decide) (fun c47 => ?_) (fun c47 => ?_)
      · have h := ok_t h c47
        refine g_run hx [(.bipush (-2), (-2), 0)] (pc' := 61) (lo' := [some (.ref 10), some (.long v1), none, some (.int v3), some (.int v4), some (.int r1), some (.int (v3 + r1))]) (st' := [.int (-2)]) (σ' := s1) (by decide +kernel) rfl rfl ?_
        refine g_goto hx (off := 5) (tgt := 66) (by decide +kernel) (by decide) ?_
        exact g_iret hx hr rfl _ rfl (by decide +kernel) (ok_some h)
      · have h := ok_f h c47
        refine g_run hx [(.lload_n 1, 0, 0), (.iload 6, 0, 0)] (pc' := 53) (lo' := [some (.ref 10), some (.long v1), none, some (.int v3), some (.int v4), some (.int r1), some (.int (v3 + r1))]) (st' := [.int (v3 + r1), .long v1]) (σ' := s1) (by decide +kernel) rfl rfl ?_
        refine g_callN (rest := []) [.long v1, .int (v3 + r1)] hx hc mk_x_bit ln_1_73 (by decide +kernel) (by decide) (Nat.le_of_ble_eq_true rfl) (s_x_bit (ok_b h)) (fun r3 s3 h => ?_)
        refine g_ifb_eq hx (off := 8) (tgt := 64) (by decide +kernel) (by decide) (fun c56 => ?_) (fun c56 => ?_)
        · have h := ok_f h c56
          refine g_run hx [(.iload 6, 0, 0)] (pc' := 66) (lo' := [some (.ref 10), some (.long v1), none, some (.int v3), some (.int v4), some (.int r1), some (.int (v3 + r1))]) (st' := [.int (v3 + r1)]) (σ' := s3) (by decide +kernel) rfl rfl ?_
          exact g_iret hx hr rfl _ rfl (by decide +kernel) (ok_some h)
        · have h := ok_t h c56
          refine g_run hx [(.bipush (-2), (-2), 0)] (pc' := 61) (lo' := [some (.ref 10), some (.long v1), none, some (.int v3), some (.int v4), some (.int r1), some (.int (v3 + r1))]) (st' := [.int (-2)]) (σ' := s3) (by decide +kernel) rfl rfl ?_
          refine g_goto hx (off := 5) (tgt := 66) (by decide +kernel) (by decide) ?_
          exact g_iret hx hr rfl _ rfl (by decide +kernel) (ok_some h)
def f_x_below (N : Nat) (v0 : Int32) (σ : Sg) : Option (Int64 × Sg) :=
  if 0 < v0 then
    if v0 < 64 then
      some ((1 <<< (Int32.toInt64 v0 &&& 63)) - 1, σ)
    else
      some ((-1), σ)
  else
    some (0, σ)
set_option maxRecDepth 100000 in
theorem s_x_below {y : EX} {N : Nat} {v0 : Int32} {σ : Sg} {P : Int64 × Sg → Prop} (h : ok (f_x_below N v0 σ) P) : Ev y M_x_below 0 [.int v0] σ rvL P := by
  refine Ev.of mk_x_below (Nat.le_of_ble_eq_true rfl) (fun x hx hc hr => ?_)
  have hx : Cx 9 prog_1_method_83_code x := hx
  have hc : Cc y 1 0 x := hc
  show G x 0 [some (.int v0)] [] σ
  unfold f_x_below at h
  refine g_run hx [(.iload_n 0, 0, 0)] (pc' := 1) (lo' := [some (.int v0)]) (st' := [.int v0]) (σ' := σ) (by decide +kernel) rfl rfl ?_
  refine g_if_gt hx (off := 7) (tgt := 8) (by decide +kernel) (by decide) (fun c1 => ?_) (fun c1 => ?_)
  · have h := ok_t h c1
    refine g_run hx [(.iload_n 0, 0, 0), (.bipush 64, 64, 0)] (pc' := 11) (lo' := [some (.int v0)]) (st' := [.int 64, .int v0]) (σ' := σ) (by decide +kernel) rfl rfl ?_
    refine g_ic_lt hx (off := 9) (tgt := 20) (by decide +kernel) (by decide) (fun c11 => ?_) (fun c11 => ?_)
    · have h := ok_t h c11
      refine g_run hx [(.lconst 1, 0, 1), (.iload_n 0, 0, 0), (.lshl, 0, 0), (.lconst 1, 0, 1), (.lsub, 0, 0)] (pc' := 25) (lo' := [some (.int v0)]) (st' := [.long ((1 <<< (Int32.toInt64 v0 &&& 63)) - 1)]) (σ' := σ) (by decide +kernel) rfl rfl ?_
      exact g_lret hx hr rfl _ rfl (by decide +kernel) (ok_some h)
    · have h := ok_f h c11
      refine g_run hx [(.ldc2_w 174, 0, (-1))] (pc' := 17) (lo' := [some (.int v0)]) (st' := [.long (-1)]) (σ' := σ) (by decide +kernel) rfl rfl ?_
      refine g_goto hx (off := 8) (tgt := 25) (by decide +kernel) (by decide) ?_
      exact g_lret hx hr rfl _ rfl (by decide +kernel) (ok_some h)
  · have h := ok_f h c1
    refine g_run hx [(.lconst 0, 0, 0)] (pc' := 5) (lo' := [some (.int v0)]) (st' := [.long 0]) (σ' := σ) (by decide +kernel) rfl rfl ?_
    refine g_goto hx (off := 20) (tgt := 25) (by decide +kernel) (by decide) ?_
    exact g_lret hx hr rfl _ rfl (by decide +kernel) (ok_some h)
def f_x_inside (N : Nat) (v0 : Int32) (v1 : Int32) (σ : Sg) : Option (Int64 × Sg) :=
  (f_x_below N (jmax v0 v1) σ).bind fun q1 =>
  (f_x_below N ((jmin v0 v1) + 1) q1.2).bind fun q2 =>
  some (q1.1 &&& (q2.1 ^^^ (-1)), q2.2)
set_option maxRecDepth 100000 in
theorem s_x_inside {y : EX} {N : Nat} {v0 : Int32} {v1 : Int32} {σ : Sg} {P : Int64 × Sg → Prop} (h : ok (f_x_inside N v0 v1 σ) P) : Ev y M_x_inside 1 [.int v0, .int v1] σ rvL P := by
  refine Ev.of mk_x_inside (Nat.le_of_ble_eq_true rfl) (fun x hx hc hr => ?_)
  have hx : Cx 9 prog_1_method_85_code x := hx
  have hc : Cc y 2 1 x := hc
  show G x 0 [some (.int v0), some (.int v1)] [] σ
  unfold f_x_inside at h
  refine g_run hx [(.iload_n 0, 0, 0), (.iload_n 1, 0, 0)] (pc' := 2) (lo' := [some (.int v0), some (.int v1)]) (st' := [.int v1, .int v0]) (σ' := σ) (by decide +kernel) rfl rfl ?_
  refine g_mmax hx hc (by decide) ln_9_402 (by decide +kernel) (Nat.le_of_ble_eq_true rfl) ?_
  refine g_callS (rest := []) [.int (jmax v0 v1)] hx hc mk_x_below ln_9_405 (by decide +kernel) (by decide) (Nat.le_of_ble_eq_true rfl) (s_x_below (ok_b h)) (fun r1 s1 h => ?_)
  refine g_run hx [(.iload_n 0, 0, 0), (.iload_n 1, 0, 0)] (pc' := 10) (lo' := [some (.int v0), some (.int v1)]) (st' := [.int v1, .int v0, .long r1]) (σ' := s1) (by decide +kernel) rfl rfl ?_
  refine g_mmin hx hc (by decide) ln_9_408 (by decide +kernel) (Nat.le_of_ble_eq_true rfl) ?_
  refine g_run hx [(.iconst 1, 1, 0), (.iadd, 0, 0)] (pc' := 15) (lo' := [some (.int v0), some (.int v1)]) (st' := [.int ((jmin v0 v1) + 1), .long r1]) (σ' := s1) (by decide +kernel) rfl rfl ?_
  refine g_callS (rest := [.long r1]) [.int ((jmin v0 v1) + 1)] hx hc mk_x_below ln_9_405 (by decide +kernel) (by decide) (Nat.le_of_ble_eq_true rfl) (s_x_below (ok_b h)) (fun r2 s2 h => ?_)
  refine g_run hx [(.ldc2_w 174, 0, (-1)), (.lxor, 0, 0), (.land, 0, 0)] (pc' := 23) (lo' := [some (.int v0), some (.int v1)]) (st' := [.long (r1 &&& (r2 ^^^ (-1)))]) (σ' := s2) (by decide +kernel) rfl rfl ?_
  exact g_lret hx hr rfl _ rfl (by decide +kernel) (ok_some h)
def f_country_fitsAll_L11 (N : Nat) : Nat → Int32 → Int64 → Int32 → Int32 → Sg → Option (Bool × Sg)
  | 0, _, _, _, _, _ => none
  | n + 1, v1, v2, v4, v5, σ =>
    if (gI σ 17 1) ≤ v5 then
      (f_country_unlikeSeen N v2 σ).bind fun q1 =>
      if q1.1 = (-2) then
        some (true, q1.2)
      else
        some (false, q1.2)
    else
      (f_country_digitIn N v1 v5 σ).bind fun q2 =>
      (f_country_target N 11 3 12 10 v2 v4 q2.1 q2.2).bind fun q3 =>
      if q3.1 = (-2) then
        some (false, q3.2)
      else
        (f_x_inside N v4 q3.1 q3.2).bind fun q4 =>
        f_country_fitsAll_L11 N n v1 (v2 ||| q4.1) q3.1 (v5 + 1) q4.2
def f_country_fitsAll (N : Nat) (v1 : Int32) (σ : Sg) : Option (Bool × Sg) :=
  f_country_fitsAll_L11 N N v1 0 (gI σ 10 2) 0 σ
set_option maxRecDepth 100000 in
theorem s_country_fitsAll_L11 {y : EX} {N : Nat} {x : CX} {P : Bool × Sg → Prop} (hx : Cx 1 prog_3_method_18_code x) (hc : Cc y 7 3 x) (hr : Cr M_country_fitsAll rvB P x) : ∀ (n : Nat) (v1 : Int32) (v2 : Int64) (v4 : Int32) (v5 : Int32) (σ : Sg), ok (f_country_fitsAll_L11 N n v1 v2 v4 v5 σ) P → G x 11 [some (.ref 10), some (.int v1), some (.long v2), none, some (.int v4), some (.int v5), none] [] σ := by
  intro n
  induction n with
  | zero => intro v1 v2 v4 v5 σ h; exact ok_none h
  | succ n ih =>
    intro v1 v2 v4 v5 σ h
    rw [f_country_fitsAll_L11] at h
    refine g_run hx [(.iload 5, 0, 0), (.aload_n 0, 0, 0), (.getfield 46, 0, 0), (.getfield 64, 0, 0)] (pc' := 20) (lo' := [some (.ref 10), some (.int v1), some (.long v2), none, some (.int v4), some (.int v5), none]) (st' := [.int (gI σ 17 1), .int v5]) (σ' := σ) (by decide +kernel) rfl rfl ?_
    refine g_ic_ge hx (off := 48) (tgt := 68) (by decide +kernel) (by decide) (fun c20 => ?_) (fun c20 => ?_)
    · have h := ok_t h c20
      refine g_run hx [(.aload_n 0, 0, 0), (.lload_n 2, 0, 0)] (pc' := 70) (lo' := [some (.ref 10), some (.int v1), some (.long v2), none, some (.int v4), some (.int v5), none]) (st' := [.long v2, .ref 10]) (σ' := σ) (by decide +kernel) rfl rfl ?_
      refine g_callV (rest := []) [.long v2] hx hc mk_country_unlikeSeen ln_1_113 rfl (by decide +kernel) (by decide) (Nat.le_of_ble_eq_true rfl) (s_country_unlikeSeen (ok_b h)) (fun r1 s1 h => ?_)
      refine g_run hx [(.bipush (-2), (-2), 0)] (pc' := 75) (lo' := [some (.ref 10), some (.int v1), some (.long v2), none, some (.int v4), some (.int v5), none]) (st' := [.int (-2), .int r1]) (σ' := s1) (by decide +kernel) rfl rfl ?_
      refine g_ic_ne hx (off := 7) (tgt := 82) (by decide +kernel) (by decide) (fun c75 => ?_) (fun c75 => ?_)
      · have h := ok_f h c75
        refine g_run hx [(.iconst 0, 0, 0)] (pc' := 83) (lo' := [some (.ref 10), some (.int v1), some (.long v2), none, some (.int v4), some (.int v5), none]) (st' := [.int 0]) (σ' := s1) (by decide +kernel) rfl rfl ?_
        exact g_zret (b := false) hx hr rfl false rfl (by decide +kernel) (ok_some h)
      · have h := ok_t h c75
        refine g_run hx [(.iconst 1, 1, 0)] (pc' := 79) (lo' := [some (.ref 10), some (.int v1), some (.long v2), none, some (.int v4), some (.int v5), none]) (st' := [.int 1]) (σ' := s1) (by decide +kernel) rfl rfl ?_
        refine g_goto hx (off := 4) (tgt := 83) (by decide +kernel) (by decide) ?_
        exact g_zret (b := true) hx hr rfl true rfl (by decide +kernel) (ok_some h)
    · have h := ok_f h c20
      refine g_run hx [(.aload_n 0, 0, 0), (.lload_n 2, 0, 0), (.iload 4, 0, 0), (.aload_n 0, 0, 0), (.iload_n 1, 0, 0), (.iload 5, 0, 0)] (pc' := 31) (lo' := [some (.ref 10), some (.int v1), some (.long v2), none, some (.int v4), some (.int v5), none]) (st' := [.int v5, .int v1, .ref 10, .int v4, .long v2, .ref 10]) (σ' := σ) (by decide +kernel) rfl rfl ?_
      refine g_callV (rest := [.int v4, .long v2, .ref 10]) [.int v1, .int v5] hx hc mk_country_digitIn ln_1_105 rfl (by decide +kernel) (by decide) (Nat.le_of_ble_eq_true rfl) (s_country_digitIn (ok_b h)) (fun r2 s2 h => ?_)
      refine g_callV (rest := []) [.long v2, .int v4, .int r2] hx hc mk_country_target ln_1_109 rfl (by decide +kernel) (by decide) (Nat.le_of_ble_eq_true rfl) (s_country_target_10 (ok_b h)) (fun r3 s3 h => ?_)
      refine g_run hx [(.istore 6, 0, 0), (.iload 6, 0, 0), (.bipush (-2), (-2), 0)] (pc' := 43) (lo' := [some (.ref 10), some (.int v1), some (.long v2), none, some (.int v4), some (.int v5), some (.int r3)]) (st' := [.int (-2), .int r3]) (σ' := s3) (by decide +kernel) rfl rfl ?_
      refine g_ic_ne hx (off := 5) (tgt := 48) (by decide +kernel) (by decide) (fun c43 => ?_) (fun c43 => ?_)
      · have h := ok_f h c43
        refine g_run hx [(.lload_n 2, 0, 0), (.iload 4, 0, 0), (.iload 6, 0, 0)] (pc' := 53) (lo' := [some (.ref 10), some (.int v1), some (.long v2), none, some (.int v4), some (.int v5), some (.int r3)]) (st' := [.int r3, .int v4, .long v2]) (σ' := s3) (by decide +kernel) rfl rfl ?_
        refine g_callN (rest := [.long v2]) [.int v4, .int r3] hx hc mk_x_inside ln_1_88 (by decide +kernel) (by decide) (Nat.le_of_ble_eq_true rfl) (s_x_inside (ok_b h)) (fun r4 s4 h => ?_)
        refine g_run hx [(.lor, 0, 0), (.lstore_n 2, 0, 0), (.iload 6, 0, 0), (.istore 4, 0, 0), (.iinc 5 1, 1, 0)] (pc' := 65) (lo' := [some (.ref 10), some (.int v1), some (.long (v2 ||| r4)), none, some (.int r3), some (.int (v5 + 1)), some (.int r3)]) (st' := []) (σ' := s4) (by decide +kernel) rfl rfl ?_
        refine g_goto hx (off := (-54)) (tgt := 11) (by decide +kernel) (by decide) ?_
        refine g_wk (lo' := [some (.ref 10), some (.int v1), some (.long (v2 ||| r4)), none, some (.int r3), some (.int (v5 + 1)), none]) ⟨rfl, ⟨rfl, ⟨rfl, ⟨rfl, ⟨rfl, trivial⟩⟩⟩⟩⟩ ?_
        exact ih _ _ _ _ _ h
      · have h := ok_t h c43
        refine g_run hx [(.iconst 0, 0, 0)] (pc' := 47) (lo' := [some (.ref 10), some (.int v1), some (.long v2), none, some (.int v4), some (.int v5), some (.int r3)]) (st' := [.int 0]) (σ' := s3) (by decide +kernel) rfl rfl ?_
        exact g_zret (b := false) hx hr rfl false rfl (by decide +kernel) (ok_some h)
set_option maxRecDepth 100000 in
theorem s_country_fitsAll {y : EX} {N : Nat} {v1 : Int32} {σ : Sg} {P : Bool × Sg → Prop} (h : ok (f_country_fitsAll N v1 σ) P) : Ev y M_country_fitsAll 3 [.ref 10, .int v1] σ rvB P := by
  refine Ev.of mk_country_fitsAll (Nat.le_of_ble_eq_true rfl) (fun x hx hc hr => ?_)
  have hx : Cx 1 prog_3_method_18_code x := hx
  have hc : Cc y 7 3 x := hc
  show G x 0 [some (.ref 10), some (.int v1), none, none, none, none, none] [] σ
  unfold f_country_fitsAll at h
  refine g_run hx [(.lconst 0, 0, 0), (.lstore_n 2, 0, 0), (.aload_n 0, 0, 0), (.getfield 18, 0, 0), (.istore 4, 0, 0), (.iconst 0, 0, 0), (.istore 5, 0, 0)] (pc' := 11) (lo' := [some (.ref 10), some (.int v1), some (.long 0), none, some (.int (gI σ 10 2)), some (.int 0), none]) (st' := []) (σ' := σ) (by decide +kernel) rfl rfl ?_
  refine s_country_fitsAll_L11 hx hc hr N _ _ _ _ _ h
def f_country_fittingSets_L14 (N : Nat) : Nat → Int32 → Int32 → Int32 → Sg → Option (Int32 × Sg)
  | 0, _, _, _, _ => none
  | n + 1, v1, v2, v3, σ =>
    if v2 ≤ v3 then
      some (v1, σ)
    else
      if (gI σ 10 0) ≤ 0 then
        f_country_fittingSets_L14 N n v1 v2 (v3 + 1) σ
      else
        (f_country_fitsAll N v3 σ).bind fun q1 =>
        if q1.1 = true then
          f_country_fittingSets_L14 N n (v1 ||| (1 <<< (v3 &&& 31))) v2 (v3 + 1) q1.2
        else
          f_country_fittingSets_L14 N n v1 v2 (v3 + 1) q1.2
def f_country_fittingSets (N : Nat) (σ : Sg) : Option (Int32 × Sg) :=
  f_country_fittingSets_L14 N N 0 (1 <<< ((gI σ 19 1) &&& 31)) 0 σ
set_option maxRecDepth 100000 in
theorem s_country_fittingSets_L14 {y : EX} {N : Nat} {x : CX} {P : Int32 × Sg → Prop} (hx : Cx 1 prog_3_method_17_code x) (hc : Cc y 4 4 x) (hr : Cr M_country_fittingSets rvI P x) : ∀ (n : Nat) (v1 : Int32) (v2 : Int32) (v3 : Int32) (σ : Sg), ok (f_country_fittingSets_L14 N n v1 v2 v3 σ) P → G x 14 [some (.ref 10), some (.int v1), some (.int v2), some (.int v3)] [] σ := by
  intro n
  induction n with
  | zero => intro v1 v2 v3 σ h; exact ok_none h
  | succ n ih =>
    intro v1 v2 v3 σ h
    rw [f_country_fittingSets_L14] at h
    refine g_run hx [(.iload_n 3, 0, 0), (.iload_n 2, 0, 0)] (pc' := 16) (lo' := [some (.ref 10), some (.int v1), some (.int v2), some (.int v3)]) (st' := [.int v2, .int v3]) (σ' := σ) (by decide +kernel) rfl rfl ?_
    refine g_ic_ge hx (off := 30) (tgt := 46) (by decide +kernel) (by decide) (fun c16 => ?_) (fun c16 => ?_)
    · have h := ok_t h c16
      refine g_run hx [(.iload_n 1, 0, 0)] (pc' := 47) (lo' := [some (.ref 10), some (.int v1), some (.int v2), some (.int v3)]) (st' := [.int v1]) (σ' := σ) (by decide +kernel) rfl rfl ?_
      exact g_iret hx hr rfl _ rfl (by decide +kernel) (ok_some h)
    · have h := ok_f h c16
      refine g_run hx [(.aload_n 0, 0, 0), (.getfield 9, 0, 0)] (pc' := 23) (lo' := [some (.ref 10), some (.int v1), some (.int v2), some (.int v3)]) (st' := [.int (gI σ 10 0)]) (σ' := σ) (by decide +kernel) rfl rfl ?_
      refine g_if_le hx (off := 17) (tgt := 40) (by decide +kernel) (by decide) (fun c23 => ?_) (fun c23 => ?_)
      · have h := ok_t h c23
        refine g_run hx [(.iinc 3 1, 1, 0)] (pc' := 43) (lo' := [some (.ref 10), some (.int v1), some (.int v2), some (.int (v3 + 1))]) (st' := []) (σ' := σ) (by decide +kernel) rfl rfl ?_
        refine g_goto hx (off := (-29)) (tgt := 14) (by decide +kernel) (by decide) ?_
        exact ih _ _ _ _ h
      · have h := ok_f h c23
        refine g_run hx [(.aload_n 0, 0, 0), (.iload_n 3, 0, 0)] (pc' := 28) (lo' := [some (.ref 10), some (.int v1), some (.int v2), some (.int v3)]) (st' := [.int v3, .ref 10]) (σ' := σ) (by decide +kernel) rfl rfl ?_
        refine g_callV (rest := []) [.int v3] hx hc mk_country_fitsAll ln_1_102 rfl (by decide +kernel) (by decide) (Nat.le_of_ble_eq_true rfl) (s_country_fitsAll (ok_b h)) (fun r1 s1 h => ?_)
        refine g_ifb_eq hx (off := 9) (tgt := 40) (by decide +kernel) (by decide) (fun c31 => ?_) (fun c31 => ?_)
        · have h := ok_f h c31
          refine g_run hx [(.iinc 3 1, 1, 0)] (pc' := 43) (lo' := [some (.ref 10), some (.int v1), some (.int v2), some (.int (v3 + 1))]) (st' := []) (σ' := s1) (by decide +kernel) rfl rfl ?_
          refine g_goto hx (off := (-29)) (tgt := 14) (by decide +kernel) (by decide) ?_
          exact ih _ _ _ _ h
        · have h := ok_t h c31
          refine g_run hx [(.iload_n 1, 0, 0), (.iconst 1, 1, 0), (.iload_n 3, 0, 0), (.ishl, 0, 0), (.ior, 0, 0), (.istore_n 1, 0, 0), (.iinc 3 1, 1, 0)] (pc' := 43) (lo' := [some (.ref 10), some (.int (v1 ||| (1 <<< (v3 &&& 31)))), some (.int v2), some (.int (v3 + 1))]) (st' := []) (σ' := s1) (by decide +kernel) rfl rfl ?_
          refine g_goto hx (off := (-29)) (tgt := 14) (by decide +kernel) (by decide) ?_
          exact ih _ _ _ _ h
set_option maxRecDepth 100000 in
theorem s_country_fittingSets {y : EX} {N : Nat} {σ : Sg} {P : Int32 × Sg → Prop} (h : ok (f_country_fittingSets N σ) P) : Ev y M_country_fittingSets 4 [.ref 10] σ rvI P := by
  refine Ev.of mk_country_fittingSets (Nat.le_of_ble_eq_true rfl) (fun x hx hc hr => ?_)
  have hx : Cx 1 prog_3_method_17_code x := hx
  have hc : Cc y 4 4 x := hc
  show G x 0 [some (.ref 10), none, none, none] [] σ
  unfold f_country_fittingSets at h
  refine g_run hx [(.iconst 0, 0, 0), (.istore_n 1, 0, 0), (.iconst 1, 1, 0), (.aload_n 0, 0, 0), (.getfield 49, 0, 0), (.getfield 64, 0, 0), (.ishl, 0, 0), (.istore_n 2, 0, 0), (.iconst 0, 0, 0), (.istore_n 3, 0, 0)] (pc' := 14) (lo' := [some (.ref 10), some (.int 0), some (.int (1 <<< ((gI σ 19 1) &&& 31))), some (.int 0)]) (st' := []) (σ' := σ) (by decide +kernel) rfl rfl ?_
  refine s_country_fittingSets_L14 hx hc hr N _ _ _ _ h
def f_ji_bitCount (N : Nat) (v0 : Int32) (σ : Sg) : Option (Int32 × Sg) :=
  some (((((((((v0 - (((v0.toUInt32 >>> (Int32.toUInt32 1 &&& Int32.toUInt32 31)).toInt32) &&& 1431655765)) &&& 858993459) + ((((v0 - (((v0.toUInt32 >>> (Int32.toUInt32 1 &&& Int32.toUInt32 31)).toInt32) &&& 1431655765)).toUInt32 >>> (Int32.toUInt32 2 &&& Int32.toUInt32 31)).toInt32) &&& 858993459)) + (((((v0 - (((v0.toUInt32 >>> (Int32.toUInt32 1 &&& Int32.toUInt32 31)).toInt32) &&& 1431655765)) &&& 858993459) + ((((v0 - (((v0.toUInt32 >>> (Int32.toUInt32 1 &&& Int32.toUInt32 31)).toInt32) &&& 1431655765)).toUInt32 >>> (Int32.toUInt32 2 &&& Int32.toUInt32 31)).toInt32) &&& 858993459)).toUInt32 >>> (Int32.toUInt32 4 &&& Int32.toUInt32 31)).toInt32)) &&& 252645135) + (((((((v0 - (((v0.toUInt32 >>> (Int32.toUInt32 1 &&& Int32.toUInt32 31)).toInt32) &&& 1431655765)) &&& 858993459) + ((((v0 - (((v0.toUInt32 >>> (Int32.toUInt32 1 &&& Int32.toUInt32 31)).toInt32) &&& 1431655765)).toUInt32 >>> (Int32.toUInt32 2 &&& Int32.toUInt32 31)).toInt32) &&& 858993459)) + (((((v0 - (((v0.toUInt32 >>> (Int32.toUInt32 1 &&& Int32.toUInt32 31)).toInt32) &&& 1431655765)) &&& 858993459) + ((((v0 - (((v0.toUInt32 >>> (Int32.toUInt32 1 &&& Int32.toUInt32 31)).toInt32) &&& 1431655765)).toUInt32 >>> (Int32.toUInt32 2 &&& Int32.toUInt32 31)).toInt32) &&& 858993459)).toUInt32 >>> (Int32.toUInt32 4 &&& Int32.toUInt32 31)).toInt32)) &&& 252645135).toUInt32 >>> (Int32.toUInt32 8 &&& Int32.toUInt32 31)).toInt32)) + ((((((((v0 - (((v0.toUInt32 >>> (Int32.toUInt32 1 &&& Int32.toUInt32 31)).toInt32) &&& 1431655765)) &&& 858993459) + ((((v0 - (((v0.toUInt32 >>> (Int32.toUInt32 1 &&& Int32.toUInt32 31)).toInt32) &&& 1431655765)).toUInt32 >>> (Int32.toUInt32 2 &&& Int32.toUInt32 31)).toInt32) &&& 858993459)) + (((((v0 - (((v0.toUInt32 >>> (Int32.toUInt32 1 &&& Int32.toUInt32 31)).toInt32) &&& 1431655765)) &&& 858993459) + ((((v0 - (((v0.toUInt32 >>> (Int32.toUInt32 1 &&& Int32.toUInt32 31)).toInt32) &&& 1431655765)).toUInt32 >>> (Int32.toUInt32 2 &&& Int32.toUInt32 31)).toInt32) &&& 858993459)).toUInt32 >>> (Int32.toUInt32 4 &&& Int32.toUInt32 31)).toInt32)) &&& 252645135) + (((((((v0 - (((v0.toUInt32 >>> (Int32.toUInt32 1 &&& Int32.toUInt32 31)).toInt32) &&& 1431655765)) &&& 858993459) + ((((v0 - (((v0.toUInt32 >>> (Int32.toUInt32 1 &&& Int32.toUInt32 31)).toInt32) &&& 1431655765)).toUInt32 >>> (Int32.toUInt32 2 &&& Int32.toUInt32 31)).toInt32) &&& 858993459)) + (((((v0 - (((v0.toUInt32 >>> (Int32.toUInt32 1 &&& Int32.toUInt32 31)).toInt32) &&& 1431655765)) &&& 858993459) + ((((v0 - (((v0.toUInt32 >>> (Int32.toUInt32 1 &&& Int32.toUInt32 31)).toInt32) &&& 1431655765)).toUInt32 >>> (Int32.toUInt32 2 &&& Int32.toUInt32 31)).toInt32) &&& 858993459)).toUInt32 >>> (Int32.toUInt32 4 &&& Int32.toUInt32 31)).toInt32)) &&& 252645135).toUInt32 >>> (Int32.toUInt32 8 &&& Int32.toUInt32 31)).toInt32)).toUInt32 >>> (Int32.toUInt32 16 &&& Int32.toUInt32 31)).toInt32)) &&& 63), σ)
set_option maxRecDepth 100000 in
theorem s_ji_bitCount {y : EX} {N : Nat} {v0 : Int32} {σ : Sg} {P : Int32 × Sg → Prop} (h : ok (f_ji_bitCount N v0 σ) P) : Ev y M_ji_bitCount 0 [.int v0] σ rvI P := by
  refine Ev.of mk_ji_bitCount (Nat.le_of_ble_eq_true rfl) (fun x hx hc hr => ?_)
  have hx : Cx 12 prog_17_method_49_code x := hx
  have hc : Cc y 1 0 x := hc
  show G x 0 [some (.int v0)] [] σ
  unfold f_ji_bitCount at h
  refine g_run hx [(.iload_n 0, 0, 0), (.iload_n 0, 0, 0), (.iconst 1, 1, 0), (.iushr, 0, 0), (.ldc_w 265, 1431655765, 0), (.iand, 0, 0), (.isub, 0, 0), (.istore_n 0, 0, 0), (.iload_n 0, 0, 0), (.ldc_w 266, 858993459, 0), (.iand, 0, 0), (.iload_n 0, 0, 0), (.iconst 2, 2, 0), (.iushr, 0, 0), (.ldc_w 266, 858993459, 0), (.iand, 0, 0), (.iadd, 0, 0), (.istore_n 0, 0, 0), (.iload_n 0, 0, 0), (.iload_n 0, 0, 0), (.iconst 4, 4, 0), (.iushr, 0, 0), (.iadd, 0, 0), (.ldc_w 267, 252645135, 0), (.iand, 0, 0), (.istore_n 0, 0, 0), (.iload_n 0, 0, 0), (.iload_n 0, 0, 0), (.bipush 8, 8, 0), (.iushr, 0, 0), (.iadd, 0, 0), (.istore_n 0, 0, 0), (.iload_n 0, 0, 0), (.iload_n 0, 0, 0), (.bipush 16, 16, 0), (.iushr, 0, 0), (.iadd, 0, 0), (.istore_n 0, 0, 0), (.iload_n 0, 0, 0), (.bipush 63, 63, 0), (.iand, 0, 0)] (pc' := 52) (lo' := [some (.int (((((((v0 - (((v0.toUInt32 >>> (Int32.toUInt32 1 &&& Int32.toUInt32 31)).toInt32) &&& 1431655765)) &&& 858993459) + ((((v0 - (((v0.toUInt32 >>> (Int32.toUInt32 1 &&& Int32.toUInt32 31)).toInt32) &&& 1431655765)).toUInt32 >>> (Int32.toUInt32 2 &&& Int32.toUInt32 31)).toInt32) &&& 858993459)) + (((((v0 - (((v0.toUInt32 >>> (Int32.toUInt32 1 &&& Int32.toUInt32 31)).toInt32) &&& 1431655765)) &&& 858993459) + ((((v0 - (((v0.toUInt32 >>> (Int32.toUInt32 1 &&& Int32.toUInt32 31)).toInt32) &&& 1431655765)).toUInt32 >>> (Int32.toUInt32 2 &&& Int32.toUInt32 31)).toInt32) &&& 858993459)).toUInt32 >>> (Int32.toUInt32 4 &&& Int32.toUInt32 31)).toInt32)) &&& 252645135) + (((((((v0 - (((v0.toUInt32 >>> (Int32.toUInt32 1 &&& Int32.toUInt32 31)).toInt32) &&& 1431655765)) &&& 858993459) + ((((v0 - (((v0.toUInt32 >>> (Int32.toUInt32 1 &&& Int32.toUInt32 31)).toInt32) &&& 1431655765)).toUInt32 >>> (Int32.toUInt32 2 &&& Int32.toUInt32 31)).toInt32) &&& 858993459)) + (((((v0 - (((v0.toUInt32 >>> (Int32.toUInt32 1 &&& Int32.toUInt32 31)).toInt32) &&& 1431655765)) &&& 858993459) + ((((v0 - (((v0.toUInt32 >>> (Int32.toUInt32 1 &&& Int32.toUInt32 31)).toInt32) &&& 1431655765)).toUInt32 >>> (Int32.toUInt32 2 &&& Int32.toUInt32 31)).toInt32) &&& 858993459)).toUInt32 >>> (Int32.toUInt32 4 &&& Int32.toUInt32 31)).toInt32)) &&& 252645135).toUInt32 >>> (Int32.toUInt32 8 &&& Int32.toUInt32 31)).toInt32)) + ((((((((v0 - (((v0.toUInt32 >>> (Int32.toUInt32 1 &&& Int32.toUInt32 31)).toInt32) &&& 1431655765)) &&& 858993459) + ((((v0 - (((v0.toUInt32 >>> (Int32.toUInt32 1 &&& Int32.toUInt32 31)).toInt32) &&& 1431655765)).toUInt32 >>> (Int32.toUInt32 2 &&& Int32.toUInt32 31)).toInt32) &&& 858993459)) + (((((v0 - (((v0.toUInt32 >>> (Int32.toUInt32 1 &&& Int32.toUInt32 31)).toInt32) &&& 1431655765)) &&& 858993459) + ((((v0 - (((v0.toUInt32 >>> (Int32.toUInt32 1 &&& Int32.toUInt32 31)).toInt32) &&& 1431655765)).toUInt32 >>> (Int32.toUInt32 2 &&& Int32.toUInt32 31)).toInt32) &&& 858993459)).toUInt32 >>> (Int32.toUInt32 4 &&& Int32.toUInt32 31)).toInt32)) &&& 252645135) + (((((((v0 - (((v0.toUInt32 >>> (Int32.toUInt32 1 &&& Int32.toUInt32 31)).toInt32) &&& 1431655765)) &&& 858993459) + ((((v0 - (((v0.toUInt32 >>> (Int32.toUInt32 1 &&& Int32.toUInt32 31)).toInt32) &&& 1431655765)).toUInt32 >>> (Int32.toUInt32 2 &&& Int32.toUInt32 31)).toInt32) &&& 858993459)) + (((((v0 - (((v0.toUInt32 >>> (Int32.toUInt32 1 &&& Int32.toUInt32 31)).toInt32) &&& 1431655765)) &&& 858993459) + ((((v0 - (((v0.toUInt32 >>> (Int32.toUInt32 1 &&& Int32.toUInt32 31)).toInt32) &&& 1431655765)).toUInt32 >>> (Int32.toUInt32 2 &&& Int32.toUInt32 31)).toInt32) &&& 858993459)).toUInt32 >>> (Int32.toUInt32 4 &&& Int32.toUInt32 31)).toInt32)) &&& 252645135).toUInt32 >>> (Int32.toUInt32 8 &&& Int32.toUInt32 31)).toInt32)).toUInt32 >>> (Int32.toUInt32 16 &&& Int32.toUInt32 31)).toInt32)))]) (st' := [.int ((((((((v0 - (((v0.toUInt32 >>> (Int32.toUInt32 1 &&& Int32.toUInt32 31)).toInt32) &&& 1431655765)) &&& 858993459) + ((((v0 - (((v0.toUInt32 >>> (Int32.toUInt32 1 &&& Int32.toUInt32 31)).toInt32) &&& 1431655765)).toUInt32 >>> (Int32.toUInt32 2 &&& Int32.toUInt32 31)).toInt32) &&& 858993459)) + (((((v0 - (((v0.toUInt32 >>> (Int32.toUInt32 1 &&& Int32.toUInt32 31)).toInt32) &&& 1431655765)) &&& 858993459) + ((((v0 - (((v0.toUInt32 >>> (Int32.toUInt32 1 &&& Int32.toUInt32 31)).toInt32) &&& 1431655765)).toUInt32 >>> (Int32.toUInt32 2 &&& Int32.toUInt32 31)).toInt32) &&& 858993459)).toUInt32 >>> (Int32.toUInt32 4 &&& Int32.toUInt32 31)).toInt32)) &&& 252645135) + (((((((v0 - (((v0.toUInt32 >>> (Int32.toUInt32 1 &&& Int32.toUInt32 31)).toInt32) &&& 1431655765)) &&& 858993459) + ((((v0 - (((v0.toUInt32 >>> (Int32.toUInt32 1 &&& Int32.toUInt32 31)).toInt32) &&& 1431655765)).toUInt32 >>> (Int32.toUInt32 2 &&& Int32.toUInt32 31)).toInt32) &&& 858993459)) + (((((v0 - (((v0.toUInt32 >>> (Int32.toUInt32 1 &&& Int32.toUInt32 31)).toInt32) &&& 1431655765)) &&& 858993459) + ((((v0 - (((v0.toUInt32 >>> (Int32.toUInt32 1 &&& Int32.toUInt32 31)).toInt32) &&& 1431655765)).toUInt32 >>> (Int32.toUInt32 2 &&& Int32.toUInt32 31)).toInt32) &&& 858993459)).toUInt32 >>> (Int32.toUInt32 4 &&& Int32.toUInt32 31)).toInt32)) &&& 252645135).toUInt32 >>> (Int32.toUInt32 8 &&& Int32.toUInt32 31)).toInt32)) + ((((((((v0 - (((v0.toUInt32 >>> (Int32.toUInt32 1 &&& Int32.toUInt32 31)).toInt32) &&& 1431655765)) &&& 858993459) + ((((v0 - (((v0.toUInt32 >>> (Int32.toUInt32 1 &&& Int32.toUInt32 31)).toInt32) &&& 1431655765)).toUInt32 >>> (Int32.toUInt32 2 &&& Int32.toUInt32 31)).toInt32) &&& 858993459)) + (((((v0 - (((v0.toUInt32 >>> (Int32.toUInt32 1 &&& Int32.toUInt32 31)).toInt32) &&& 1431655765)) &&& 858993459) + ((((v0 - (((v0.toUInt32 >>> (Int32.toUInt32 1 &&& Int32.toUInt32 31)).toInt32) &&& 1431655765)).toUInt32 >>> (Int32.toUInt32 2 &&& Int32.toUInt32 31)).toInt32) &&& 858993459)).toUInt32 >>> (Int32.toUInt32 4 &&& Int32.toUInt32 31)).toInt32)) &&& 252645135) + (((((((v0 - (((v0.toUInt32 >>> (Int32.toUInt32 1 &&& Int32.toUInt32 31)).toInt32) &&& 1431655765)) &&& 858993459) + ((((v0 - (((v0.toUInt32 >>> (Int32.toUInt32 1 &&& Int32.toUInt32 31)).toInt32) &&& 1431655765)).toUInt32 >>> (Int32.toUInt32 2 &&& Int32.toUInt32 31)).toInt32) &&& 858993459)) + (((((v0 - (((v0.toUInt32 >>> (Int32.toUInt32 1 &&& Int32.toUInt32 31)).toInt32) &&& 1431655765)) &&& 858993459) + ((((v0 - (((v0.toUInt32 >>> (Int32.toUInt32 1 &&& Int32.toUInt32 31)).toInt32) &&& 1431655765)).toUInt32 >>> (Int32.toUInt32 2 &&& Int32.toUInt32 31)).toInt32) &&& 858993459)).toUInt32 >>> (Int32.toUInt32 4 &&& Int32.toUInt32 31)).toInt32)) &&& 252645135).toUInt32 >>> (Int32.toUInt32 8 &&& Int32.toUInt32 31)).toInt32)).toUInt32 >>> (Int32.toUInt32 16 &&& Int32.toUInt32 31)).toInt32)) &&& 63)]) (σ' := σ) (by decide +kernel) rfl rfl ?_
  exact g_iret hx hr rfl _ rfl (by decide +kernel) (ok_some h)
def f_country_leftBy_L5 (N : Nat) : Nat → Int32 → Int32 → Int32 → Int32 → Sg → Option (Int32 × Sg)
  | 0, _, _, _, _, _ => none
  | n + 1, v1, v2, v3, v4, σ =>
    if 16 ≤ v4 then
      (f_ji_bitCount N v2 σ).bind fun q1 =>
      some ((jmax v3 (q1.1 - v3)), q1.2)
    else
      (f_x_bit N (Int32.toInt64 v2) v4 σ).bind fun q2 =>
      if q2.1 = true then
        (f_x_bit N (Int32.toInt64 v4) v1 q2.2).bind fun q3 =>
        if q3.1 = true then
          f_country_leftBy_L5 N n v1 v2 (v3 + 1) (v4 + 1) q3.2
        else
          f_country_leftBy_L5 N n v1 v2 v3 (v4 + 1) q3.2
      else
        f_country_leftBy_L5 N n v1 v2 v3 (v4 + 1) q2.2
def f_country_leftBy (N : Nat) (v1 : Int32) (v2 : Int32) (σ : Sg) : Option (Int32 × Sg) :=
  f_country_leftBy_L5 N N v1 v2 0 0 σ
set_option maxRecDepth 100000 in
theorem s_country_leftBy_L5 {y : EX} {N : Nat} {x : CX} {P : Int32 × Sg → Prop} (hx : Cx 1 prog_3_method_24_code x) (hc : Cc y 5 1 x) (hr : Cr M_country_leftBy rvI P x) : ∀ (n : Nat) (v1 : Int32) (v2 : Int32) (v3 : Int32) (v4 : Int32) (σ : Sg), ok (f_country_leftBy_L5 N n v1 v2 v3 v4 σ) P → G x 5 [none, some (.int v1), some (.int v2), some (.int v3), some (.int v4)] [] σ := by
  intro n
  induction n with
  | zero => intro v1 v2 v3 v4 σ h; exact ok_none h
  | succ n ih =>
    intro v1 v2 v3 v4 σ h
    rw [f_country_leftBy_L5] at h
    refine g_run hx [(.iload 4, 0, 0), (.bipush 16, 16, 0)] (pc' := 9) (lo' := [none, some (.int v1), some (.int v2), some (.int v3), some (.int v4)]) (st' := [.int 16, .int v4]) (σ' := σ) (by decide +kernel) rfl rfl ?_
    refine g_ic_ge hx (off := 32) (tgt := 41) (by decide +kernel) (by decide) (fun c9 => ?_) (fun c9 => ?_)
    · have h := ok_t h c9
      refine g_run hx [(.iload_n 3, 0, 0), (.iload_n 2, 0, 0)] (pc' := 43) (lo' := [none, some (.int v1), some (.int v2), some (.int v3), some (.int v4)]) (st' := [.int v2, .int v3]) (σ' := σ) (by decide +kernel) rfl rfl ?_
      refine g_callS (rest := [.int v3]) [.int v2] hx hc mk_ji_bitCount ln_1_120 (by decide +kernel) (by decide) (Nat.le_of_ble_eq_true rfl) (s_ji_bitCount (ok_b h)) (fun r1 s1 h => ?_)
      refine g_run hx [(.iload_n 3, 0, 0), (.isub, 0, 0)] (pc' := 48) (lo' := [none, some (.int v1), some (.int v2), some (.int v3), some (.int v4)]) (st' := [.int (r1 - v3), .int v3]) (σ' := s1) (by decide +kernel) rfl rfl ?_
      refine g_mmax hx hc (by decide) ln_1_124 (by decide +kernel) (Nat.le_of_ble_eq_true rfl) ?_
      exact g_iret hx hr rfl _ rfl (by decide +kernel) (ok_some h)
    · have h := ok_f h c9
      refine g_run hx [(.iload_n 2, 0, 0), (.i2l, 0, 0), (.iload 4, 0, 0)] (pc' := 16) (lo' := [none, some (.int v1), some (.int v2), some (.int v3), some (.int v4)]) (st' := [.int v4, .long (Int32.toInt64 v2)]) (σ' := σ) (by decide +kernel) rfl rfl ?_
      refine g_callN (rest := []) [.long (Int32.toInt64 v2), .int v4] hx hc mk_x_bit ln_1_73 (by decide +kernel) (by decide) (Nat.le_of_ble_eq_true rfl) (s_x_bit (ok_b h)) (fun r2 s2 h => ?_)
      refine g_ifb_eq hx (off := 16) (tgt := 35) (by decide +kernel) (by decide) (fun c19 => ?_) (fun c19 => ?_)
      · have h := ok_f h c19
        refine g_run hx [(.iinc 4 1, 1, 0)] (pc' := 38) (lo' := [none, some (.int v1), some (.int v2), some (.int v3), some (.int (v4 + 1))]) (st' := []) (σ' := s2) (by decide +kernel) rfl rfl ?_
        refine g_goto hx (off := (-33)) (tgt := 5) (by decide +kernel) (by decide) ?_
        exact ih _ _ _ _ _ h
      · have h := ok_t h c19
        refine g_run hx [(.iload 4, 0, 0), (.i2l, 0, 0), (.iload_n 1, 0, 0)] (pc' := 26) (lo' := [none, some (.int v1), some (.int v2), some (.int v3), some (.int v4)]) (st' := [.int v1, .long (Int32.toInt64 v4)]) (σ' := s2) (by decide +kernel) rfl rfl ?_
        refine g_callN (rest := []) [.long (Int32.toInt64 v4), .int v1] hx hc mk_x_bit ln_1_73 (by decide +kernel) (by decide) (Nat.le_of_ble_eq_true rfl) (s_x_bit (ok_b h)) (fun r3 s3 h => ?_)
        refine g_ifb_eq hx (off := 6) (tgt := 35) (by decide +kernel) (by decide) (fun c29 => ?_) (fun c29 => ?_)
        · have h := ok_f h c29
          refine g_run hx [(.iinc 4 1, 1, 0)] (pc' := 38) (lo' := [none, some (.int v1), some (.int v2), some (.int v3), some (.int (v4 + 1))]) (st' := []) (σ' := s3) (by decide +kernel) rfl rfl ?_
          refine g_goto hx (off := (-33)) (tgt := 5) (by decide +kernel) (by decide) ?_
          exact ih _ _ _ _ _ h
        · have h := ok_t h c29
          refine g_run hx [(.iinc 3 1, 1, 0), (.iinc 4 1, 1, 0)] (pc' := 38) (lo' := [none, some (.int v1), some (.int v2), some (.int (v3 + 1)), some (.int (v4 + 1))]) (st' := []) (σ' := s3) (by decide +kernel) rfl rfl ?_
          refine g_goto hx (off := (-33)) (tgt := 5) (by decide +kernel) (by decide) ?_
          exact ih _ _ _ _ _ h
set_option maxRecDepth 100000 in
theorem s_country_leftBy {y : EX} {N : Nat} {v1 : Int32} {v2 : Int32} {σ : Sg} {P : Int32 × Sg → Prop} (h : ok (f_country_leftBy N v1 v2 σ) P) : Ev y M_country_leftBy 1 [.ref 10, .int v1, .int v2] σ rvI P := by
  refine Ev.of mk_country_leftBy (Nat.le_of_ble_eq_true rfl) (fun x hx hc hr => ?_)
  have hx : Cx 1 prog_3_method_24_code x := hx
  have hc : Cc y 5 1 x := hc
  show G x 0 [some (.ref 10), some (.int v1), some (.int v2), none, none] [] σ
  unfold f_country_leftBy at h
  refine g_run hx [(.iconst 0, 0, 0), (.istore_n 3, 0, 0), (.iconst 0, 0, 0), (.istore 4, 0, 0)] (pc' := 5) (lo' := [some (.ref 10), some (.int v1), some (.int v2), some (.int 0), some (.int 0)]) (st' := []) (σ' := σ) (by decide +kernel) rfl rfl ?_
  refine g_wk (lo' := [none, some (.int v1), some (.int v2), some (.int 0), some (.int 0)]) ⟨rfl, ⟨rfl, ⟨rfl, ⟨rfl, trivial⟩⟩⟩⟩ ?_
  refine s_country_leftBy_L5 hx hc hr N _ _ _ _ _ h
def f_country_bestQuestion_L14 (N : Nat) : Nat → Int32 → Int32 → Int32 → Int32 → Sg → Option (Int32 × Sg)
  | 0, _, _, _, _, _ => none
  | n + 1, v1, v2, v3, v4, σ =>
    if (gI σ 19 1) ≤ v4 then
      some (v2, σ)
    else
      if v1 = 0 then
        some (v2, σ)
      else
        (f_country_leftBy N v4 v1 σ).bind fun q2 =>
        if v3 ≤ q2.1 then
          f_country_bestQuestion_L14 N n v1 v2 v3 (v4 + 1) q2.2
        else
          f_country_bestQuestion_L14 N n v1 v4 q2.1 (v4 + 1) q2.2
def f_country_bestQuestion (N : Nat) (σ : Sg) : Option (Int32 × Sg) :=
  (f_country_fittingSets N σ).bind fun q1 =>
  f_country_bestQuestion_L14 N N q1.1 (-2) 17 0 q1.2
set_option maxRecDepth 100000 in
theorem s_country_bestQuestion_L14 {y : EX} {N : Nat} {x : CX} {P : Int32 × Sg → Prop} (hx : Cx 1 prog_3_method_25_code x) (hc : Cc y 6 5 x) (hr : Cr M_country_bestQuestion rvI P x) : ∀ (n : Nat) (v1 : Int32) (v2 : Int32) (v3 : Int32) (v4 : Int32) (σ : Sg), ok (f_country_bestQuestion_L14 N n v1 v2 v3 v4 σ) P → G x 14 [some (.ref 10), some (.int v1), some (.int v2), some (.int v3), some (.int v4), none] [] σ := by
  intro n
  induction n with
  | zero => intro v1 v2 v3 v4 σ h; exact ok_none h
  | succ n ih =>
    intro v1 v2 v3 v4 σ h
    rw [f_country_bestQuestion_L14] at h
    refine g_run hx [(.iload 4, 0, 0), (.aload_n 0, 0, 0), (.getfield 49, 0, 0), (.getfield 64, 0, 0)] (pc' := 23) (lo' := [some (.ref 10), some (.int v1), some (.int v2), some (.int v3), some (.int v4), none]) (st' := [.int (gI σ 19 1), .int v4]) (σ' := σ) (by decide +kernel) rfl rfl ?_
    refine g_ic_ge hx (off := 34) (tgt := 57) (by decide +kernel) (by decide) (fun c23 => ?_) (fun c23 => ?_)
    · have h := ok_t h c23
      refine g_run hx [(.iload_n 2, 0, 0)] (pc' := 58) (lo' := [some (.ref 10), some (.int v1), some (.int v2), some (.int v3), some (.int v4), none]) (st' := [.int v2]) (σ' := σ) (by decide +kernel) rfl rfl ?_
      exact g_iret hx hr rfl _ rfl (by decide +kernel) (ok_some h)
    · have h := ok_f h c23
      refine g_run hx [(.iload_n 1, 0, 0)] (pc' := 27) (lo' := [some (.ref 10), some (.int v1), some (.int v2), some (.int v3), some (.int v4), none]) (st' := [.int v1]) (σ' := σ) (by decide +kernel) rfl rfl ?_
      refine g_if_eq hx (off := 30) (tgt := 57) (by decide +kernel) (by decide) (fun c27 => ?_) (fun c27 => ?_)
      · have h := ok_t h c27
        refine g_run hx [(.iload_n 2, 0, 0)] (pc' := 58) (lo' := [some (.ref 10), some (.int v1), some (.int v2), some (.int v3), some (.int v4), none]) (st' := [.int v2]) (σ' := σ) (by decide +kernel) rfl rfl ?_
        exact g_iret hx hr rfl _ rfl (by decide +kernel) (ok_some h)
      · have h := ok_f h c27
        refine g_run hx [(.aload_n 0, 0, 0), (.iload 4, 0, 0), (.iload_n 1, 0, 0)] (pc' := 34) (lo' := [some (.ref 10), some (.int v1), some (.int v2), some (.int v3), some (.int v4), none]) (st' := [.int v1, .int v4, .ref 10]) (σ' := σ) (by decide +kernel) rfl rfl ?_
        refine g_callV (rest := []) [.int v4, .int v1] hx hc mk_country_leftBy ln_1_129 rfl (by decide +kernel) (by decide) (Nat.le_of_ble_eq_true rfl) (s_country_leftBy (ok_b h)) (fun r2 s2 h => ?_)
        refine g_run hx [(.istore 5, 0, 0), (.iload 5, 0, 0), (.iload_n 3, 0, 0)] (pc' := 42) (lo' := [some (.ref 10), some (.int v1), some (.int v2), some (.int v3), some (.int v4), some (.int r2)]) (st' := [.int v3, .int r2]) (σ' := s2) (by decide +kernel) rfl rfl ?_
        refine g_ic_ge hx (off := 9) (tgt := 51) (by decide +kernel) (by decide) (fun c42 => ?_) (fun c42 => ?_)
        · have h := ok_t h c42
          refine g_run hx [(.iinc 4 1, 1, 0)] (pc' := 54) (lo' := [some (.ref 10), some (.int v1), some (.int v2), some (.int v3), some (.int (v4 + 1)), some (.int r2)]) (st' := []) (σ' := s2) (by decide +kernel) rfl rfl ?_
          refine g_goto hx (off := (-40)) (tgt := 14) (by decide +kernel) (by decide) ?_
          refine g_wk (lo' := [some (.ref 10), some (.int v1), some (.int v2), some (.int v3), some (.int (v4 + 1)), none]) ⟨rfl, ⟨rfl, ⟨rfl, ⟨rfl, ⟨rfl, trivial⟩⟩⟩⟩⟩ ?_
          exact ih _ _ _ _ _ h
        · have h := ok_f h c42
          refine g_run hx [(.iload 5, 0, 0), (.istore_n 3, 0, 0), (.iload 4, 0, 0), (.istore_n 2, 0, 0), (.iinc 4 1, 1, 0)] (pc' := 54) (lo' := [some (.ref 10), some (.int v1), some (.int v4), some (.int r2), some (.int (v4 + 1)), some (.int r2)]) (st' := []) (σ' := s2) (by decide +kernel) rfl rfl ?_
          refine g_goto hx (off := (-40)) (tgt := 14) (by decide +kernel) (by decide) ?_
          refine g_wk (lo' := [some (.ref 10), some (.int v1), some (.int v4), some (.int r2), some (.int (v4 + 1)), none]) ⟨rfl, ⟨rfl, ⟨rfl, ⟨rfl, ⟨rfl, trivial⟩⟩⟩⟩⟩ ?_
          exact ih _ _ _ _ _ h
set_option maxRecDepth 100000 in
theorem s_country_bestQuestion {y : EX} {N : Nat} {σ : Sg} {P : Int32 × Sg → Prop} (h : ok (f_country_bestQuestion N σ) P) : Ev y M_country_bestQuestion 5 [.ref 10] σ rvI P := by
  refine Ev.of mk_country_bestQuestion (Nat.le_of_ble_eq_true rfl) (fun x hx hc hr => ?_)
  have hx : Cx 1 prog_3_method_25_code x := hx
  have hc : Cc y 6 5 x := hc
  show G x 0 [some (.ref 10), none, none, none, none, none] [] σ
  unfold f_country_bestQuestion at h
  refine g_run hx [(.aload_n 0, 0, 0)] (pc' := 1) (lo' := [some (.ref 10), none, none, none, none, none]) (st' := [.ref 10]) (σ' := σ) (by decide +kernel) rfl rfl ?_
  refine g_callV (rest := []) [] hx hc mk_country_fittingSets ln_1_116 rfl (by decide +kernel) (by decide) (Nat.le_of_ble_eq_true rfl) (s_country_fittingSets (ok_b h)) (fun r1 s1 h => ?_)
  refine g_run hx [(.istore_n 1, 0, 0), (.bipush (-2), (-2), 0), (.istore_n 2, 0, 0), (.bipush 17, 17, 0), (.istore_n 3, 0, 0), (.iconst 0, 0, 0), (.istore 4, 0, 0)] (pc' := 14) (lo' := [some (.ref 10), some (.int r1), some (.int (-2)), some (.int 17), some (.int 0), none]) (st' := []) (σ' := s1) (by decide +kernel) rfl rfl ?_
  refine s_country_bestQuestion_L14 hx hc hr N _ _ _ _ _ h
def f_x_ask (N : Nat) (σ : Sg) : Option (Int32 × Sg) :=
  (f_x_landTrouble N σ).bind fun q1 =>
  (f_x_granted N q1.1 q1.2).bind fun q2 =>
  if q2.1 = true then
    (f_country_bestQuestion N q2.2).bind fun q3 =>
    some (q3.1, q3.2)
  else
    some ((-1), q2.2)
set_option maxRecDepth 100000 in
theorem s_x_ask {y : EX} {N : Nat} {σ : Sg} {P : Int32 × Sg → Prop} (h : ok (f_x_ask N σ) P) : Ev y M_x_ask 6 [.ref 0] σ rvI P := by
  refine Ev.of mk_x_ask (Nat.le_of_ble_eq_true rfl) (fun x hx hc hr => ?_)
  have hx : Cx 9 prog_1_method_44_code x := hx
  have hc : Cc y 1 6 x := hc
  show G x 0 [some (.ref 0)] [] σ
  unfold f_x_ask at h
  refine g_run hx [(.aload_n 0, 0, 0), (.aload_n 0, 0, 0)] (pc' := 2) (lo' := [some (.ref 0)]) (st' := [.ref 0, .ref 0]) (σ' := σ) (by decide +kernel) rfl rfl ?_
  refine g_callV (rest := [.ref 0]) [] hx hc mk_x_landTrouble ln_9_158 rfl (by decide +kernel) (by decide) (Nat.le_of_ble_eq_true rfl) (s_x_landTrouble (ok_b h)) (fun r1 s1 h => ?_)
  refine g_callV (rest := []) [.int r1] hx hc mk_x_granted ln_9_83 rfl (by decide +kernel) (by decide) (Nat.le_of_ble_eq_true rfl) (s_x_granted (ok_b h)) (fun r2 s2 h => ?_)
  refine g_ifb_eq hx (off := 13) (tgt := 21) (by decide +kernel) (by decide) (fun c8 => ?_) (fun c8 => ?_)
  · have h := ok_f h c8
    refine g_run hx [(.iconst (-1), (-1), 0)] (pc' := 22) (lo' := [some (.ref 0)]) (st' := [.int (-1)]) (σ' := s2) (by decide +kernel) rfl rfl ?_
    exact g_iret hx hr rfl _ rfl (by decide +kernel) (ok_some h)
  · have h := ok_t h c8
    refine g_run hx [(.aload_n 0, 0, 0), (.getfield 19, 0, 0)] (pc' := 15) (lo' := [some (.ref 0)]) (st' := [.ref 10]) (σ' := s2) (by decide +kernel) rfl rfl ?_
    refine g_callV (rest := []) [] hx hc mk_country_bestQuestion ln_9_301 rfl (by decide +kernel) (by decide) (Nat.le_of_ble_eq_true rfl) (s_country_bestQuestion (ok_b h)) (fun r3 s3 h => ?_)
    refine g_goto hx (off := 4) (tgt := 22) (by decide +kernel) (by decide) ?_
    exact g_iret hx hr rfl _ rfl (by decide +kernel) (ok_some h)
def f_x_askLeaves (N : Nat) (σ : Sg) : Option (Int32 × Sg) :=
  (f_x_landTrouble N σ).bind fun q1 =>
  (f_x_granted N q1.1 q1.2).bind fun q2 =>
  if q2.1 = true then
    (f_country_bestQuestion N q2.2).bind fun q3 =>
    if q3.1 = (-2) then
      some ((-2), q3.2)
    else
      (f_country_fittingSets N q3.2).bind fun q4 =>
      (f_country_leftBy N q3.1 q4.1 q4.2).bind fun q5 =>
      some (q5.1, q5.2)
  else
    some ((-1), q2.2)
set_option maxRecDepth 100000 in
theorem s_x_askLeaves {y : EX} {N : Nat} {σ : Sg} {P : Int32 × Sg → Prop} (h : ok (f_x_askLeaves N σ) P) : Ev y M_x_askLeaves 6 [.ref 0] σ rvI P := by
  refine Ev.of mk_x_askLeaves (Nat.le_of_ble_eq_true rfl) (fun x hx hc hr => ?_)
  have hx : Cx 9 prog_1_method_45_code x := hx
  have hc : Cc y 2 6 x := hc
  show G x 0 [some (.ref 0), none] [] σ
  unfold f_x_askLeaves at h
  refine g_run hx [(.aload_n 0, 0, 0), (.aload_n 0, 0, 0)] (pc' := 2) (lo' := [some (.ref 0), none]) (st' := [.ref 0, .ref 0]) (σ' := σ) (by decide +kernel) rfl rfl ?_
  refine g_callV (rest := [.ref 0]) [] hx hc mk_x_landTrouble ln_9_158 rfl (by decide +kernel) (by decide) (Nat.le_of_ble_eq_true rfl) (s_x_landTrouble (ok_b h)) (fun r1 s1 h => ?_)
  refine g_callV (rest := []) [.int r1] hx hc mk_x_granted ln_9_83 rfl (by decide +kernel) (by decide) (Nat.le_of_ble_eq_true rfl) (s_x_granted (ok_b h)) (fun r2 s2 h => ?_)
  refine g_ifb_ne hx (off := 5) (tgt := 13) (by decide +kernel) (by decide) (fun c8 => ?_) (fun c8 => ?_)
  · have h := ok_t h c8
    refine g_run hx [(.aload_n 0, 0, 0), (.getfield 19, 0, 0)] (pc' := 17) (lo' := [some (.ref 0), none]) (st' := [.ref 10]) (σ' := s2) (by decide +kernel) rfl rfl ?_
    refine g_callV (rest := []) [] hx hc mk_country_bestQuestion ln_9_301 rfl (by decide +kernel) (by decide) (Nat.le_of_ble_eq_true rfl) (s_country_bestQuestion (ok_b h)) (fun r3 s3 h => ?_)
    refine g_run hx [(.istore_n 1, 0, 0), (.iload_n 1, 0, 0), (.bipush (-2), (-2), 0)] (pc' := 24) (lo' := [some (.ref 0), some (.int r3)]) (st' := [.int (-2), .int r3]) (σ' := s3) (by decide +kernel) rfl rfl ?_
    refine g_ic_ne hx (off := 8) (tgt := 32) (by decide +kernel) (by decide) (fun c24 => ?_) (fun c24 => ?_)
    · have h := ok_f h c24
      refine g_run hx [(.aload_n 0, 0, 0), (.getfield 19, 0, 0), (.iload_n 1, 0, 0), (.aload_n 0, 0, 0), (.getfield 19, 0, 0)] (pc' := 41) (lo' := [some (.ref 0), some (.int r3)]) (st' := [.ref 10, .int r3, .ref 10]) (σ' := s3) (by decide +kernel) rfl rfl ?_
      refine g_callV (rest := [.int r3, .ref 10]) [] hx hc mk_country_fittingSets ln_9_285 rfl (by decide +kernel) (by decide) (Nat.le_of_ble_eq_true rfl) (s_country_fittingSets (ok_b h)) (fun r4 s4 h => ?_)
      refine g_callV (rest := []) [.int r3, .int r4] hx hc mk_country_leftBy ln_9_304 rfl (by decide +kernel) (by decide) (Nat.le_of_ble_eq_true rfl) (s_country_leftBy (ok_b h)) (fun r5 s5 h => ?_)
      exact g_iret hx hr rfl _ rfl (by decide +kernel) (ok_some h)
    · have h := ok_t h c24
      refine g_run hx [(.bipush (-2), (-2), 0)] (pc' := 29) (lo' := [some (.ref 0), some (.int r3)]) (st' := [.int (-2)]) (σ' := s3) (by decide +kernel) rfl rfl ?_
      refine g_goto hx (off := 18) (tgt := 47) (by decide +kernel) (by decide) ?_
      exact g_iret hx hr rfl _ rfl (by decide +kernel) (ok_some h)
  · have h := ok_f h c8
    refine g_run hx [(.iconst (-1), (-1), 0)] (pc' := 12) (lo' := [some (.ref 0), none]) (st' := [.int (-1)]) (σ' := s2) (by decide +kernel) rfl rfl ?_
    exact g_iret hx hr rfl _ rfl (by decide +kernel) (ok_some h)
def f_shelf_has (N : Nat) (a0 : Nat) (a1 : Nat) (a2 : Nat) (a3 : Nat) (a4 : Nat) (v1 : Int32) (σ : Sg) : Option (Bool × Sg) :=
  if v1 < 0 then
    some (false, σ)
  else
    if (nI a0) ≤ v1 then
      some (false, σ)
    else
      if (nI a1) ≤ v1 then
        some (false, σ)
      else
        if (nI a2) ≤ v1 then
          some (false, σ)
        else
          if (nI a3) ≤ v1 then
            some (false, σ)
          else
            if (nI a4) ≤ v1 then
              some (false, σ)
            else
              some (true, σ)
set_option maxRecDepth 100000 in
theorem s_shelf_has_49 {y : EX} {N : Nat} {v1 : Int32} {σ : Sg} {P : Bool × Sg → Prop} (h : ok (f_shelf_has N 3 3 3 3 3 v1 σ) P) : Ev y M_shelf_has 0 [.ref 49, .int v1] σ rvB P := by
  refine Ev.of mk_shelf_has (Nat.le_of_ble_eq_true rfl) (fun x hx hc hr => ?_)
  have hx : Cx 6 prog_8_method_2_code x := hx
  have hc : Cc y 2 0 x := hc
  show G x 0 [some (.ref 49), some (.int v1)] [] σ
  unfold f_shelf_has at h
  refine g_run hx [(.iload_n 1, 0, 0)] (pc' := 1) (lo' := [some (.ref 49), some (.int v1)]) (st' := [.int v1]) (σ' := σ) (by decide +kernel) rfl rfl ?_
  refine g_if_lt hx (off := 52) (tgt := 53) (by decide +kernel) (by decide) (fun c1 => ?_) (fun c1 => ?_)
  · have h := ok_t h c1
    refine g_run hx [(.iconst 0, 0, 0)] (pc' := 54) (lo' := [some (.ref 49), some (.int v1)]) (st' := [.int 0]) (σ' := σ) (by decide +kernel) rfl rfl ?_
    exact g_zret (b := false) hx hr rfl false rfl (by decide +kernel) (ok_some h)
  · have h := ok_f h c1
    refine g_run hx [(.iload_n 1, 0, 0), (.aload_n 0, 0, 0), (.getfield 13, 0, 0), (.arraylength, 0, 0)] (pc' := 10) (lo' := [some (.ref 49), some (.int v1)]) (st' := [.int (nI 3), .int v1]) (σ' := σ) (by decide +kernel) rfl rfl ?_
    refine g_ic_ge hx (off := 43) (tgt := 53) (by decide +kernel) (by decide) (fun c10 => ?_) (fun c10 => ?_)
    · have h := ok_t h c10
      refine g_run hx [(.iconst 0, 0, 0)] (pc' := 54) (lo' := [some (.ref 49), some (.int v1)]) (st' := [.int 0]) (σ' := σ) (by decide +kernel) rfl rfl ?_
      exact g_zret (b := false) hx hr rfl false rfl (by decide +kernel) (ok_some h)
    · have h := ok_f h c10
      refine g_run hx [(.iload_n 1, 0, 0), (.aload_n 0, 0, 0), (.getfield 19, 0, 0), (.arraylength, 0, 0)] (pc' := 19) (lo' := [some (.ref 49), some (.int v1)]) (st' := [.int (nI 3), .int v1]) (σ' := σ) (by decide +kernel) rfl rfl ?_
      refine g_ic_ge hx (off := 34) (tgt := 53) (by decide +kernel) (by decide) (fun c19 => ?_) (fun c19 => ?_)
      · have h := ok_t h c19
        refine g_run hx [(.iconst 0, 0, 0)] (pc' := 54) (lo' := [some (.ref 49), some (.int v1)]) (st' := [.int 0]) (σ' := σ) (by decide +kernel) rfl rfl ?_
        exact g_zret (b := false) hx hr rfl false rfl (by decide +kernel) (ok_some h)
      · have h := ok_f h c19
        refine g_run hx [(.iload_n 1, 0, 0), (.aload_n 0, 0, 0), (.getfield 22, 0, 0), (.arraylength, 0, 0)] (pc' := 28) (lo' := [some (.ref 49), some (.int v1)]) (st' := [.int (nI 3), .int v1]) (σ' := σ) (by decide +kernel) rfl rfl ?_
        refine g_ic_ge hx (off := 25) (tgt := 53) (by decide +kernel) (by decide) (fun c28 => ?_) (fun c28 => ?_)
        · have h := ok_t h c28
          refine g_run hx [(.iconst 0, 0, 0)] (pc' := 54) (lo' := [some (.ref 49), some (.int v1)]) (st' := [.int 0]) (σ' := σ) (by decide +kernel) rfl rfl ?_
          exact g_zret (b := false) hx hr rfl false rfl (by decide +kernel) (ok_some h)
        · have h := ok_f h c28
          refine g_run hx [(.iload_n 1, 0, 0), (.aload_n 0, 0, 0), (.getfield 26, 0, 0), (.arraylength, 0, 0)] (pc' := 37) (lo' := [some (.ref 49), some (.int v1)]) (st' := [.int (nI 3), .int v1]) (σ' := σ) (by decide +kernel) rfl rfl ?_
          refine g_ic_ge hx (off := 16) (tgt := 53) (by decide +kernel) (by decide) (fun c37 => ?_) (fun c37 => ?_)
          · have h := ok_t h c37
            refine g_run hx [(.iconst 0, 0, 0)] (pc' := 54) (lo' := [some (.ref 49), some (.int v1)]) (st' := [.int 0]) (σ' := σ) (by decide +kernel) rfl rfl ?_
            exact g_zret (b := false) hx hr rfl false rfl (by decide +kernel) (ok_some h)
          · have h := ok_f h c37
            refine g_run hx [(.iload_n 1, 0, 0), (.aload_n 0, 0, 0), (.getfield 29, 0, 0), (.arraylength, 0, 0)] (pc' := 46) (lo' := [some (.ref 49), some (.int v1)]) (st' := [.int (nI 3), .int v1]) (σ' := σ) (by decide +kernel) rfl rfl ?_
            refine g_ic_ge hx (off := 7) (tgt := 53) (by decide +kernel) (by decide) (fun c46 => ?_) (fun c46 => ?_)
            · have h := ok_t h c46
              refine g_run hx [(.iconst 0, 0, 0)] (pc' := 54) (lo' := [some (.ref 49), some (.int v1)]) (st' := [.int 0]) (σ' := σ) (by decide +kernel) rfl rfl ?_
              exact g_zret (b := false) hx hr rfl false rfl (by decide +kernel) (ok_some h)
            · have h := ok_f h c46
              refine g_run hx [(.iconst 1, 1, 0)] (pc' := 50) (lo' := [some (.ref 49), some (.int v1)]) (st' := [.int 1]) (σ' := σ) (by decide +kernel) rfl rfl ?_
              refine g_goto hx (off := 4) (tgt := 54) (by decide +kernel) (by decide) ?_
              exact g_zret (b := true) hx hr rfl true rfl (by decide +kernel) (ok_some h)
