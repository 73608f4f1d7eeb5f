def f_country_lostFolk_L5 (N : Nat) : Nat → Int64 → Int32 → Int32 → Sg → Option (Int32 × Sg)
  | 0, _, _, _, _ => none
  | n + 1, v1, v3, v4, σ =>
    if (gI σ 13 1) ≤ v4 then
      some (v3, σ)
    else
      (f_country_isLost N v4 v1 σ).bind fun q1 =>
      if q1.1 = true then
        (f_numbers_at N 15 6 16 v4 q1.2).bind fun q2 =>
        f_country_lostFolk_L5 N n v1 (v3 + q2.1) (v4 + 1) q2.2
      else
        f_country_lostFolk_L5 N n v1 v3 (v4 + 1) q1.2
def f_country_lostFolk (N : Nat) (v1 : Int64) (σ : Sg) : Option (Int32 × Sg) :=
  f_country_lostFolk_L5 N N v1 0 0 σ
set_option maxRecDepth 100000 in
theorem s_country_lostFolk_L5 {y : EX} {N : Nat} {x : CX} {P : Int32 × Sg → Prop} (hx : Cx 1 prog_3_method_11_code x) (hc : Cc y 5 2 x) (hr : Cr M_country_lostFolk rvI P x) : ∀ (n : Nat) (v1 : Int64) (v3 : Int32) (v4 : Int32) (σ : Sg), ok (f_country_lostFolk_L5 N n v1 v3 v4 σ) P → G x 5 [some (.ref 10), some (.long v1), none, some (.int v3), some (.int v4)] [] σ := by
  intro n
  induction n with
  | zero => intro v1 v3 v4 σ h; exact ok_none h
  | succ n ih =>
    intro v1 v3 v4 σ h
    rw [f_country_lostFolk_L5] at h
    refine g_run hx [(.iload 4, 0, 0), (.aload_n 0, 0, 0), (.getfield 40, 0, 0), (.getfield 64, 0, 0)] (pc' := 14) (lo' := [some (.ref 10), some (.long v1), none, some (.int v3), some (.int v4)]) (st' := [.int (gI σ 13 1), .int v4]) (σ' := σ) (by decide +kernel) rfl rfl ?_
    refine g_ic_ge hx (off := 31) (tgt := 45) (by decide +kernel) (by decide) (fun c14 => ?_) (fun c14 => ?_)
    · have h := ok_t h c14
      refine g_run hx [(.iload_n 3, 0, 0)] (pc' := 46) (lo' := [some (.ref 10), some (.long v1), none, some (.int v3), some (.int v4)]) (st' := [.int v3]) (σ' := σ) (by decide +kernel) rfl rfl ?_
      exact g_iret hx hr rfl _ rfl (by decide +kernel) (ok_some h)
    · have h := ok_f h c14
      refine g_run hx [(.aload_n 0, 0, 0), (.iload 4, 0, 0), (.lload_n 1, 0, 0)] (pc' := 21) (lo' := [some (.ref 10), some (.long v1), none, some (.int v3), some (.int v4)]) (st' := [.long v1, .int v4, .ref 10]) (σ' := σ) (by decide +kernel) rfl rfl ?_
      refine g_callV (rest := []) [.int v4, .long v1] hx hc mk_country_isLost ln_1_84 rfl (by decide +kernel) (by decide) (Nat.le_of_ble_eq_true rfl) (s_country_isLost (ok_b h)) (fun r1 s1 h => ?_)
      refine g_ifb_eq hx (off := 15) (tgt := 39) (by decide +kernel) (by decide) (fun c24 => ?_) (fun c24 => ?_)
      · have h := ok_f h c24
        refine g_run hx [(.iinc 4 1, 1, 0)] (pc' := 42) (lo' := [some (.ref 10), some (.long v1), none, some (.int v3), some (.int (v4 + 1))]) (st' := []) (σ' := s1) (by decide +kernel) rfl rfl ?_
        refine g_goto hx (off := (-37)) (tgt := 5) (by decide +kernel) (by decide) ?_
        exact ih _ _ _ _ h
      · have h := ok_t h c24
        refine g_run hx [(.iload_n 3, 0, 0), (.aload_n 0, 0, 0), (.getfield 43, 0, 0), (.iload 4, 0, 0)] (pc' := 34) (lo' := [some (.ref 10), some (.long v1), none, some (.int v3), some (.int v4)]) (st' := [.int v4, .ref 15, .int v3]) (σ' := s1) (by decide +kernel) rfl rfl ?_
        refine g_callV (rest := [.int v3]) [.int v4] hx hc mk_numbers_at ln_1_81 rfl (by decide +kernel) (by decide) (Nat.le_of_ble_eq_true rfl) (s_numbers_at_15 (ok_b h)) (fun r2 s2 h => ?_)
        refine g_run hx [(.iadd, 0, 0), (.istore_n 3, 0, 0), (.iinc 4 1, 1, 0)] (pc' := 42) (lo' := [some (.ref 10), some (.long v1), none, some (.int (v3 + r2)), some (.int (v4 + 1))]) (st' := []) (σ' := s2) (by decide +kernel) rfl rfl ?_
        refine g_goto hx (off := (-37)) (tgt := 5) (by decide +kernel) (by decide) ?_
        exact ih _ _ _ _ h
set_option maxRecDepth 100000 in
theorem s_country_lostFolk {y : EX} {N : Nat} {v1 : Int64} {σ : Sg} {P : Int32 × Sg → Prop} (h : ok (f_country_lostFolk N v1 σ) P) : Ev y M_country_lostFolk 2 [.ref 10, .long v1] σ rvI P := by
  refine Ev.of mk_country_lostFolk (Nat.le_of_ble_eq_true rfl) (fun x hx hc hr => ?_)
  have hx : Cx 1 prog_3_method_11_code x := hx
  have hc : Cc y 5 2 x := hc
  show G x 0 [some (.ref 10), some (.long v1), none, none, none] [] σ
  unfold f_country_lostFolk at h
  refine g_run hx [(.iconst 0, 0, 0), (.istore_n 3, 0, 0), (.iconst 0, 0, 0), (.istore 4, 0, 0)] (pc' := 5) (lo' := [some (.ref 10), some (.long v1), none, some (.int 0), some (.int 0)]) (st' := []) (σ' := σ) (by decide +kernel) rfl rfl ?_
  refine s_country_lostFolk_L5 hx hc hr N _ _ _ _ h
def f_paths_put (N : Nat) (a0 : Nat) (a1 : Nat) (v1 : Int32) (v2 : Int32) (σ : Sg) : Option (Unit × Sg) :=
  if v1 < 0 then
    some ((), σ)
  else
    if (nI a0) ≤ v1 then
      some ((), σ)
    else
      if vin v1 a0 then
      some ((), sA σ a1 v1 v2)
      else none
set_option maxRecDepth 100000 in
theorem s_paths_put_56 {y : EX} {N : Nat} {v1 : Int32} {v2 : Int32} {σ : Sg} {P : Unit × Sg → Prop} (h : ok (f_paths_put N 60 56 v1 v2 σ) P) : Ev y M_paths_put 0 [.ref 56, .int v1, .int v2] σ rvN P := by
  refine Ev.of mk_paths_put (Nat.le_of_ble_eq_true rfl) (fun x hx hc hr => ?_)
  have hx : Cx 4 prog_6_method_14_code x := hx
  have hc : Cc y 3 0 x := hc
  show G x 0 [some (.ref 56), some (.int v1), some (.int v2)] [] σ
  unfold f_paths_put at h
  refine g_run hx [(.iload_n 1, 0, 0)] (pc' := 1) (lo' := [some (.ref 56), some (.int v1), some (.int v2)]) (st' := [.int v1]) (σ' := σ) (by decide +kernel) rfl rfl ?_
  refine g_if_lt hx (off := 13) (tgt := 14) (by decide +kernel) (by decide) (fun c1 => ?_) (fun c1 => ?_)
  · have h := ok_t h c1
    exact g_vret hx hr rfl () rfl (by decide +kernel) (ok_some h)
  · have h := ok_f h c1
    refine g_run hx [(.iload_n 1, 0, 0), (.aload_n 0, 0, 0), (.arraylength, 0, 0)] (pc' := 7) (lo' := [some (.ref 56), some (.int v1), some (.int v2)]) (st' := [.int (nI 60), .int v1]) (σ' := σ) (by decide +kernel) rfl rfl ?_
    refine g_ic_ge hx (off := 7) (tgt := 14) (by decide +kernel) (by decide) (fun c7 => ?_) (fun c7 => ?_)
    · have h := ok_t h c7
      exact g_vret hx hr rfl () rfl (by decide +kernel) (ok_some h)
    · have h := ok_f h c7
      refine g_run hx [(.aload_n 0, 0, 0), (.iload_n 1, 0, 0), (.iload_n 2, 0, 0)] (pc' := 13) (lo' := [some (.ref 56), some (.int v1), some (.int v2)]) (st' := [.int v2, .int v1, .ref 56]) (σ' := σ) (by decide +kernel) rfl rfl ?_
      obtain ⟨c13, h⟩ := ok_g h
      refine g_iast hx (by decide +kernel) (i := 56) (n := 60) rfl c13 ?_
      exact g_vret hx hr rfl () rfl (by decide +kernel) (ok_some h)
set_option maxRecDepth 100000 in
theorem s_paths_put_58 {y : EX} {N : Nat} {v1 : Int32} {v2 : Int32} {σ : Sg} {P : Unit × Sg → Prop} (h : ok (f_paths_put N 60 58 v1 v2 σ) P) : Ev y M_paths_put 0 [.ref 58, .int v1, .int v2] σ rvN P := by
  refine Ev.of mk_paths_put (Nat.le_of_ble_eq_true rfl) (fun x hx hc hr => ?_)
  have hx : Cx 4 prog_6_method_14_code x := hx
  have hc : Cc y 3 0 x := hc
  show G x 0 [some (.ref 58), some (.int v1), some (.int v2)] [] σ
  unfold f_paths_put at h
  refine g_run hx [(.iload_n 1, 0, 0)] (pc' := 1) (lo' := [some (.ref 58), some (.int v1), some (.int v2)]) (st' := [.int v1]) (σ' := σ) (by decide +kernel) rfl rfl ?_
  refine g_if_lt hx (off := 13) (tgt := 14) (by decide +kernel) (by decide) (fun c1 => ?_) (fun c1 => ?_)
  · have h := ok_t h c1
    exact g_vret hx hr rfl () rfl (by decide +kernel) (ok_some h)
  · have h := ok_f h c1
    refine g_run hx [(.iload_n 1, 0, 0), (.aload_n 0, 0, 0), (.arraylength, 0, 0)] (pc' := 7) (lo' := [some (.ref 58), some (.int v1), some (.int v2)]) (st' := [.int (nI 60), .int v1]) (σ' := σ) (by decide +kernel) rfl rfl ?_
    refine g_ic_ge hx (off := 7) (tgt := 14) (by decide +kernel) (by decide) (fun c7 => ?_) (fun c7 => ?_)
    · have h := ok_t h c7
      exact g_vret hx hr rfl () rfl (by decide +kernel) (ok_some h)
    · have h := ok_f h c7
      refine g_run hx [(.aload_n 0, 0, 0), (.iload_n 1, 0, 0), (.iload_n 2, 0, 0)] (pc' := 13) (lo' := [some (.ref 58), some (.int v1), some (.int v2)]) (st' := [.int v2, .int v1, .ref 58]) (σ' := σ) (by decide +kernel) rfl rfl ?_
      obtain ⟨c13, h⟩ := ok_g h
      refine g_iast hx (by decide +kernel) (i := 58) (n := 60) rfl c13 ?_
      exact g_vret hx hr rfl () rfl (by decide +kernel) (ok_some h)
set_option maxRecDepth 100000 in
theorem s_paths_put_60 {y : EX} {N : Nat} {v1 : Int32} {v2 : Int32} {σ : Sg} {P : Unit × Sg → Prop} (h : ok (f_paths_put N 60 60 v1 v2 σ) P) : Ev y M_paths_put 0 [.ref 60, .int v1, .int v2] σ rvN P := by
  refine Ev.of mk_paths_put (Nat.le_of_ble_eq_true rfl) (fun x hx hc hr => ?_)
  have hx : Cx 4 prog_6_method_14_code x := hx
  have hc : Cc y 3 0 x := hc
  show G x 0 [some (.ref 60), some (.int v1), some (.int v2)] [] σ
  unfold f_paths_put at h
  refine g_run hx [(.iload_n 1, 0, 0)] (pc' := 1) (lo' := [some (.ref 60), some (.int v1), some (.int v2)]) (st' := [.int v1]) (σ' := σ) (by decide +kernel) rfl rfl ?_
  refine g_if_lt hx (off := 13) (tgt := 14) (by decide +kernel) (by decide) (fun c1 => ?_) (fun c1 => ?_)
  · have h := ok_t h c1
    exact g_vret hx hr rfl () rfl (by decide +kernel) (ok_some h)
  · have h := ok_f h c1
    refine g_run hx [(.iload_n 1, 0, 0), (.aload_n 0, 0, 0), (.arraylength, 0, 0)] (pc' := 7) (lo' := [some (.ref 60), some (.int v1), some (.int v2)]) (st' := [.int (nI 60), .int v1]) (σ' := σ) (by decide +kernel) rfl rfl ?_
    refine g_ic_ge hx (off := 7) (tgt := 14) (by decide +kernel) (by decide) (fun c7 => ?_) (fun c7 => ?_)
    · have h := ok_t h c7
      exact g_vret hx hr rfl () rfl (by decide +kernel) (ok_some h)
    · have h := ok_f h c7
      refine g_run hx [(.aload_n 0, 0, 0), (.iload_n 1, 0, 0), (.iload_n 2, 0, 0)] (pc' := 13) (lo' := [some (.ref 60), some (.int v1), some (.int v2)]) (st' := [.int v2, .int v1, .ref 60]) (σ' := σ) (by decide +kernel) rfl rfl ?_
      obtain ⟨c13, h⟩ := ok_g h
      refine g_iast hx (by decide +kernel) (i := 60) (n := 60) rfl c13 ?_
      exact g_vret hx hr rfl () rfl (by decide +kernel) (ok_some h)
def f_paths_get (N : Nat) (a0 : Nat) (a1 : Nat) (v1 : Int32) (σ : Sg) : Option (Int32 × Sg) :=
  if v1 < 0 then
    some ((-2), σ)
  else
    if (nI a0) ≤ v1 then
      some ((-2), σ)
    else
      if vin v1 a0 then
      some ((gA σ a1 v1), σ)
      else none
set_option maxRecDepth 100000 in
theorem s_paths_get_56 {y : EX} {N : Nat} {v1 : Int32} {σ : Sg} {P : Int32 × Sg → Prop} (h : ok (f_paths_get N 60 56 v1 σ) P) : Ev y M_paths_get 0 [.ref 56, .int v1] σ rvI P := by
  refine Ev.of mk_paths_get (Nat.le_of_ble_eq_true rfl) (fun x hx hc hr => ?_)
  have hx : Cx 4 prog_6_method_13_code x := hx
  have hc : Cc y 2 0 x := hc
  show G x 0 [some (.ref 56), some (.int v1)] [] σ
  unfold f_paths_get at h
  refine g_run hx [(.iload_n 1, 0, 0)] (pc' := 1) (lo' := [some (.ref 56), some (.int v1)]) (st' := [.int v1]) (σ' := σ) (by decide +kernel) rfl rfl ?_
  refine g_if_lt hx (off := 15) (tgt := 16) (by decide +kernel) (by decide) (fun c1 => ?_) (fun c1 => ?_)
  · have h := ok_t h c1
    refine g_run hx [(.bipush (-2), (-2), 0)] (pc' := 18) (lo' := [some (.ref 56), some (.int v1)]) (st' := [.int (-2)]) (σ' := σ) (by decide +kernel) rfl rfl ?_
    exact g_iret hx hr rfl _ rfl (by decide +kernel) (ok_some h)
  · have h := ok_f h c1
    refine g_run hx [(.iload_n 1, 0, 0), (.aload_n 0, 0, 0), (.arraylength, 0, 0)] (pc' := 7) (lo' := [some (.ref 56), some (.int v1)]) (st' := [.int (nI 60), .int v1]) (σ' := σ) (by decide +kernel) rfl rfl ?_
    refine g_ic_ge hx (off := 9) (tgt := 16) (by decide +kernel) (by decide) (fun c7 => ?_) (fun c7 => ?_)
    · have h := ok_t h c7
      refine g_run hx [(.bipush (-2), (-2), 0)] (pc' := 18) (lo' := [some (.ref 56), some (.int v1)]) (st' := [.int (-2)]) (σ' := σ) (by decide +kernel) rfl rfl ?_
      exact g_iret hx hr rfl _ rfl (by decide +kernel) (ok_some h)
    · have h := ok_f h c7
      refine g_run hx [(.aload_n 0, 0, 0), (.iload_n 1, 0, 0)] (pc' := 12) (lo' := [some (.ref 56), some (.int v1)]) (st' := [.int v1, .ref 56]) (σ' := σ) (by decide +kernel) rfl rfl ?_
      obtain ⟨c12, h⟩ := ok_g h
      refine g_iald hx (by decide +kernel) (i := 56) (n := 60) rfl c12 ?_
      refine g_goto hx (off := 5) (tgt := 18) (by decide +kernel) (by decide) ?_
      exact g_iret hx hr rfl _ rfl (by decide +kernel) (ok_some h)
set_option maxRecDepth 100000 in
theorem s_paths_put_57 {y : EX} {N : Nat} {v1 : Int32} {v2 : Int32} {σ : Sg} {P : Unit × Sg → Prop} (h : ok (f_paths_put N 60 57 v1 v2 σ) P) : Ev y M_paths_put 0 [.ref 57, .int v1, .int v2] σ rvN P := by
  refine Ev.of mk_paths_put (Nat.le_of_ble_eq_true rfl) (fun x hx hc hr => ?_)
  have hx : Cx 4 prog_6_method_14_code x := hx
  have hc : Cc y 3 0 x := hc
  show G x 0 [some (.ref 57), some (.int v1), some (.int v2)] [] σ
  unfold f_paths_put at h
  refine g_run hx [(.iload_n 1, 0, 0)] (pc' := 1) (lo' := [some (.ref 57), some (.int v1), some (.int v2)]) (st' := [.int v1]) (σ' := σ) (by decide +kernel) rfl rfl ?_
  refine g_if_lt hx (off := 13) (tgt := 14) (by decide +kernel) (by decide) (fun c1 => ?_) (fun c1 => ?_)
  · have h := ok_t h c1
    exact g_vret hx hr rfl () rfl (by decide +kernel) (ok_some h)
  · have h := ok_f h c1
    refine g_run hx [(.iload_n 1, 0, 0), (.aload_n 0, 0, 0), (.arraylength, 0, 0)] (pc' := 7) (lo' := [some (.ref 57), some (.int v1), some (.int v2)]) (st' := [.int (nI 60), .int v1]) (σ' := σ) (by decide +kernel) rfl rfl ?_
    refine g_ic_ge hx (off := 7) (tgt := 14) (by decide +kernel) (by decide) (fun c7 => ?_) (fun c7 => ?_)
    · have h := ok_t h c7
      exact g_vret hx hr rfl () rfl (by decide +kernel) (ok_some h)
    · have h := ok_f h c7
      refine g_run hx [(.aload_n 0, 0, 0), (.iload_n 1, 0, 0), (.iload_n 2, 0, 0)] (pc' := 13) (lo' := [some (.ref 57), some (.int v1), some (.int v2)]) (st' := [.int v2, .int v1, .ref 57]) (σ' := σ) (by decide +kernel) rfl rfl ?_
      obtain ⟨c13, h⟩ := ok_g h
      refine g_iast hx (by decide +kernel) (i := 57) (n := 60) rfl c13 ?_
      exact g_vret hx hr rfl () rfl (by decide +kernel) (ok_some h)
set_option maxRecDepth 100000 in
theorem s_paths_get_58 {y : EX} {N : Nat} {v1 : Int32} {σ : Sg} {P : Int32 × Sg → Prop} (h : ok (f_paths_get N 60 58 v1 σ) P) : Ev y M_paths_get 0 [.ref 58, .int v1] σ rvI P := by
  refine Ev.of mk_paths_get (Nat.le_of_ble_eq_true rfl) (fun x hx hc hr => ?_)
  have hx : Cx 4 prog_6_method_13_code x := hx
  have hc : Cc y 2 0 x := hc
  show G x 0 [some (.ref 58), some (.int v1)] [] σ
  unfold f_paths_get at h
  refine g_run hx [(.iload_n 1, 0, 0)] (pc' := 1) (lo' := [some (.ref 58), some (.int v1)]) (st' := [.int v1]) (σ' := σ) (by decide +kernel) rfl rfl ?_
  refine g_if_lt hx (off := 15) (tgt := 16) (by decide +kernel) (by decide) (fun c1 => ?_) (fun c1 => ?_)
  · have h := ok_t h c1
    refine g_run hx [(.bipush (-2), (-2), 0)] (pc' := 18) (lo' := [some (.ref 58), some (.int v1)]) (st' := [.int (-2)]) (σ' := σ) (by decide +kernel) rfl rfl ?_
    exact g_iret hx hr rfl _ rfl (by decide +kernel) (ok_some h)
  · have h := ok_f h c1
    refine g_run hx [(.iload_n 1, 0, 0), (.aload_n 0, 0, 0), (.arraylength, 0, 0)] (pc' := 7) (lo' := [some (.ref 58), some (.int v1)]) (st' := [.int (nI 60), .int v1]) (σ' := σ) (by decide +kernel) rfl rfl ?_
    refine g_ic_ge hx (off := 9) (tgt := 16) (by decide +kernel) (by decide) (fun c7 => ?_) (fun c7 => ?_)
    · have h := ok_t h c7
      refine g_run hx [(.bipush (-2), (-2), 0)] (pc' := 18) (lo' := [some (.ref 58), some (.int v1)]) (st' := [.int (-2)]) (σ' := σ) (by decide +kernel) rfl rfl ?_
      exact g_iret hx hr rfl _ rfl (by decide +kernel) (ok_some h)
    · have h := ok_f h c7
      refine g_run hx [(.aload_n 0, 0, 0), (.iload_n 1, 0, 0)] (pc' := 12) (lo' := [some (.ref 58), some (.int v1)]) (st' := [.int v1, .ref 58]) (σ' := σ) (by decide +kernel) rfl rfl ?_
      obtain ⟨c12, h⟩ := ok_g h
      refine g_iald hx (by decide +kernel) (i := 58) (n := 60) rfl c12 ?_
      refine g_goto hx (off := 5) (tgt := 18) (by decide +kernel) (by decide) ?_
      exact g_iret hx hr rfl _ rfl (by decide +kernel) (ok_some h)
set_option maxRecDepth 100000 in
theorem s_paths_put_59 {y : EX} {N : Nat} {v1 : Int32} {v2 : Int32} {σ : Sg} {P : Unit × Sg → Prop} (h : ok (f_paths_put N 60 59 v1 v2 σ) P) : Ev y M_paths_put 0 [.ref 59, .int v1, .int v2] σ rvN P := by
  refine Ev.of mk_paths_put (Nat.le_of_ble_eq_true rfl) (fun x hx hc hr => ?_)
  have hx : Cx 4 prog_6_method_14_code x := hx
  have hc : Cc y 3 0 x := hc
  show G x 0 [some (.ref 59), some (.int v1), some (.int v2)] [] σ
  unfold f_paths_put at h
  refine g_run hx [(.iload_n 1, 0, 0)] (pc' := 1) (lo' := [some (.ref 59), some (.int v1), some (.int v2)]) (st' := [.int v1]) (σ' := σ) (by decide +kernel) rfl rfl ?_
  refine g_if_lt hx (off := 13) (tgt := 14) (by decide +kernel) (by decide) (fun c1 => ?_) (fun c1 => ?_)
  · have h := ok_t h c1
    exact g_vret hx hr rfl () rfl (by decide +kernel) (ok_some h)
  · have h := ok_f h c1
    refine g_run hx [(.iload_n 1, 0, 0), (.aload_n 0, 0, 0), (.arraylength, 0, 0)] (pc' := 7) (lo' := [some (.ref 59), some (.int v1), some (.int v2)]) (st' := [.int (nI 60), .int v1]) (σ' := σ) (by decide +kernel) rfl rfl ?_
    refine g_ic_ge hx (off := 7) (tgt := 14) (by decide +kernel) (by decide) (fun c7 => ?_) (fun c7 => ?_)
    · have h := ok_t h c7
      exact g_vret hx hr rfl () rfl (by decide +kernel) (ok_some h)
    · have h := ok_f h c7
      refine g_run hx [(.aload_n 0, 0, 0), (.iload_n 1, 0, 0), (.iload_n 2, 0, 0)] (pc' := 13) (lo' := [some (.ref 59), some (.int v1), some (.int v2)]) (st' := [.int v2, .int v1, .ref 59]) (σ' := σ) (by decide +kernel) rfl rfl ?_
      obtain ⟨c13, h⟩ := ok_g h
      refine g_iast hx (by decide +kernel) (i := 59) (n := 60) rfl c13 ?_
      exact g_vret hx hr rfl () rfl (by decide +kernel) (ok_some h)
set_option maxRecDepth 100000 in
theorem s_paths_get_59 {y : EX} {N : Nat} {v1 : Int32} {σ : Sg} {P : Int32 × Sg → Prop} (h : ok (f_paths_get N 60 59 v1 σ) P) : Ev y M_paths_get 0 [.ref 59, .int v1] σ rvI P := by
  refine Ev.of mk_paths_get (Nat.le_of_ble_eq_true rfl) (fun x hx hc hr => ?_)
  have hx : Cx 4 prog_6_method_13_code x := hx
  have hc : Cc y 2 0 x := hc
  show G x 0 [some (.ref 59), some (.int v1)] [] σ
  unfold f_paths_get at h
  refine g_run hx [(.iload_n 1, 0, 0)] (pc' := 1) (lo' := [some (.ref 59), some (.int v1)]) (st' := [.int v1]) (σ' := σ) (by decide +kernel) rfl rfl ?_
  refine g_if_lt hx (off := 15) (tgt := 16) (by decide +kernel) (by decide) (fun c1 => ?_) (fun c1 => ?_)
  · have h := ok_t h c1
    refine g_run hx [(.bipush (-2), (-2), 0)] (pc' := 18) (lo' := [some (.ref 59), some (.int v1)]) (st' := [.int (-2)]) (σ' := σ) (by decide +kernel) rfl rfl ?_
    exact g_iret hx hr rfl _ rfl (by decide +kernel) (ok_some h)
  · have h := ok_f h c1
    refine g_run hx [(.iload_n 1, 0, 0), (.aload_n 0, 0, 0), (.arraylength, 0, 0)] (pc' := 7) (lo' := [some (.ref 59), some (.int v1)]) (st' := [.int (nI 60), .int v1]) (σ' := σ) (by decide +kernel) rfl rfl ?_
    refine g_ic_ge hx (off := 9) (tgt := 16) (by decide +kernel) (by decide) (fun c7 => ?_) (fun c7 => ?_)
    · have h := ok_t h c7
      refine g_run hx [(.bipush (-2), (-2), 0)] (pc' := 18) (lo' := [some (.ref 59), some (.int v1)]) (st' := [.int (-2)]) (σ' := σ) (by decide +kernel) rfl rfl ?_
      exact g_iret hx hr rfl _ rfl (by decide +kernel) (ok_some h)
    · have h := ok_f h c7
      refine g_run hx [(.aload_n 0, 0, 0), (.iload_n 1, 0, 0)] (pc' := 12) (lo' := [some (.ref 59), some (.int v1)]) (st' := [.int v1, .ref 59]) (σ' := σ) (by decide +kernel) rfl rfl ?_
      obtain ⟨c12, h⟩ := ok_g h
      refine g_iald hx (by decide +kernel) (i := 59) (n := 60) rfl c12 ?_
      refine g_goto hx (off := 5) (tgt := 18) (by decide +kernel) (by decide) ?_
      exact g_iret hx hr rfl _ rfl (by decide +kernel) (ok_some h)
def f_paths_note (N : Nat) (v1 : Int32) (v2 : Int32) (v3 : Int32) (v4 : Int32) (σ : Sg) : Option (Unit × Sg) :=
  if v1 < 0 then
    (f_paths_get N 60 56 v2 σ).bind fun q1 =>
    if q1.1 = (-2) then
      (f_paths_put N 60 56 v2 v1 q1.2).bind fun q2 =>
      (f_paths_put N 60 57 v2 v3 q2.2).bind fun q3 =>
      (f_paths_get N 60 58 v2 q3.2).bind fun q4 =>
      if q4.1 = (-2) then
        (f_paths_put N 60 58 v2 v4 q4.2).bind fun q5 =>
        (f_paths_put N 60 59 v2 v1 q5.2).bind fun q6 =>
        (f_paths_put N 60 60 v2 v3 q6.2).bind fun q7 =>
        some ((), q7.2)
      else
        if v4 < q4.1 then
          (f_paths_put N 60 58 v2 v4 q4.2).bind fun q8 =>
          (f_paths_put N 60 59 v2 v1 q8.2).bind fun q9 =>
          (f_paths_put N 60 60 v2 v3 q9.2).bind fun q10 =>
          some ((), q10.2)
        else
          if v4 = q4.1 then
            (f_paths_get N 60 59 v2 q4.2).bind fun q11 =>
            if q11.1 ≤ v1 then
              some ((), q11.2)
            else
              (f_paths_put N 60 58 v2 v4 q11.2).bind fun q12 =>
              (f_paths_put N 60 59 v2 v1 q12.2).bind fun q13 =>
              (f_paths_put N 60 60 v2 v3 q13.2).bind fun q14 =>
              some ((), q14.2)
          else
            some ((), q4.2)
    else
      if q1.1 ≤ v1 then
        (f_paths_get N 60 58 v2 q1.2).bind fun q15 =>
        if q15.1 = (-2) then
          (f_paths_put N 60 58 v2 v4 q15.2).bind fun q16 =>
          (f_paths_put N 60 59 v2 v1 q16.2).bind fun q17 =>
          (f_paths_put N 60 60 v2 v3 q17.2).bind fun q18 =>
          some ((), q18.2)
        else
          if v4 < q15.1 then
            (f_paths_put N 60 58 v2 v4 q15.2).bind fun q19 =>
            (f_paths_put N 60 59 v2 v1 q19.2).bind fun q20 =>
            (f_paths_put N 60 60 v2 v3 q20.2).bind fun q21 =>
            some ((), q21.2)
          else
            if v4 = q15.1 then
              (f_paths_get N 60 59 v2 q15.2).bind fun q22 =>
              if q22.1 ≤ v1 then
                some ((), q22.2)
              else
                (f_paths_put N 60 58 v2 v4 q22.2).bind fun q23 =>
                (f_paths_put N 60 59 v2 v1 q23.2).bind fun q24 =>
                (f_paths_put N 60 60 v2 v3 q24.2).bind fun q25 =>
                some ((), q25.2)
            else
              some ((), q15.2)
      else
        (f_paths_put N 60 56 v2 v1 q1.2).bind fun q26 =>
        (f_paths_put N 60 57 v2 v3 q26.2).bind fun q27 =>
        (f_paths_get N 60 58 v2 q27.2).bind fun q28 =>
        if q28.1 = (-2) then
          (f_paths_put N 60 58 v2 v4 q28.2).bind fun q29 =>
          (f_paths_put N 60 59 v2 v1 q29.2).bind fun q30 =>
          (f_paths_put N 60 60 v2 v3 q30.2).bind fun q31 =>
          some ((), q31.2)
        else
          if v4 < q28.1 then
            (f_paths_put N 60 58 v2 v4 q28.2).bind fun q32 =>
            (f_paths_put N 60 59 v2 v1 q32.2).bind fun q33 =>
            (f_paths_put N 60 60 v2 v3 q33.2).bind fun q34 =>
            some ((), q34.2)
          else
            if v4 = q28.1 then
              (f_paths_get N 60 59 v2 q28.2).bind fun q35 =>
              if q35.1 ≤ v1 then
                some ((), q35.2)
              else
                (f_paths_put N 60 58 v2 v4 q35.2).bind fun q36 =>
                (f_paths_put N 60 59 v2 v1 q36.2).bind fun q37 =>
                (f_paths_put N 60 60 v2 v3 q37.2).bind fun q38 =>
                some ((), q38.2)
            else
              some ((), q28.2)
  else
    if (nI 6) ≤ v1 then
      (f_paths_get N 60 56 v2 σ).bind fun q39 =>
      if q39.1 = (-2) then
        (f_paths_put N 60 56 v2 v1 q39.2).bind fun q40 =>
        (f_paths_put N 60 57 v2 v3 q40.2).bind fun q41 =>
        (f_paths_get N 60 58 v2 q41.2).bind fun q42 =>
        if q42.1 = (-2) then
          (f_paths_put N 60 58 v2 v4 q42.2).bind fun q43 =>
          (f_paths_put N 60 59 v2 v1 q43.2).bind fun q44 =>
          (f_paths_put N 60 60 v2 v3 q44.2).bind fun q45 =>
          some ((), q45.2)
        else
          if v4 < q42.1 then
            (f_paths_put N 60 58 v2 v4 q42.2).bind fun q46 =>
            (f_paths_put N 60 59 v2 v1 q46.2).bind fun q47 =>
            (f_paths_put N 60 60 v2 v3 q47.2).bind fun q48 =>
            some ((), q48.2)
          else
            if v4 = q42.1 then
              (f_paths_get N 60 59 v2 q42.2).bind fun q49 =>
              if q49.1 ≤ v1 then
                some ((), q49.2)
              else
                (f_paths_put N 60 58 v2 v4 q49.2).bind fun q50 =>
                (f_paths_put N 60 59 v2 v1 q50.2).bind fun q51 =>
                (f_paths_put N 60 60 v2 v3 q51.2).bind fun q52 =>
                some ((), q52.2)
            else
              some ((), q42.2)
      else
        if q39.1 ≤ v1 then
          (f_paths_get N 60 58 v2 q39.2).bind fun q53 =>
          if q53.1 = (-2) then
            (f_paths_put N 60 58 v2 v4 q53.2).bind fun q54 =>
            (f_paths_put N 60 59 v2 v1 q54.2).bind fun q55 =>
            (f_paths_put N 60 60 v2 v3 q55.2).bind fun q56 =>
            some ((), q56.2)
          else
            if v4 < q53.1 then
              (f_paths_put N 60 58 v2 v4 q53.2).bind fun q57 =>
              (f_paths_put N 60 59 v2 v1 q57.2).bind fun q58 =>
              (f_paths_put N 60 60 v2 v3 q58.2).bind fun q59 =>
              some ((), q59.2)
            else
              if v4 = q53.1 then
                (f_paths_get N 60 59 v2 q53.2).bind fun q60 =>
                if q60.1 ≤ v1 then
                  some ((), q60.2)
                else
                  (f_paths_put N 60 58 v2 v4 q60.2).bind fun q61 =>
                  (f_paths_put N 60 59 v2 v1 q61.2).bind fun q62 =>
                  (f_paths_put N 60 60 v2 v3 q62.2).bind fun q63 =>
                  some ((), q63.2)
              else
                some ((), q53.2)
        else
          (f_paths_put N 60 56 v2 v1 q39.2).bind fun q64 =>
          (f_paths_put N 60 57 v2 v3 q64.2).bind fun q65 =>
          (f_paths_get N 60 58 v2 q65.2).bind fun q66 =>
          if q66.1 = (-2) then
            (f_paths_put N 60 58 v2 v4 q66.2).bind fun q67 =>
            (f_paths_put N 60 59 v2 v1 q67.2).bind fun q68 =>
            (f_paths_put N 60 60 v2 v3 q68.2).bind fun q69 =>
            some ((), q69.2)
          else
            if v4 < q66.1 then
              (f_paths_put N 60 58 v2 v4 q66.2).bind fun q70 =>
              (f_paths_put N 60 59 v2 v1 q70.2).bind fun q71 =>
              (f_paths_put N 60 60 v2 v3 q71.2).bind fun q72 =>
              some ((), q72.2)
            else
              if v4 = q66.1 then
                (f_paths_get N 60 59 v2 q66.2).bind fun q73 =>
                if q73.1 ≤ v1 then
                  some ((), q73.2)
                else
                  (f_paths_put N 60 58 v2 v4 q73.2).bind fun q74 =>
                  (f_paths_put N 60 59 v2 v1 q74.2).bind fun q75 =>
                  (f_paths_put N 60 60 v2 v3 q75.2).bind fun q76 =>
                  some ((), q76.2)
              else
                some ((), q66.2)
    else
      if vin v1 6 then
      (f_x_span N v2 v2 σ).bind fun q77 =>
      if vin v1 6 then
      (f_paths_get N 60 56 v2 (sM q77.2 61 v1 ((gM σ 61 v1) ||| q77.1))).bind fun q78 =>
      if q78.1 = (-2) then
        (f_paths_put N 60 56 v2 v1 q78.2).bind fun q79 =>
        (f_paths_put N 60 57 v2 v3 q79.2).bind fun q80 =>
        (f_paths_get N 60 58 v2 q80.2).bind fun q81 =>
        if q81.1 = (-2) then
          (f_paths_put N 60 58 v2 v4 q81.2).bind fun q82 =>
          (f_paths_put N 60 59 v2 v1 q82.2).bind fun q83 =>
          (f_paths_put N 60 60 v2 v3 q83.2).bind fun q84 =>
          some ((), q84.2)
        else
          if v4 < q81.1 then
            (f_paths_put N 60 58 v2 v4 q81.2).bind fun q85 =>
            (f_paths_put N 60 59 v2 v1 q85.2).bind fun q86 =>
            (f_paths_put N 60 60 v2 v3 q86.2).bind fun q87 =>
            some ((), q87.2)
          else
            if v4 = q81.1 then
              (f_paths_get N 60 59 v2 q81.2).bind fun q88 =>
              if q88.1 ≤ v1 then
                some ((), q88.2)
              else
                (f_paths_put N 60 58 v2 v4 q88.2).bind fun q89 =>
                (f_paths_put N 60 59 v2 v1 q89.2).bind fun q90 =>
                (f_paths_put N 60 60 v2 v3 q90.2).bind fun q91 =>
                some ((), q91.2)
            else
              some ((), q81.2)
      else
        if q78.1 ≤ v1 then
          (f_paths_get N 60 58 v2 q78.2).bind fun q92 =>
          if q92.1 = (-2) then
            (f_paths_put N 60 58 v2 v4 q92.2).bind fun q93 =>
            (f_paths_put N 60 59 v2 v1 q93.2).bind fun q94 =>
            (f_paths_put N 60 60 v2 v3 q94.2).bind fun q95 =>
            some ((), q95.2)
          else
            if v4 < q92.1 then
              (f_paths_put N 60 58 v2 v4 q92.2).bind fun q96 =>
              (f_paths_put N 60 59 v2 v1 q96.2).bind fun q97 =>
              (f_paths_put N 60 60 v2 v3 q97.2).bind fun q98 =>
              some ((), q98.2)
            else
              if v4 = q92.1 then
                (f_paths_get N 60 59 v2 q92.2).bind fun q99 =>
                if q99.1 ≤ v1 then
                  some ((), q99.2)
                else
                  (f_paths_put N 60 58 v2 v4 q99.2).bind fun q100 =>
                  (f_paths_put N 60 59 v2 v1 q100.2).bind fun q101 =>
                  (f_paths_put N 60 60 v2 v3 q101.2).bind fun q102 =>
                  some ((), q102.2)
              else
                some ((), q92.2)
        else
          (f_paths_put N 60 56 v2 v1 q78.2).bind fun q103 =>
          (f_paths_put N 60 57 v2 v3 q103.2).bind fun q104 =>
          (f_paths_get N 60 58 v2 q104.2).bind fun q105 =>
          if q105.1 = (-2) then
            (f_paths_put N 60 58 v2 v4 q105.2).bind fun q106 =>
            (f_paths_put N 60 59 v2 v1 q106.2).bind fun q107 =>
            (f_paths_put N 60 60 v2 v3 q107.2).bind fun q108 =>
            some ((), q108.2)
          else
            if v4 < q105.1 then
              (f_paths_put N 60 58 v2 v4 q105.2).bind fun q109 =>
              (f_paths_put N 60 59 v2 v1 q109.2).bind fun q110 =>
              (f_paths_put N 60 60 v2 v3 q110.2).bind fun q111 =>
              some ((), q111.2)
            else
              if v4 = q105.1 then
                (f_paths_get N 60 59 v2 q105.2).bind fun q112 =>
                if q112.1 ≤ v1 then
                  some ((), q112.2)
                else
                  (f_paths_put N 60 58 v2 v4 q112.2).bind fun q113 =>
                  (f_paths_put N 60 59 v2 v1 q113.2).bind fun q114 =>
                  (f_paths_put N 60 60 v2 v3 q114.2).bind fun q115 =>
                  some ((), q115.2)
              else
                some ((), q105.2)
      else none
      else none
set_option maxRecDepth 100000 in
theorem s_paths_note {y : EX} {N : Nat} {v1 : Int32} {v2 : Int32} {v3 : Int32} {v4 : Int32} {σ : Sg} {P : Unit × Sg → Prop} (h : ok (f_paths_note N v1 v2 v3 v4 σ) P) : Ev y M_paths_note 2 [.ref 55, .int v1, .int v2, .int v3, .int v4] σ rvN P := by
  refine Ev.of mk_paths_note (Nat.le_of_ble_eq_true rfl) (fun x hx hc hr => ?_)
  have hx : Cx 4 prog_6_method_5_code x := hx
  have hc : Cc y 7 2 x := hc
  show G x 0 [some (.ref 55), some (.int v1), some (.int v2), some (.int v3), some (.int v4), none, none] [] σ
  unfold f_paths_note at h
  refine g_run hx [(.iload_n 1, 0, 0)] (pc' := 1) (lo' := [some (.ref 55), some (.int v1), some (.int v2), some (.int v3), some (.int v4), none, none]) (st' := [.int v1]) (σ' := σ) (by decide +kernel) rfl rfl ?_
  refine g_if_lt hx (off := 26) (tgt := 27) (by decide +kernel) (by decide) (fun c1 => ?_) (fun c1 => ?_)
  · have h := ok_t h c1
    refine g_run hx [(.aload_n 0, 0, 0), (.getfield 9, 0, 0), (.iload_n 2, 0, 0)] (pc' := 32) (lo' := [some (.ref 55), some (.int v1), some (.int v2), some (.int v3), some (.int v4), none, none]) (st' := [.int v2, .ref 56]) (σ' := σ) (by decide +kernel) rfl rfl ?_
    refine g_callS (rest := []) [.ref 56, .int v2] hx hc mk_paths_get ln_4_108 (by decide +kernel) (by decide) (Nat.le_of_ble_eq_true rfl) (s_paths_get_56 (ok_b h)) (fun r1 s1 h => ?_)
    refine g_run hx [(.istore 5, 0, 0), (.iload 5, 0, 0), (.bipush (-2), (-2), 0)] (pc' := 41) (lo' := [some (.ref 55), some (.int v1), some (.int v2), some (.int v3), some (.int v4), some (.int r1), none]) (st' := [.int (-2), .int r1]) (σ' := s1) (by decide +kernel) rfl rfl ?_
    refine g_ic_eq hx (off := 9) (tgt := 50) (by decide +kernel) (by decide) (fun c41 => ?_) (fun c41 => ?_)
    · have h := ok_t h c41
      refine g_run hx [(.aload_n 0, 0, 0), (.getfield 9, 0, 0), (.iload_n 2, 0, 0), (.iload_n 1, 0, 0)] (pc' := 56) (lo' := [some (.ref 55), some (.int v1), some (.int v2), some (.int v3), some (.int v4), some (.int r1), none]) (st' := [.int v1, .int v2, .ref 56]) (σ' := s1) (by decide +kernel) rfl rfl ?_
      refine g_callS (rest := []) [.ref 56, .int v2, .int v1] hx hc mk_paths_put ln_4_84 (by decide +kernel) (by decide) (Nat.le_of_ble_eq_true rfl) (s_paths_put_56 (ok_b h)) (fun r2 s2 h => ?_)
      refine g_run hx [(.aload_n 0, 0, 0), (.getfield 15, 0, 0), (.iload_n 2, 0, 0), (.iload_n 3, 0, 0)] (pc' := 65) (lo' := [some (.ref 55), some (.int v1), some (.int v2), some (.int v3), some (.int v4), some (.int r1), none]) (st' := [.int v3, .int v2, .ref 57]) (σ' := s2) (by decide +kernel) rfl rfl ?_
      refine g_callS (rest := []) [.ref 57, .int v2, .int v3] hx hc mk_paths_put ln_4_84 (by decide +kernel) (by decide) (Nat.le_of_ble_eq_true rfl) (s_paths_put_57 (ok_b h)) (fun r3 s3 h => ?_)
      refine g_run hx [(.aload_n 0, 0, 0), (.getfield 18, 0, 0), (.iload_n 2, 0, 0)] (pc' := 73) (lo' := [some (.ref 55), some (.int v1), some (.int v2), some (.int v3), some (.int v4), some (.int r1), none]) (st' := [.int v2, .ref 58]) (σ' := s3) (by decide +kernel) rfl rfl ?_
      refine g_callS (rest := []) [.ref 58, .int v2] hx hc mk_paths_get ln_4_108 (by decide +kernel) (by decide) (Nat.le_of_ble_eq_true rfl) (s_paths_get_58 (ok_b h)) (fun r4 s4 h => ?_)
      refine g_run hx [(.istore 6, 0, 0), (.iload 6, 0, 0), (.bipush (-2), (-2), 0)] (pc' := 82) (lo' := [some (.ref 55), some (.int v1), some (.int v2), some (.int v3), some (.int v4), some (.int r1), some (.int r4)]) (st' := [.int (-2), .int r4]) (σ' := s4) (by decide +kernel) rfl rfl ?_
      refine g_ic_eq hx (off := 29) (tgt := 111) (by decide +kernel) (by decide) (fun c82 => ?_) (fun c82 => ?_)
      · have h := ok_t h c82
        refine g_run hx [(.aload_n 0, 0, 0), (.getfield 18, 0, 0), (.iload_n 2, 0, 0), (.iload 4, 0, 0)] (pc' := 118) (lo' := [some (.ref 55), some (.int v1), some (.int v2), some (.int v3), some (.int v4), some (.int r1), some (.int r4)]) (st' := [.int v4, .int v2, .ref 58]) (σ' := s4) (by decide +kernel) rfl rfl ?_
        refine g_callS (rest := []) [.ref 58, .int v2, .int v4] hx hc mk_paths_put ln_4_84 (by decide +kernel) (by decide) (Nat.le_of_ble_eq_true rfl) (s_paths_put_58 (ok_b h)) (fun r5 s5 h => ?_)
        refine g_run hx [(.aload_n 0, 0, 0), (.getfield 21, 0, 0), (.iload_n 2, 0, 0), (.iload_n 1, 0, 0)] (pc' := 127) (lo' := [some (.ref 55), some (.int v1), some (.int v2), some (.int v3), some (.int v4), some (.int r1), some (.int r4)]) (st' := [.int v1, .int v2, .ref 59]) (σ' := s5) (by decide +kernel) rfl rfl ?_
        refine g_callS (rest := []) [.ref 59, .int v2, .int v1] hx hc mk_paths_put ln_4_84 (by decide +kernel) (by decide) (Nat.le_of_ble_eq_true rfl) (s_paths_put_59 (ok_b h)) (fun r6 s6 h => ?_)
        refine g_run hx [(.aload_n 0, 0, 0), (.getfield 24, 0, 0), (.iload_n 2, 0, 0), (.iload_n 3, 0, 0)] (pc' := 136) (lo' := [some (.ref 55), some (.int v1), some (.int v2), some (.int v3), some (.int v4), some (.int r1), some (.int r4)]) (st' := [.int v3, .int v2, .ref 60]) (σ' := s6) (by decide +kernel) rfl rfl ?_
        refine g_callS (rest := []) [.ref 60, .int v2, .int v3] hx hc mk_paths_put ln_4_84 (by decide +kernel) (by decide) (Nat.le_of_ble_eq_true rfl) (s_paths_put_60 (ok_b h)) (fun r7 s7 h => ?_)
        exact g_vret hx hr rfl () rfl (by decide +kernel) (ok_some h)
      · have h := ok_f h c82
        refine g_run hx [(.iload 4, 0, 0), (.iload 6, 0, 0)] (pc' := 89) (lo' := [some (.ref 55), some (.int v1), some (.int v2), some (.int v3), some (.int v4), some (.int r1), some (.int r4)]) (st' := [.int r4, .int v4]) (σ' := s4) (by decide +kernel) rfl rfl ?_
        refine g_ic_lt hx (off := 22) (tgt := 111) (by decide +kernel) (by decide) (fun c89 => ?_) (fun c89 => ?_)
        · have h := ok_t h c89
          refine g_run hx [(.aload_n 0, 0, 0), (.getfield 18, 0, 0), (.iload_n 2, 0, 0), (.iload 4, 0, 0)] (pc' := 118) (lo' := [some (.ref 55), some (.int v1), some (.int v2), some (.int v3), some (.int v4), some (.int r1), some (.int r4)]) (st' := [.int v4, .int v2, .ref 58]) (σ' := s4) (by decide +kernel) rfl rfl ?_
          refine g_callS (rest := []) [.ref 58, .int v2, .int v4] hx hc mk_paths_put ln_4_84 (by decide +kernel) (by decide) (Nat.le_of_ble_eq_true rfl) (s_paths_put_58 (ok_b h)) (fun r8 s8 h => ?_)
          refine g_run hx [(.aload_n 0, 0, 0), (.getfield 21, 0, 0), (.iload_n 2, 0, 0), (.iload_n 1, 0, 0)] (pc' := 127) (lo' := [some (.ref 55), some (.int v1), some (.int v2), some (.int v3), some (.int v4), some (.int r1), some (.int r4)]) (st' := [.int v1, .int v2, .ref 59]) (σ' := s8) (by decide +kernel) rfl rfl ?_
          refine g_callS (rest := []) [.ref 59, .int v2, .int v1] hx hc mk_paths_put ln_4_84 (by decide +kernel) (by decide) (Nat.le_of_ble_eq_true rfl) (s_paths_put_59 (ok_b h)) (fun r9 s9 h => ?_)
          refine g_run hx [(.aload_n 0, 0, 0), (.getfield 24, 0, 0), (.iload_n 2, 0, 0), (.iload_n 3, 0, 0)] (pc' := 136) (lo' := [some (.ref 55), some (.int v1), some (.int v2), some (.int v3), some (.int v4), some (.int r1), some (.int r4)]) (st' := [.int v3, .int v2, .ref 60]) (σ' := s9) (by decide +kernel) rfl rfl ?_
          refine g_callS (rest := []) [.ref 60, .int v2, .int v3] hx hc mk_paths_put ln_4_84 (by decide +kernel) (by decide) (Nat.le_of_ble_eq_true rfl) (s_paths_put_60 (ok_b h)) (fun r10 s10 h => ?_)
          exact g_vret hx hr rfl () rfl (by decide +kernel) (ok_some h)
        · have h := ok_f h c89
          refine g_run hx [(.iload 4, 0, 0), (.iload 6, 0, 0)] (pc' := 96) (lo' := [some (.ref 55), some (.int v1), some (.int v2), some (.int v3), some (.int v4), some (.int r1), some (.int r4)]) (st' := [.int r4, .int v4]) (σ' := s4) (by decide +kernel) rfl rfl ?_
          refine g_ic_ne hx (off := 43) (tgt := 139) (by decide +kernel) (by decide) (fun c96 => ?_) (fun c96 => ?_)
          · have h := ok_f h c96
            exact g_vret hx hr rfl () rfl (by decide +kernel) (ok_some h)
          · have h := ok_t h c96
            refine g_run hx [(.iload_n 1, 0, 0), (.aload_n 0, 0, 0), (.getfield 21, 0, 0), (.iload_n 2, 0, 0)] (pc' := 105) (lo' := [some (.ref 55), some (.int v1), some (.int v2), some (.int v3), some (.int v4), some (.int r1), some (.int r4)]) (st' := [.int v2, .ref 59, .int v1]) (σ' := s4) (by decide +kernel) rfl rfl ?_
            refine g_callS (rest := [.int v1]) [.ref 59, .int v2] hx hc mk_paths_get ln_4_108 (by decide +kernel) (by decide) (Nat.le_of_ble_eq_true rfl) (s_paths_get_59 (ok_b h)) (fun r11 s11 h => ?_)
            refine g_ic_ge hx (off := 31) (tgt := 139) (by decide +kernel) (by decide) (fun c108 => ?_) (fun c108 => ?_)
            · have h := ok_t h c108
              exact g_vret hx hr rfl () rfl (by decide +kernel) (ok_some h)
            · have h := ok_f h c108
              refine g_run hx [(.aload_n 0, 0, 0), (.getfield 18, 0, 0), (.iload_n 2, 0, 0), (.iload 4, 0, 0)] (pc' := 118) (lo' := [some (.ref 55), some (.int v1), some (.int v2), some (.int v3), some (.int v4), some (.int r1), some (.int r4)]) (st' := [.int v4, .int v2, .ref 58]) (σ' := s11) (by decide +kernel) rfl rfl ?_
              refine g_callS (rest := []) [.ref 58, .int v2, .int v4] hx hc mk_paths_put ln_4_84 (by decide +kernel) (by decide) (Nat.le_of_ble_eq_true rfl) (s_paths_put_58 (ok_b h)) (fun r12 s12 h => ?_)
              refine g_run hx [(.aload_n 0, 0, 0), (.getfield 21, 0, 0), (.iload_n 2, 0, 0), (.iload_n 1, 0, 0)] (pc' := 127) (lo' := [some (.ref 55), some (.int v1), some (.int v2), some (.int v3), some (.int v4), some (.int r1), some (.int r4)]) (st' := [.int v1, .int v2, .ref 59]) (σ' := s12) (by decide +kernel) rfl rfl ?_
              refine g_callS (rest := []) [.ref 59, .int v2, .int v1] hx hc mk_paths_put ln_4_84 (by decide +kernel) (by decide) (Nat.le_of_ble_eq_true rfl) (s_paths_put_59 (ok_b h)) (fun r13 s13 h => ?_)
              refine g_run hx [(.aload_n 0, 0, 0), (.getfield 24, 0, 0), (.iload_n 2, 0, 0), (.iload_n 3, 0, 0)] (pc' := 136) (lo' := [some (.ref 55), some (.int v1), some (.int v2), some (.int v3), some (.int v4), some (.int r1), some (.int r4)]) (st' := [.int v3, .int v2, .ref 60]) (σ' := s13) (by decide +kernel) rfl rfl ?_
              refine g_callS (rest := []) [.ref 60, .int v2, .int v3] hx hc mk_paths_put ln_4_84 (by decide +kernel) (by decide) (Nat.le_of_ble_eq_true rfl) (s_paths_put_60 (ok_b h)) (fun r14 s14 h => ?_)
              exact g_vret hx hr rfl () rfl (by decide +kernel) (ok_some h)
    · have h := ok_f h c41
      refine g_run hx [(.iload_n 1, 0, 0), (.iload 5, 0, 0)] (pc' := 47) (lo' := [some (.ref 55), some (.int v1), some (.int v2), some (.int v3), some (.int v4), some (.int r1), none]) (st' := [.int r1, .int v1]) (σ' := s1) (by decide +kernel) rfl rfl ?_
      refine g_ic_ge hx (off := 21) (tgt := 68) (by decide +kernel) (by decide) (fun c47 => ?_) (fun c47 => ?_)
      · have h := ok_t h c47
        refine g_run hx [(.aload_n 0, 0, 0), (.getfield 18, 0, 0), (.iload_n 2, 0, 0)] (pc' := 73) (lo' := [some (.ref 55), some (.int v1), some (.int v2), some (.int v3), some (.int v4), some (.int r1), none]) (st' := [.int v2, .ref 58]) (σ' := s1) (by decide +kernel) rfl rfl ?_
        refine g_callS (rest := []) [.ref 58, .int v2] hx hc mk_paths_get ln_4_108 (by decide +kernel) (by decide) (Nat.le_of_ble_eq_true rfl) (s_paths_get_58 (ok_b h)) (fun r15 s15 h => ?_)
        refine g_run hx [(.istore 6, 0, 0), (.iload 6, 0, 0), (.bipush (-2), (-2), 0)] (pc' := 82) (lo' := [some (.ref 55), some (.int v1), some (.int v2), some (.int v3), some (.int v4), some (.int r1), some (.int r15)]) (st' := [.int (-2), .int r15]) (σ' := s15) (by decide +kernel) rfl rfl ?_
        refine g_ic_eq hx (off := 29) (tgt := 111) (by decide +kernel) (by decide) (fun c82 => ?_) (fun c82 => ?_)
        · have h := ok_t h c82
          refine g_run hx [(.aload_n 0, 0, 0), (.getfield 18, 0, 0), (.iload_n 2, 0, 0), (.iload 4, 0, 0)] (pc' := 118) (lo' := [some (.ref 55), some (.int v1), some (.int v2), some (.int v3), some (.int v4), some (.int r1), some (.int r15)]) (st' := [.int v4, .int v2, .ref 58]) (σ' := s15) (by decide +kernel) rfl rfl ?_
          refine g_callS (rest := []) [.ref 58, .int v2, .int v4] hx hc mk_paths_put ln_4_84 (by decide +kernel) (by decide) (Nat.le_of_ble_eq_true rfl) (s_paths_put_58 (ok_b h)) (fun r16 s16 h => ?_)
          refine g_run hx [(.aload_n 0, 0, 0), (.getfield 21, 0, 0), (.iload_n 2, 0, 0), (.iload_n 1, 0, 0)] (pc' := 127) (lo' := [some (.ref 55), some (.int v1), some (.int v2), some (.int v3), some (.int v4), some (.int r1), some (.int r15)]) (st' := [.int v1, .int v2, .ref 59]) (σ' := s16) (by decide +kernel) rfl rfl ?_
          refine g_callS (rest := []) [.ref 59, .int v2, .int v1] hx hc mk_paths_put ln_4_84 (by decide +kernel) (by decide) (Nat.le_of_ble_eq_true rfl) (s_paths_put_59 (ok_b h)) (fun r17 s17 h => ?_)
          refine g_run hx [(.aload_n 0, 0, 0), (.getfield 24, 0, 0), (.iload_n 2, 0, 0), (.iload_n 3, 0, 0)] (pc' := 136) (lo' := [some (.ref 55), some (.int v1), some (.int v2), some (.int v3), some (.int v4), some (.int r1), some (.int r15)]) (st' := [.int v3, .int v2, .ref 60]) (σ' := s17) (by decide +kernel) rfl rfl ?_
          refine g_callS (rest := []) [.ref 60, .int v2, .int v3] hx hc mk_paths_put ln_4_84 (by decide +kernel) (by decide) (Nat.le_of_ble_eq_true rfl) (s_paths_put_60 (ok_b h)) (fun r18 s18 h => ?_)
          exact g_vret hx hr rfl () rfl (by decide +kernel) (ok_some h)
        · have h := ok_f h c82
          refine g_run hx [(.iload 4, 0, 0), (.iload 6, 0, 0)] (pc' := 89) (lo' := [some (.ref 55), some (.int v1), some (.int v2), some (.int v3), some (.int v4), some (.int r1), some (.int r15)]) (st' := [.int r15, .int v4]) (σ' := s15) (by decide +kernel) rfl rfl ?_
          refine g_ic_lt hx (off := 22) (tgt := 111) (by decide +kernel) (by decide) (fun c89 => ?_) (fun c89 => ?_)
          · have h := ok_t h c89
            refine g_run hx [(.aload_n 0, 0, 0), (.getfield 18, 0, 0), (.iload_n 2, 0, 0), (.iload 4, 0, 0)] (pc' := 118) (lo' := [some (.ref 55), some (.int v1), some (.int v2), some (.int v3), some (.int v4), some (.int r1), some (.int r15)]) (st' := [.int v4, .int v2, .ref 58]) (σ' := s15) (by decide +kernel) rfl rfl ?_
            refine g_callS (rest := []) [.ref 58, .int v2, .int v4] hx hc mk_paths_put ln_4_84 (by decide +kernel) (by decide) (Nat.le_of_ble_eq_true rfl) (s_paths_put_58 (ok_b h)) (fun r19 s19 h => ?_)
            refine g_run hx [(.aload_n 0, 0, 0), (.getfield 21, 0, 0), (.iload_n 2, 0, 0), (.iload_n 1, 0, 0)] (pc' := 127) (lo' := [some (.ref 55), some (.int v1), some (.int v2), some (.int v3), some (.int v4), some (.int r1), some (.int r15)]) (st' := [.int v1, .int v2, .ref 59]) (σ' := s19) (by decide +kernel) rfl rfl ?_
            refine g_callS (rest := []) [.ref 59, .int v2, .int v1] hx hc mk_paths_put ln_4_84 (by decide +kernel) (by decide) (Nat.le_of_ble_eq_true rfl) (s_paths_put_59 (ok_b h)) (fun r20 s20 h => ?_)
            refine g_run hx [(.aload_n 0, 0, 0), (.getfield 24, 0, 0), (.iload_n 2, 0, 0), (.iload_n 3, 0, 0)] (pc' := 136) (lo' := [some (.ref 55), some (.int v1), some (.int v2), some (.int v3), some (.int v4), some (.int r1), some (.int r15)]) (st' := [.int v3, .int v2, .ref 60]) (σ' := s20) (by decide +kernel) rfl rfl ?_
            refine g_callS (rest := []) [.ref 60, .int v2, .int v3] hx hc mk_paths_put ln_4_84 (by decide +kernel) (by decide) (Nat.le_of_ble_eq_true rfl) (s_paths_put_60 (ok_b h)) (fun r21 s21 h => ?_)
            exact g_vret hx hr rfl () rfl (by decide +kernel) (ok_some h)
          · have h := ok_f h c89
            refine g_run hx [(.iload 4, 0, 0), (.iload 6, 0, 0)] (pc' := 96) (lo' := [some (.ref 55), some (.int v1), some (.int v2), some (.int v3), some (.int v4), some (.int r1), some (.int r15)]) (st' := [.int r15, .int v4]) (σ' := s15) (by decide +kernel) rfl rfl ?_
            refine g_ic_ne hx (off := 43) (tgt := 139) (by decide +kernel) (by decide) (fun c96 => ?_) (fun c96 => ?_)
            · have h := ok_f h c96
              exact g_vret hx hr rfl () rfl (by decide +kernel) (ok_some h)
            · have h := ok_t h c96
              refine g_run hx [(.iload_n 1, 0, 0), (.aload_n 0, 0, 0), (.getfield 21, 0, 0), (.iload_n 2, 0, 0)] (pc' := 105) (lo' := [some (.ref 55), some (.int v1), some (.int v2), some (.int v3), some (.int v4), some (.int r1), some (.int r15)]) (st' := [.int v2, .ref 59, .int v1]) (σ' := s15) (by decide +kernel) rfl rfl ?_
              refine g_callS (rest := [.int v1]) [.ref 59, .int v2] hx hc mk_paths_get ln_4_108 (by decide +kernel) (by decide) (Nat.le_of_ble_eq_true rfl) (s_paths_get_59 (ok_b h)) (fun r22 s22 h => ?_)
              refine g_ic_ge hx (off := 31) (tgt := 139) (by decide +kernel) (by decide) (fun c108 => ?_) (fun c108 => ?_)
              · have h := ok_t h c108
                exact g_vret hx hr rfl () rfl (by decide +kernel) (ok_some h)
              · have h := ok_f h c108
                refine g_run hx [(.aload_n 0, 0, 0), (.getfield 18, 0, 0), (.iload_n 2, 0, 0), (.iload 4, 0, 0)] (pc' := 118) (lo' := [some (.ref 55), some (.int v1), some (.int v2), some (.int v3), some (.int v4), some (.int r1), some (.int r15)]) (st' := [.int v4, .int v2, .ref 58]) (σ' := s22) (by decide +kernel) rfl rfl ?_
                refine g_callS (rest := []) [.ref 58, .int v2, .int v4] hx hc mk_paths_put ln_4_84 (by decide +kernel) (by decide) (Nat.le_of_ble_eq_true rfl) (s_paths_put_58 (ok_b h)) (fun r23 s23 h => ?_)
                refine g_run hx [(.aload_n 0, 0, 0), (.getfield 21, 0, 0), (.iload_n 2, 0, 0), (.iload_n 1, 0, 0)] (pc' := 127) (lo' := [some (.ref 55), some (.int v1), some (.int v2), some (.int v3), some (.int v4), some (.int r1), some (.int r15)]) (st' := [.int v1, .int v2, .ref 59]) (σ' := s23) (by decide +kernel) rfl rfl ?_
                refine g_callS (rest := []) [.ref 59, .int v2, .int v1] hx hc mk_paths_put ln_4_84 (by decide +kernel) (by decide) (Nat.le_of_ble_eq_true rfl) (s_paths_put_59 (ok_b h)) (fun r24 s24 h => ?_)
                refine g_run hx [(.aload_n 0, 0, 0), (.getfield 24, 0, 0), (.iload_n 2, 0, 0), (.iload_n 3, 0, 0)] (pc' := 136) (lo' := [some (.ref 55), some (.int v1), some (.int v2), some (.int v3), some (.int v4), some (.int r1), some (.int r15)]) (st' := [.int v3, .int v2, .ref 60]) (σ' := s24) (by decide +kernel) rfl rfl ?_
                refine g_callS (rest := []) [.ref 60, .int v2, .int v3] hx hc mk_paths_put ln_4_84 (by decide +kernel) (by decide) (Nat.le_of_ble_eq_true rfl) (s_paths_put_60 (ok_b h)) (fun r25 s25 h => ?_)
                exact g_vret hx hr rfl () rfl (by decide +kernel) (ok_some h)
      · have h := ok_f h c47
        refine g_run hx [(.aload_n 0, 0, 0), (.getfield 9, 0, 0), (.iload_n 2, 0, 0), (.iload_n 1, 0, 0)] (pc' := 56) (lo' := [some (.ref 55), some (.int v1), some (.int v2), some (.int v3), some (.int v4), some (.int r1), none]) (st' := [.int v1, .int v2, .ref 56]) (σ' := s1) (by decide +kernel) rfl rfl ?_
        refine g_callS (rest := []) [.ref 56, .int v2, .int v1] hx hc mk_paths_put ln_4_84 (by decide +kernel) (by decide) (Nat.le_of_ble_eq_true rfl) (s_paths_put_56 (ok_b h)) (fun r26 s26 h => ?_)
        refine g_run hx [(.aload_n 0, 0, 0), (.getfield 15, 0, 0), (.iload_n 2, 0, 0), (.iload_n 3, 0, 0)] (pc' := 65) (lo' := [some (.ref 55), some (.int v1), some (.int v2), some (.int v3), some (.int v4), some (.int r1), none]) (st' := [.int v3, .int v2, .ref 57]) (σ' := s26) (by decide +kernel) rfl rfl ?_
        refine g_callS (rest := []) [.ref 57, .int v2, .int v3] hx hc mk_paths_put ln_4_84 (by decide +kernel) (by decide) (Nat.le_of_ble_eq_true rfl) (s_paths_put_57 (ok_b h)) (fun r27 s27 h => ?_)
        refine g_run hx [(.aload_n 0, 0, 0), (.getfield 18, 0, 0), (.iload_n 2, 0, 0)] (pc' := 73) (lo' := [some (.ref 55), some (.int v1), some (.int v2), some (.int v3), some (.int v4), some (.int r1), none]) (st' := [.int v2, .ref 58]) (σ' := s27) (by decide +kernel) rfl rfl ?_
        refine g_callS (rest := []) [.ref 58, .int v2] hx hc mk_paths_get ln_4_108 (by decide +kernel) (by decide) (Nat.le_of_ble_eq_true rfl) (s_paths_get_58 (ok_b h)) (fun r28 s28 h => ?_)
        refine g_run hx [(.istore 6, 0, 0), (.iload 6, 0, 0), (.bipush (-2), (-2), 0)] (pc' := 82) (lo' := [some (.ref 55), some (.int v1), some (.int v2), some (.int v3), some (.int v4), some (.int r1), some (.int r28)]) (st' := [.int (-2), .int r28]) (σ' := s28) (by decide +kernel) rfl rfl ?_
        refine g_ic_eq hx (off := 29) (tgt := 111) (by decide +kernel) (by decide) (fun c82 => ?_) (fun c82 => ?_)
        · have h := ok_t h c82
          refine g_run hx [(.aload_n 0, 0, 0), (.getfield 18, 0, 0), (.iload_n 2, 0, 0), (.iload 4, 0, 0)] (pc' := 118) (lo' := [some (.ref 55), some (.int v1), some (.int v2), some (.int v3), some (.int v4), some (.int r1), some (.int r28)]) (st' := [.int v4, .int v2, .ref 58]) (σ' := s28) (by decide +kernel) rfl rfl ?_
          refine g_callS (rest := []) [.ref 58, .int v2, .int v4] hx hc mk_paths_put ln_4_84 (by decide +kernel) (by decide) (Nat.le_of_ble_eq_true rfl) (s_paths_put_58 (ok_b h)) (fun r29 s29 h => ?_)
          refine g_run hx [(.aload_n 0, 0, 0), (.getfield 21, 0, 0), (.iload_n 2, 0, 0), (.iload_n 1, 0, 0)] (pc' := 127) (lo' := [some (.ref 55), some (.int v1), some (.int v2), some (.int v3), some (.int v4), some (.int r1), some (.int r28)]) (st' := [.int v1, .int v2, .ref 59]) (σ' := s29) (by decide +kernel) rfl rfl ?_
          refine g_callS (rest := []) [.ref 59, .int v2, .int v1] hx hc mk_paths_put ln_4_84 (by decide +kernel) (by decide) (Nat.le_of_ble_eq_true rfl) (s_paths_put_59 (ok_b h)) (fun r30 s30 h => ?_)
          refine g_run hx [(.aload_n 0, 0, 0), (.getfield 24, 0, 0), (.iload_n 2, 0, 0), (.iload_n 3, 0, 0)] (pc' := 136) (lo' := [some (.ref 55), some (.int v1), some (.int v2), some (.int v3), some (.int v4), some (.int r1), some (.int r28)]) (st' := [.int v3, .int v2, .ref 60]) (σ' := s30) (by decide +kernel) rfl rfl ?_
          refine g_callS (rest := []) [.ref 60, .int v2, .int v3] hx hc mk_paths_put ln_4_84 (by decide +kernel) (by decide) (Nat.le_of_ble_eq_true rfl) (s_paths_put_60 (ok_b h)) (fun r31 s31 h => ?_)
          exact g_vret hx hr rfl () rfl (by decide +kernel) (ok_some h)
        · have h := ok_f h c82
          refine g_run hx [(.iload 4, 0, 0), (.iload 6, 0, 0)] (pc' := 89) (lo' := [some (.ref 55), some (.int v1), some (.int v2), some (.int v3), some (.int v4), some (.int r1), some (.int r28)]) (st' := [.int r28, .int v4]) (σ' := s28) (by decide +kernel) rfl rfl ?_
          refine g_ic_lt hx (off := 22) (tgt := 111) (by decide +kernel) (by decide) (fun c89 => ?_) (fun c89 => ?_)
          · have h := ok_t h c89
            refine g_run hx [(.aload_n 0, 0, 0), (.getfield 18, 0, 0), (.iload_n 2, 0, 0), (.iload 4, 0, 0)] (pc' := 118) (lo' := [some (.ref 55), some (.int v1), some (.int v2), some (.int v3), some (.int v4), some (.int r1), some (.int r28)]) (st' := [.int v4, .int v2, .ref 58]) (σ' := s28) (by decide +kernel) rfl rfl ?_
            refine g_callS (rest := []) [.ref 58, .int v2, .int v4] hx hc mk_paths_put ln_4_84 (by decide +kernel) (by decide) (Nat.le_of_ble_eq_true rfl) (s_paths_put_58 (ok_b h)) (fun r32 s32 h => ?_)
            refine g_run hx [(.aload_n 0, 0, 0), (.getfield 21, 0, 0), (.iload_n 2, 0, 0), (.iload_n 1, 0, 0)] (pc' := 127) (lo' := [some (.ref 55), some (.int v1), some (.int v2), some (.int v3), some (.int v4), some (.int r1), some (.int r28)]) (st' := [.int v1, .int v2, .ref 59]) (σ' := s32) (by decide +kernel) rfl rfl ?_
            refine g_callS (rest := []) [.ref 59, .int v2, .int v1] hx hc mk_paths_put ln_4_84 (by decide +kernel) (by decide) (Nat.le_of_ble_eq_true rfl) (s_paths_put_59 (ok_b h)) (fun r33 s33 h => ?_)
            refine g_run hx [(.aload_n 0, 0, 0), (.getfield 24, 0, 0), (.iload_n 2, 0, 0), (.iload_n 3, 0, 0)] (pc' := 136) (lo' := [some (.ref 55), some (.int v1), some (.int v2), some (.int v3), some (.int v4), some (.int r1), some (.int r28)]) (st' := [.int v3, .int v2, .ref 60]) (σ' := s33) (by decide +kernel) rfl rfl ?_
            refine g_callS (rest := []) [.ref 60, .int v2, .int v3] hx hc mk_paths_put ln_4_84 (by decide +kernel) (by decide) (Nat.le_of_ble_eq_true rfl) (s_paths_put_60 (ok_b h)) (fun r34 s34 h => ?_)
            exact g_vret hx hr rfl () rfl (by decide +kernel) (ok_some h)
          · have h := ok_f h c89
            refine g_run hx [(.iload 4, 0, 0), (.iload 6, 0, 0)] (pc' := 96) (lo' := [some (.ref 55), some (.int v1), some (.int v2), some (.int v3), some (.int v4), some (.int r1), some (.int r28)]) (st' := [.int r28, .int v4]) (σ' := s28) (by decide +kernel) rfl rfl ?_
            refine g_ic_ne hx (off := 43) (tgt := 139) (by decide +kernel) (by decide) (fun c96 => ?_) (fun c96 => ?_)
            · have h := ok_f h c96
              exact g_vret hx hr rfl () rfl (by decide +kernel) (ok_some h)
            · have h := ok_t h c96
              refine g_run hx [(.iload_n 1, 0, 0), (.aload_n 0, 0, 0), (.getfield 21, 0, 0), (.iload_n 2, 0, 0)] (pc' := 105) (lo' := [some (.ref 55), some (.int v1), some (.int v2), some (.int v3), some (.int v4), some (.int r1), some (.int r28)]) (st' := [.int v2, .ref 59, .int v1]) (σ' := s28) (by decide +kernel) rfl rfl ?_
              refine g_callS (rest := [.int v1]) [.ref 59, .int v2] hx hc mk_paths_get ln_4_108 (by decide +kernel) (by decide) (Nat.le_of_ble_eq_true rfl) (s_paths_get_59 (ok_b h)) (fun r35 s35 h => ?_)
              refine g_ic_ge hx (off := 31) (tgt := 139) (by decide +kernel) (by decide) (fun c108 => ?_) (fun c108 => ?_)
              · have h := ok_t h c108
                exact g_vret hx hr rfl () rfl (by decide +kernel) (ok_some h)
              · have h := ok_f h c108
                refine g_run hx [(.aload_n 0, 0, 0), (.getfield 18, 0, 0), (.iload_n 2, 0, 0), (.iload 4, 0, 0)] (pc' := 118) (lo' := [some (.ref 55), some (.int v1), some (.int v2), some (.int v3), some (.int v4), some (.int r1), some (.int r28)]) (st' := [.int v4, .int v2, .ref 58]) (σ' := s35) (by decide +kernel) rfl rfl ?_
                refine g_callS (rest := []) [.ref 58, .int v2, .int v4] hx hc mk_paths_put ln_4_84 (by decide +kernel) (by decide) (Nat.le_of_ble_eq_true rfl) (s_paths_put_58 (ok_b h)) (fun r36 s36 h => ?_)
                refine g_run hx [(.aload_n 0, 0, 0), (.getfield 21, 0, 0), (.iload_n 2, 0, 0), (.iload_n 1, 0, 0)] (pc' := 127) (lo' := [some (.ref 55), some (.int v1), some (.int v2), some (.int v3), some (.int v4), some (.int r1), some (.int r28)]) (st' := [.int v1, .int v2, .ref 59]) (σ' := s36) (by decide +kernel) rfl rfl ?_
                refine g_callS (rest := []) [.ref 59, .int v2, .int v1] hx hc mk_paths_put ln_4_84 (by decide +kernel) (by decide) (Nat.le_of_ble_eq_true rfl) (s_paths_put_59 (ok_b h)) (fun r37 s37 h => ?_)
                refine g_run hx [(.aload_n 0, 0, 0), (.getfield 24, 0, 0), (.iload_n 2, 0, 0), (.iload_n 3, 0, 0)] (pc' := 136) (lo' := [some (.ref 55), some (.int v1), some (.int v2), some (.int v3), some (.int v4), some (.int r1), some (.int r28)]) (st' := [.int v3, .int v2, .ref 60]) (σ' := s37) (by decide +kernel) rfl rfl ?_
                refine g_callS (rest := []) [.ref 60, .int v2, .int v3] hx hc mk_paths_put ln_4_84 (by decide +kernel) (by decide) (Nat.le_of_ble_eq_true rfl) (s_paths_put_60 (ok_b h)) (fun r38 s38 h => ?_)
                exact g_vret hx hr rfl () rfl (by decide +kernel) (ok_some h)
  · have h := ok_f h c1
    refine g_run hx [(.iload_n 1, 0, 0), (.aload_n 0, 0, 0), (.getfield 27, 0, 0), (.arraylength, 0, 0)] (pc' := 10) (lo' := [some (.ref 55), some (.int v1), some (.int v2), some (.int v3), some (.int v4), none, none]) (st' := [.int (nI 6), .int v1]) (σ' := σ) (by decide +kernel) rfl rfl ?_
    refine g_ic_ge hx (off := 17) (tgt := 27) (by decide +kernel) (by decide) (fun c10 => ?_) (fun c10 => ?_)
    · have h := ok_t h c10
      refine g_run hx [(.aload_n 0, 0, 0), (.getfield 9, 0, 0), (.iload_n 2, 0, 0)] (pc' := 32) (lo' := [some (.ref 55), some (.int v1), some (.int v2), some (.int v3), some (.int v4), none, none]) (st' := [.int v2, .ref 56]) (σ' := σ) (by decide +kernel) rfl rfl ?_
      refine g_callS (rest := []) [.ref 56, .int v2] hx hc mk_paths_get ln_4_108 (by decide +kernel) (by decide) (Nat.le_of_ble_eq_true rfl) (s_paths_get_56 (ok_b h)) (fun r39 s39 h => ?_)
      refine g_run hx [(.istore 5, 0, 0), (.iload 5, 0, 0), (.bipush (-2), (-2), 0)] (pc' := 41) (lo' := [some (.ref 55), some (.int v1), some (.int v2), some (.int v3), some (.int v4), some (.int r39), none]) (st' := [.int (-2), .int r39]) (σ' := s39) (by decide +kernel) rfl rfl ?_
      refine g_ic_eq hx (off := 9) (tgt := 50) (by decide +kernel) (by decide) (fun c41 => ?_) (fun c41 => ?_)
      · have h := ok_t h c41
        refine g_run hx [(.aload_n 0, 0, 0), (.getfield 9, 0, 0), (.iload_n 2, 0, 0), (.iload_n 1, 0, 0)] (pc' := 56) (lo' := [some (.ref 55), some (.int v1), some (.int v2), some (.int v3), some (.int v4), some (.int r39), none]) (st' := [.int v1, .int v2, .ref 56]) (σ' := s39) (by decide +kernel) rfl rfl ?_
        refine g_callS (rest := []) [.ref 56, .int v2, .int v1] hx hc mk_paths_put ln_4_84 (by decide +kernel) (by decide) (Nat.le_of_ble_eq_true rfl) (s_paths_put_56 (ok_b h)) (fun r40 s40 h => ?_)
        refine g_run hx [(.aload_n 0, 0, 0), (.getfield 15, 0, 0), (.iload_n 2, 0, 0), (.iload_n 3, 0, 0)] (pc' := 65) (lo' := [some (.ref 55), some (.int v1), some (.int v2), some (.int v3), some (.int v4), some (.int r39), none]) (st' := [.int v3, .int v2, .ref 57]) (σ' := s40) (by decide +kernel) rfl rfl ?_
        refine g_callS (rest := []) [.ref 57, .int v2, .int v3] hx hc mk_paths_put ln_4_84 (by decide +kernel) (by decide) (Nat.le_of_ble_eq_true rfl) (s_paths_put_57 (ok_b h)) (fun r41 s41 h => ?_)
        refine g_run hx [(.aload_n 0, 0, 0), (.getfield 18, 0, 0), (.iload_n 2, 0, 0)] (pc' := 73) (lo' := [some (.ref 55), some (.int v1), some (.int v2), some (.int v3), some (.int v4), some (.int r39), none]) (st' := [.int v2, .ref 58]) (σ' := s41) (by decide +kernel) rfl rfl ?_
        refine g_callS (rest := []) [.ref 58, .int v2] hx hc mk_paths_get ln_4_108 (by decide +kernel) (by decide) (Nat.le_of_ble_eq_true rfl) (s_paths_get_58 (ok_b h)) (fun r42 s42 h => ?_)
        refine g_run hx [(.istore 6, 0, 0), (.iload 6, 0, 0), (.bipush (-2), (-2), 0)] (pc' := 82) (lo' := [some (.ref 55), some (.int v1), some (.int v2), some (.int v3), some (.int v4), some (.int r39), some (.int r42)]) (st' := [.int (-2), .int r42]) (σ' := s42) (by decide +kernel) rfl rfl ?_
        refine g_ic_eq hx (off := 29) (tgt := 111) (by decide +kernel) (by decide) (fun c82 => ?_) (fun c82 => ?_)
        · have h := ok_t h c82
          refine g_run hx [(.aload_n 0, 0, 0), (.getfield 18, 0, 0), (.iload_n 2, 0, 0), (.iload 4, 0, 0)] (pc' := 118) (lo' := [some (.ref 55), some (.int v1), some (.int v2), some (.int v3), some (.int v4), some (.int r39), some (.int r42)]) (st' := [.int v4, .int v2, .ref 58]) (σ' := s42) (by decide +kernel) rfl rfl ?_
          refine g_callS (rest := []) [.ref 58, .int v2, .int v4] hx hc mk_paths_put ln_4_84 (by decide +kernel) (by decide) (Nat.le_of_ble_eq_true rfl) (s_paths_put_58 (ok_b h)) (fun r43 s43 h => ?_)
          refine g_run hx [(.aload_n 0, 0, 0), (.getfield 21, 0, 0), (.iload_n 2, 0, 0), (.iload_n 1, 0, 0)] (pc' := 127) (lo' := [some (.ref 55), some (.int v1), some (.int v2), some (.int v3), some (.int v4), some (.int r39), some (.int r42)]) (st' := [.int v1, .int v2, .ref 59]) (σ' := s43) (by decide +kernel) rfl rfl ?_
          refine g_callS (rest := []) [.ref 59, .int v2, .int v1] hx hc mk_paths_put ln_4_84 (by decide +kernel) (by decide) (Nat.le_of_ble_eq_true rfl) (s_paths_put_59 (ok_b h)) (fun r44 s44 h => ?_)
          refine g_run hx [(.aload_n 0, 0, 0), (.getfield 24, 0, 0), (.iload_n 2, 0, 0), (.iload_n 3, 0, 0)] (pc' := 136) (lo' := [some (.ref 55), some (.int v1), some (.int v2), some (.int v3), some (.int v4), some (.int r39), some (.int r42)]) (st' := [.int v3, .int v2, .ref 60]) (σ' := s44) (by decide +kernel) rfl rfl ?_
          refine g_callS (rest := []) [.ref 60, .int v2, .int v3] hx hc mk_paths_put ln_4_84 (by decide +kernel) (by decide) (Nat.le_of_ble_eq_true rfl) (s_paths_put_60 (ok_b h)) (fun r45 s45 h => ?_)
          exact g_vret hx hr rfl () rfl (by decide +kernel) (ok_some h)
        · have h := ok_f h c82
          refine g_run hx [(.iload 4, 0, 0), (.iload 6, 0, 0)] (pc' := 89) (lo' := [some (.ref 55), some (.int v1), some (.int v2), some (.int v3), some (.int v4), some (.int r39), some (.int r42)]) (st' := [.int r42, .int v4]) (σ' := s42) (by decide +kernel) rfl rfl ?_
          refine g_ic_lt hx (off := 22) (tgt := 111) (by decide +kernel) (by decide) (fun c89 => ?_) (fun c89 => ?_)
          · have h := ok_t h c89
            refine g_run hx [(.aload_n 0, 0, 0), (.getfield 18, 0, 0), (.iload_n 2, 0, 0), (.iload 4, 0, 0)] (pc' := 118) (lo' := [some (.ref 55), some (.int v1), some (.int v2), some (.int v3), some (.int v4), some (.int r39), some (.int r42)]) (st' := [.int v4, .int v2, .ref 58]) (σ' := s42) (by decide +kernel) rfl rfl ?_
            refine g_callS (rest := []) [.ref 58, .int v2, .int v4] hx hc mk_paths_put ln_4_84 (by decide +kernel) (by decide) (Nat.le_of_ble_eq_true rfl) (s_paths_put_58 (ok_b h)) (fun r46 s46 h => ?_)
            refine g_run hx [(.aload_n 0, 0, 0), (.getfield 21, 0, 0), (.iload_n 2, 0, 0), (.iload_n 1, 0, 0)] (pc' := 127) (lo' := [some (.ref 55), some (.int v1), some (.int v2), some (.int v3), some (.int v4), some (.int r39), some (.int r42)]) (st' := [.int v1, .int v2, .ref 59]) (σ' := s46) (by decide +kernel) rfl rfl ?_
            refine g_callS (rest := []) [.ref 59, .int v2, .int v1] hx hc mk_paths_put ln_4_84 (by decide +kernel) (by decide) (Nat.le_of_ble_eq_true rfl) (s_paths_put_59 (ok_b h)) (fun r47 s47 h => ?_)
            refine g_run hx [(.aload_n 0, 0, 0), (.getfield 24, 0, 0), (.iload_n 2, 0, 0), (.iload_n 3, 0, 0)] (pc' := 136) (lo' := [some (.ref 55), some (.int v1), some (.int v2), some (.int v3), some (.int v4), some (.int r39), some (.int r42)]) (st' := [.int v3, .int v2, .ref 60]) (σ' := s47) (by decide +kernel) rfl rfl ?_
            refine g_callS (rest := []) [.ref 60, .int v2, .int v3] hx hc mk_paths_put ln_4_84 (by decide +kernel) (by decide) (Nat.le_of_ble_eq_true rfl) (s_paths_put_60 (ok_b h)) (fun r48 s48 h => ?_)
            exact g_vret hx hr rfl () rfl (by decide +kernel) (ok_some h)
          · have h := ok_f h c89
            refine g_run hx [(.iload 4, 0, 0), (.iload 6, 0, 0)] (pc' := 96) (lo' := [some (.ref 55), some (.int v1), some (.int v2), some (.int v3), some (.int v4), some (.int r39), some (.int r42)]) (st' := [.int r42, .int v4]) (σ' := s42) (by decide +kernel) rfl rfl ?_
            refine g_ic_ne hx (off := 43) (tgt := 139) (by decide +kernel) (by decide) (fun c96 => ?_) (fun c96 => ?_)
            · have h := ok_f h c96
              exact g_vret hx hr rfl () rfl (by decide +kernel) (ok_some h)
            · have h := ok_t h c96
              refine g_run hx [(.iload_n 1, 0, 0), (.aload_n 0, 0, 0), (.getfield 21, 0, 0), (.iload_n 2, 0, 0)] (pc' := 105) (lo' := [some (.ref 55), some (.int v1), some (.int v2), some (.int v3), some (.int v4), some (.int r39), some (.int r42)]) (st' := [.int v2, .ref 59, .int v1]) (σ' := s42) (by decide +kernel) rfl rfl ?_
              refine g_callS (rest := [.int v1]) [.ref 59, .int v2] hx hc mk_paths_get ln_4_108 (by decide +kernel) (by decide) (Nat.le_of_ble_eq_true rfl) (s_paths_get_59 (ok_b h)) (fun r49 s49 h => ?_)
              refine g_ic_ge hx (off := 31) (tgt := 139) (by decide +kernel) (by decide) (fun c108 => ?_) (fun c108 => ?_)
              · have h := ok_t h c108
                exact g_vret hx hr rfl () rfl (by decide +kernel) (ok_some h)
              · have h := ok_f h c108
                refine g_run hx [(.aload_n 0, 0, 0), (.getfield 18, 0, 0), (.iload_n 2, 0, 0), (.iload 4, 0, 0)] (pc' := 118) (lo' := [some (.ref 55), some (.int v1), some (.int v2), some (.int v3), some (.int v4), some (.int r39), some (.int r42)]) (st' := [.int v4, .int v2, .ref 58]) (σ' := s49) (by decide +kernel) rfl rfl ?_
                refine g_callS (rest := []) [.ref 58, .int v2, .int v4] hx hc mk_paths_put ln_4_84 (by decide +kernel) (by decide) (Nat.le_of_ble_eq_true rfl) (s_paths_put_58 (ok_b h)) (fun r50 s50 h => ?_)
                refine g_run hx [(.aload_n 0, 0, 0), (.getfield 21, 0, 0), (.iload_n 2, 0, 0), (.iload_n 1, 0, 0)] (pc' := 127) (lo' := [some (.ref 55), some (.int v1), some (.int v2), some (.int v3), some (.int v4), some (.int r39), some (.int r42)]) (st' := [.int v1, .int v2, .ref 59]) (σ' := s50) (by decide +kernel) rfl rfl ?_
                refine g_callS (rest := []) [.ref 59, .int v2, .int v1] hx hc mk_paths_put ln_4_84 (by decide +kernel) (by decide) (Nat.le_of_ble_eq_true rfl) (s_paths_put_59 (ok_b h)) (fun r51 s51 h => ?_)
                refine g_run hx [(.aload_n 0, 0, 0), (.getfield 24, 0, 0), (.iload_n 2, 0, 0), (.iload_n 3, 0, 0)] (pc' := 136) (lo' := [some (.ref 55), some (.int v1), some (.int v2), some (.int v3), some (.int v4), some (.int r39), some (.int r42)]) (st' := [.int v3, .int v2, .ref 60]) (σ' := s51) (by decide +kernel) rfl rfl ?_
                refine g_callS (rest := []) [.ref 60, .int v2, .int v3] hx hc mk_paths_put ln_4_84 (by decide +kernel) (by decide) (Nat.le_of_ble_eq_true rfl) (s_paths_put_60 (ok_b h)) (fun r52 s52 h => ?_)
                exact g_vret hx hr rfl () rfl (by decide +kernel) (ok_some h)
      · have h := ok_f h c41
        refine g_run hx [(.iload_n 1, 0, 0), (.iload 5, 0, 0)] (pc' := 47) (lo' := [some (.ref 55), some (.int v1), some (.int v2), some (.int v3), some (.int v4), some (.int r39), none]) (st' := [.int r39, .int v1]) (σ' := s39) (by decide +kernel) rfl rfl ?_
        refine g_ic_ge hx (off := 21) (tgt := 68) (by decide +kernel) (by decide) (fun c47 => ?_) (fun c47 => ?_)
        · have h := ok_t h c47
          refine g_run hx [(.aload_n 0, 0, 0), (.getfield 18, 0, 0), (.iload_n 2, 0, 0)] (pc' := 73) (lo' := [some (.ref 55), some (.int v1), some (.int v2), some (.int v3), some (.int v4), some (.int r39), none]) (st' := [.int v2, .ref 58]) (σ' := s39) (by decide +kernel) rfl rfl ?_
          refine g_callS (rest := []) [.ref 58, .int v2] hx hc mk_paths_get ln_4_108 (by decide +kernel) (by decide) (Nat.le_of_ble_eq_true rfl) (s_paths_get_58 (ok_b h)) (fun r53 s53 h => ?_)
          refine g_run hx [(.istore 6, 0, 0), (.iload 6, 0, 0), (.bipush (-2), (-2), 0)] (pc' := 82) (lo' := [some (.ref 55), some (.int v1), some (.int v2), some (.int v3), some (.int v4), some (.int r39), some (.int r53)]) (st' := [.int (-2), .int r53]) (σ' := s53) (by decide +kernel) rfl rfl ?_
          refine g_ic_eq hx (off := 29) (tgt := 111) (by decide +kernel) (by decide) (fun c82 => ?_) (fun c82 => ?_)
          · have h := ok_t h c82
            refine g_run hx [(.aload_n 0, 0, 0), (.getfield 18, 0, 0), (.iload_n 2, 0, 0), (.iload 4, 0, 0)] (pc' := 118) (lo' := [some (.ref 55), some (.int v1), some (.int v2), some (.int v3), some (.int v4), some (.int r39), some (.int r53)]) (st' := [.int v4, .int v2, .ref 58]) (σ' := s53) (by decide +kernel) rfl rfl ?_
            refine g_callS (rest := []) [.ref 58, .int v2, .int v4] hx hc mk_paths_put ln_4_84 (by decide +kernel) (by decide) (Nat.le_of_ble_eq_true rfl) (s_paths_put_58 (ok_b h)) (fun r54 s54 h => ?_)
            refine g_run hx [(.aload_n 0, 0, 0), (.getfield 21, 0, 0), (.iload_n 2, 0, 0), (.iload_n 1, 0, 0)] (pc' := 127) (lo' := [some (.ref 55), some (.int v1), some (.int v2), some (.int v3), some (.int v4), some (.int r39), some (.int r53)]) (st' := [.int v1, .int v2, .ref 59]) (σ' := s54) (by decide +kernel) rfl rfl ?_
            refine g_callS (rest := []) [.ref 59, .int v2, .int v1] hx hc mk_paths_put ln_4_84 (by decide +kernel) (by decide) (Nat.le_of_ble_eq_true rfl) (s_paths_put_59 (ok_b h)) (fun r55 s55 h => ?_)
            refine g_run hx [(.aload_n 0, 0, 0), (.getfield 24, 0, 0), (.iload_n 2, 0, 0), (.iload_n 3, 0, 0)] (pc' := 136) (lo' := [some (.ref 55), some (.int v1), some (.int v2), some (.int v3), some (.int v4), some (.int r39), some (.int r53)]) (st' := [.int v3, .int v2, .ref 60]) (σ' := s55) (by decide +kernel) rfl rfl ?_
            refine g_callS (rest := []) [.ref 60, .int v2, .int v3] hx hc mk_paths_put ln_4_84 (by decide +kernel) (by decide) (Nat.le_of_ble_eq_true rfl) (s_paths_put_60 (ok_b h)) (fun r56 s56 h => ?_)
            exact g_vret hx hr rfl () rfl (by decide +kernel) (ok_some h)
          · have h := ok_f h c82
            refine g_run hx [(.iload 4, 0, 0), (.iload 6, 0, 0)] (pc' := 89) (lo' := [some (.ref 55), some (.int v1), some (.int v2), some (.int v3), some (.int v4), some (.int r39), some (.int r53)]) (st' := [.int r53, .int v4]) (σ' := s53) (by decide +kernel) rfl rfl ?_
            refine g_ic_lt hx (off := 22) (tgt := 111) (by decide +kernel) (by decide) (fun c89 => ?_) (fun c89 => ?_)
            · have h := ok_t h c89
              refine g_run hx [(.aload_n 0, 0, 0), (.getfield 18, 0, 0), (.iload_n 2, 0, 0), (.iload 4, 0, 0)] (pc' := 118) (lo' := [some (.ref 55), some (.int v1), some (.int v2), some (.int v3), some (.int v4), some (.int r39), some (.int r53)]) (st' := [.int v4, .int v2, .ref 58]) (σ' := s53) (by decide +kernel) rfl rfl ?_
              refine g_callS (rest := []) [.ref 58, .int v2, .int v4] hx hc mk_paths_put ln_4_84 (by decide +kernel) (by decide) (Nat.le_of_ble_eq_true rfl) (s_paths_put_58 (ok_b h)) (fun r57 s57 h => ?_)
              refine g_run hx [(.aload_n 0, 0, 0), (.getfield 21, 0, 0), (.iload_n 2, 0, 0), (.iload_n 1, 0, 0)] (pc' := 127) (lo' := [some (.ref 55), some (.int v1), some (.int v2), some (.int v3), some (.int v4), some (.int r39), some (.int r53)]) (st' := [.int v1, .int v2, .ref 59]) (σ' := s57) (by decide +kernel) rfl rfl ?_
              refine g_callS (rest := []) [.ref 59, .int v2, .int v1] hx hc mk_paths_put ln_4_84 (by decide +kernel) (by decide) (Nat.le_of_ble_eq_true rfl) (s_paths_put_59 (ok_b h)) (fun r58 s58 h => ?_)
              refine g_run hx [(.aload_n 0, 0, 0), (.getfield 24, 0, 0), (.iload_n 2, 0, 0), (.iload_n 3, 0, 0)] (pc' := 136) (lo' := [some (.ref 55), some (.int v1), some (.int v2), some (.int v3), some (.int v4), some (.int r39), some (.int r53)]) (st' := [.int v3, .int v2, .ref 60]) (σ' := s58) (by decide +kernel) rfl rfl ?_
              refine g_callS (rest := []) [.ref 60, .int v2, .int v3] hx hc mk_paths_put ln_4_84 (by decide +kernel) (by decide) (Nat.le_of_ble_eq_true rfl) (s_paths_put_60 (ok_b h)) (fun r59 s59 h => ?_)
              exact g_vret hx hr rfl () rfl (by decide +kernel) (ok_some h)
            · have h := ok_f h c89
              refine g_run hx [(.iload 4, 0, 0), (.iload 6, 0, 0)] (pc' := 96) (lo' := [some (.ref 55), some (.int v1), some (.int v2), some (.int v3), some (.int v4), some (.int r39), some (.int r53)]) (st' := [.int r53, .int v4]) (σ' := s53) (by decide +kernel) rfl rfl ?_
              refine g_ic_ne hx (off := 43) (tgt := 139) (by decide +kernel) (by decide) (fun c96 => ?_) (fun c96 => ?_)
              · have h := ok_f h c96
                exact g_vret hx hr rfl () rfl (by decide +kernel) (ok_some h)
              · have h := ok_t h c96
                refine g_run hx [(.iload_n 1, 0, 0), (.aload_n 0, 0, 0), (.getfield 21, 0, 0), (.iload_n 2, 0, 0)] (pc' := 105) (lo' := [some (.ref 55), some (.int v1), some (.int v2), some (.int v3), some (.int v4), some (.int r39), some (.int r53)]) (st' := [.int v2, .ref 59, .int v1]) (σ' := s53) (by decide +kernel) rfl rfl ?_
                refine g_callS (rest := [.int v1]) [.ref 59, .int v2] hx hc mk_paths_get ln_4_108 (by decide +kernel) (by decide) (Nat.le_of_ble_eq_true rfl) (s_paths_get_59 (ok_b h)) (fun r60 s60 h => ?_)
                refine g_ic_ge hx (off := 31) (tgt := 139) (by decide +kernel) (by decide) (fun c108 => ?_) (fun c108 => ?_)
                · have h := ok_t h c108
                  exact g_vret hx hr rfl () rfl (by decide +kernel) (ok_some h)
                · have h := ok_f h c108
                  refine g_run hx [(.aload_n 0, 0, 0), (.getfield 18, 0, 0), (.iload_n 2, 0, 0), (.iload 4, 0, 0)] (pc' := 118) (lo' := [some (.ref 55), some (.int v1), some (.int v2), some (.int v3), some (.int v4), some (.int r39), some (.int r53)]) (st' := [.int v4, .int v2, .ref 58]) (σ' := s60) (by decide +kernel) rfl rfl ?_
                  refine g_callS (rest := []) [.ref 58, .int v2, .int v4] hx hc mk_paths_put ln_4_84 (by decide +kernel) (by decide) (Nat.le_of_ble_eq_true rfl) (s_paths_put_58 (ok_b h)) (fun r61 s61 h => ?_)
                  refine g_run hx [(.aload_n 0, 0, 0), (.getfield 21, 0, 0), (.iload_n 2, 0, 0), (.iload_n 1, 0, 0)] (pc' := 127) (lo' := [some (.ref 55), some (.int v1), some (.int v2), some (.int v3), some (.int v4), some (.int r39), some (.int r53)]) (st' := [.int v1, .int v2, .ref 59]) (σ' := s61) (by decide +kernel) rfl rfl ?_
                  refine g_callS (rest := []) [.ref 59, .int v2, .int v1] hx hc mk_paths_put ln_4_84 (by decide +kernel) (by decide) (Nat.le_of_ble_eq_true rfl) (s_paths_put_59 (ok_b h)) (fun r62 s62 h => ?_)
                  refine g_run hx [(.aload_n 0, 0, 0), (.getfield 24, 0, 0), (.iload_n 2, 0, 0), (.iload_n 3, 0, 0)] (pc' := 136) (lo' := [some (.ref 55), some (.int v1), some (.int v2), some (.int v3), some (.int v4), some (.int r39), some (.int r53)]) (st' := [.int v3, .int v2, .ref 60]) (σ' := s62) (by decide +kernel) rfl rfl ?_
                  refine g_callS (rest := []) [.ref 60, .int v2, .int v3] hx hc mk_paths_put ln_4_84 (by decide +kernel) (by decide) (Nat.le_of_ble_eq_true rfl) (s_paths_put_60 (ok_b h)) (fun r63 s63 h => ?_)
                  exact g_vret hx hr rfl () rfl (by decide +kernel) (ok_some h)
        · have h := ok_f h c47
          refine g_run hx [(.aload_n 0, 0, 0), (.getfield 9, 0, 0), (.iload_n 2, 0, 0), (.iload_n 1, 0, 0)] (pc' := 56) (lo' := [some (.ref 55), some (.int v1), some (.int v2), some (.int v3), some (.int v4), some (.int r39), none]) (st' := [.int v1, .int v2, .ref 56]) (σ' := s39) (by decide +kernel) rfl rfl ?_
          refine g_callS (rest := []) [.ref 56, .int v2, .int v1] hx hc mk_paths_put ln_4_84 (by decide +kernel) (by decide) (Nat.le_of_ble_eq_true rfl) (s_paths_put_56 (ok_b h)) (fun r64 s64 h => ?_)
          refine g_run hx [(.aload_n 0, 0, 0), (.getfield 15, 0, 0), (.iload_n 2, 0, 0), (.iload_n 3, 0, 0)] (pc' := 65) (lo' := [some (.ref 55), some (.int v1), some (.int v2), some (.int v3), some (.int v4), some (.int r39), none]) (st' := [.int v3, .int v2, .ref 57]) (σ' := s64) (by decide +kernel) rfl rfl ?_
          refine g_callS (rest := []) [.ref 57, .int v2, .int v3] hx hc mk_paths_put ln_4_84 (by decide +kernel) (by decide) (Nat.le_of_ble_eq_true rfl) (s_paths_put_57 (ok_b h)) (fun r65 s65 h => ?_)
          refine g_run hx [(.aload_n 0, 0, 0), (.getfield 18, 0, 0), (.iload_n 2, 0, 0)] (pc' := 73) (lo' := [some (.ref 55), some (.int v1), some (.int v2), some (.int v3), some (.int v4), some (.int r39), none]) (st' := [.int v2, .ref 58]) (σ' := s65) (by decide +kernel) rfl rfl ?_
          refine g_callS (rest := []) [.ref 58, .int v2] hx hc mk_paths_get ln_4_108 (by decide +kernel) (by decide) (Nat.le_of_ble_eq_true rfl) (s_paths_get_58 (ok_b h)) (fun r66 s66 h => ?_)
          refine g_run hx [(.istore 6, 0, 0), (.iload 6, 0, 0), (.bipush (-2), (-2), 0)] (pc' := 82) (lo' := [some (.ref 55), some (.int v1), some (.int v2), some (.int v3), some (.int v4), some (.int r39), some (.int r66)]) (st' := [.int (-2), .int r66]) (σ' := s66) (by decide +kernel) rfl rfl ?_
          refine g_ic_eq hx (off := 29) (tgt := 111) (by decide +kernel) (by decide) (fun c82 => ?_) (fun c82 => ?_)
          · have h := ok_t h c82
            refine g_run hx [(.aload_n 0, 0, 0), (.getfield 18, 0, 0), (.iload_n 2, 0, 0), (.iload 4, 0, 0)] (pc' := 118) (lo' := [some (.ref 55), some (.int v1), some (.int v2), some (.int v3), some (.int v4), some (.int r39), some (.int r66)]) (st' := [.int v4, .int v2, .ref 58]) (σ' := s66) (by decide +kernel) rfl rfl ?_
            refine g_callS (rest := []) [.ref 58, .int v2, .int v4] hx hc mk_paths_put ln_4_84 (by decide +kernel) (by decide) (Nat.le_of_ble_eq_true rfl) (s_paths_put_58 (ok_b h)) (fun r67 s67 h => ?_)
            refine g_run hx [(.aload_n 0, 0, 0), (.getfield 21, 0, 0), (.iload_n 2, 0, 0), (.iload_n 1, 0, 0)] (pc' := 127) (lo' := [some (.ref 55), some (.int v1), some (.int v2), some (.int v3), some (.int v4), some (.int r39), some (.int r66)]) (st' := [.int v1, .int v2, .ref 59]) (σ' := s67) (by decide +kernel) rfl rfl ?_
            refine g_callS (rest := []) [.ref 59, .int v2, .int v1] hx hc mk_paths_put ln_4_84 (by decide +kernel) (by decide) (Nat.le_of_ble_eq_true rfl) (s_paths_put_59 (ok_b h)) (fun r68 s68 h => ?_)
            refine g_run hx [(.aload_n 0, 0, 0), (.getfield 24, 0, 0), (.iload_n 2, 0, 0), (.iload_n 3, 0, 0)] (pc' := 136) (lo' := [some (.ref 55), some (.int v1), some (.int v2), some (.int v3), some (.int v4), some (.int r39), some (.int r66)]) (st' := [.int v3, .int v2, .ref 60]) (σ' := s68) (by decide +kernel) rfl rfl ?_
            refine g_callS (rest := []) [.ref 60, .int v2, .int v3] hx hc mk_paths_put ln_4_84 (by decide +kernel) (by decide) (Nat.le_of_ble_eq_true rfl) (s_paths_put_60 (ok_b h)) (fun r69 s69 h => ?_)
            exact g_vret hx hr rfl () rfl (by decide +kernel) (ok_some h)
          · have h := ok_f h c82
            refine g_run hx [(.iload 4, 0, 0), (.iload 6, 0, 0)] (pc' := 89) (lo' := [some (.ref 55), some (.int v1), some (.int v2), some (.int v3), some (.int v4), some (.int r39), some (.int r66)]) (st' := [.int r66, .int v4]) (σ' := s66) (by decide +kernel) rfl rfl ?_
            refine g_ic_lt hx (off := 22) (tgt := 111) (by decide +kernel) (by decide) (fun c89 => ?_) (fun c89 => ?_)
            · have h := ok_t h c89
              refine g_run hx [(.aload_n 0, 0, 0), (.getfield 18, 0, 0), (.iload_n 2, 0, 0), (.iload 4, 0, 0)] (pc' := 118) (lo' := [some (.ref 55), some (.int v1), some (.int v2), some (.int v3), some (.int v4), some (.int r39), some (.int r66)]) (st' := [.int v4, .int v2, .ref 58]) (σ' := s66) (by decide +kernel) rfl rfl ?_
              refine g_callS (rest := []) [.ref 58, .int v2, .int v4] hx hc mk_paths_put ln_4_84 (by decide +kernel) (by decide) (Nat.le_of_ble_eq_true rfl) (s_paths_put_58 (ok_b h)) (fun r70 s70 h => ?_)
              refine g_run hx [(.aload_n 0, 0, 0), (.getfield 21, 0, 0), (.iload_n 2, 0, 0), (.iload_n 1, 0, 0)] (pc' := 127) (lo' := [some (.ref 55), some (.int v1), some (.int v2), some (.int v3), some (.int v4), some (.int r39), some (.int r66)]) (st' := [.int v1, .int v2, .ref 59]) (σ' := s70) (by decide +kernel) rfl rfl ?_
              refine g_callS (rest := []) [.ref 59, .int v2, .int v1] hx hc mk_paths_put ln_4_84 (by decide +kernel) (by decide) (Nat.le_of_ble_eq_true rfl) (s_paths_put_59 (ok_b h)) (fun r71 s71 h => ?_)
              refine g_run hx [(.aload_n 0, 0, 0), (.getfield 24, 0, 0), (.iload_n 2, 0, 0), (.iload_n 3, 0, 0)] (pc' := 136) (lo' := [some (.ref 55), some (.int v1), some (.int v2), some (.int v3), some (.int v4), some (.int r39), some (.int r66)]) (st' := [.int v3, .int v2, .ref 60]) (σ' := s71) (by decide +kernel) rfl rfl ?_
              refine g_callS (rest := []) [.ref 60, .int v2, .int v3] hx hc mk_paths_put ln_4_84 (by decide +kernel) (by decide) (Nat.le_of_ble_eq_true rfl) (s_paths_put_60 (ok_b h)) (fun r72 s72 h => ?_)
              exact g_vret hx hr rfl () rfl (by decide +kernel) (ok_some h)
            · have h := ok_f h c89
              refine g_run hx [(.iload 4, 0, 0), (.iload 6, 0, 0)] (pc' := 96) (lo' := [some (.ref 55), some (.int v1), some (.int v2), some (.int v3), some (.int v4), some (.int r39), some (.int r66)]) (st' := [.int r66, .int v4]) (σ' := s66) (by decide +kernel) rfl rfl ?_
              refine g_ic_ne hx (off := 43) (tgt := 139) (by decide +kernel) (by decide) (fun c96 => ?_) (fun c96 => ?_)
              · have h := ok_f h c96
                exact g_vret hx hr rfl () rfl (by decide +kernel) (ok_some h)
              · have h := ok_t h c96
                refine g_run hx [(.iload_n 1, 0, 0), (.aload_n 0, 0, 0), (.getfield 21, 0, 0), (.iload_n 2, 0, 0)] (pc' := 105) (lo' := [some (.ref 55), some (.int v1), some (.int v2), some (.int v3), some (.int v4), some (.int r39), some (.int r66)]) (st' := [.int v2, .ref 59, .int v1]) (σ' := s66) (by decide +kernel) rfl rfl ?_
                refine g_callS (rest := [.int v1]) [.ref 59, .int v2] hx hc mk_paths_get ln_4_108 (by decide +kernel) (by decide) (Nat.le_of_ble_eq_true rfl) (s_paths_get_59 (ok_b h)) (fun r73 s73 h => ?_)
                refine g_ic_ge hx (off := 31) (tgt := 139) (by decide +kernel) (by decide) (fun c108 => ?_) (fun c108 => ?_)
                · have h := ok_t h c108
                  exact g_vret hx hr rfl () rfl (by decide +kernel) (ok_some h)
                · have h := ok_f h c108
                  refine g_run hx [(.aload_n 0, 0, 0), (.getfield 18, 0, 0), (.iload_n 2, 0, 0), (.iload 4, 0, 0)] (pc' := 118) (lo' := [some (.ref 55), some (.int v1), some (.int v2), some (.int v3), some (.int v4), some (.int r39), some (.int r66)]) (st' := [.int v4, .int v2, .ref 58]) (σ' := s73) (by decide +kernel) rfl rfl ?_
                  refine g_callS (rest := []) [.ref 58, .int v2, .int v4] hx hc mk_paths_put ln_4_84 (by decide +kernel) (by decide) (Nat.le_of_ble_eq_true rfl) (s_paths_put_58 (ok_b h)) (fun r74 s74 h => ?_)
                  refine g_run hx [(.aload_n 0, 0, 0), (.getfield 21, 0, 0), (.iload_n 2, 0, 0), (.iload_n 1, 0, 0)] (pc' := 127) (lo' := [some (.ref 55), some (.int v1), some (.int v2), some (.int v3), some (.int v4), some (.int r39), some (.int r66)]) (st' := [.int v1, .int v2, .ref 59]) (σ' := s74) (by decide +kernel) rfl rfl ?_
                  refine g_callS (rest := []) [.ref 59, .int v2, .int v1] hx hc mk_paths_put ln_4_84 (by decide +kernel) (by decide) (Nat.le_of_ble_eq_true rfl) (s_paths_put_59 (ok_b h)) (fun r75 s75 h => ?_)
                  refine g_run hx [(.aload_n 0, 0, 0), (.getfield 24, 0, 0), (.iload_n 2, 0, 0), (.iload_n 3, 0, 0)] (pc' := 136) (lo' := [some (.ref 55), some (.int v1), some (.int v2), some (.int v3), some (.int v4), some (.int r39), some (.int r66)]) (st' := [.int v3, .int v2, .ref 60]) (σ' := s75) (by decide +kernel) rfl rfl ?_
                  refine g_callS (rest := []) [.ref 60, .int v2, .int v3] hx hc mk_paths_put ln_4_84 (by decide +kernel) (by decide) (Nat.le_of_ble_eq_true rfl) (s_paths_put_60 (ok_b h)) (fun r76 s76 h => ?_)
                  exact g_vret hx hr rfl () rfl (by decide +kernel) (ok_some h)
    · have h := ok_f h c10
      refine g_run hx [(.aload_n 0, 0, 0), (.getfield 27, 0, 0), (.iload_n 1, 0, 0), (.dup2, 0, 0)] (pc' := 19) (lo' := [some (.ref 55), some (.int v1), some (.int v2), some (.int v3), some (.int v4), none, none]) (st' := [.int v1, .ref 61, .int v1, .ref 61]) (σ' := σ) (by decide +kernel) rfl rfl ?_
      obtain ⟨c19, h⟩ := ok_g h
      refine g_lald hx (by decide +kernel) (i := 61) (n := 6) rfl c19 ?_
      refine g_run hx [(.iload_n 2, 0, 0), (.iload_n 2, 0, 0)] (pc' := 22) (lo' := [some (.ref 55), some (.int v1), some (.int v2), some (.int v3), some (.int v4), none, none]) (st' := [.int v2, .int v2, .long (gM σ 61 v1), .int v1, .ref 61]) (σ' := σ) (by decide +kernel) rfl rfl ?_
      refine g_callN (rest := [.long (gM σ 61 v1), .int v1, .ref 61]) [.int v2, .int v2] hx hc mk_x_span ln_4_80 (by decide +kernel) (by decide) (Nat.le_of_ble_eq_true rfl) (s_x_span (ok_b h)) (fun r77 s77 h => ?_)
      refine g_run hx [(.lor, 0, 0)] (pc' := 26) (lo' := [some (.ref 55), some (.int v1), some (.int v2), some (.int v3), some (.int v4), none, none]) (st' := [.long ((gM σ 61 v1) ||| r77), .int v1, .ref 61]) (σ' := s77) (by decide +kernel) rfl rfl ?_
      obtain ⟨c26, h⟩ := ok_g h
      refine g_last hx (by decide +kernel) (i := 61) (n := 6) rfl c26 ?_
      refine g_run hx [(.aload_n 0, 0, 0), (.getfield 9, 0, 0), (.iload_n 2, 0, 0)] (pc' := 32) (lo' := [some (.ref 55), some (.int v1), some (.int v2), some (.int v3), some (.int v4), none, none]) (st' := [.int v2, .ref 56]) (σ' := sM s77 61 v1 ((gM σ 61 v1) ||| r77)) (by decide +kernel) rfl rfl ?_
      refine g_callS (rest := []) [.ref 56, .int v2] hx hc mk_paths_get ln_4_108 (by decide +kernel) (by decide) (Nat.le_of_ble_eq_true rfl) (s_paths_get_56 (ok_b h)) (fun r78 s78 h => ?_)
      refine g_run hx [(.istore 5, 0, 0), (.iload 5, 0, 0), (.bipush (-2), (-2), 0)] (pc' := 41) (lo' := [some (.ref 55), some (.int v1), some (.int v2), some (.int v3), some (.int v4), some (.int r78), none]) (st' := [.int (-2), .int r78]) (σ' := s78) (by decide +kernel) rfl rfl ?_
      refine g_ic_eq hx (off := 9) (tgt := 50) (by decide +kernel) (by decide) (fun c41 => ?_) (fun c41 => ?_)
      · have h := ok_t h c41
        refine g_run hx [(.aload_n 0, 0, 0), (.getfield 9, 0, 0), (.iload_n 2, 0, 0), (.iload_n 1, 0, 0)] (pc' := 56) (lo' := [some (.ref 55), some (.int v1), some (.int v2), some (.int v3), some (.int v4), some (.int r78), none]) (st' := [.int v1, .int v2, .ref 56]) (σ' := s78) (by decide +kernel) rfl rfl ?_
        refine g_callS (rest := []) [.ref 56, .int v2, .int v1] hx hc mk_paths_put ln_4_84 (by decide +kernel) (by decide) (Nat.le_of_ble_eq_true rfl) (s_paths_put_56 (ok_b h)) (fun r79 s79 h => ?_)
        refine g_run hx [(.aload_n 0, 0, 0), (.getfield 15, 0, 0), (.iload_n 2, 0, 0), (.iload_n 3, 0, 0)] (pc' := 65) (lo' := [some (.ref 55), some (.int v1), some (.int v2), some (.int v3), some (.int v4), some (.int r78), none]) (st' := [.int v3, .int v2, .ref 57]) (σ' := s79) (by decide +kernel) rfl rfl ?_
        refine g_callS (rest := []) [.ref 57, .int v2, .int v3] hx hc mk_paths_put ln_4_84 (by decide +kernel) (by decide) (Nat.le_of_ble_eq_true rfl) (s_paths_put_57 (ok_b h)) (fun r80 s80 h => ?_)
        refine g_run hx [(.aload_n 0, 0, 0), (.getfield 18, 0, 0), (.iload_n 2, 0, 0)] (pc' := 73) (lo' := [some (.ref 55), some (.int v1), some (.int v2), some (.int v3), some (.int v4), some (.int r78), none]) (st' := [.int v2, .ref 58]) (σ' := s80) (by decide +kernel) rfl rfl ?_
        refine g_callS (rest := []) [.ref 58, .int v2] hx hc mk_paths_get ln_4_108 (by decide +kernel) (by decide) (Nat.le_of_ble_eq_true rfl) (s_paths_get_58 (ok_b h)) (fun r81 s81 h => ?_)
        refine g_run hx [(.istore 6, 0, 0), (.iload 6, 0, 0), (.bipush (-2), (-2), 0)] (pc' := 82) (lo' := [some (.ref 55), some (.int v1), some (.int v2), some (.int v3), some (.int v4), some (.int r78), some (.int r81)]) (st' := [.int (-2), .int r81]) (σ' := s81) (by decide +kernel) rfl rfl ?_
        refine g_ic_eq hx (off := 29) (tgt := 111) (by decide +kernel) (by decide) (fun c82 => ?_) (fun c82 => ?_)
        · have h := ok_t h c82
          refine g_run hx [(.aload_n 0, 0, 0), (.getfield 18, 0, 0), (.iload_n 2, 0, 0), (.iload 4, 0, 0)] (pc' := 118) (lo' := [some (.ref 55), some (.int v1), some (.int v2), some (.int v3), some (.int v4), some (.int r78), some (.int r81)]) (st' := [.int v4, .int v2, .ref 58]) (σ' := s81) (by decide +kernel) rfl rfl ?_
          refine g_callS (rest := []) [.ref 58, .int v2, .int v4] hx hc mk_paths_put ln_4_84 (by decide +kernel) (by decide) (Nat.le_of_ble_eq_true rfl) (s_paths_put_58 (ok_b h)) (fun r82 s82 h => ?_)
          refine g_run hx [(.aload_n 0, 0, 0), (.getfield 21, 0, 0), (.iload_n 2, 0, 0), (.iload_n 1, 0, 0)] (pc' := 127) (lo' := [some (.ref 55), some (.int v1), some (.int v2), some (.int v3), some (.int v4), some (.int r78), some (.int r81)]) (st' := [.int v1, .int v2, .ref 59]) (σ' := s82) (by decide +kernel) rfl rfl ?_
          refine g_callS (rest := []) [.ref 59, .int v2, .int v1] hx hc mk_paths_put ln_4_84 (by decide +kernel) (by decide) (Nat.le_of_ble_eq_true rfl) (s_paths_put_59 (ok_b h)) (fun r83 s83 h => ?_)
          refine g_run hx [(.aload_n 0, 0, 0), (.getfield 24, 0, 0), (.iload_n 2, 0, 0), (.iload_n 3, 0, 0)] (pc' := 136) (lo' := [some (.ref 55), some (.int v1), some (.int v2), some (.int v3), some (.int v4), some (.int r78), some (.int r81)]) (st' := [.int v3, .int v2, .ref 60]) (σ' := s83) (by decide +kernel) rfl rfl ?_
          refine g_callS (rest := []) [.ref 60, .int v2, .int v3] hx hc mk_paths_put ln_4_84 (by decide +kernel) (by decide) (Nat.le_of_ble_eq_true rfl) (s_paths_put_60 (ok_b h)) (fun r84 s84 h => ?_)
          exact g_vret hx hr rfl () rfl (by decide +kernel) (ok_some h)
        · have h := ok_f h c82
          refine g_run hx [(.iload 4, 0, 0), (.iload 6, 0, 0)] (pc' := 89) (lo' := [some (.ref 55), some (.int v1), some (.int v2), some (.int v3), some (.int v4), some (.int r78), some (.int r81)]) (st' := [.int r81, .int v4]) (σ' := s81) (by decide +kernel) rfl rfl ?_
          refine g_ic_lt hx (off := 22) (tgt := 111) (by decide +kernel) (by decide) (fun c89 => ?_) (fun c89 => ?_)
          · have h := ok_t h c89
            refine g_run hx [(.aload_n 0, 0, 0), (.getfield 18, 0, 0), (.iload_n 2, 0, 0), (.iload 4, 0, 0)] (pc' := 118) (lo' := [some (.ref 55), some (.int v1), some (.int v2), some (.int v3), some (.int v4), some (.int r78), some (.int r81)]) (st' := [.int v4, .int v2, .ref 58]) (σ' := s81) (by decide +kernel) rfl rfl ?_
            refine g_callS (rest := []) [.ref 58, .int v2, .int v4] hx hc mk_paths_put ln_4_84 (by decide +kernel) (by decide) (Nat.le_of_ble_eq_true rfl) (s_paths_put_58 (ok_b h)) (fun r85 s85 h => ?_)
            refine g_run hx [(.aload_n 0, 0, 0), (.getfield 21, 0, 0), (.iload_n 2, 0, 0), (.iload_n 1, 0, 0)] (pc' := 127) (lo' := [some (.ref 55), some (.int v1), some (.int v2), some (.int v3), some (.int v4), some (.int r78), some (.int r81)]) (st' := [.int v1, .int v2, .ref 59]) (σ' := s85) (by decide +kernel) rfl rfl ?_
            refine g_callS (rest := []) [.ref 59, .int v2, .int v1] hx hc mk_paths_put ln_4_84 (by decide +kernel) (by decide) (Nat.le_of_ble_eq_true rfl) (s_paths_put_59 (ok_b h)) (fun r86 s86 h => ?_)
            refine g_run hx [(.aload_n 0, 0, 0), (.getfield 24, 0, 0), (.iload_n 2, 0, 0), (.iload_n 3, 0, 0)] (pc' := 136) (lo' := [some (.ref 55), some (.int v1), some (.int v2), some (.int v3), some (.int v4), some (.int r78), some (.int r81)]) (st' := [.int v3, .int v2, .ref 60]) (σ' := s86) (by decide +kernel) rfl rfl ?_
            refine g_callS (rest := []) [.ref 60, .int v2, .int v3] hx hc mk_paths_put ln_4_84 (by decide +kernel) (by decide) (Nat.le_of_ble_eq_true rfl) (s_paths_put_60 (ok_b h)) (fun r87 s87 h => ?_)
            exact g_vret hx hr rfl () rfl (by decide +kernel) (ok_some h)
          · have h := ok_f h c89
            refine g_run hx [(.iload 4, 0, 0), (.iload 6, 0, 0)] (pc' := 96) (lo' := [some (.ref 55), some (.int v1), some (.int v2), some (.int v3), some (.int v4), some (.int r78), some (.int r81)]) (st' := [.int r81, .int v4]) (σ' := s81) (by decide +kernel) rfl rfl ?_
            refine g_ic_ne hx (off := 43) (tgt := 139) (by decide +kernel) (by decide) (fun c96 => ?_) (fun c96 => ?_)
            · have h := ok_f h c96
              exact g_vret hx hr rfl () rfl (by decide +kernel) (ok_some h)
            · have h := ok_t h c96
              refine g_run hx [(.iload_n 1, 0, 0), (.aload_n 0, 0, 0), (.getfield 21, 0, 0), (.iload_n 2, 0, 0)] (pc' := 105) (lo' := [some (.ref 55), some (.int v1), some (.int v2), some (.int v3), some (.int v4), some (.int r78), some (.int r81)]) (st' := [.int v2, .ref 59, .int v1]) (σ' := s81) (by decide +kernel) rfl rfl ?_
              refine g_callS (rest := [.int v1]) [.ref 59, .int v2] hx hc mk_paths_get ln_4_108 (by decide +kernel) (by decide) (Nat.le_of_ble_eq_true rfl) (s_paths_get_59 (ok_b h)) (fun r88 s88 h => ?_)
              refine g_ic_ge hx (off := 31) (tgt := 139) (by decide +kernel) (by decide) (fun c108 => ?_) (fun c108 => ?_)
              · have h := ok_t h c108
                exact g_vret hx hr rfl () rfl (by decide +kernel) (ok_some h)
              · have h := ok_f h c108
                refine g_run hx [(.aload_n 0, 0, 0), (.getfield 18, 0, 0), (.iload_n 2, 0, 0), (.iload 4, 0, 0)] (pc' := 118) (lo' := [some (.ref 55), some (.int v1), some (.int v2), some (.int v3), some (.int v4), some (.int r78), some (.int r81)]) (st' := [.int v4, .int v2, .ref 58]) (σ' := s88) (by decide +kernel) rfl rfl ?_
                refine g_callS (rest := []) [.ref 58, .int v2, .int v4] hx hc mk_paths_put ln_4_84 (by decide +kernel) (by decide) (Nat.le_of_ble_eq_true rfl) (s_paths_put_58 (ok_b h)) (fun r89 s89 h => ?_)
                refine g_run hx [(.aload_n 0, 0, 0), (.getfield 21, 0, 0), (.iload_n 2, 0, 0), (.iload_n 1, 0, 0)] (pc' := 127) (lo' := [some (.ref 55), some (.int v1), some (.int v2), some (.int v3), some (.int v4), some (.int r78), some (.int r81)]) (st' := [.int v1, .int v2, .ref 59]) (σ' := s89) (by decide +kernel) rfl rfl ?_
                refine g_callS (rest := []) [.ref 59, .int v2, .int v1] hx hc mk_paths_put ln_4_84 (by decide +kernel) (by decide) (Nat.le_of_ble_eq_true rfl) (s_paths_put_59 (ok_b h)) (fun r90 s90 h => ?_)
                refine g_run hx [(.aload_n 0, 0, 0), (.getfield 24, 0, 0), (.iload_n 2, 0, 0), (.iload_n 3, 0, 0)] (pc' := 136) (lo' := [some (.ref 55), some (.int v1), some (.int v2), some (.int v3), some (.int v4), some (.int r78), some (.int r81)]) (st' := [.int v3, .int v2, .ref 60]) (σ' := s90) (by decide +kernel) rfl rfl ?_
                refine g_callS (rest := []) [.ref 60, .int v2, .int v3] hx hc mk_paths_put ln_4_84 (by decide +kernel) (by decide) (Nat.le_of_ble_eq_true rfl) (s_paths_put_60 (ok_b h)) (fun r91 s91 h => ?_)
                exact g_vret hx hr rfl () rfl (by decide +kernel) (ok_some h)
      · have h := ok_f h c41
        refine g_run hx [(.iload_n 1, 0, 0), (.iload 5, 0, 0)] (pc' := 47) (lo' := [some (.ref 55), some (.int v1), some (.int v2), some (.int v3), some (.int v4), some (.int r78), none]) (st' := [.int r78, .int v1]) (σ' := s78) (by decide +kernel) rfl rfl ?_
        refine g_ic_ge hx (off := 21) (tgt := 68) (by decide +kernel) (by decide) (fun c47 => ?_) (fun c47 => ?_)
        · have h := ok_t h c47
          refine g_run hx [(.aload_n 0, 0, 0), (.getfield 18, 0, 0), (.iload_n 2, 0, 0)] (pc' := 73) (lo' := [some (.ref 55), some (.int v1), some (.int v2), some (.int v3), some (.int v4), some (.int r78), none]) (st' := [.int v2, .ref 58]) (σ' := s78) (by decide +kernel) rfl rfl ?_
          refine g_callS (rest := []) [.ref 58, .int v2] hx hc mk_paths_get ln_4_108 (by decide +kernel) (by decide) (Nat.le_of_ble_eq_true rfl) (s_paths_get_58 (ok_b h)) (fun r92 s92 h => ?_)
          refine g_run hx [(.istore 6, 0, 0), (.iload 6, 0, 0), (.bipush (-2), (-2), 0)] (pc' := 82) (lo' := [some (.ref 55), some (.int v1), some (.int v2), some (.int v3), some (.int v4), some (.int r78), some (.int r92)]) (st' := [.int (-2), .int r92]) (σ' := s92) (by decide +kernel) rfl rfl ?_
          refine g_ic_eq hx (off := 29) (tgt := 111) (by decide +kernel) (by decide) (fun c82 => ?_) (fun c82 => ?_)
          · have h := ok_t h c82
            refine g_run hx [(.aload_n 0, 0, 0), (.getfield 18, 0, 0), (.iload_n 2, 0, 0), (.iload 4, 0, 0)] (pc' := 118) (lo' := [some (.ref 55), some (.int v1), some (.int v2), some (.int v3), some (.int v4), some (.int r78), some (.int r92)]) (st' := [.int v4, .int v2, .ref 58]) (σ' := s92) (by decide +kernel) rfl rfl ?_
            refine g_callS (rest := []) [.ref 58, .int v2, .int v4] hx hc mk_paths_put ln_4_84 (by decide +kernel) (by decide) (Nat.le_of_ble_eq_true rfl) (s_paths_put_58 (ok_b h)) (fun r93 s93 h => ?_)
            refine g_run hx [(.aload_n 0, 0, 0), (.getfield 21, 0, 0), (.iload_n 2, 0, 0), (.iload_n 1, 0, 0)] (pc' := 127) (lo' := [some (.ref 55), some (.int v1), some (.int v2), some (.int v3), some (.int v4), some (.int r78), some (.int r92)]) (st' := [.int v1, .int v2, .ref 59]) (σ' := s93) (by decide +kernel) rfl rfl ?_
            refine g_callS (rest := []) [.ref 59, .int v2, .int v1] hx hc mk_paths_put ln_4_84 (by decide +kernel) (by decide) (Nat.le_of_ble_eq_true rfl) (s_paths_put_59 (ok_b h)) (fun r94 s94 h => ?_)
            refine g_run hx [(.aload_n 0, 0, 0), (.getfield 24, 0, 0), (.iload_n 2, 0, 0), (.iload_n 3, 0, 0)] (pc' := 136) (lo' := [some (.ref 55), some (.int v1), some (.int v2), some (.int v3), some (.int v4), some (.int r78), some (.int r92)]) (st' := [.int v3, .int v2, .ref 60]) (σ' := s94) (by decide +kernel) rfl rfl ?_
            refine g_callS (rest := []) [.ref 60, .int v2, .int v3] hx hc mk_paths_put ln_4_84 (by decide +kernel) (by decide) (Nat.le_of_ble_eq_true rfl) (s_paths_put_60 (ok_b h)) (fun r95 s95 h => ?_)
            exact g_vret hx hr rfl () rfl (by decide +kernel) (ok_some h)
          · have h := ok_f h c82
            refine g_run hx [(.iload 4, 0, 0), (.iload 6, 0, 0)] (pc' := 89) (lo' := [some (.ref 55), some (.int v1), some (.int v2), some (.int v3), some (.int v4), some (.int r78), some (.int r92)]) (st' := [.int r92, .int v4]) (σ' := s92) (by decide +kernel) rfl rfl ?_
            refine g_ic_lt hx (off := 22) (tgt := 111) (by decide +kernel) (by decide) (fun c89 => ?_) (fun c89 => ?_)
            · have h := ok_t h c89
              refine g_run hx [(.aload_n 0, 0, 0), (.getfield 18, 0, 0), (.iload_n 2, 0, 0), (.iload 4, 0, 0)] (pc' := 118) (lo' := [some (.ref 55), some (.int v1), some (.int v2), some (.int v3), some (.int v4), some (.int r78), some (.int r92)]) (st' := [.int v4, .int v2, .ref 58]) (σ' := s92) (by decide +kernel) rfl rfl ?_
              refine g_callS (rest := []) [.ref 58, .int v2, .int v4] hx hc mk_paths_put ln_4_84 (by decide +kernel) (by decide) (Nat.le_of_ble_eq_true rfl) (s_paths_put_58 (ok_b h)) (fun r96 s96 h => ?_)
              refine g_run hx [(.aload_n 0, 0, 0), (.getfield 21, 0, 0), (.iload_n 2, 0, 0), (.iload_n 1, 0, 0)] (pc' := 127) (lo' := [some (.ref 55), some (.int v1), some (.int v2), some (.int v3), some (.int v4), some (.int r78), some (.int r92)]) (st' := [.int v1, .int v2, .ref 59]) (σ' := s96) (by decide +kernel) rfl rfl ?_
              refine g_callS (rest := []) [.ref 59, .int v2, .int v1] hx hc mk_paths_put ln_4_84 (by decide +kernel) (by decide) (Nat.le_of_ble_eq_true rfl) (s_paths_put_59 (ok_b h)) (fun r97 s97 h => ?_)
              refine g_run hx [(.aload_n 0, 0, 0), (.getfield 24, 0, 0), (.iload_n 2, 0, 0), (.iload_n 3, 0, 0)] (pc' := 136) (lo' := [some (.ref 55), some (.int v1), some (.int v2), some (.int v3), some (.int v4), some (.int r78), some (.int r92)]) (st' := [.int v3, .int v2, .ref 60]) (σ' := s97) (by decide +kernel) rfl rfl ?_
              refine g_callS (rest := []) [.ref 60, .int v2, .int v3] hx hc mk_paths_put ln_4_84 (by decide +kernel) (by decide) (Nat.le_of_ble_eq_true rfl) (s_paths_put_60 (ok_b h)) (fun r98 s98 h => ?_)
              exact g_vret hx hr rfl () rfl (by decide +kernel) (ok_some h)
            · have h := ok_f h c89
              refine g_run hx [(.iload 4, 0, 0), (.iload 6, 0, 0)] (pc' := 96) (lo' := [some (.ref 55), some (.int v1), some (.int v2), some (.int v3), some (.int v4), some (.int r78), some (.int r92)]) (st' := [.int r92, .int v4]) (σ' := s92) (by decide +kernel) rfl rfl ?_
              refine g_ic_ne hx (off := 43) (tgt := 139) (by decide +kernel) (by decide) (fun c96 => ?_) (fun c96 => ?_)
              · have h := ok_f h c96
                exact g_vret hx hr rfl () rfl (by decide +kernel) (ok_some h)
              · have h := ok_t h c96
                refine g_run hx [(.iload_n 1, 0, 0), (.aload_n 0, 0, 0), (.getfield 21, 0, 0), (.iload_n 2, 0, 0)] (pc' := 105) (lo' := [some (.ref 55), some (.int v1), some (.int v2), some (.int v3), some (.int v4), some (.int r78), some (.int r92)]) (st' := [.int v2, .ref 59, .int v1]) (σ' := s92) (by decide +kernel) rfl rfl ?_
                refine g_callS (rest := [.int v1]) [.ref 59, .int v2] hx hc mk_paths_get ln_4_108 (by decide +kernel) (by decide) (Nat.le_of_ble_eq_true rfl) (s_paths_get_59 (ok_b h)) (fun r99 s99 h => ?_)
                refine g_ic_ge hx (off := 31) (tgt := 139) (by decide +kernel) (by decide) (fun c108 => ?_) (fun c108 => ?_)
                · have h := ok_t h c108
                  exact g_vret hx hr rfl () rfl (by decide +kernel) (ok_some h)
                · have h := ok_f h c108
                  refine g_run hx [(.aload_n 0, 0, 0), (.getfield 18, 0, 0), (.iload_n 2, 0, 0), (.iload 4, 0, 0)] (pc' := 118) (lo' := [some (.ref 55), some (.int v1), some (.int v2), some (.int v3), some (.int v4), some (.int r78), some (.int r92)]) (st' := [.int v4, .int v2, .ref 58]) (σ' := s99) (by decide +kernel) rfl rfl ?_
                  refine g_callS (rest := []) [.ref 58, .int v2, .int v4] hx hc mk_paths_put ln_4_84 (by decide +kernel) (by decide) (Nat.le_of_ble_eq_true rfl) (s_paths_put_58 (ok_b h)) (fun r100 s100 h => ?_)
                  refine g_run hx [(.aload_n 0, 0, 0), (.getfield 21, 0, 0), (.iload_n 2, 0, 0), (.iload_n 1, 0, 0)] (pc' := 127) (lo' := [some (.ref 55), some (.int v1), some (.int v2), some (.int v3), some (.int v4), some (.int r78), some (.int r92)]) (st' := [.int v1, .int v2, .ref 59]) (σ' := s100) (by decide +kernel) rfl rfl ?_
                  refine g_callS (rest := []) [.ref 59, .int v2, .int v1] hx hc mk_paths_put ln_4_84 (by decide +kernel) (by decide) (Nat.le_of_ble_eq_true rfl) (s_paths_put_59 (ok_b h)) (fun r101 s101 h => ?_)
                  refine g_run hx [(.aload_n 0, 0, 0), (.getfield 24, 0, 0), (.iload_n 2, 0, 0), (.iload_n 3, 0, 0)] (pc' := 136) (lo' := [some (.ref 55), some (.int v1), some (.int v2), some (.int v3), some (.int v4), some (.int r78), some (.int r92)]) (st' := [.int v3, .int v2, .ref 60]) (σ' := s101) (by decide +kernel) rfl rfl ?_
                  refine g_callS (rest := []) [.ref 60, .int v2, .int v3] hx hc mk_paths_put ln_4_84 (by decide +kernel) (by decide) (Nat.le_of_ble_eq_true rfl) (s_paths_put_60 (ok_b h)) (fun r102 s102 h => ?_)
                  exact g_vret hx hr rfl () rfl (by decide +kernel) (ok_some h)
        · have h := ok_f h c47
          refine g_run hx [(.aload_n 0, 0, 0), (.getfield 9, 0, 0), (.iload_n 2, 0, 0), (.iload_n 1, 0, 0)] (pc' := 56) (lo' := [some (.ref 55), some (.int v1), some (.int v2), some (.int v3), some (.int v4), some (.int r78), none]) (st' := [.int v1, .int v2, .ref 56]) (σ' := s78) (by decide +kernel) rfl rfl ?_
          refine g_callS (rest := []) [.ref 56, .int v2, .int v1] hx hc mk_paths_put ln_4_84 (by decide +kernel) (by decide) (Nat.le_of_ble_eq_true rfl) (s_paths_put_56 (ok_b h)) (fun r103 s103 h => ?_)
          refine g_run hx [(.aload_n 0, 0, 0), (.getfield 15, 0, 0), (.iload_n 2, 0, 0), (.iload_n 3, 0, 0)] (pc' := 65) (lo' := [some (.ref 55), some (.int v1), some (.int v2), some (.int v3), some (.int v4), some (.int r78), none]) (st' := [.int v3, .int v2, .ref 57]) (σ' := s103) (by decide +kernel) rfl rfl ?_
          refine g_callS (rest := []) [.ref 57, .int v2, .int v3] hx hc mk_paths_put ln_4_84 (by decide +kernel) (by decide) (Nat.le_of_ble_eq_true rfl) (s_paths_put_57 (ok_b h)) (fun r104 s104 h => ?_)
          refine g_run hx [(.aload_n 0, 0, 0), (.getfield 18, 0, 0), (.iload_n 2, 0, 0)] (pc' := 73) (lo' := [some (.ref 55), some (.int v1), some (.int v2), some (.int v3), some (.int v4), some (.int r78), none]) (st' := [.int v2, .ref 58]) (σ' := s104) (by decide +kernel) rfl rfl ?_
          refine g_callS (rest := []) [.ref 58, .int v2] hx hc mk_paths_get ln_4_108 (by decide +kernel) (by decide) (Nat.le_of_ble_eq_true rfl) (s_paths_get_58 (ok_b h)) (fun r105 s105 h => ?_)
          refine g_run hx [(.istore 6, 0, 0), (.iload 6, 0, 0), (.bipush (-2), (-2), 0)] (pc' := 82) (lo' := [some (.ref 55), some (.int v1), some (.int v2), some (.int v3), some (.int v4), some (.int r78), some (.int r105)]) (st' := [.int (-2), .int r105]) (σ' := s105) (by decide +kernel) rfl rfl ?_
          refine g_ic_eq hx (off := 29) (tgt := 111) (by decide +kernel) (by decide) (fun c82 => ?_) (fun c82 => ?_)
          · have h := ok_t h c82
            refine g_run hx [(.aload_n 0, 0, 0), (.getfield 18, 0, 0), (.iload_n 2, 0, 0), (.iload 4, 0, 0)] (pc' := 118) (lo' := [some (.ref 55), some (.int v1), some (.int v2), some (.int v3), some (.int v4), some (.int r78), some (.int r105)]) (st' := [.int v4, .int v2, .ref 58]) (σ' := s105) (by decide +kernel) rfl rfl ?_
            refine g_callS (rest := []) [.ref 58, .int v2, .int v4] hx hc mk_paths_put ln_4_84 (by decide +kernel) (by decide) (Nat.le_of_ble_eq_true rfl) (s_paths_put_58 (ok_b h)) (fun r106 s106 h => ?_)
            refine g_run hx [(.aload_n 0, 0, 0), (.getfield 21, 0, 0), (.iload_n 2, 0, 0), (.iload_n 1, 0, 0)] (pc' := 127) (lo' := [some (.ref 55), some (.int v1), some (.int v2), some (.int v3), some (.int v4), some (.int r78), some (.int r105)]) (st' := [.int v1, .int v2, .ref 59]) (σ' := s106) (by decide +kernel) rfl rfl ?_
            refine g_callS (rest := []) [.ref 59, .int v2, .int v1] hx hc mk_paths_put ln_4_84 (by decide +kernel) (by decide) (Nat.le_of_ble_eq_true rfl) (s_paths_put_59 (ok_b h)) (fun r107 s107 h => ?_)
            refine g_run hx [(.aload_n 0, 0, 0), (.getfield 24, 0, 0), (.iload_n 2, 0, 0), (.iload_n 3, 0, 0)] (pc' := 136) (lo' := [some (.ref 55), some (.int v1), some (.int v2), some (.int v3), some (.int v4), some (.int r78), some (.int r105)]) (st' := [.int v3, .int v2, .ref 60]) (σ' := s107) (by decide +kernel) rfl rfl ?_
            refine g_callS (rest := []) [.ref 60, .int v2, .int v3] hx hc mk_paths_put ln_4_84 (by decide +kernel) (by decide) (Nat.le_of_ble_eq_true rfl) (s_paths_put_60 (ok_b h)) (fun r108 s108 h => ?_)
            exact g_vret hx hr rfl () rfl (by decide +kernel) (ok_some h)
          · have h := ok_f h c82
            refine g_run hx [(.iload 4, 0, 0), (.iload 6, 0, 0)] (pc' := 89) (lo' := [some (.ref 55), some (.int v1), some (.int v2), some (.int v3), some (.int v4), some (.int r78), some (.int r105)]) (st' := [.int r105, .int v4]) (σ' := s105) (by decide +kernel) rfl rfl ?_
            refine g_ic_lt hx (off := 22) (tgt := 111) (by decide +kernel) (by decide) (fun c89 => ?_) (fun c89 => ?_)
            · have h := ok_t h c89
              refine g_run hx [(.aload_n 0, 0, 0), (.getfield 18, 0, 0), (.iload_n 2, 0, 0), (.iload 4, 0, 0)] (pc' := 118) (lo' := [some (.ref 55), some (.int v1), some (.int v2), some (.int v3), some (.int v4), some (.int r78), some (.int r105)]) (st' := [.int v4, .int v2, .ref 58]) (σ' := s105) (by decide +kernel) rfl rfl ?_
              refine g_callS (rest := []) [.ref 58, .int v2, .int v4] hx hc mk_paths_put ln_4_84 (by decide +kernel) (by decide) (Nat.le_of_ble_eq_true rfl) (s_paths_put_58 (ok_b h)) (fun r109 s109 h => ?_)
              refine g_run hx [(.aload_n 0, 0, 0), (.getfield 21, 0, 0), (.iload_n 2, 0, 0), (.iload_n 1, 0, 0)] (pc' := 127) (lo' := [some (.ref 55), some (.int v1), some (.int v2), some (.int v3), some (.int v4), some (.int r78), some (.int r105)]) (st' := [.int v1, .int v2, .ref 59]) (σ' := s109) (by decide +kernel) rfl rfl ?_
              refine g_callS (rest := []) [.ref 59, .int v2, .int v1] hx hc mk_paths_put ln_4_84 (by decide +kernel) (by decide) (Nat.le_of_ble_eq_true rfl) (s_paths_put_59 (ok_b h)) (fun r110 s110 h => ?_)
              refine g_run hx [(.aload_n 0, 0, 0), (.getfield 24, 0, 0), (.iload_n 2, 0, 0), (.iload_n 3, 0, 0)] (pc' := 136) (lo' := [some (.ref 55), some (.int v1), some (.int v2), some (.int v3), some (.int v4), some (.int r78), some (.int r105)]) (st' := [.int v3, .int v2, .ref 60]) (σ' := s110) (by decide +kernel) rfl rfl ?_
              refine g_callS (rest := []) [.ref 60, .int v2, .int v3] hx hc mk_paths_put ln_4_84 (by decide +kernel) (by decide) (Nat.le_of_ble_eq_true rfl) (s_paths_put_60 (ok_b h)) (fun r111 s111 h => ?_)
              exact g_vret hx hr rfl () rfl (by decide +kernel) (ok_some h)
            · have h := ok_f h c89
              refine g_run hx [(.iload 4, 0, 0), (.iload 6, 0, 0)] (pc' := 96) (lo' := [some (.ref 55), some (.int v1), some (.int v2), some (.int v3), some (.int v4), some (.int r78), some (.int r105)]) (st' := [.int r105, .int v4]) (σ' := s105) (by decide +kernel) rfl rfl ?_
              refine g_ic_ne hx (off := 43) (tgt := 139) (by decide +kernel) (by decide) (fun c96 => ?_) (fun c96 => ?_)
              · have h := ok_f h c96
                exact g_vret hx hr rfl () rfl (by decide +kernel) (ok_some h)
              · have h := ok_t h c96
                refine g_run hx [(.iload_n 1, 0, 0), (.aload_n 0, 0, 0), (.getfield 21, 0, 0), (.iload_n 2, 0, 0)] (pc' := 105) (lo' := [some (.ref 55), some (.int v1), some (.int v2), some (.int v3), some (.int v4), some (.int r78), some (.int r105)]) (st' := [.int v2, .ref 59, .int v1]) (σ' := s105) (by decide +kernel) rfl rfl ?_
                refine g_callS (rest := [.int v1]) [.ref 59, .int v2] hx hc mk_paths_get ln_4_108 (by decide +kernel) (by decide) (Nat.le_of_ble_eq_true rfl) (s_paths_get_59 (ok_b h)) (fun r112 s112 h => ?_)
                refine g_ic_ge hx (off := 31) (tgt := 139) (by decide +kernel) (by decide) (fun c108 => ?_) (fun c108 => ?_)
                · have h := ok_t h c108
                  exact g_vret hx hr rfl () rfl (by decide +kernel) (ok_some h)
                · have h := ok_f h c108
                  refine g_run hx [(.aload_n 0, 0, 0), (.getfield 18, 0, 0), (.iload_n 2, 0, 0), (.iload 4, 0, 0)] (pc' := 118) (lo' := [some (.ref 55), some (.int v1), some (.int v2), some (.int v3), some (.int v4), some (.int r78), some (.int r105)]) (st' := [.int v4, .int v2, .ref 58]) (σ' := s112) (by decide +kernel) rfl rfl ?_
                  refine g_callS (rest := []) [.ref 58, .int v2, .int v4] hx hc mk_paths_put ln_4_84 (by decide +kernel) (by decide) (Nat.le_of_ble_eq_true rfl) (s_paths_put_58 (ok_b h)) (fun r113 s113 h => ?_)
                  refine g_run hx [(.aload_n 0, 0, 0), (.getfield 21, 0, 0), (.iload_n 2, 0, 0), (.iload_n 1, 0, 0)] (pc' := 127) (lo' := [some (.ref 55), some (.int v1), some (.int v2), some (.int v3), some (.int v4), some (.int r78), some (.int r105)]) (st' := [.int v1, .int v2, .ref 59]) (σ' := s113) (by decide +kernel) rfl rfl ?_
                  refine g_callS (rest := []) [.ref 59, .int v2, .int v1] hx hc mk_paths_put ln_4_84 (by decide +kernel) (by decide) (Nat.le_of_ble_eq_true rfl) (s_paths_put_59 (ok_b h)) (fun r114 s114 h => ?_)
                  refine g_run hx [(.aload_n 0, 0, 0), (.getfield 24, 0, 0), (.iload_n 2, 0, 0), (.iload_n 3, 0, 0)] (pc' := 136) (lo' := [some (.ref 55), some (.int v1), some (.int v2), some (.int v3), some (.int v4), some (.int r78), some (.int r105)]) (st' := [.int v3, .int v2, .ref 60]) (σ' := s114) (by decide +kernel) rfl rfl ?_
                  refine g_callS (rest := []) [.ref 60, .int v2, .int v3] hx hc mk_paths_put ln_4_84 (by decide +kernel) (by decide) (Nat.le_of_ble_eq_true rfl) (s_paths_put_60 (ok_b h)) (fun r115 s115 h => ?_)
                  exact g_vret hx hr rfl () rfl (by decide +kernel) (ok_some h)
