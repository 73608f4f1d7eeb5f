def f_x_never (N : Nat) (σ : Sg) : Option (Int32 × Sg) :=
  (f_x_landTrouble N σ).bind fun q1 =>
  (f_x_granted N q1.1 q1.2).bind fun q2 =>
  if q2.1 = true then
    (f_paths_longestWithoutSum N q2.2).bind fun q3 =>
    some (q3.1, q3.2)
  else
    some ((-1), q2.2)
set_option maxRecDepth 100000 in
theorem s_x_never {y : EX} {N : Nat} {σ : Sg} {P : Int32 × Sg → Prop} (h : ok (f_x_never N σ) P) : Ev y M_x_never 3 [.ref 0] σ rvI P := by
  refine Ev.of mk_x_never (Nat.le_of_ble_eq_true rfl) (fun x hx hc hr => ?_)
  have hx : Cx 9 prog_1_method_35_code x := hx
  have hc : Cc y 1 3 x := hc
  show G x 0 [some (.ref 0)] [] σ
  unfold f_x_never at h
  refine g_run hx [(.aload_n 0, 0, 0), (.aload_n 0, 0, 0)] (pc' := 2) (lo' := [some (.ref 0)]) (st' := [.ref 0, .ref 0]) (σ' := σ) (by decide +kernel) rfl rfl ?_
  refine g_callV (rest := [.ref 0]) [] hx hc mk_x_landTrouble ln_9_158 rfl (by decide +kernel) (by decide) (Nat.le_of_ble_eq_true rfl) (s_x_landTrouble (ok_b h)) (fun r1 s1 h => ?_)
  refine g_callV (rest := []) [.int r1] hx hc mk_x_granted ln_9_83 rfl (by decide +kernel) (by decide) (Nat.le_of_ble_eq_true rfl) (s_x_granted (ok_b h)) (fun r2 s2 h => ?_)
  refine g_ifb_eq hx (off := 17) (tgt := 25) (by decide +kernel) (by decide) (fun c8 => ?_) (fun c8 => ?_)
  · have h := ok_f h c8
    refine g_run hx [(.iconst (-1), (-1), 0)] (pc' := 26) (lo' := [some (.ref 0)]) (st' := [.int (-1)]) (σ' := s2) (by decide +kernel) rfl rfl ?_
    exact g_iret hx hr rfl _ rfl (by decide +kernel) (ok_some h)
  · have h := ok_t h c8
    refine g_run hx [(.aload_n 0, 0, 0), (.getfield 56, 0, 0), (.aload_n 0, 0, 0), (.getfield 19, 0, 0)] (pc' := 19) (lo' := [some (.ref 0)]) (st' := [.ref 10, .ref 55]) (σ' := s2) (by decide +kernel) rfl rfl ?_
    refine g_callV (rest := []) [.ref 10] hx hc mk_paths_longestWithoutSum ln_9_268 rfl (by decide +kernel) (by decide) (Nat.le_of_ble_eq_true rfl) (s_paths_longestWithoutSum (ok_b h)) (fun r3 s3 h => ?_)
    refine g_goto hx (off := 4) (tgt := 26) (by decide +kernel) (by decide) ?_
    exact g_iret hx hr rfl _ rfl (by decide +kernel) (ok_some h)
def f_x_odds (N : Nat) (v1 : Int32) (v2 : Int32) (v3 : Int32) (v4 : Int32) (σ : Sg) : Option (Int64 × Sg) :=
  (f_x_cellTrouble N v1 σ).bind fun q1 =>
  if q1.1 = 0 then
    (f_x_rowTrouble N v2 v3 q1.2).bind fun q2 =>
    (f_x_granted N q2.1 q2.2).bind fun q3 =>
    if q3.1 = true then
      (f_chances_weigh N v2 v3 v1 q3.2).bind fun q4 =>
      (f_x_inLowestTerms N (gL q4.2 65 0) (gL q4.2 65 2) v4 q4.2).bind fun q5 =>
      some (q5.1, q5.2)
    else
      some ((-1), q3.2)
  else
    (f_x_granted N 1 q1.2).bind fun q6 =>
    if q6.1 = true then
      (f_chances_weigh N v2 v3 v1 q6.2).bind fun q7 =>
      (f_x_inLowestTerms N (gL q7.2 65 0) (gL q7.2 65 2) v4 q7.2).bind fun q8 =>
      some (q8.1, q8.2)
    else
      some ((-1), q6.2)
set_option maxRecDepth 100000 in
theorem s_x_odds {y : EX} {N : Nat} {v1 : Int32} {v2 : Int32} {v3 : Int32} {v4 : Int32} {σ : Sg} {P : Int64 × Sg → Prop} (h : ok (f_x_odds N v1 v2 v3 v4 σ) P) : Ev y M_x_odds 17 [.ref 0, .int v1, .int v2, .int v3, .int v4] σ rvL P := by
  refine Ev.of mk_x_odds (Nat.le_of_ble_eq_true rfl) (fun x hx hc hr => ?_)
  have hx : Cx 9 prog_1_method_50_code x := hx
  have hc : Cc y 5 17 x := hc
  show G x 0 [some (.ref 0), some (.int v1), some (.int v2), some (.int v3), some (.int v4)] [] σ
  unfold f_x_odds at h
  refine g_run hx [(.aload_n 0, 0, 0), (.aload_n 0, 0, 0), (.iload_n 1, 0, 0)] (pc' := 3) (lo' := [some (.ref 0), some (.int v1), some (.int v2), some (.int v3), some (.int v4)]) (st' := [.int v1, .ref 0, .ref 0]) (σ' := σ) (by decide +kernel) rfl rfl ?_
  refine g_callV (rest := [.ref 0]) [.int v1] hx hc mk_x_cellTrouble ln_9_110 rfl (by decide +kernel) (by decide) (Nat.le_of_ble_eq_true rfl) (s_x_cellTrouble (ok_b h)) (fun r1 s1 h => ?_)
  refine g_if_eq hx (off := 7) (tgt := 13) (by decide +kernel) (by decide) (fun c6 => ?_) (fun c6 => ?_)
  · have h := ok_t h c6
    refine g_run hx [(.aload_n 0, 0, 0), (.iload_n 2, 0, 0), (.iload_n 3, 0, 0)] (pc' := 16) (lo' := [some (.ref 0), some (.int v1), some (.int v2), some (.int v3), some (.int v4)]) (st' := [.int v3, .int v2, .ref 0, .ref 0]) (σ' := s1) (by decide +kernel) rfl rfl ?_
    refine g_callV (rest := [.ref 0]) [.int v2, .int v3] hx hc mk_x_rowTrouble ln_9_224 rfl (by decide +kernel) (by decide) (Nat.le_of_ble_eq_true rfl) (s_x_rowTrouble (ok_b h)) (fun r2 s2 h => ?_)
    refine g_callV (rest := []) [.int r2] hx hc mk_x_granted ln_9_83 rfl (by decide +kernel) (by decide) (Nat.le_of_ble_eq_true rfl) (s_x_granted (ok_b h)) (fun r3 s3 h => ?_)
    refine g_ifb_ne hx (off := 7) (tgt := 29) (by decide +kernel) (by decide) (fun c22 => ?_) (fun c22 => ?_)
    · have h := ok_t h c22
      refine g_run hx [(.aload_n 0, 0, 0), (.getfield 70, 0, 0), (.aload_n 0, 0, 0), (.getfield 19, 0, 0), (.aload_n 0, 0, 0), (.getfield 26, 0, 0), (.iload_n 2, 0, 0), (.iload_n 3, 0, 0), (.iload_n 1, 0, 0)] (pc' := 44) (lo' := [some (.ref 0), some (.int v1), some (.int v2), some (.int v3), some (.int v4)]) (st' := [.int v1, .int v3, .int v2, .ref 40, .ref 10, .ref 65]) (σ' := s3) (by decide +kernel) rfl rfl ?_
      refine g_callV (rest := []) [.ref 10, .ref 40, .int v2, .int v3, .int v1] hx hc mk_chances_weigh ln_9_318 rfl (by decide +kernel) (by decide) (Nat.le_of_ble_eq_true rfl) (s_chances_weigh (ok_b h)) (fun r4 s4 h => ?_)
      refine g_run hx [(.aload_n 0, 0, 0), (.getfield 70, 0, 0), (.getfield 322, 0, 0), (.aload_n 0, 0, 0), (.getfield 70, 0, 0), (.getfield 326, 0, 0), (.iload 4, 0, 0)] (pc' := 63) (lo' := [some (.ref 0), some (.int v1), some (.int v2), some (.int v3), some (.int v4)]) (st' := [.int v4, .long (gL s4 65 2), .long (gL s4 65 0)]) (σ' := s4) (by decide +kernel) rfl rfl ?_
      refine g_callS (rest := []) [.long (gL s4 65 0), .long (gL s4 65 2), .int v4] hx hc mk_x_inLowestTerms ln_9_329 (by decide +kernel) (by decide) (Nat.le_of_ble_eq_true rfl) (s_x_inLowestTerms (ok_b h)) (fun r5 s5 h => ?_)
      exact g_lret hx hr rfl _ rfl (by decide +kernel) (ok_some h)
    · have h := ok_f h c22
      refine g_run hx [(.ldc2_w 174, 0, (-1))] (pc' := 28) (lo' := [some (.ref 0), some (.int v1), some (.int v2), some (.int v3), some (.int v4)]) (st' := [.long (-1)]) (σ' := s3) (by decide +kernel) rfl rfl ?_
      exact g_lret hx hr rfl _ rfl (by decide +kernel) (ok_some h)
  · have h := ok_f h c6
    refine g_run hx [(.iconst 1, 1, 0)] (pc' := 10) (lo' := [some (.ref 0), some (.int v1), some (.int v2), some (.int v3), some (.int v4)]) (st' := [.int 1, .ref 0]) (σ' := s1) (by decide +kernel) rfl rfl ?_
    refine g_goto hx (off := 9) (tgt := 19) (by decide +kernel) (by decide) ?_
    refine g_callV (rest := []) [.int 1] hx hc mk_x_granted ln_9_83 rfl (by decide +kernel) (by decide) (Nat.le_of_ble_eq_true rfl) (s_x_granted (ok_b h)) (fun r6 s6 h => ?_)
    refine g_ifb_ne hx (off := 7) (tgt := 29) (by decide +kernel) (by decide) (fun c22 => ?_) (fun c22 => ?_)
    · have h := ok_t h c22
      refine g_run hx [(.aload_n 0, 0, 0), (.getfield 70, 0, 0), (.aload_n 0, 0, 0), (.getfield 19, 0, 0), (.aload_n 0, 0, 0), (.getfield 26, 0, 0), (.iload_n 2, 0, 0), (.iload_n 3, 0, 0), (.iload_n 1, 0, 0)] (pc' := 44) (lo' := [some (.ref 0), some (.int v1), some (.int v2), some (.int v3), some (.int v4)]) (st' := [.int v1, .int v3, .int v2, .ref 40, .ref 10, .ref 65]) (σ' := s6) (by decide +kernel) rfl rfl ?_
      refine g_callV (rest := []) [.ref 10, .ref 40, .int v2, .int v3, .int v1] hx hc mk_chances_weigh ln_9_318 rfl (by decide +kernel) (by decide) (Nat.le_of_ble_eq_true rfl) (s_chances_weigh (ok_b h)) (fun r7 s7 h => ?_)
      refine g_run hx [(.aload_n 0, 0, 0), (.getfield 70, 0, 0), (.getfield 322, 0, 0), (.aload_n 0, 0, 0), (.getfield 70, 0, 0), (.getfield 326, 0, 0), (.iload 4, 0, 0)] (pc' := 63) (lo' := [some (.ref 0), some (.int v1), some (.int v2), some (.int v3), some (.int v4)]) (st' := [.int v4, .long (gL s7 65 2), .long (gL s7 65 0)]) (σ' := s7) (by decide +kernel) rfl rfl ?_
      refine g_callS (rest := []) [.long (gL s7 65 0), .long (gL s7 65 2), .int v4] hx hc mk_x_inLowestTerms ln_9_329 (by decide +kernel) (by decide) (Nat.le_of_ble_eq_true rfl) (s_x_inLowestTerms (ok_b h)) (fun r8 s8 h => ?_)
      exact g_lret hx hr rfl _ rfl (by decide +kernel) (ok_some h)
    · have h := ok_f h c22
      refine g_run hx [(.ldc2_w 174, 0, (-1))] (pc' := 28) (lo' := [some (.ref 0), some (.int v1), some (.int v2), some (.int v3), some (.int v4)]) (st' := [.long (-1)]) (σ' := s6) (by decide +kernel) rfl rfl ?_
      exact g_lret hx hr rfl _ rfl (by decide +kernel) (ok_some h)
def f_country_partsAll_L2 (N : Nat) : Nat → Int32 → Int32 → Sg → Option (Bool × Sg)
  | 0, _, _, _ => none
  | n + 1, v1, v2, σ =>
    if (gI σ 11 1) ≤ v2 then
      some (true, σ)
    else
      if v1 ≤ 0 then
        some (false, σ)
      else
        (f_numbers_at N 11 3 12 v2 σ).bind fun q1 =>
        if v1 = 0 then none else
        if (q1.1 - q1.1 / v1 * v1) = 0 then
          f_country_partsAll_L2 N n v1 (v2 + 1) q1.2
        else
          some (false, q1.2)
def f_country_partsAll (N : Nat) (v1 : Int32) (σ : Sg) : Option (Bool × Sg) :=
  f_country_partsAll_L2 N N v1 0 σ
set_option maxRecDepth 100000 in
theorem s_country_partsAll_L2 {y : EX} {N : Nat} {x : CX} {P : Bool × Sg → Prop} (hx : Cx 1 prog_3_method_16_code x) (hc : Cc y 3 1 x) (hr : Cr M_country_partsAll rvB P x) : ∀ (n : Nat) (v1 : Int32) (v2 : Int32) (σ : Sg), ok (f_country_partsAll_L2 N n v1 v2 σ) P → G x 2 [some (.ref 10), some (.int v1), some (.int v2)] [] σ := by
  intro n
  induction n with
  | zero => intro v1 v2 σ h; exact ok_none h
  | succ n ih =>
    intro v1 v2 σ h
    rw [f_country_partsAll_L2] at h
    refine g_run hx [(.iload_n 2, 0, 0), (.aload_n 0, 0, 0), (.getfield 36, 0, 0), (.getfield 64, 0, 0)] (pc' := 10) (lo' := [some (.ref 10), some (.int v1), some (.int v2)]) (st' := [.int (gI σ 11 1), .int v2]) (σ' := σ) (by decide +kernel) rfl rfl ?_
    refine g_ic_ge hx (off := 28) (tgt := 38) (by decide +kernel) (by decide) (fun c10 => ?_) (fun c10 => ?_)
    · have h := ok_t h c10
      refine g_run hx [(.iconst 1, 1, 0)] (pc' := 39) (lo' := [some (.ref 10), some (.int v1), some (.int v2)]) (st' := [.int 1]) (σ' := σ) (by decide +kernel) rfl rfl ?_
      exact g_zret (b := true) hx hr rfl true rfl (by decide +kernel) (ok_some h)
    · have h := ok_f h c10
      refine g_run hx [(.iload_n 1, 0, 0)] (pc' := 14) (lo' := [some (.ref 10), some (.int v1), some (.int v2)]) (st' := [.int v1]) (σ' := σ) (by decide +kernel) rfl rfl ?_
      refine g_if_le hx (off := 16) (tgt := 30) (by decide +kernel) (by decide) (fun c14 => ?_) (fun c14 => ?_)
      · have h := ok_t h c14
        refine g_run hx [(.iconst 0, 0, 0)] (pc' := 31) (lo' := [some (.ref 10), some (.int v1), some (.int v2)]) (st' := [.int 0]) (σ' := σ) (by decide +kernel) rfl rfl ?_
        exact g_zret (b := false) hx hr rfl false rfl (by decide +kernel) (ok_some h)
      · have h := ok_f h c14
        refine g_run hx [(.aload_n 0, 0, 0), (.getfield 36, 0, 0), (.iload_n 2, 0, 0)] (pc' := 22) (lo' := [some (.ref 10), some (.int v1), some (.int v2)]) (st' := [.int v2, .ref 11]) (σ' := σ) (by decide +kernel) rfl rfl ?_
        refine g_callV (rest := []) [.int v2] hx hc mk_numbers_at ln_1_81 rfl (by decide +kernel) (by decide) (Nat.le_of_ble_eq_true rfl) (s_numbers_at_11 (ok_b h)) (fun r1 s1 h => ?_)
        refine g_run hx [(.iload_n 1, 0, 0)] (pc' := 26) (lo' := [some (.ref 10), some (.int v1), some (.int v2)]) (st' := [.int v1, .int r1]) (σ' := s1) (by decide +kernel) rfl rfl ?_
        obtain ⟨c26, h⟩ := ok_n h
        refine g_irem hx (by decide +kernel) c26 ?_
        refine g_if_eq hx (off := 5) (tgt := 32) (by decide +kernel) (by decide) (fun c27 => ?_) (fun c27 => ?_)
        · have h := ok_t h c27
          refine g_run hx [(.iinc 2 1, 1, 0)] (pc' := 35) (lo' := [some (.ref 10), some (.int v1), some (.int (v2 + 1))]) (st' := []) (σ' := s1) (by decide +kernel) rfl rfl ?_
          refine g_goto hx (off := (-33)) (tgt := 2) (by decide +kernel) (by decide) ?_
          exact ih _ _ _ h
        · have h := ok_f h c27
          refine g_run hx [(.iconst 0, 0, 0)] (pc' := 31) (lo' := [some (.ref 10), some (.int v1), some (.int v2)]) (st' := [.int 0]) (σ' := s1) (by decide +kernel) rfl rfl ?_
          exact g_zret (b := false) hx hr rfl false rfl (by decide +kernel) (ok_some h)
set_option maxRecDepth 100000 in
theorem s_country_partsAll {y : EX} {N : Nat} {v1 : Int32} {σ : Sg} {P : Bool × Sg → Prop} (h : ok (f_country_partsAll N v1 σ) P) : Ev y M_country_partsAll 1 [.ref 10, .int v1] σ rvB P := by
  refine Ev.of mk_country_partsAll (Nat.le_of_ble_eq_true rfl) (fun x hx hc hr => ?_)
  have hx : Cx 1 prog_3_method_16_code x := hx
  have hc : Cc y 3 1 x := hc
  show G x 0 [some (.ref 10), some (.int v1), none] [] σ
  unfold f_country_partsAll at h
  refine g_run hx [(.iconst 0, 0, 0), (.istore_n 2, 0, 0)] (pc' := 2) (lo' := [some (.ref 10), some (.int v1), some (.int 0)]) (st' := []) (σ' := σ) (by decide +kernel) rfl rfl ?_
  refine s_country_partsAll_L2 hx hc hr N _ _ _ h
def f_country_strideUnit_L3 (N : Nat) : Nat → Int32 → Sg → Option (Int32 × Sg)
  | 0, _, _ => none
  | n + 1, v1, σ =>
    if v1 ≤ 0 then
      some (0, σ)
    else
      (f_country_partsAll N v1 σ).bind fun q1 =>
      if q1.1 = true then
        some (v1, q1.2)
      else
        f_country_strideUnit_L3 N n (v1 + (-1)) q1.2
def f_country_strideUnit (N : Nat) (σ : Sg) : Option (Int32 × Sg) :=
  f_country_strideUnit_L3 N N 9 σ
set_option maxRecDepth 100000 in
theorem s_country_strideUnit_L3 {y : EX} {N : Nat} {x : CX} {P : Int32 × Sg → Prop} (hx : Cx 1 prog_3_method_15_code x) (hc : Cc y 2 2 x) (hr : Cr M_country_strideUnit rvI P x) : ∀ (n : Nat) (v1 : Int32) (σ : Sg), ok (f_country_strideUnit_L3 N n v1 σ) P → G x 3 [some (.ref 10), some (.int v1)] [] σ := by
  intro n
  induction n with
  | zero => intro v1 σ h; exact ok_none h
  | succ n ih =>
    intro v1 σ h
    rw [f_country_strideUnit_L3] at h
    refine g_run hx [(.iload_n 1, 0, 0)] (pc' := 4) (lo' := [some (.ref 10), some (.int v1)]) (st' := [.int v1]) (σ' := σ) (by decide +kernel) rfl rfl ?_
    refine g_if_le hx (off := 19) (tgt := 23) (by decide +kernel) (by decide) (fun c4 => ?_) (fun c4 => ?_)
    · have h := ok_t h c4
      refine g_run hx [(.iconst 0, 0, 0)] (pc' := 24) (lo' := [some (.ref 10), some (.int v1)]) (st' := [.int 0]) (σ' := σ) (by decide +kernel) rfl rfl ?_
      exact g_iret hx hr rfl _ rfl (by decide +kernel) (ok_some h)
    · have h := ok_f h c4
      refine g_run hx [(.aload_n 0, 0, 0), (.iload_n 1, 0, 0)] (pc' := 9) (lo' := [some (.ref 10), some (.int v1)]) (st' := [.int v1, .ref 10]) (σ' := σ) (by decide +kernel) rfl rfl ?_
      refine g_callV (rest := []) [.int v1] hx hc mk_country_partsAll ln_1_98 rfl (by decide +kernel) (by decide) (Nat.le_of_ble_eq_true rfl) (s_country_partsAll (ok_b h)) (fun r1 s1 h => ?_)
      refine g_ifb_eq hx (off := 5) (tgt := 17) (by decide +kernel) (by decide) (fun c12 => ?_) (fun c12 => ?_)
      · have h := ok_f h c12
        refine g_run hx [(.iinc 1 (-1), (-1), 0)] (pc' := 20) (lo' := [some (.ref 10), some (.int (v1 + (-1)))]) (st' := []) (σ' := s1) (by decide +kernel) rfl rfl ?_
        refine g_goto hx (off := (-17)) (tgt := 3) (by decide +kernel) (by decide) ?_
        exact ih _ _ h
      · have h := ok_t h c12
        refine g_run hx [(.iload_n 1, 0, 0)] (pc' := 16) (lo' := [some (.ref 10), some (.int v1)]) (st' := [.int v1]) (σ' := s1) (by decide +kernel) rfl rfl ?_
        exact g_iret hx hr rfl _ rfl (by decide +kernel) (ok_some h)
set_option maxRecDepth 100000 in
theorem s_country_strideUnit {y : EX} {N : Nat} {σ : Sg} {P : Int32 × Sg → Prop} (h : ok (f_country_strideUnit N σ) P) : Ev y M_country_strideUnit 2 [.ref 10] σ rvI P := by
  refine Ev.of mk_country_strideUnit (Nat.le_of_ble_eq_true rfl) (fun x hx hc hr => ?_)
  have hx : Cx 1 prog_3_method_15_code x := hx
  have hc : Cc y 2 2 x := hc
  show G x 0 [some (.ref 10), none] [] σ
  unfold f_country_strideUnit at h
  refine g_run hx [(.bipush 9, 9, 0), (.istore_n 1, 0, 0)] (pc' := 3) (lo' := [some (.ref 10), some (.int 9)]) (st' := []) (σ' := σ) (by decide +kernel) rfl rfl ?_
  refine s_country_strideUnit_L3 hx hc hr N _ _ h
def f_x_over (N : Nat) (v1 : Int32) (σ : Sg) : Option (Int32 × Sg) :=
  (f_x_cellTrouble N v1 σ).bind fun q1 =>
  (f_x_granted N q1.1 q1.2).bind fun q2 =>
  if q2.1 = true then
    (f_country_strideUnit N q2.2).bind fun q3 =>
    if q3.1 = 0 then
      some (0, q3.2)
    else
      if q3.1 = 0 then none else
      some (((jabs (v1 - (gI q3.2 40 2))) - (jabs (v1 - (gI q3.2 40 2))) / q3.1 * q3.1), q3.2)
  else
    some ((-1), q2.2)
set_option maxRecDepth 100000 in
theorem s_x_over {y : EX} {N : Nat} {v1 : Int32} {σ : Sg} {P : Int32 × Sg → Prop} (h : ok (f_x_over N v1 σ) P) : Ev y M_x_over 3 [.ref 0, .int v1] σ rvI P := by
  refine Ev.of mk_x_over (Nat.le_of_ble_eq_true rfl) (fun x hx hc hr => ?_)
  have hx : Cx 9 prog_1_method_34_code x := hx
  have hc : Cc y 3 3 x := hc
  show G x 0 [some (.ref 0), some (.int v1), none] [] σ
  unfold f_x_over at h
  refine g_run hx [(.aload_n 0, 0, 0), (.aload_n 0, 0, 0), (.iload_n 1, 0, 0)] (pc' := 3) (lo' := [some (.ref 0), some (.int v1), none]) (st' := [.int v1, .ref 0, .ref 0]) (σ' := σ) (by decide +kernel) rfl rfl ?_
  refine g_callV (rest := [.ref 0]) [.int v1] hx hc mk_x_cellTrouble ln_9_110 rfl (by decide +kernel) (by decide) (Nat.le_of_ble_eq_true rfl) (s_x_cellTrouble (ok_b h)) (fun r1 s1 h => ?_)
  refine g_callV (rest := []) [.int r1] hx hc mk_x_granted ln_9_83 rfl (by decide +kernel) (by decide) (Nat.le_of_ble_eq_true rfl) (s_x_granted (ok_b h)) (fun r2 s2 h => ?_)
  refine g_ifb_ne hx (off := 5) (tgt := 14) (by decide +kernel) (by decide) (fun c9 => ?_) (fun c9 => ?_)
  · have h := ok_t h c9
    refine g_run hx [(.aload_n 0, 0, 0), (.getfield 19, 0, 0)] (pc' := 18) (lo' := [some (.ref 0), some (.int v1), none]) (st' := [.ref 10]) (σ' := s2) (by decide +kernel) rfl rfl ?_
    refine g_callV (rest := []) [] hx hc mk_country_strideUnit ln_9_260 rfl (by decide +kernel) (by decide) (Nat.le_of_ble_eq_true rfl) (s_country_strideUnit (ok_b h)) (fun r3 s3 h => ?_)
    refine g_run hx [(.istore_n 2, 0, 0), (.iload_n 2, 0, 0)] (pc' := 23) (lo' := [some (.ref 0), some (.int v1), some (.int r3)]) (st' := [.int r3]) (σ' := s3) (by decide +kernel) rfl rfl ?_
    refine g_if_ne hx (off := 7) (tgt := 30) (by decide +kernel) (by decide) (fun c23 => ?_) (fun c23 => ?_)
    · have h := ok_f h c23
      refine g_run hx [(.iload_n 1, 0, 0), (.aload_n 0, 0, 0), (.getfield 26, 0, 0), (.getfield 123, 0, 0), (.isub, 0, 0)] (pc' := 39) (lo' := [some (.ref 0), some (.int v1), some (.int r3)]) (st' := [.int (v1 - (gI s3 40 2))]) (σ' := s3) (by decide +kernel) rfl rfl ?_
      refine g_mabs hx hc (by decide) ln_9_263 (by decide +kernel) (Nat.le_of_ble_eq_true rfl) ?_
      refine g_run hx [(.iload_n 2, 0, 0)] (pc' := 43) (lo' := [some (.ref 0), some (.int v1), some (.int r3)]) (st' := [.int r3, .int (jabs (v1 - (gI s3 40 2)))]) (σ' := s3) (by decide +kernel) rfl rfl ?_
      obtain ⟨c43, h⟩ := ok_n h
      refine g_irem hx (by decide +kernel) c43 ?_
      exact g_iret hx hr rfl _ rfl (by decide +kernel) (ok_some h)
    · have h := ok_t h c23
      refine g_run hx [(.iconst 0, 0, 0)] (pc' := 27) (lo' := [some (.ref 0), some (.int v1), some (.int r3)]) (st' := [.int 0]) (σ' := s3) (by decide +kernel) rfl rfl ?_
      refine g_goto hx (off := 17) (tgt := 44) (by decide +kernel) (by decide) ?_
      exact g_iret hx hr rfl _ rfl (by decide +kernel) (ok_some h)
  · have h := ok_f h c9
    refine g_run hx [(.iconst (-1), (-1), 0)] (pc' := 13) (lo' := [some (.ref 0), some (.int v1), none]) (st' := [.int (-1)]) (σ' := s2) (by decide +kernel) rfl rfl ?_
    exact g_iret hx hr rfl _ rfl (by decide +kernel) (ok_some h)
def f_x_passes (N : Nat) (v1 : Int32) (v2 : Int32) (σ : Sg) : Option (Int32 × Sg) :=
  (f_x_strideTrouble N v1 v2 σ).bind fun q1 =>
  (f_x_granted N q1.1 q1.2).bind fun q2 =>
  if q2.1 = true then
    (f_x_targetNow N v1 v2 q2.2).bind fun q3 =>
    if q3.1 = (-2) then
      some ((-2), q3.2)
    else
      (f_x_inside N (gI q3.2 40 2) q3.1 q3.2).bind fun q4 =>
      (f_state_goneCells N 40 q4.2).bind fun q5 =>
      (f_jl_bitCount N (q4.1 &&& (q5.1 ^^^ (-1))) q5.2).bind fun q6 =>
      some (q6.1, q6.2)
  else
    some ((-1), q2.2)
set_option maxRecDepth 100000 in
theorem s_x_passes {y : EX} {N : Nat} {v1 : Int32} {v2 : Int32} {σ : Sg} {P : Int32 × Sg → Prop} (h : ok (f_x_passes N v1 v2 σ) P) : Ev y M_x_passes 3 [.ref 0, .int v1, .int v2] σ rvI P := by
  refine Ev.of mk_x_passes (Nat.le_of_ble_eq_true rfl) (fun x hx hc hr => ?_)
  have hx : Cx 9 prog_1_method_24_code x := hx
  have hc : Cc y 4 3 x := hc
  show G x 0 [some (.ref 0), some (.int v1), some (.int v2), none] [] σ
  unfold f_x_passes at h
  refine g_run hx [(.aload_n 0, 0, 0), (.aload_n 0, 0, 0), (.iload_n 1, 0, 0), (.iload_n 2, 0, 0)] (pc' := 4) (lo' := [some (.ref 0), some (.int v1), some (.int v2), none]) (st' := [.int v2, .int v1, .ref 0, .ref 0]) (σ' := σ) (by decide +kernel) rfl rfl ?_
  refine g_callV (rest := [.ref 0]) [.int v1, .int v2] hx hc mk_x_strideTrouble ln_9_215 rfl (by decide +kernel) (by decide) (Nat.le_of_ble_eq_true rfl) (s_x_strideTrouble (ok_b h)) (fun r1 s1 h => ?_)
  refine g_callV (rest := []) [.int r1] hx hc mk_x_granted ln_9_83 rfl (by decide +kernel) (by decide) (Nat.le_of_ble_eq_true rfl) (s_x_granted (ok_b h)) (fun r2 s2 h => ?_)
  refine g_ifb_ne hx (off := 5) (tgt := 15) (by decide +kernel) (by decide) (fun c10 => ?_) (fun c10 => ?_)
  · have h := ok_t h c10
    refine g_run hx [(.aload_n 0, 0, 0), (.iload_n 1, 0, 0), (.iload_n 2, 0, 0)] (pc' := 18) (lo' := [some (.ref 0), some (.int v1), some (.int v2), none]) (st' := [.int v2, .int v1, .ref 0]) (σ' := s2) (by decide +kernel) rfl rfl ?_
    refine g_callV (rest := []) [.int v1, .int v2] hx hc mk_x_targetNow ln_9_218 rfl (by decide +kernel) (by decide) (Nat.le_of_ble_eq_true rfl) (s_x_targetNow (ok_b h)) (fun r3 s3 h => ?_)
    refine g_run hx [(.istore_n 3, 0, 0), (.iload_n 3, 0, 0), (.bipush (-2), (-2), 0)] (pc' := 25) (lo' := [some (.ref 0), some (.int v1), some (.int v2), some (.int r3)]) (st' := [.int (-2), .int r3]) (σ' := s3) (by decide +kernel) rfl rfl ?_
    refine g_ic_ne hx (off := 8) (tgt := 33) (by decide +kernel) (by decide) (fun c25 => ?_) (fun c25 => ?_)
    · have h := ok_f h c25
      refine g_run hx [(.aload_n 0, 0, 0), (.getfield 26, 0, 0), (.getfield 123, 0, 0), (.iload_n 3, 0, 0)] (pc' := 41) (lo' := [some (.ref 0), some (.int v1), some (.int v2), some (.int r3)]) (st' := [.int r3, .int (gI s3 40 2)]) (σ' := s3) (by decide +kernel) rfl rfl ?_
      refine g_callS (rest := []) [.int (gI s3 40 2), .int r3] hx hc mk_x_inside ln_9_221 (by decide +kernel) (by decide) (Nat.le_of_ble_eq_true rfl) (s_x_inside (ok_b h)) (fun r4 s4 h => ?_)
      refine g_run hx [(.aload_n 0, 0, 0), (.getfield 26, 0, 0)] (pc' := 48) (lo' := [some (.ref 0), some (.int v1), some (.int v2), some (.int r3)]) (st' := [.ref 40, .long r4]) (σ' := s4) (by decide +kernel) rfl rfl ?_
      refine g_callV (rest := [.long r4]) [] hx hc mk_state_goneCells ln_9_144 rfl (by decide +kernel) (by decide) (Nat.le_of_ble_eq_true rfl) (s_state_goneCells_40 (ok_b h)) (fun r5 s5 h => ?_)
      refine g_run hx [(.ldc2_w 174, 0, (-1)), (.lxor, 0, 0), (.land, 0, 0)] (pc' := 56) (lo' := [some (.ref 0), some (.int v1), some (.int v2), some (.int r3)]) (st' := [.long (r4 &&& (r5 ^^^ (-1)))]) (σ' := s5) (by decide +kernel) rfl rfl ?_
      refine g_callS (rest := []) [.long (r4 &&& (r5 ^^^ (-1)))] hx hc mk_jl_bitCount ln_9_162 (by decide +kernel) (by decide) (Nat.le_of_ble_eq_true rfl) (s_jl_bitCount (ok_b h)) (fun r6 s6 h => ?_)
      exact g_iret hx hr rfl _ rfl (by decide +kernel) (ok_some h)
    · have h := ok_t h c25
      refine g_run hx [(.bipush (-2), (-2), 0)] (pc' := 30) (lo' := [some (.ref 0), some (.int v1), some (.int v2), some (.int r3)]) (st' := [.int (-2)]) (σ' := s3) (by decide +kernel) rfl rfl ?_
      refine g_goto hx (off := 29) (tgt := 59) (by decide +kernel) (by decide) ?_
      exact g_iret hx hr rfl _ rfl (by decide +kernel) (ok_some h)
  · have h := ok_f h c10
    refine g_run hx [(.iconst (-1), (-1), 0)] (pc' := 14) (lo' := [some (.ref 0), some (.int v1), some (.int v2), none]) (st' := [.int (-1)]) (σ' := s2) (by decide +kernel) rfl rfl ?_
    exact g_iret hx hr rfl _ rfl (by decide +kernel) (ok_some h)
def f_x_place (N : Nat) (v1 : Int32) (v2 : Int32) (σ : Sg) : Option (Int32 × Sg) :=
  if v1 < 0 then
    (f_x_granted N 1 σ).bind fun q1 =>
    if q1.1 = true then
      if v2 = 0 then
        (f_numbers_at N 13 6 14 v1 q1.2).bind fun q2 =>
        some (q2.1, q2.2)
      else if v2 = 1 then
        (f_numbers_at N 15 6 16 v1 q1.2).bind fun q3 =>
        some (q3.1, q3.2)
      else 
        (f_state_goneCells N 40 q1.2).bind fun q4 =>
        (f_country_isLost N v1 q4.1 q4.2).bind fun q5 =>
        if q5.1 = true then
          some (1, q5.2)
        else
          some (0, q5.2)
    else
      some ((-1), q1.2)
  else
    if (gI σ 13 1) ≤ v1 then
      (f_x_granted N 1 σ).bind fun q6 =>
      if q6.1 = true then
        if v2 = 0 then
          (f_numbers_at N 13 6 14 v1 q6.2).bind fun q7 =>
          some (q7.1, q7.2)
        else if v2 = 1 then
          (f_numbers_at N 15 6 16 v1 q6.2).bind fun q8 =>
          some (q8.1, q8.2)
        else 
          (f_state_goneCells N 40 q6.2).bind fun q9 =>
          (f_country_isLost N v1 q9.1 q9.2).bind fun q10 =>
          if q10.1 = true then
            some (1, q10.2)
          else
            some (0, q10.2)
      else
        some ((-1), q6.2)
    else
      if v2 < 0 then
        (f_x_granted N 1 σ).bind fun q11 =>
        if q11.1 = true then
          if v2 = 0 then
            (f_numbers_at N 13 6 14 v1 q11.2).bind fun q12 =>
            some (q12.1, q12.2)
          else if v2 = 1 then
            (f_numbers_at N 15 6 16 v1 q11.2).bind fun q13 =>
            some (q13.1, q13.2)
          else 
            (f_state_goneCells N 40 q11.2).bind fun q14 =>
            (f_country_isLost N v1 q14.1 q14.2).bind fun q15 =>
            if q15.1 = true then
              some (1, q15.2)
            else
              some (0, q15.2)
        else
          some ((-1), q11.2)
      else
        if 2 < v2 then
          (f_x_granted N 1 σ).bind fun q16 =>
          if q16.1 = true then
            if v2 = 0 then
              (f_numbers_at N 13 6 14 v1 q16.2).bind fun q17 =>
              some (q17.1, q17.2)
            else if v2 = 1 then
              (f_numbers_at N 15 6 16 v1 q16.2).bind fun q18 =>
              some (q18.1, q18.2)
            else 
              (f_state_goneCells N 40 q16.2).bind fun q19 =>
              (f_country_isLost N v1 q19.1 q19.2).bind fun q20 =>
              if q20.1 = true then
                some (1, q20.2)
              else
                some (0, q20.2)
          else
            some ((-1), q16.2)
        else
          (f_x_granted N 0 σ).bind fun q21 =>
          if q21.1 = true then
            if v2 = 0 then
              (f_numbers_at N 13 6 14 v1 q21.2).bind fun q22 =>
              some (q22.1, q22.2)
            else if v2 = 1 then
              (f_numbers_at N 15 6 16 v1 q21.2).bind fun q23 =>
              some (q23.1, q23.2)
            else 
              (f_state_goneCells N 40 q21.2).bind fun q24 =>
              (f_country_isLost N v1 q24.1 q24.2).bind fun q25 =>
              if q25.1 = true then
                some (1, q25.2)
              else
                some (0, q25.2)
          else
            some ((-1), q21.2)
set_option maxRecDepth 100000 in
theorem s_x_place {y : EX} {N : Nat} {v1 : Int32} {v2 : Int32} {σ : Sg} {P : Int32 × Sg → Prop} (h : ok (f_x_place N v1 v2 σ) P) : Ev y M_x_place 2 [.ref 0, .int v1, .int v2] σ rvI P := by
  refine Ev.of mk_x_place (Nat.le_of_ble_eq_true rfl) (fun x hx hc hr => ?_)
  have hx : Cx 9 prog_1_method_7_code x := hx
  have hc : Cc y 4 2 x := hc
  show G x 0 [some (.ref 0), some (.int v1), some (.int v2), none] [] σ
  unfold f_x_place at h
  refine g_run hx [(.iload_n 1, 0, 0)] (pc' := 1) (lo' := [some (.ref 0), some (.int v1), some (.int v2), none]) (st' := [.int v1]) (σ' := σ) (by decide +kernel) rfl rfl ?_
  refine g_if_lt hx (off := 30) (tgt := 31) (by decide +kernel) (by decide) (fun c1 => ?_) (fun c1 => ?_)
  · have h := ok_t h c1
    refine g_run hx [(.iconst 0, 0, 0), (.istore_n 3, 0, 0), (.aload_n 0, 0, 0), (.iload_n 3, 0, 0)] (pc' := 35) (lo' := [some (.ref 0), some (.int v1), some (.int v2), some (.int 0)]) (st' := [.int 0, .ref 0]) (σ' := σ) (by decide +kernel) rfl rfl ?_
    refine g_if_eq hx (off := 7) (tgt := 42) (by decide +kernel) (by decide) (fun _ => ?_) (fun c => absurd c (by decide))
    refine g_run hx [(.iconst 1, 1, 0)] (pc' := 43) (lo' := [some (.ref 0), some (.int v1), some (.int v2), some (.int 0)]) (st' := [.int 1, .ref 0]) (σ' := σ) (by decide +kernel) rfl rfl ?_
    refine g_callV (rest := []) [.int 1] hx hc mk_x_granted ln_9_83 rfl (by decide +kernel) (by decide) (Nat.le_of_ble_eq_true rfl) (s_x_granted (ok_b h)) (fun r1 s1 h => ?_)
    refine g_ifb_ne hx (off := 5) (tgt := 51) (by decide +kernel) (by decide) (fun c46 => ?_) (fun c46 => ?_)
    · have h := ok_t h c46
      refine g_run hx [(.iload_n 2, 0, 0)] (pc' := 52) (lo' := [some (.ref 0), some (.int v1), some (.int v2), some (.int 0)]) (st' := [.int v2]) (σ' := s1) (by decide +kernel) rfl rfl ?_
      by_cases c52_0 : v2 = 0
      · have h := ok_t h c52_0
        refine g_lin hx (dflt := 52) (ps := #[(0, 28), (1, 40)]) (len := 28) (off := 28) (tgt := 80) (v := 0) (by decide +kernel) c52_0 (by decide +kernel) (by decide +kernel) (by decide) ?_
        refine g_run hx [(.aload_n 0, 0, 0), (.getfield 19, 0, 0), (.getfield 129, 0, 0), (.iload_n 1, 0, 0)] (pc' := 88) (lo' := [some (.ref 0), some (.int v1), some (.int v2), some (.int 0)]) (st' := [.int v1, .ref 13]) (σ' := s1) (by decide +kernel) rfl rfl ?_
        refine g_callV (rest := []) [.int v1] hx hc mk_numbers_at ln_9_138 rfl (by decide +kernel) (by decide) (Nat.le_of_ble_eq_true rfl) (s_numbers_at_13 (ok_b h)) (fun r2 s2 h => ?_)
        exact g_iret hx hr rfl _ rfl (by decide +kernel) (ok_some h)
      have h := ok_f h c52_0
      by_cases c52_1 : v2 = 1
      · have h := ok_t h c52_1
        refine g_lin hx (dflt := 52) (ps := #[(0, 28), (1, 40)]) (len := 28) (off := 40) (tgt := 92) (v := 1) (by decide +kernel) c52_1 (by decide +kernel) (by decide +kernel) (by decide) ?_
        refine g_run hx [(.aload_n 0, 0, 0), (.getfield 19, 0, 0), (.getfield 141, 0, 0), (.iload_n 1, 0, 0)] (pc' := 100) (lo' := [some (.ref 0), some (.int v1), some (.int v2), some (.int 0)]) (st' := [.int v1, .ref 15]) (σ' := s1) (by decide +kernel) rfl rfl ?_
        refine g_callV (rest := []) [.int v1] hx hc mk_numbers_at ln_9_138 rfl (by decide +kernel) (by decide) (Nat.le_of_ble_eq_true rfl) (s_numbers_at_15 (ok_b h)) (fun r3 s3 h => ?_)
        exact g_iret hx hr rfl _ rfl (by decide +kernel) (ok_some h)
      have h := ok_f h c52_1
      refine g_lout hx (dflt := 52) (ps := #[(0, 28), (1, 40)]) (len := 28) (tgt := 104) (by decide +kernel) (by decide +kernel) (show Op.lookupswitch.offset [(0, 28), (1, 40)] 52 _ = 52 from (lv_osw c52_0 (by decide +kernel)).trans ((lv_osw c52_1 (by decide +kernel)).trans (rfl))) (by decide) ?_
      refine g_run hx [(.aload_n 0, 0, 0), (.getfield 19, 0, 0), (.iload_n 1, 0, 0), (.aload_n 0, 0, 0), (.getfield 26, 0, 0)] (pc' := 113) (lo' := [some (.ref 0), some (.int v1), some (.int v2), some (.int 0)]) (st' := [.ref 40, .int v1, .ref 10]) (σ' := s1) (by decide +kernel) rfl rfl ?_
      refine g_callV (rest := [.int v1, .ref 10]) [] hx hc mk_state_goneCells ln_9_144 rfl (by decide +kernel) (by decide) (Nat.le_of_ble_eq_true rfl) (s_state_goneCells_40 (ok_b h)) (fun r4 s4 h => ?_)
      refine g_callV (rest := []) [.int v1, .long r4] hx hc mk_country_isLost ln_9_148 rfl (by decide +kernel) (by decide) (Nat.le_of_ble_eq_true rfl) (s_country_isLost (ok_b h)) (fun r5 s5 h => ?_)
      refine g_ifb_eq hx (off := 7) (tgt := 126) (by decide +kernel) (by decide) (fun c119 => ?_) (fun c119 => ?_)
      · have h := ok_f h c119
        refine g_run hx [(.iconst 0, 0, 0)] (pc' := 127) (lo' := [some (.ref 0), some (.int v1), some (.int v2), some (.int 0)]) (st' := [.int 0]) (σ' := s5) (by decide +kernel) rfl rfl ?_
        exact g_iret hx hr rfl _ rfl (by decide +kernel) (ok_some h)
      · have h := ok_t h c119
        refine g_run hx [(.iconst 1, 1, 0)] (pc' := 123) (lo' := [some (.ref 0), some (.int v1), some (.int v2), some (.int 0)]) (st' := [.int 1]) (σ' := s5) (by decide +kernel) rfl rfl ?_
        refine g_goto hx (off := 4) (tgt := 127) (by decide +kernel) (by decide) ?_
        exact g_iret hx hr rfl _ rfl (by decide +kernel) (ok_some h)
    · have h := ok_f h c46
      refine g_run hx [(.iconst (-1), (-1), 0)] (pc' := 50) (lo' := [some (.ref 0), some (.int v1), some (.int v2), some (.int 0)]) (st' := [.int (-1)]) (σ' := s1) (by decide +kernel) rfl rfl ?_
      exact g_iret hx hr rfl _ rfl (by decide +kernel) (ok_some h)
  · have h := ok_f h c1
    refine g_run hx [(.iload_n 1, 0, 0), (.aload_n 0, 0, 0), (.getfield 19, 0, 0), (.getfield 129, 0, 0), (.getfield 133, 0, 0)] (pc' := 15) (lo' := [some (.ref 0), some (.int v1), some (.int v2), none]) (st' := [.int (gI σ 13 1), .int v1]) (σ' := σ) (by decide +kernel) rfl rfl ?_
    refine g_ic_ge hx (off := 16) (tgt := 31) (by decide +kernel) (by decide) (fun c15 => ?_) (fun c15 => ?_)
    · have h := ok_t h c15
      refine g_run hx [(.iconst 0, 0, 0), (.istore_n 3, 0, 0), (.aload_n 0, 0, 0), (.iload_n 3, 0, 0)] (pc' := 35) (lo' := [some (.ref 0), some (.int v1), some (.int v2), some (.int 0)]) (st' := [.int 0, .ref 0]) (σ' := σ) (by decide +kernel) rfl rfl ?_
      refine g_if_eq hx (off := 7) (tgt := 42) (by decide +kernel) (by decide) (fun _ => ?_) (fun c => absurd c (by decide))
      refine g_run hx [(.iconst 1, 1, 0)] (pc' := 43) (lo' := [some (.ref 0), some (.int v1), some (.int v2), some (.int 0)]) (st' := [.int 1, .ref 0]) (σ' := σ) (by decide +kernel) rfl rfl ?_
      refine g_callV (rest := []) [.int 1] hx hc mk_x_granted ln_9_83 rfl (by decide +kernel) (by decide) (Nat.le_of_ble_eq_true rfl) (s_x_granted (ok_b h)) (fun r6 s6 h => ?_)
      refine g_ifb_ne hx (off := 5) (tgt := 51) (by decide +kernel) (by decide) (fun c46 => ?_) (fun c46 => ?_)
      · have h := ok_t h c46
        refine g_run hx [(.iload_n 2, 0, 0)] (pc' := 52) (lo' := [some (.ref 0), some (.int v1), some (.int v2), some (.int 0)]) (st' := [.int v2]) (σ' := s6) (by decide +kernel) rfl rfl ?_
        by_cases c52_0 : v2 = 0
        · have h := ok_t h c52_0
          refine g_lin hx (dflt := 52) (ps := #[(0, 28), (1, 40)]) (len := 28) (off := 28) (tgt := 80) (v := 0) (by decide +kernel) c52_0 (by decide +kernel) (by decide +kernel) (by decide) ?_
          refine g_run hx [(.aload_n 0, 0, 0), (.getfield 19, 0, 0), (.getfield 129, 0, 0), (.iload_n 1, 0, 0)] (pc' := 88) (lo' := [some (.ref 0), some (.int v1), some (.int v2), some (.int 0)]) (st' := [.int v1, .ref 13]) (σ' := s6) (by decide +kernel) rfl rfl ?_
          refine g_callV (rest := []) [.int v1] hx hc mk_numbers_at ln_9_138 rfl (by decide +kernel) (by decide) (Nat.le_of_ble_eq_true rfl) (s_numbers_at_13 (ok_b h)) (fun r7 s7 h => ?_)
          exact g_iret hx hr rfl _ rfl (by decide +kernel) (ok_some h)
        have h := ok_f h c52_0
        by_cases c52_1 : v2 = 1
        · have h := ok_t h c52_1
          refine g_lin hx (dflt := 52) (ps := #[(0, 28), (1, 40)]) (len := 28) (off := 40) (tgt := 92) (v := 1) (by decide +kernel) c52_1 (by decide +kernel) (by decide +kernel) (by decide) ?_
          refine g_run hx [(.aload_n 0, 0, 0), (.getfield 19, 0, 0), (.getfield 141, 0, 0), (.iload_n 1, 0, 0)] (pc' := 100) (lo' := [some (.ref 0), some (.int v1), some (.int v2), some (.int 0)]) (st' := [.int v1, .ref 15]) (σ' := s6) (by decide +kernel) rfl rfl ?_
          refine g_callV (rest := []) [.int v1] hx hc mk_numbers_at ln_9_138 rfl (by decide +kernel) (by decide) (Nat.le_of_ble_eq_true rfl) (s_numbers_at_15 (ok_b h)) (fun r8 s8 h => ?_)
          exact g_iret hx hr rfl _ rfl (by decide +kernel) (ok_some h)
        have h := ok_f h c52_1
        refine g_lout hx (dflt := 52) (ps := #[(0, 28), (1, 40)]) (len := 28) (tgt := 104) (by decide +kernel) (by decide +kernel) (show Op.lookupswitch.offset [(0, 28), (1, 40)] 52 _ = 52 from (lv_osw c52_0 (by decide +kernel)).trans ((lv_osw c52_1 (by decide +kernel)).trans (rfl))) (by decide) ?_
        refine g_run hx [(.aload_n 0, 0, 0), (.getfield 19, 0, 0), (.iload_n 1, 0, 0), (.aload_n 0, 0, 0), (.getfield 26, 0, 0)] (pc' := 113) (lo' := [some (.ref 0), some (.int v1), some (.int v2), some (.int 0)]) (st' := [.ref 40, .int v1, .ref 10]) (σ' := s6) (by decide +kernel) rfl rfl ?_
        refine g_callV (rest := [.int v1, .ref 10]) [] hx hc mk_state_goneCells ln_9_144 rfl (by decide +kernel) (by decide) (Nat.le_of_ble_eq_true rfl) (s_state_goneCells_40 (ok_b h)) (fun r9 s9 h => ?_)
        refine g_callV (rest := []) [.int v1, .long r9] hx hc mk_country_isLost ln_9_148 rfl (by decide +kernel) (by decide) (Nat.le_of_ble_eq_true rfl) (s_country_isLost (ok_b h)) (fun r10 s10 h => ?_)
        refine g_ifb_eq hx (off := 7) (tgt := 126) (by decide +kernel) (by decide) (fun c119 => ?_) (fun c119 => ?_)
        · have h := ok_f h c119
          refine g_run hx [(.iconst 0, 0, 0)] (pc' := 127) (lo' := [some (.ref 0), some (.int v1), some (.int v2), some (.int 0)]) (st' := [.int 0]) (σ' := s10) (by decide +kernel) rfl rfl ?_
          exact g_iret hx hr rfl _ rfl (by decide +kernel) (ok_some h)
        · have h := ok_t h c119
          refine g_run hx [(.iconst 1, 1, 0)] (pc' := 123) (lo' := [some (.ref 0), some (.int v1), some (.int v2), some (.int 0)]) (st' := [.int 1]) (σ' := s10) (by decide +kernel) rfl rfl ?_
          refine g_goto hx (off := 4) (tgt := 127) (by decide +kernel) (by decide) ?_
          exact g_iret hx hr rfl _ rfl (by decide +kernel) (ok_some h)
      · have h := ok_f h c46
        refine g_run hx [(.iconst (-1), (-1), 0)] (pc' := 50) (lo' := [some (.ref 0), some (.int v1), some (.int v2), some (.int 0)]) (st' := [.int (-1)]) (σ' := s6) (by decide +kernel) rfl rfl ?_
        exact g_iret hx hr rfl _ rfl (by decide +kernel) (ok_some h)
    · have h := ok_f h c15
      refine g_run hx [(.iload_n 2, 0, 0)] (pc' := 19) (lo' := [some (.ref 0), some (.int v1), some (.int v2), none]) (st' := [.int v2]) (σ' := σ) (by decide +kernel) rfl rfl ?_
      refine g_if_lt hx (off := 12) (tgt := 31) (by decide +kernel) (by decide) (fun c19 => ?_) (fun c19 => ?_)
      · have h := ok_t h c19
        refine g_run hx [(.iconst 0, 0, 0), (.istore_n 3, 0, 0), (.aload_n 0, 0, 0), (.iload_n 3, 0, 0)] (pc' := 35) (lo' := [some (.ref 0), some (.int v1), some (.int v2), some (.int 0)]) (st' := [.int 0, .ref 0]) (σ' := σ) (by decide +kernel) rfl rfl ?_
        refine g_if_eq hx (off := 7) (tgt := 42) (by decide +kernel) (by decide) (fun _ => ?_) (fun c => absurd c (by decide))
        refine g_run hx [(.iconst 1, 1, 0)] (pc' := 43) (lo' := [some (.ref 0), some (.int v1), some (.int v2), some (.int 0)]) (st' := [.int 1, .ref 0]) (σ' := σ) (by decide +kernel) rfl rfl ?_
        refine g_callV (rest := []) [.int 1] hx hc mk_x_granted ln_9_83 rfl (by decide +kernel) (by decide) (Nat.le_of_ble_eq_true rfl) (s_x_granted (ok_b h)) (fun r11 s11 h => ?_)
        refine g_ifb_ne hx (off := 5) (tgt := 51) (by decide +kernel) (by decide) (fun c46 => ?_) (fun c46 => ?_)
        · have h := ok_t h c46
          refine g_run hx [(.iload_n 2, 0, 0)] (pc' := 52) (lo' := [some (.ref 0), some (.int v1), some (.int v2), some (.int 0)]) (st' := [.int v2]) (σ' := s11) (by decide +kernel) rfl rfl ?_
          by_cases c52_0 : v2 = 0
          · have h := ok_t h c52_0
            refine g_lin hx (dflt := 52) (ps := #[(0, 28), (1, 40)]) (len := 28) (off := 28) (tgt := 80) (v := 0) (by decide +kernel) c52_0 (by decide +kernel) (by decide +kernel) (by decide) ?_
            refine g_run hx [(.aload_n 0, 0, 0), (.getfield 19, 0, 0), (.getfield 129, 0, 0), (.iload_n 1, 0, 0)] (pc' := 88) (lo' := [some (.ref 0), some (.int v1), some (.int v2), some (.int 0)]) (st' := [.int v1, .ref 13]) (σ' := s11) (by decide +kernel) rfl rfl ?_
            refine g_callV (rest := []) [.int v1] hx hc mk_numbers_at ln_9_138 rfl (by decide +kernel) (by decide) (Nat.le_of_ble_eq_true rfl) (s_numbers_at_13 (ok_b h)) (fun r12 s12 h => ?_)
            exact g_iret hx hr rfl _ rfl (by decide +kernel) (ok_some h)
          have h := ok_f h c52_0
          by_cases c52_1 : v2 = 1
          · have h := ok_t h c52_1
            refine g_lin hx (dflt := 52) (ps := #[(0, 28), (1, 40)]) (len := 28) (off := 40) (tgt := 92) (v := 1) (by decide +kernel) c52_1 (by decide +kernel) (by decide +kernel) (by decide) ?_
            refine g_run hx [(.aload_n 0, 0, 0), (.getfield 19, 0, 0), (.getfield 141, 0, 0), (.iload_n 1, 0, 0)] (pc' := 100) (lo' := [some (.ref 0), some (.int v1), some (.int v2), some (.int 0)]) (st' := [.int v1, .ref 15]) (σ' := s11) (by decide +kernel) rfl rfl ?_
            refine g_callV (rest := []) [.int v1] hx hc mk_numbers_at ln_9_138 rfl (by decide +kernel) (by decide) (Nat.le_of_ble_eq_true rfl) (s_numbers_at_15 (ok_b h)) (fun r13 s13 h => ?_)
            exact g_iret hx hr rfl _ rfl (by decide +kernel) (ok_some h)
          have h := ok_f h c52_1
          refine g_lout hx (dflt := 52) (ps := #[(0, 28), (1, 40)]) (len := 28) (tgt := 104) (by decide +kernel) (by decide +kernel) (show Op.lookupswitch.offset [(0, 28), (1, 40)] 52 _ = 52 from (lv_osw c52_0 (by decide +kernel)).trans ((lv_osw c52_1 (by decide +kernel)).trans (rfl))) (by decide) ?_
          refine g_run hx [(.aload_n 0, 0, 0), (.getfield 19, 0, 0), (.iload_n 1, 0, 0), (.aload_n 0, 0, 0), (.getfield 26, 0, 0)] (pc' := 113) (lo' := [some (.ref 0), some (.int v1), some (.int v2), some (.int 0)]) (st' := [.ref 40, .int v1, .ref 10]) (σ' := s11) (by decide +kernel) rfl rfl ?_
          refine g_callV (rest := [.int v1, .ref 10]) [] hx hc mk_state_goneCells ln_9_144 rfl (by decide +kernel) (by decide) (Nat.le_of_ble_eq_true rfl) (s_state_goneCells_40 (ok_b h)) (fun r14 s14 h => ?_)
          refine g_callV (rest := []) [.int v1, .long r14] hx hc mk_country_isLost ln_9_148 rfl (by decide +kernel) (by decide) (Nat.le_of_ble_eq_true rfl) (s_country_isLost (ok_b h)) (fun r15 s15 h => ?_)
          refine g_ifb_eq hx (off := 7) (tgt := 126) (by decide +kernel) (by decide) (fun c119 => ?_) (fun c119 => ?_)
          · have h := ok_f h c119
            refine g_run hx [(.iconst 0, 0, 0)] (pc' := 127) (lo' := [some (.ref 0), some (.int v1), some (.int v2), some (.int 0)]) (st' := [.int 0]) (σ' := s15) (by decide +kernel) rfl rfl ?_
            exact g_iret hx hr rfl _ rfl (by decide +kernel) (ok_some h)
          · have h := ok_t h c119
            refine g_run hx [(.iconst 1, 1, 0)] (pc' := 123) (lo' := [some (.ref 0), some (.int v1), some (.int v2), some (.int 0)]) (st' := [.int 1]) (σ' := s15) (by decide +kernel) rfl rfl ?_
            refine g_goto hx (off := 4) (tgt := 127) (by decide +kernel) (by decide) ?_
            exact g_iret hx hr rfl _ rfl (by decide +kernel) (ok_some h)
        · have h := ok_f h c46
          refine g_run hx [(.iconst (-1), (-1), 0)] (pc' := 50) (lo' := [some (.ref 0), some (.int v1), some (.int v2), some (.int 0)]) (st' := [.int (-1)]) (σ' := s11) (by decide +kernel) rfl rfl ?_
          exact g_iret hx hr rfl _ rfl (by decide +kernel) (ok_some h)
      · have h := ok_f h c19
        refine g_run hx [(.iload_n 2, 0, 0), (.iconst 2, 2, 0)] (pc' := 24) (lo' := [some (.ref 0), some (.int v1), some (.int v2), none]) (st' := [.int 2, .int v2]) (σ' := σ) (by decide +kernel) rfl rfl ?_
        refine g_ic_gt hx (off := 7) (tgt := 31) (by decide +kernel) (by decide) (fun c24 => ?_) (fun c24 => ?_)
        · have h := ok_t h c24
          refine g_run hx [(.iconst 0, 0, 0), (.istore_n 3, 0, 0), (.aload_n 0, 0, 0), (.iload_n 3, 0, 0)] (pc' := 35) (lo' := [some (.ref 0), some (.int v1), some (.int v2), some (.int 0)]) (st' := [.int 0, .ref 0]) (σ' := σ) (by decide +kernel) rfl rfl ?_
          refine g_if_eq hx (off := 7) (tgt := 42) (by decide +kernel) (by decide) (fun _ => ?_) (fun c => absurd c (by decide))
          refine g_run hx [(.iconst 1, 1, 0)] (pc' := 43) (lo' := [some (.ref 0), some (.int v1), some (.int v2), some (.int 0)]) (st' := [.int 1, .ref 0]) (σ' := σ) (by decide +kernel) rfl rfl ?_
          refine g_callV (rest := []) [.int 1] hx hc mk_x_granted ln_9_83 rfl (by decide +kernel) (by decide) (Nat.le_of_ble_eq_true rfl) (s_x_granted (ok_b h)) (fun r16 s16 h => ?_)
          refine g_ifb_ne hx (off := 5) (tgt := 51) (by decide +kernel) (by decide) (fun c46 => ?_) (fun c46 => ?_)
          · have h := ok_t h c46
            refine g_run hx [(.iload_n 2, 0, 0)] (pc' := 52) (lo' := [some (.ref 0), some (.int v1), some (.int v2), some (.int 0)]) (st' := [.int v2]) (σ' := s16) (by decide +kernel) rfl rfl ?_
            by_cases c52_0 : v2 = 0
            · have h := ok_t h c52_0
              refine g_lin hx (dflt := 52) (ps := #[(0, 28), (1, 40)]) (len := 28) (off := 28) (tgt := 80) (v := 0) (by decide +kernel) c52_0 (by decide +kernel) (by decide +kernel) (by decide) ?_
              refine g_run hx [(.aload_n 0, 0, 0), (.getfield 19, 0, 0), (.getfield 129, 0, 0), (.iload_n 1, 0, 0)] (pc' := 88) (lo' := [some (.ref 0), some (.int v1), some (.int v2), some (.int 0)]) (st' := [.int v1, .ref 13]) (σ' := s16) (by decide +kernel) rfl rfl ?_
              refine g_callV (rest := []) [.int v1] hx hc mk_numbers_at ln_9_138 rfl (by decide +kernel) (by decide) (Nat.le_of_ble_eq_true rfl) (s_numbers_at_13 (ok_b h)) (fun r17 s17 h => ?_)
              exact g_iret hx hr rfl _ rfl (by decide +kernel) (ok_some h)
            have h := ok_f h c52_0
            by_cases c52_1 : v2 = 1
            · have h := ok_t h c52_1
              refine g_lin hx (dflt := 52) (ps := #[(0, 28), (1, 40)]) (len := 28) (off := 40) (tgt := 92) (v := 1) (by decide +kernel) c52_1 (by decide +kernel) (by decide +kernel) (by decide) ?_
              refine g_run hx [(.aload_n 0, 0, 0), (.getfield 19, 0, 0), (.getfield 141, 0, 0), (.iload_n 1, 0, 0)] (pc' := 100) (lo' := [some (.ref 0), some (.int v1), some (.int v2), some (.int 0)]) (st' := [.int v1, .ref 15]) (σ' := s16) (by decide +kernel) rfl rfl ?_
              refine g_callV (rest := []) [.int v1] hx hc mk_numbers_at ln_9_138 rfl (by decide +kernel) (by decide) (Nat.le_of_ble_eq_true rfl) (s_numbers_at_15 (ok_b h)) (fun r18 s18 h => ?_)
              exact g_iret hx hr rfl _ rfl (by decide +kernel) (ok_some h)
            have h := ok_f h c52_1
            refine g_lout hx (dflt := 52) (ps := #[(0, 28), (1, 40)]) (len := 28) (tgt := 104) (by decide +kernel) (by decide +kernel) (show Op.lookupswitch.offset [(0, 28), (1, 40)] 52 _ = 52 from (lv_osw c52_0 (by decide +kernel)).trans ((lv_osw c52_1 (by decide +kernel)).trans (rfl))) (by decide) ?_
            refine g_run hx [(.aload_n 0, 0, 0), (.getfield 19, 0, 0), (.iload_n 1, 0, 0), (.aload_n 0, 0, 0), (.getfield 26, 0, 0)] (pc' := 113) (lo' := [some (.ref 0), some (.int v1), some (.int v2), some (.int 0)]) (st' := [.ref 40, .int v1, .ref 10]) (σ' := s16) (by decide +kernel) rfl rfl ?_
            refine g_callV (rest := [.int v1, .ref 10]) [] hx hc mk_state_goneCells ln_9_144 rfl (by decide +kernel) (by decide) (Nat.le_of_ble_eq_true rfl) (s_state_goneCells_40 (ok_b h)) (fun r19 s19 h => ?_)
            refine g_callV (rest := []) [.int v1, .long r19] hx hc mk_country_isLost ln_9_148 rfl (by decide +kernel) (by decide) (Nat.le_of_ble_eq_true rfl) (s_country_isLost (ok_b h)) (fun r20 s20 h => ?_)
            refine g_ifb_eq hx (off := 7) (tgt := 126) (by decide +kernel) (by decide) (fun c119 => ?_) (fun c119 => ?_)
            · have h := ok_f h c119
              refine g_run hx [(.iconst 0, 0, 0)] (pc' := 127) (lo' := [some (.ref 0), some (.int v1), some (.int v2), some (.int 0)]) (st' := [.int 0]) (σ' := s20) (by decide +kernel) rfl rfl ?_
              exact g_iret hx hr rfl _ rfl (by decide +kernel) (ok_some h)
            · have h := ok_t h c119
              refine g_run hx [(.iconst 1, 1, 0)] (pc' := 123) (lo' := [some (.ref 0), some (.int v1), some (.int v2), some (.int 0)]) (st' := [.int 1]) (σ' := s20) (by decide +kernel) rfl rfl ?_
              refine g_goto hx (off := 4) (tgt := 127) (by decide +kernel) (by decide) ?_
              exact g_iret hx hr rfl _ rfl (by decide +kernel) (ok_some h)
          · have h := ok_f h c46
            refine g_run hx [(.iconst (-1), (-1), 0)] (pc' := 50) (lo' := [some (.ref 0), some (.int v1), some (.int v2), some (.int 0)]) (st' := [.int (-1)]) (σ' := s16) (by decide +kernel) rfl rfl ?_
            exact g_iret hx hr rfl _ rfl (by decide +kernel) (ok_some h)
        · have h := ok_f h c24
          refine g_run hx [(.iconst 1, 1, 0)] (pc' := 28) (lo' := [some (.ref 0), some (.int v1), some (.int v2), none]) (st' := [.int 1]) (σ' := σ) (by decide +kernel) rfl rfl ?_
          refine g_goto hx (off := 4) (tgt := 32) (by decide +kernel) (by decide) ?_
          refine g_run hx [(.istore_n 3, 0, 0), (.aload_n 0, 0, 0), (.iload_n 3, 0, 0)] (pc' := 35) (lo' := [some (.ref 0), some (.int v1), some (.int v2), some (.int 1)]) (st' := [.int 1, .ref 0]) (σ' := σ) (by decide +kernel) rfl rfl ?_
          refine g_if_eq hx (off := 7) (tgt := 42) (by decide +kernel) (by decide) (fun c => absurd c (by decide)) (fun _ => ?_)
          refine g_run hx [(.iconst 0, 0, 0)] (pc' := 39) (lo' := [some (.ref 0), some (.int v1), some (.int v2), some (.int 1)]) (st' := [.int 0, .ref 0]) (σ' := σ) (by decide +kernel) rfl rfl ?_
          refine g_goto hx (off := 4) (tgt := 43) (by decide +kernel) (by decide) ?_
          refine g_callV (rest := []) [.int 0] hx hc mk_x_granted ln_9_83 rfl (by decide +kernel) (by decide) (Nat.le_of_ble_eq_true rfl) (s_x_granted (ok_b h)) (fun r21 s21 h => ?_)
          refine g_ifb_ne hx (off := 5) (tgt := 51) (by decide +kernel) (by decide) (fun c46 => ?_) (fun c46 => ?_)
          · have h := ok_t h c46
            refine g_run hx [(.iload_n 2, 0, 0)] (pc' := 52) (lo' := [some (.ref 0), some (.int v1), some (.int v2), some (.int 1)]) (st' := [.int v2]) (σ' := s21) (by decide +kernel) rfl rfl ?_
            by_cases c52_0 : v2 = 0
            · have h := ok_t h c52_0
              refine g_lin hx (dflt := 52) (ps := #[(0, 28), (1, 40)]) (len := 28) (off := 28) (tgt := 80) (v := 0) (by decide +kernel) c52_0 (by decide +kernel) (by decide +kernel) (by decide) ?_
              refine g_run hx [(.aload_n 0, 0, 0), (.getfield 19, 0, 0), (.getfield 129, 0, 0), (.iload_n 1, 0, 0)] (pc' := 88) (lo' := [some (.ref 0), some (.int v1), some (.int v2), some (.int 1)]) (st' := [.int v1, .ref 13]) (σ' := s21) (by decide +kernel) rfl rfl ?_
              refine g_callV (rest := []) [.int v1] hx hc mk_numbers_at ln_9_138 rfl (by decide +kernel) (by decide) (Nat.le_of_ble_eq_true rfl) (s_numbers_at_13 (ok_b h)) (fun r22 s22 h => ?_)
              exact g_iret hx hr rfl _ rfl (by decide +kernel) (ok_some h)
            have h := ok_f h c52_0
            by_cases c52_1 : v2 = 1
            · have h := ok_t h c52_1
              refine g_lin hx (dflt := 52) (ps := #[(0, 28), (1, 40)]) (len := 28) (off := 40) (tgt := 92) (v := 1) (by decide +kernel) c52_1 (by decide +kernel) (by decide +kernel) (by decide) ?_
              refine g_run hx [(.aload_n 0, 0, 0), (.getfield 19, 0, 0), (.getfield 141, 0, 0), (.iload_n 1, 0, 0)] (pc' := 100) (lo' := [some (.ref 0), some (.int v1), some (.int v2), some (.int 1)]) (st' := [.int v1, .ref 15]) (σ' := s21) (by decide +kernel) rfl rfl ?_
              refine g_callV (rest := []) [.int v1] hx hc mk_numbers_at ln_9_138 rfl (by decide +kernel) (by decide) (Nat.le_of_ble_eq_true rfl) (s_numbers_at_15 (ok_b h)) (fun r23 s23 h => ?_)
              exact g_iret hx hr rfl _ rfl (by decide +kernel) (ok_some h)
            have h := ok_f h c52_1
            refine g_lout hx (dflt := 52) (ps := #[(0, 28), (1, 40)]) (len := 28) (tgt := 104) (by decide +kernel) (by decide +kernel) (show Op.lookupswitch.offset [(0, 28), (1, 40)] 52 _ = 52 from (lv_osw c52_0 (by decide +kernel)).trans ((lv_osw c52_1 (by decide +kernel)).trans (rfl))) (by decide) ?_
            refine g_run hx [(.aload_n 0, 0, 0), (.getfield 19, 0, 0), (.iload_n 1, 0, 0), (.aload_n 0, 0, 0), (.getfield 26, 0, 0)] (pc' := 113) (lo' := [some (.ref 0), some (.int v1), some (.int v2), some (.int 1)]) (st' := [.ref 40, .int v1, .ref 10]) (σ' := s21) (by decide +kernel) rfl rfl ?_
            refine g_callV (rest := [.int v1, .ref 10]) [] hx hc mk_state_goneCells ln_9_144 rfl (by decide +kernel) (by decide) (Nat.le_of_ble_eq_true rfl) (s_state_goneCells_40 (ok_b h)) (fun r24 s24 h => ?_)
            refine g_callV (rest := []) [.int v1, .long r24] hx hc mk_country_isLost ln_9_148 rfl (by decide +kernel) (by decide) (Nat.le_of_ble_eq_true rfl) (s_country_isLost (ok_b h)) (fun r25 s25 h => ?_)
            refine g_ifb_eq hx (off := 7) (tgt := 126) (by decide +kernel) (by decide) (fun c119 => ?_) (fun c119 => ?_)
            · have h := ok_f h c119
              refine g_run hx [(.iconst 0, 0, 0)] (pc' := 127) (lo' := [some (.ref 0), some (.int v1), some (.int v2), some (.int 1)]) (st' := [.int 0]) (σ' := s25) (by decide +kernel) rfl rfl ?_
              exact g_iret hx hr rfl _ rfl (by decide +kernel) (ok_some h)
            · have h := ok_t h c119
              refine g_run hx [(.iconst 1, 1, 0)] (pc' := 123) (lo' := [some (.ref 0), some (.int v1), some (.int v2), some (.int 1)]) (st' := [.int 1]) (σ' := s25) (by decide +kernel) rfl rfl ?_
              refine g_goto hx (off := 4) (tgt := 127) (by decide +kernel) (by decide) ?_
              exact g_iret hx hr rfl _ rfl (by decide +kernel) (ok_some h)
          · have h := ok_f h c46
            refine g_run hx [(.iconst (-1), (-1), 0)] (pc' := 50) (lo' := [some (.ref 0), some (.int v1), some (.int v2), some (.int 1)]) (st' := [.int (-1)]) (σ' := s21) (by decide +kernel) rfl rfl ?_
            exact g_iret hx hr rfl _ rfl (by decide +kernel) (ok_some h)
def f_paths_reached_L5 (N : Nat) : Nat → Int32 → Int64 → Int32 → Sg → Option (Int64 × Sg)
  | 0, _, _, _, _ => none
  | n + 1, v1, v2, v4, σ =>
    if v1 < v4 then
      some (v2, σ)
    else
      if (nI 6) ≤ v4 then
        some (v2, σ)
      else
        if vin v4 6 then
        f_paths_reached_L5 N n v1 (v2 ||| (gM σ 61 v4)) (v4 + 1) σ
        else none
def f_paths_reached (N : Nat) (v1 : Int32) (σ : Sg) : Option (Int64 × Sg) :=
  f_paths_reached_L5 N N v1 0 0 σ
set_option maxRecDepth 100000 in
theorem s_paths_reached_L5 {y : EX} {N : Nat} {x : CX} {P : Int64 × Sg → Prop} (hx : Cx 4 prog_6_method_10_code x) (hc : Cc y 5 0 x) (hr : Cr M_paths_reached rvL P x) : ∀ (n : Nat) (v1 : Int32) (v2 : Int64) (v4 : Int32) (σ : Sg), ok (f_paths_reached_L5 N n v1 v2 v4 σ) P → G x 5 [some (.ref 55), some (.int v1), some (.long v2), none, some (.int v4)] [] σ := by
  intro n
  induction n with
  | zero => intro v1 v2 v4 σ h; exact ok_none h
  | succ n ih =>
    intro v1 v2 v4 σ h
    rw [f_paths_reached_L5] at h
    refine g_run hx [(.iload 4, 0, 0), (.iload_n 1, 0, 0)] (pc' := 8) (lo' := [some (.ref 55), some (.int v1), some (.long v2), none, some (.int v4)]) (st' := [.int v1, .int v4]) (σ' := σ) (by decide +kernel) rfl rfl ?_
    refine g_ic_gt hx (off := 29) (tgt := 37) (by decide +kernel) (by decide) (fun c8 => ?_) (fun c8 => ?_)
    · have h := ok_t h c8
      refine g_run hx [(.lload_n 2, 0, 0)] (pc' := 38) (lo' := [some (.ref 55), some (.int v1), some (.long v2), none, some (.int v4)]) (st' := [.long v2]) (σ' := σ) (by decide +kernel) rfl rfl ?_
      exact g_lret hx hr rfl _ rfl (by decide +kernel) (ok_some h)
    · have h := ok_f h c8
      refine g_run hx [(.iload 4, 0, 0), (.aload_n 0, 0, 0), (.getfield 27, 0, 0), (.arraylength, 0, 0)] (pc' := 18) (lo' := [some (.ref 55), some (.int v1), some (.long v2), none, some (.int v4)]) (st' := [.int (nI 6), .int v4]) (σ' := σ) (by decide +kernel) rfl rfl ?_
      refine g_ic_ge hx (off := 19) (tgt := 37) (by decide +kernel) (by decide) (fun c18 => ?_) (fun c18 => ?_)
      · have h := ok_t h c18
        refine g_run hx [(.lload_n 2, 0, 0)] (pc' := 38) (lo' := [some (.ref 55), some (.int v1), some (.long v2), none, some (.int v4)]) (st' := [.long v2]) (σ' := σ) (by decide +kernel) rfl rfl ?_
        exact g_lret hx hr rfl _ rfl (by decide +kernel) (ok_some h)
      · have h := ok_f h c18
        refine g_run hx [(.lload_n 2, 0, 0), (.aload_n 0, 0, 0), (.getfield 27, 0, 0), (.iload 4, 0, 0)] (pc' := 28) (lo' := [some (.ref 55), some (.int v1), some (.long v2), none, some (.int v4)]) (st' := [.int v4, .ref 61, .long v2]) (σ' := σ) (by decide +kernel) rfl rfl ?_
        obtain ⟨c28, h⟩ := ok_g h
        refine g_lald hx (by decide +kernel) (i := 61) (n := 6) rfl c28 ?_
        refine g_run hx [(.lor, 0, 0), (.lstore_n 2, 0, 0), (.iinc 4 1, 1, 0)] (pc' := 34) (lo' := [some (.ref 55), some (.int v1), some (.long (v2 ||| (gM σ 61 v4))), none, some (.int (v4 + 1))]) (st' := []) (σ' := σ) (by decide +kernel) rfl rfl ?_
        refine g_goto hx (off := (-29)) (tgt := 5) (by decide +kernel) (by decide) ?_
        exact ih _ _ _ _ h
set_option maxRecDepth 100000 in
theorem s_paths_reached {y : EX} {N : Nat} {v1 : Int32} {σ : Sg} {P : Int64 × Sg → Prop} (h : ok (f_paths_reached N v1 σ) P) : Ev y M_paths_reached 0 [.ref 55, .int v1] σ rvL P := by
  refine Ev.of mk_paths_reached (Nat.le_of_ble_eq_true rfl) (fun x hx hc hr => ?_)
  have hx : Cx 4 prog_6_method_10_code x := hx
  have hc : Cc y 5 0 x := hc
  show G x 0 [some (.ref 55), some (.int v1), none, none, none] [] σ
  unfold f_paths_reached at h
  refine g_run hx [(.lconst 0, 0, 0), (.lstore_n 2, 0, 0), (.iconst 0, 0, 0), (.istore 4, 0, 0)] (pc' := 5) (lo' := [some (.ref 55), some (.int v1), some (.long 0), none, some (.int 0)]) (st' := []) (σ' := σ) (by decide +kernel) rfl rfl ?_
  refine s_paths_reached_L5 hx hc hr N _ _ _ _ h
def f_x_reach (N : Nat) (v1 : Int32) (σ : Sg) : Option (Int32 × Sg) :=
  (f_x_numberTrouble N v1 5 σ).bind fun q1 =>
  (f_x_granted N q1.1 q1.2).bind fun q2 =>
  if q2.1 = true then
    (f_x_knownPaths N q2.2).bind fun q3 =>
    (f_paths_reached N v1 q3.2).bind fun q4 =>
    some ((Int64.toInt32 (q4.1 &&& 1073741823)), q4.2)
  else
    some ((-1), q2.2)
set_option maxRecDepth 100000 in
theorem s_x_reach {y : EX} {N : Nat} {v1 : Int32} {σ : Sg} {P : Int32 × Sg → Prop} (h : ok (f_x_reach N v1 σ) P) : Ev y M_x_reach 18 [.ref 0, .int v1] σ rvI P := by
  refine Ev.of mk_x_reach (Nat.le_of_ble_eq_true rfl) (fun x hx hc hr => ?_)
  have hx : Cx 9 prog_1_method_32_code x := hx
  have hc : Cc y 2 18 x := hc
  show G x 0 [some (.ref 0), some (.int v1)] [] σ
  unfold f_x_reach at h
  refine g_run hx [(.aload_n 0, 0, 0), (.aload_n 0, 0, 0), (.iload_n 1, 0, 0), (.iconst 5, 5, 0)] (pc' := 4) (lo' := [some (.ref 0), some (.int v1)]) (st' := [.int 5, .int v1, .ref 0, .ref 0]) (σ' := σ) (by decide +kernel) rfl rfl ?_
  refine g_callV (rest := [.ref 0]) [.int v1, .int 5] hx hc mk_x_numberTrouble ln_9_197 rfl (by decide +kernel) (by decide) (Nat.le_of_ble_eq_true rfl) (s_x_numberTrouble (ok_b h)) (fun r1 s1 h => ?_)
  refine g_callV (rest := []) [.int r1] hx hc mk_x_granted ln_9_83 rfl (by decide +kernel) (by decide) (Nat.le_of_ble_eq_true rfl) (s_x_granted (ok_b h)) (fun r2 s2 h => ?_)
  refine g_ifb_ne hx (off := 5) (tgt := 15) (by decide +kernel) (by decide) (fun c10 => ?_) (fun c10 => ?_)
  · have h := ok_t h c10
    refine g_run hx [(.aload_n 0, 0, 0)] (pc' := 16) (lo' := [some (.ref 0), some (.int v1)]) (st' := [.ref 0]) (σ' := s2) (by decide +kernel) rfl rfl ?_
    refine g_callV (rest := []) [] hx hc mk_x_knownPaths ln_9_231 rfl (by decide +kernel) (by decide) (Nat.le_of_ble_eq_true rfl) (s_x_knownPaths (ok_b h)) (fun r3 s3 h => ?_)
    refine g_run hx [(.iload_n 1, 0, 0)] (pc' := 20) (lo' := [some (.ref 0), some (.int v1)]) (st' := [.int v1, .ref 55]) (σ' := s3) (by decide +kernel) rfl rfl ?_
    refine g_callV (rest := []) [.int v1] hx hc mk_paths_reached ln_9_251 rfl (by decide +kernel) (by decide) (Nat.le_of_ble_eq_true rfl) (s_paths_reached (ok_b h)) (fun r4 s4 h => ?_)
    refine g_run hx [(.ldc2_w 254, 0, 1073741823), (.land, 0, 0), (.l2i, 0, 0)] (pc' := 28) (lo' := [some (.ref 0), some (.int v1)]) (st' := [.int (Int64.toInt32 (r4 &&& 1073741823))]) (σ' := s4) (by decide +kernel) rfl rfl ?_
    exact g_iret hx hr rfl _ rfl (by decide +kernel) (ok_some h)
  · have h := ok_f h c10
    refine g_run hx [(.iconst (-1), (-1), 0)] (pc' := 14) (lo' := [some (.ref 0), some (.int v1)]) (st' := [.int (-1)]) (σ' := s2) (by decide +kernel) rfl rfl ?_
    exact g_iret hx hr rfl _ rfl (by decide +kernel) (ok_some h)
def f_x_isRest (N : Nat) (v0 : Int32) (v1 : Int32) (v2 : Int32) (σ : Sg) : Option (Bool × Sg) :=
  (f_x_shareOf N v0 v1 v2 σ).bind fun q1 =>
  (f_x_shareOf N v0 (b2i (decide (v1 = 0))) v2 q1.2).bind fun q2 =>
  if q1.1 < q2.1 then
    some (false, q2.2)
  else
    (f_x_shareOf N v0 v2 v1 q2.2).bind fun q3 =>
    (f_x_shareOf N v0 (b2i (decide (v2 = 0))) v1 q3.2).bind fun q4 =>
    if q3.1 < q4.1 then
      some (false, q4.2)
    else
      some (true, q4.2)
set_option maxRecDepth 100000 in
theorem s_x_isRest {y : EX} {N : Nat} {v0 : Int32} {v1 : Int32} {v2 : Int32} {σ : Sg} {P : Bool × Sg → Prop} (h : ok (f_x_isRest N v0 v1 v2 σ) P) : Ev y M_x_isRest 1 [.int v0, .int v1, .int v2] σ rvB P := by
  refine Ev.of mk_x_isRest (Nat.le_of_ble_eq_true rfl) (fun x hx hc hr => ?_)
  have hx : Cx 9 prog_1_method_78_code x := hx
  have hc : Cc y 3 1 x := hc
  show G x 0 [some (.int v0), some (.int v1), some (.int v2)] [] σ
  unfold f_x_isRest at h
  refine g_run hx [(.iload_n 0, 0, 0), (.iload_n 1, 0, 0), (.iload_n 2, 0, 0)] (pc' := 3) (lo' := [some (.int v0), some (.int v1), some (.int v2)]) (st' := [.int v2, .int v1, .int v0]) (σ' := σ) (by decide +kernel) rfl rfl ?_
  refine g_callS (rest := []) [.int v0, .int v1, .int v2] hx hc mk_x_shareOf ln_9_310 (by decide +kernel) (by decide) (Nat.le_of_ble_eq_true rfl) (s_x_shareOf (ok_b h)) (fun r1 s1 h => ?_)
  refine g_run hx [(.iload_n 0, 0, 0), (.iload_n 1, 0, 0)] (pc' := 8) (lo' := [some (.int v0), some (.int v1), some (.int v2)]) (st' := [.int v1, .int v0, .int r1]) (σ' := s1) (by decide +kernel) rfl rfl ?_
  have hm : G x 16 [some (.int v0), some (.int v1), some (.int v2)] [.int (b2i (decide (v1 = 0))), .int v0, .int r1] s1 := by
    refine g_run hx [(.iload_n 2, 0, 0)] (pc' := 17) (lo' := [some (.int v0), some (.int v1), some (.int v2)]) (st' := [.int v2, .int (b2i (decide (v1 = 0))), .int v0, .int r1]) (σ' := s1) (by decide +kernel) rfl rfl ?_
    refine g_callS (rest := [.int r1]) [.int v0, .int (b2i (decide (v1 = 0))), .int v2] hx hc mk_x_shareOf ln_9_310 (by decide +kernel) (by decide) (Nat.le_of_ble_eq_true rfl) (s_x_shareOf (ok_b h)) (fun r2 s2 h => ?_)
    refine g_ic_lt hx (off := 30) (tgt := 50) (by decide +kernel) (by decide) (fun c20 => ?_) (fun c20 => ?_)
    · have h := ok_t h c20
      refine g_run hx [(.iconst 0, 0, 0)] (pc' := 51) (lo' := [some (.int v0), some (.int v1), some (.int v2)]) (st' := [.int 0]) (σ' := s2) (by decide +kernel) rfl rfl ?_
      exact g_zret (b := false) hx hr rfl false rfl (by decide +kernel) (ok_some h)
    · have h := ok_f h c20
      refine g_run hx [(.iload_n 0, 0, 0), (.iload_n 2, 0, 0), (.iload_n 1, 0, 0)] (pc' := 26) (lo' := [some (.int v0), some (.int v1), some (.int v2)]) (st' := [.int v1, .int v2, .int v0]) (σ' := s2) (by decide +kernel) rfl rfl ?_
      refine g_callS (rest := []) [.int v0, .int v2, .int v1] hx hc mk_x_shareOf ln_9_310 (by decide +kernel) (by decide) (Nat.le_of_ble_eq_true rfl) (s_x_shareOf (ok_b h)) (fun r3 s3 h => ?_)
      refine g_run hx [(.iload_n 0, 0, 0), (.iload_n 2, 0, 0)] (pc' := 31) (lo' := [some (.int v0), some (.int v1), some (.int v2)]) (st' := [.int v2, .int v0, .int r3]) (σ' := s3) (by decide +kernel) rfl rfl ?_
      have hm : G x 39 [some (.int v0), some (.int v1), some (.int v2)] [.int (b2i (decide (v2 = 0))), .int v0, .int r3] s3 := by
        refine g_run hx [(.iload_n 1, 0, 0)] (pc' := 40) (lo' := [some (.int v0), some (.int v1), some (.int v2)]) (st' := [.int v1, .int (b2i (decide (v2 = 0))), .int v0, .int r3]) (σ' := s3) (by decide +kernel) rfl rfl ?_
        refine g_callS (rest := [.int r3]) [.int v0, .int (b2i (decide (v2 = 0))), .int v1] hx hc mk_x_shareOf ln_9_310 (by decide +kernel) (by decide) (Nat.le_of_ble_eq_true rfl) (s_x_shareOf (ok_b h)) (fun r4 s4 h => ?_)
        refine g_ic_lt hx (off := 7) (tgt := 50) (by decide +kernel) (by decide) (fun c43 => ?_) (fun c43 => ?_)
        · have h := ok_t h c43
          refine g_run hx [(.iconst 0, 0, 0)] (pc' := 51) (lo' := [some (.int v0), some (.int v1), some (.int v2)]) (st' := [.int 0]) (σ' := s4) (by decide +kernel) rfl rfl ?_
          exact g_zret (b := false) hx hr rfl false rfl (by decide +kernel) (ok_some h)
        · have h := ok_f h c43
          refine g_run hx [(.iconst 1, 1, 0)] (pc' := 47) (lo' := [some (.int v0), some (.int v1), some (.int v2)]) (st' := [.int 1]) (σ' := s4) (by decide +kernel) rfl rfl ?_
          refine g_goto hx (off := 4) (tgt := 51) (by decide +kernel) (by decide) ?_
          exact g_zret (b := true) hx hr rfl true rfl (by decide +kernel) (ok_some h)
      refine g_if_ne hx (off := 7) (tgt := 38) (by decide +kernel) (by decide) (fun c31 => ?_) (fun c31 => ?_)
      · refine g_run hx [(.iconst 0, 0, 0)] (pc' := 39) (lo' := [some (.int v0), some (.int v1), some (.int v2)]) (st' := [.int 0, .int v0, .int r3]) (σ' := s3) (by decide +kernel) rfl rfl ?_
        exact g_bf c31 hm
      · refine g_run hx [(.iconst 1, 1, 0)] (pc' := 35) (lo' := [some (.int v0), some (.int v1), some (.int v2)]) (st' := [.int 1, .int v0, .int r3]) (σ' := s3) (by decide +kernel) rfl rfl ?_
        refine g_goto hx (off := 4) (tgt := 39) (by decide +kernel) (by decide) ?_
        exact g_bt c31 hm
  refine g_if_ne hx (off := 7) (tgt := 15) (by decide +kernel) (by decide) (fun c8 => ?_) (fun c8 => ?_)
  · refine g_run hx [(.iconst 0, 0, 0)] (pc' := 16) (lo' := [some (.int v0), some (.int v1), some (.int v2)]) (st' := [.int 0, .int v0, .int r1]) (σ' := s1) (by decide +kernel) rfl rfl ?_
    exact g_bf c8 hm
  · refine g_run hx [(.iconst 1, 1, 0)] (pc' := 12) (lo' := [some (.int v0), some (.int v1), some (.int v2)]) (st' := [.int 1, .int v0, .int r1]) (σ' := s1) (by decide +kernel) rfl rfl ?_
    refine g_goto hx (off := 4) (tgt := 16) (by decide +kernel) (by decide) ?_
    exact g_bt c8 hm
def f_x_rest_L18 (N : Nat) : Nat → Int32 → Int32 → Sg → Option (Int32 × Sg)
  | 0, _, _, _ => none
  | n + 1, v1, v2, σ =>
    if 4 ≤ v2 then
      some ((-2), σ)
    else
      (f_x_isRest N v1 (b2i (decide (¬ (v2 < 2)))) (b2i (decide ((v2 - v2 / 2 * 2) = 1))) σ).bind fun q3 =>
      if q3.1 = true then
        if v2 < 2 then
          some ((0 + (v2 - v2 / 2 * 2)), q3.2)
        else
          some ((10 + (v2 - v2 / 2 * 2)), q3.2)
      else
        f_x_rest_L18 N n v1 (v2 + 1) q3.2
def f_x_rest (N : Nat) (v1 : Int32) (σ : Sg) : Option (Int32 × Sg) :=
  (f_x_numberTrouble N v1 9 σ).bind fun q1 =>
  (f_x_granted N q1.1 q1.2).bind fun q2 =>
  if q2.1 = true then
    f_x_rest_L18 N N v1 0 q2.2
  else
    some ((-1), q2.2)
set_option maxRecDepth 100000 in
theorem s_x_rest_L18 {y : EX} {N : Nat} {x : CX} {P : Int32 × Sg → Prop} (hx : Cx 9 prog_1_method_49_code x) (hc : Cc y 3 2 x) (hr : Cr M_x_rest rvI P x) : ∀ (n : Nat) (v1 : Int32) (v2 : Int32) (σ : Sg), ok (f_x_rest_L18 N n v1 v2 σ) P → G x 18 [none, some (.int v1), some (.int v2)] [] σ := by
  intro n
  induction n with
  | zero => intro v1 v2 σ h; exact ok_none h
  | succ n ih =>
    intro v1 v2 σ h
    rw [f_x_rest_L18] at h
    refine g_run hx [(.iload_n 2, 0, 0), (.iconst 4, 4, 0)] (pc' := 20) (lo' := [none, some (.int v1), some (.int v2)]) (st' := [.int 4, .int v2]) (σ' := σ) (by decide +kernel) rfl rfl ?_
    refine g_ic_ge hx (off := 54) (tgt := 74) (by decide +kernel) (by decide) (fun c20 => ?_) (fun c20 => ?_)
    · have h := ok_t h c20
      refine g_run hx [(.bipush (-2), (-2), 0)] (pc' := 76) (lo' := [none, some (.int v1), some (.int v2)]) (st' := [.int (-2)]) (σ' := σ) (by decide +kernel) rfl rfl ?_
      exact g_iret hx hr rfl _ rfl (by decide +kernel) (ok_some h)
    · have h := ok_f h c20
      refine g_run hx [(.iload_n 1, 0, 0), (.iload_n 2, 0, 0), (.iconst 2, 2, 0)] (pc' := 26) (lo' := [none, some (.int v1), some (.int v2)]) (st' := [.int 2, .int v2, .int v1]) (σ' := σ) (by decide +kernel) rfl rfl ?_
      have hm : G x 34 [none, some (.int v1), some (.int v2)] [.int (b2i (decide (¬ (v2 < 2)))), .int v1] σ := by
        refine g_run hx [(.iload_n 2, 0, 0), (.iconst 2, 2, 0), (.irem, 0, 0), (.iconst 1, 1, 0)] (pc' := 38) (lo' := [none, some (.int v1), some (.int v2)]) (st' := [.int 1, .int (v2 - v2 / 2 * 2), .int (b2i (decide (¬ (v2 < 2)))), .int v1]) (σ' := σ) (by decide +kernel) rfl rfl ?_
        have hm : G x 46 [none, some (.int v1), some (.int v2)] [.int (b2i (decide ((v2 - v2 / 2 * 2) = 1))), .int (b2i (decide (¬ (v2 < 2)))), .int v1] σ := by
          refine g_callS (rest := []) [.int v1, .int (b2i (decide (¬ (v2 < 2)))), .int (b2i (decide ((v2 - v2 / 2 * 2) = 1)))] hx hc mk_x_isRest ln_9_314 (by decide +kernel) (by decide) (Nat.le_of_ble_eq_true rfl) (s_x_isRest (ok_b h)) (fun r3 s3 h => ?_)
          refine g_ifb_eq hx (off := 19) (tgt := 68) (by decide +kernel) (by decide) (fun c49 => ?_) (fun c49 => ?_)
          · have h := ok_f h c49
            refine g_run hx [(.iinc 2 1, 1, 0)] (pc' := 71) (lo' := [none, some (.int v1), some (.int (v2 + 1))]) (st' := []) (σ' := s3) (by decide +kernel) rfl rfl ?_
            refine g_goto hx (off := (-53)) (tgt := 18) (by decide +kernel) (by decide) ?_
            exact ih _ _ _ h
          · have h := ok_t h c49
            refine g_run hx [(.iload_n 2, 0, 0), (.iconst 2, 2, 0)] (pc' := 54) (lo' := [none, some (.int v1), some (.int v2)]) (st' := [.int 2, .int v2]) (σ' := s3) (by decide +kernel) rfl rfl ?_
            refine g_ic_lt hx (off := 8) (tgt := 62) (by decide +kernel) (by decide) (fun c54 => ?_) (fun c54 => ?_)
            · have h := ok_t h c54
              refine g_run hx [(.iconst 0, 0, 0), (.iload_n 2, 0, 0), (.iconst 2, 2, 0), (.irem, 0, 0), (.iadd, 0, 0)] (pc' := 67) (lo' := [none, some (.int v1), some (.int v2)]) (st' := [.int (0 + (v2 - v2 / 2 * 2))]) (σ' := s3) (by decide +kernel) rfl rfl ?_
              exact g_iret hx hr rfl _ rfl (by decide +kernel) (ok_some h)
            · have h := ok_f h c54
              refine g_run hx [(.bipush 10, 10, 0)] (pc' := 59) (lo' := [none, some (.int v1), some (.int v2)]) (st' := [.int 10]) (σ' := s3) (by decide +kernel) rfl rfl ?_
              refine g_goto hx (off := 4) (tgt := 63) (by decide +kernel) (by decide) ?_
              refine g_run hx [(.iload_n 2, 0, 0), (.iconst 2, 2, 0), (.irem, 0, 0), (.iadd, 0, 0)] (pc' := 67) (lo' := [none, some (.int v1), some (.int v2)]) (st' := [.int (10 + (v2 - v2 / 2 * 2))]) (σ' := s3) (by decide +kernel) rfl rfl ?_
              exact g_iret hx hr rfl _ rfl (by decide +kernel) (ok_some h)
        refine g_ic_ne hx (off := 7) (tgt := 45) (by decide +kernel) (by decide) (fun c38 => ?_) (fun c38 => ?_)
        · refine g_run hx [(.iconst 0, 0, 0)] (pc' := 46) (lo' := [none, some (.int v1), some (.int v2)]) (st' := [.int 0, .int (b2i (decide (¬ (v2 < 2)))), .int v1]) (σ' := σ) (by decide +kernel) rfl rfl ?_
          exact g_bf c38 hm
        · refine g_run hx [(.iconst 1, 1, 0)] (pc' := 42) (lo' := [none, some (.int v1), some (.int v2)]) (st' := [.int 1, .int (b2i (decide (¬ (v2 < 2)))), .int v1]) (σ' := σ) (by decide +kernel) rfl rfl ?_
          refine g_goto hx (off := 4) (tgt := 46) (by decide +kernel) (by decide) ?_
          exact g_bt c38 hm
      refine g_ic_lt hx (off := 7) (tgt := 33) (by decide +kernel) (by decide) (fun c26 => ?_) (fun c26 => ?_)
      · refine g_run hx [(.iconst 0, 0, 0)] (pc' := 34) (lo' := [none, some (.int v1), some (.int v2)]) (st' := [.int 0, .int v1]) (σ' := σ) (by decide +kernel) rfl rfl ?_
        exact g_bf (fun z => z c26) hm
      · refine g_run hx [(.iconst 1, 1, 0)] (pc' := 30) (lo' := [none, some (.int v1), some (.int v2)]) (st' := [.int 1, .int v1]) (σ' := σ) (by decide +kernel) rfl rfl ?_
        refine g_goto hx (off := 4) (tgt := 34) (by decide +kernel) (by decide) ?_
        exact g_bt c26 hm
set_option maxRecDepth 100000 in
theorem s_x_rest {y : EX} {N : Nat} {v1 : Int32} {σ : Sg} {P : Int32 × Sg → Prop} (h : ok (f_x_rest N v1 σ) P) : Ev y M_x_rest 2 [.ref 0, .int v1] σ rvI P := by
  refine Ev.of mk_x_rest (Nat.le_of_ble_eq_true rfl) (fun x hx hc hr => ?_)
  have hx : Cx 9 prog_1_method_49_code x := hx
  have hc : Cc y 3 2 x := hc
  show G x 0 [some (.ref 0), some (.int v1), none] [] σ
  unfold f_x_rest at h
  refine g_run hx [(.aload_n 0, 0, 0), (.aload_n 0, 0, 0), (.iload_n 1, 0, 0), (.bipush 9, 9, 0)] (pc' := 5) (lo' := [some (.ref 0), some (.int v1), none]) (st' := [.int 9, .int v1, .ref 0, .ref 0]) (σ' := σ) (by decide +kernel) rfl rfl ?_
  refine g_callV (rest := [.ref 0]) [.int v1, .int 9] hx hc mk_x_numberTrouble ln_9_197 rfl (by decide +kernel) (by decide) (Nat.le_of_ble_eq_true rfl) (s_x_numberTrouble (ok_b h)) (fun r1 s1 h => ?_)
  refine g_callV (rest := []) [.int r1] hx hc mk_x_granted ln_9_83 rfl (by decide +kernel) (by decide) (Nat.le_of_ble_eq_true rfl) (s_x_granted (ok_b h)) (fun r2 s2 h => ?_)
  refine g_ifb_ne hx (off := 5) (tgt := 16) (by decide +kernel) (by decide) (fun c11 => ?_) (fun c11 => ?_)
  · have h := ok_t h c11
    refine g_run hx [(.iconst 0, 0, 0), (.istore_n 2, 0, 0)] (pc' := 18) (lo' := [some (.ref 0), some (.int v1), some (.int 0)]) (st' := []) (σ' := s2) (by decide +kernel) rfl rfl ?_
    refine g_wk (lo' := [none, some (.int v1), some (.int 0)]) ⟨rfl, ⟨rfl, trivial⟩⟩ ?_
    refine s_x_rest_L18 hx hc hr N _ _ _ h
  · have h := ok_f h c11
    refine g_run hx [(.iconst (-1), (-1), 0)] (pc' := 15) (lo' := [some (.ref 0), some (.int v1), none]) (st' := [.int (-1)]) (σ' := s2) (by decide +kernel) rfl rfl ?_
    exact g_iret hx hr rfl _ rfl (by decide +kernel) (ok_some h)
def f_x_rests_L20 (N : Nat) : Nat → Int32 → Int32 → Int32 → Sg → Option (Int32 × Sg)
  | 0, _, _, _, _ => none
  | n + 1, v1, v2, v3, σ =>
    if 4 ≤ v3 then
      some (v2, σ)
    else
      (f_x_isRest N v1 (b2i (decide (¬ (v3 < 2)))) (b2i (decide ((v3 - v3 / 2 * 2) = 1))) σ).bind fun q3 =>
      if q3.1 = true then
        f_x_rests_L20 N n v1 (v2 + 1) (v3 + 1) q3.2
      else
        f_x_rests_L20 N n v1 v2 (v3 + 1) q3.2
def f_x_rests (N : Nat) (v1 : Int32) (σ : Sg) : Option (Int32 × Sg) :=
  (f_x_numberTrouble N v1 9 σ).bind fun q1 =>
  (f_x_granted N q1.1 q1.2).bind fun q2 =>
  if q2.1 = true then
    f_x_rests_L20 N N v1 0 0 q2.2
  else
    some ((-1), q2.2)
set_option maxRecDepth 100000 in
theorem s_x_rests_L20 {y : EX} {N : Nat} {x : CX} {P : Int32 × Sg → Prop} (hx : Cx 9 prog_1_method_48_code x) (hc : Cc y 4 2 x) (hr : Cr M_x_rests rvI P x) : ∀ (n : Nat) (v1 : Int32) (v2 : Int32) (v3 : Int32) (σ : Sg), ok (f_x_rests_L20 N n v1 v2 v3 σ) P → G x 20 [none, some (.int v1), some (.int v2), some (.int v3)] [] σ := by
  intro n
  induction n with
  | zero => intro v1 v2 v3 σ h; exact ok_none h
  | succ n ih =>
    intro v1 v2 v3 σ h
    rw [f_x_rests_L20] at h
    refine g_run hx [(.iload_n 3, 0, 0), (.iconst 4, 4, 0)] (pc' := 22) (lo' := [none, some (.int v1), some (.int v2), some (.int v3)]) (st' := [.int 4, .int v3]) (σ' := σ) (by decide +kernel) rfl rfl ?_
    refine g_ic_ge hx (off := 41) (tgt := 63) (by decide +kernel) (by decide) (fun c22 => ?_) (fun c22 => ?_)
    · have h := ok_t h c22
      refine g_run hx [(.iload_n 2, 0, 0)] (pc' := 64) (lo' := [none, some (.int v1), some (.int v2), some (.int v3)]) (st' := [.int v2]) (σ' := σ) (by decide +kernel) rfl rfl ?_
      exact g_iret hx hr rfl _ rfl (by decide +kernel) (ok_some h)
    · have h := ok_f h c22
      refine g_run hx [(.iload_n 1, 0, 0), (.iload_n 3, 0, 0), (.iconst 2, 2, 0)] (pc' := 28) (lo' := [none, some (.int v1), some (.int v2), some (.int v3)]) (st' := [.int 2, .int v3, .int v1]) (σ' := σ) (by decide +kernel) rfl rfl ?_
      have hm : G x 36 [none, some (.int v1), some (.int v2), some (.int v3)] [.int (b2i (decide (¬ (v3 < 2)))), .int v1] σ := by
        refine g_run hx [(.iload_n 3, 0, 0), (.iconst 2, 2, 0), (.irem, 0, 0), (.iconst 1, 1, 0)] (pc' := 40) (lo' := [none, some (.int v1), some (.int v2), some (.int v3)]) (st' := [.int 1, .int (v3 - v3 / 2 * 2), .int (b2i (decide (¬ (v3 < 2)))), .int v1]) (σ' := σ) (by decide +kernel) rfl rfl ?_
        have hm : G x 48 [none, some (.int v1), some (.int v2), some (.int v3)] [.int (b2i (decide ((v3 - v3 / 2 * 2) = 1))), .int (b2i (decide (¬ (v3 < 2)))), .int v1] σ := by
          refine g_callS (rest := []) [.int v1, .int (b2i (decide (¬ (v3 < 2)))), .int (b2i (decide ((v3 - v3 / 2 * 2) = 1)))] hx hc mk_x_isRest ln_9_314 (by decide +kernel) (by decide) (Nat.le_of_ble_eq_true rfl) (s_x_isRest (ok_b h)) (fun r3 s3 h => ?_)
          refine g_ifb_eq hx (off := 6) (tgt := 57) (by decide +kernel) (by decide) (fun c51 => ?_) (fun c51 => ?_)
          · have h := ok_f h c51
            refine g_run hx [(.iinc 3 1, 1, 0)] (pc' := 60) (lo' := [none, some (.int v1), some (.int v2), some (.int (v3 + 1))]) (st' := []) (σ' := s3) (by decide +kernel) rfl rfl ?_
            refine g_goto hx (off := (-40)) (tgt := 20) (by decide +kernel) (by decide) ?_
            exact ih _ _ _ _ h
          · have h := ok_t h c51
            refine g_run hx [(.iinc 2 1, 1, 0), (.iinc 3 1, 1, 0)] (pc' := 60) (lo' := [none, some (.int v1), some (.int (v2 + 1)), some (.int (v3 + 1))]) (st' := []) (σ' := s3) (by decide +kernel) rfl rfl ?_
            refine g_goto hx (off := (-40)) (tgt := 20) (by decide +kernel) (by decide) ?_
            exact ih _ _ _ _ h
        refine g_ic_ne hx (off := 7) (tgt := 47) (by decide +kernel) (by decide) (fun c40 => ?_) (fun c40 => ?_)
        · refine g_run hx [(.iconst 0, 0, 0)] (pc' := 48) (lo' := [none, some (.int v1), some (.int v2), some (.int v3)]) (st' := [.int 0, .int (b2i (decide (¬ (v3 < 2)))), .int v1]) (σ' := σ) (by decide +kernel) rfl rfl ?_
          exact g_bf c40 hm
        · refine g_run hx [(.iconst 1, 1, 0)] (pc' := 44) (lo' := [none, some (.int v1), some (.int v2), some (.int v3)]) (st' := [.int 1, .int (b2i (decide (¬ (v3 < 2)))), .int v1]) (σ' := σ) (by decide +kernel) rfl rfl ?_
          refine g_goto hx (off := 4) (tgt := 48) (by decide +kernel) (by decide) ?_
          exact g_bt c40 hm
      refine g_ic_lt hx (off := 7) (tgt := 35) (by decide +kernel) (by decide) (fun c28 => ?_) (fun c28 => ?_)
      · refine g_run hx [(.iconst 0, 0, 0)] (pc' := 36) (lo' := [none, some (.int v1), some (.int v2), some (.int v3)]) (st' := [.int 0, .int v1]) (σ' := σ) (by decide +kernel) rfl rfl ?_
        exact g_bf (fun z => z c28) hm
      · refine g_run hx [(.iconst 1, 1, 0)] (pc' := 32) (lo' := [none, some (.int v1), some (.int v2), some (.int v3)]) (st' := [.int 1, .int v1]) (σ' := σ) (by decide +kernel) rfl rfl ?_
        refine g_goto hx (off := 4) (tgt := 36) (by decide +kernel) (by decide) ?_
        exact g_bt c28 hm
set_option maxRecDepth 100000 in
theorem s_x_rests {y : EX} {N : Nat} {v1 : Int32} {σ : Sg} {P : Int32 × Sg → Prop} (h : ok (f_x_rests N v1 σ) P) : Ev y M_x_rests 2 [.ref 0, .int v1] σ rvI P := by
  refine Ev.of mk_x_rests (Nat.le_of_ble_eq_true rfl) (fun x hx hc hr => ?_)
  have hx : Cx 9 prog_1_method_48_code x := hx
  have hc : Cc y 4 2 x := hc
  show G x 0 [some (.ref 0), some (.int v1), none, none] [] σ
  unfold f_x_rests at h
  refine g_run hx [(.aload_n 0, 0, 0), (.aload_n 0, 0, 0), (.iload_n 1, 0, 0), (.bipush 9, 9, 0)] (pc' := 5) (lo' := [some (.ref 0), some (.int v1), none, none]) (st' := [.int 9, .int v1, .ref 0, .ref 0]) (σ' := σ) (by decide +kernel) rfl rfl ?_
  refine g_callV (rest := [.ref 0]) [.int v1, .int 9] hx hc mk_x_numberTrouble ln_9_197 rfl (by decide +kernel) (by decide) (Nat.le_of_ble_eq_true rfl) (s_x_numberTrouble (ok_b h)) (fun r1 s1 h => ?_)
  refine g_callV (rest := []) [.int r1] hx hc mk_x_granted ln_9_83 rfl (by decide +kernel) (by decide) (Nat.le_of_ble_eq_true rfl) (s_x_granted (ok_b h)) (fun r2 s2 h => ?_)
  refine g_ifb_ne hx (off := 5) (tgt := 16) (by decide +kernel) (by decide) (fun c11 => ?_) (fun c11 => ?_)
  · have h := ok_t h c11
    refine g_run hx [(.iconst 0, 0, 0), (.istore_n 2, 0, 0), (.iconst 0, 0, 0), (.istore_n 3, 0, 0)] (pc' := 20) (lo' := [some (.ref 0), some (.int v1), some (.int 0), some (.int 0)]) (st' := []) (σ' := s2) (by decide +kernel) rfl rfl ?_
    refine g_wk (lo' := [none, some (.int v1), some (.int 0), some (.int 0)]) ⟨rfl, ⟨rfl, ⟨rfl, trivial⟩⟩⟩ ?_
    refine s_x_rests_L20 hx hc hr N _ _ _ _ h
  · have h := ok_f h c11
    refine g_run hx [(.iconst (-1), (-1), 0)] (pc' := 15) (lo' := [some (.ref 0), some (.int v1), none, none]) (st' := [.int (-1)]) (σ' := s2) (by decide +kernel) rfl rfl ?_
    exact g_iret hx hr rfl _ rfl (by decide +kernel) (ok_some h)
def f_x_makeRow_L13 (N : Nat) : Nat → Int32 → Int32 → Int32 → Sg → Option (Bool × Sg)
  | 0, _, _, _, _ => none
  | n + 1, v1, v2, v3, σ =>
    if v2 ≤ v3 then
      some (true, σ)
    else
      (f_x_digitOf N v1 v2 v3 σ).bind fun q2 =>
      (f_state_makeStride N 41 11 3 12 10 q2.1 q2.2).bind fun q3 =>
      if q3.1 = true then
        f_x_makeRow_L13 N n v1 v2 (v3 + 1) q3.2
      else
        some (false, q3.2)
def f_x_makeRow (N : Nat) (v1 : Int32) (v2 : Int32) (σ : Sg) : Option (Bool × Sg) :=
  (f_state_copy N σ).bind fun q1 =>
  f_x_makeRow_L13 N N v1 v2 0 q1.2
set_option maxRecDepth 100000 in
theorem s_x_makeRow_L13 {y : EX} {N : Nat} {x : CX} {P : Bool × Sg → Prop} (hx : Cx 9 prog_1_method_74_code x) (hc : Cc y 4 3 x) (hr : Cr M_x_makeRow rvB P x) : ∀ (n : Nat) (v1 : Int32) (v2 : Int32) (v3 : Int32) (σ : Sg), ok (f_x_makeRow_L13 N n v1 v2 v3 σ) P → G x 13 [some (.ref 0), some (.int v1), some (.int v2), some (.int v3)] [] σ := by
  intro n
  induction n with
  | zero => intro v1 v2 v3 σ h; exact ok_none h
  | succ n ih =>
    intro v1 v2 v3 σ h
    rw [f_x_makeRow_L13] at h
    refine g_run hx [(.iload_n 3, 0, 0), (.iload_n 2, 0, 0)] (pc' := 15) (lo' := [some (.ref 0), some (.int v1), some (.int v2), some (.int v3)]) (st' := [.int v2, .int v3]) (σ' := σ) (by decide +kernel) rfl rfl ?_
    refine g_ic_ge hx (off := 31) (tgt := 46) (by decide +kernel) (by decide) (fun c15 => ?_) (fun c15 => ?_)
    · have h := ok_t h c15
      refine g_run hx [(.iconst 1, 1, 0)] (pc' := 47) (lo' := [some (.ref 0), some (.int v1), some (.int v2), some (.int v3)]) (st' := [.int 1]) (σ' := σ) (by decide +kernel) rfl rfl ?_
      exact g_zret (b := true) hx hr rfl true rfl (by decide +kernel) (ok_some h)
    · have h := ok_f h c15
      refine g_run hx [(.aload_n 0, 0, 0), (.getfield 30, 0, 0), (.aload_n 0, 0, 0), (.getfield 19, 0, 0), (.iload_n 1, 0, 0), (.iload_n 2, 0, 0), (.iload_n 3, 0, 0)] (pc' := 29) (lo' := [some (.ref 0), some (.int v1), some (.int v2), some (.int v3)]) (st' := [.int v3, .int v2, .int v1, .ref 10, .ref 41]) (σ' := σ) (by decide +kernel) rfl rfl ?_
      refine g_callS (rest := [.ref 10, .ref 41]) [.int v1, .int v2, .int v3] hx hc mk_x_digitOf ln_9_241 (by decide +kernel) (by decide) (Nat.le_of_ble_eq_true rfl) (s_x_digitOf (ok_b h)) (fun r2 s2 h => ?_)
      refine g_callV (rest := []) [.ref 10, .int r2] hx hc mk_state_makeStride ln_9_340 rfl (by decide +kernel) (by decide) (Nat.le_of_ble_eq_true rfl) (s_state_makeStride_41_10 (ok_b h)) (fun r3 s3 h => ?_)
      refine g_ifb_ne hx (off := 5) (tgt := 40) (by decide +kernel) (by decide) (fun c35 => ?_) (fun c35 => ?_)
      · have h := ok_t h c35
        refine g_run hx [(.iinc 3 1, 1, 0)] (pc' := 43) (lo' := [some (.ref 0), some (.int v1), some (.int v2), some (.int (v3 + 1))]) (st' := []) (σ' := s3) (by decide +kernel) rfl rfl ?_
        refine g_goto hx (off := (-30)) (tgt := 13) (by decide +kernel) (by decide) ?_
        exact ih _ _ _ _ h
      · have h := ok_f h c35
        refine g_run hx [(.iconst 0, 0, 0)] (pc' := 39) (lo' := [some (.ref 0), some (.int v1), some (.int v2), some (.int v3)]) (st' := [.int 0]) (σ' := s3) (by decide +kernel) rfl rfl ?_
        exact g_zret (b := false) hx hr rfl false rfl (by decide +kernel) (ok_some h)
set_option maxRecDepth 100000 in
theorem s_x_makeRow {y : EX} {N : Nat} {v1 : Int32} {v2 : Int32} {σ : Sg} {P : Bool × Sg → Prop} (h : ok (f_x_makeRow N v1 v2 σ) P) : Ev y M_x_makeRow 3 [.ref 0, .int v1, .int v2] σ rvB P := by
  refine Ev.of mk_x_makeRow (Nat.le_of_ble_eq_true rfl) (fun x hx hc hr => ?_)
  have hx : Cx 9 prog_1_method_74_code x := hx
  have hc : Cc y 4 3 x := hc
  show G x 0 [some (.ref 0), some (.int v1), some (.int v2), none] [] σ
  unfold f_x_makeRow at h
  refine g_run hx [(.aload_n 0, 0, 0), (.getfield 30, 0, 0), (.aload_n 0, 0, 0), (.getfield 26, 0, 0)] (pc' := 8) (lo' := [some (.ref 0), some (.int v1), some (.int v2), none]) (st' := [.ref 40, .ref 41]) (σ' := σ) (by decide +kernel) rfl rfl ?_
  refine g_callV (rest := []) [.ref 40] hx hc mk_state_copy ln_9_204 rfl (by decide +kernel) (by decide) (Nat.le_of_ble_eq_true rfl) (s_state_copy (ok_b h)) (fun r1 s1 h => ?_)
  refine g_run hx [(.iconst 0, 0, 0), (.istore_n 3, 0, 0)] (pc' := 13) (lo' := [some (.ref 0), some (.int v1), some (.int v2), some (.int 0)]) (st' := []) (σ' := s1) (by decide +kernel) rfl rfl ?_
  refine s_x_makeRow_L13 hx hc hr N _ _ _ _ h
