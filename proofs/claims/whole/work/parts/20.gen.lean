def f_m_backIn_L24 (N : Nat) : Nat → Int32 → Int32 → Sg → Option (Int32 × Sg)
  | 0, _, _, _ => none
  | n + 1, v1, v2, σ =>
    if 60 < v2 then
      some ((-2), σ)
    else
      if vin v1 63 then
      if (gA σ 75 v1) = 0 then
        some (v2, σ)
      else
        (f_m_yearOn N 69 63 60 78 75 189 66 σ).bind fun q4 =>
        f_m_backIn_L24 N n v1 (v2 + 1) q4.2
      else none
def f_m_backIn (N : Nat) (v1 : Int32) (σ : Sg) : Option (Int32 × Sg) :=
  (f_m_anew N σ).bind fun q1 =>
  (f_m_isCell N v1 q1.2).bind fun q2 =>
  if q2.1 = true then
    (f_m_begin N q2.2).bind fun q3 =>
    f_m_backIn_L24 N N v1 0 q3.2
  else
    (f_m_no N 1 q2.2).bind fun q5 =>
    some (q5.1, q5.2)
set_option maxRecDepth 100000 in
theorem s_m_backIn_L24 {y : EX} {N : Nat} {x : CX} {P : Int32 × Sg → Prop} (hx : Cx 10 prog_12_method_70_code x) (hc : Cc y 3 2 x) (hr : Cr M_m_backIn rvI P x) : ∀ (n : Nat) (v1 : Int32) (v2 : Int32) (σ : Sg), ok (f_m_backIn_L24 N n v1 v2 σ) P → G x 24 [some (.ref 66), some (.int v1), some (.int v2)] [] σ := by
  intro n
  induction n with
  | zero => intro v1 v2 σ h; exact ok_none h
  | succ n ih =>
    intro v1 v2 σ h
    rw [f_m_backIn_L24] at h
    refine g_run hx [(.iload_n 2, 0, 0), (.bipush 60, 60, 0)] (pc' := 27) (lo' := [some (.ref 66), some (.int v1), some (.int v2)]) (st' := [.int 60, .int v2]) (σ' := σ) (by decide +kernel) rfl rfl ?_
    refine g_ic_gt hx (off := 29) (tgt := 56) (by decide +kernel) (by decide) (fun c27 => ?_) (fun c27 => ?_)
    · have h := ok_t h c27
      refine g_run hx [(.bipush (-2), (-2), 0)] (pc' := 58) (lo' := [some (.ref 66), some (.int v1), some (.int v2)]) (st' := [.int (-2)]) (σ' := σ) (by decide +kernel) rfl rfl ?_
      exact g_iret hx hr rfl _ rfl (by decide +kernel) (ok_some h)
    · have h := ok_f h c27
      refine g_run hx [(.aload_n 0, 0, 0), (.getfield 38, 0, 0), (.iload_n 1, 0, 0)] (pc' := 35) (lo' := [some (.ref 66), some (.int v1), some (.int v2)]) (st' := [.int v1, .ref 75]) (σ' := σ) (by decide +kernel) rfl rfl ?_
      obtain ⟨c35, h⟩ := ok_g h
      refine g_iald hx (by decide +kernel) (i := 75) (n := 63) rfl c35 ?_
      refine g_if_ne hx (off := 5) (tgt := 41) (by decide +kernel) (by decide) (fun c36 => ?_) (fun c36 => ?_)
      · have h := ok_f h c36
        refine g_run hx [(.aload_n 0, 0, 0), (.aload_n 0, 0, 0), (.getfield 38, 0, 0)] (pc' := 46) (lo' := [some (.ref 66), some (.int v1), some (.int v2)]) (st' := [.ref 75, .ref 66]) (σ' := σ) (by decide +kernel) rfl rfl ?_
        refine g_callV (rest := []) [.ref 75] hx hc mk_m_yearOn ln_10_275 rfl (by decide +kernel) (by decide) (Nat.le_of_ble_eq_true rfl) (s_m_yearOn_66_75 (ok_b h)) (fun r4 s4 h => ?_)
        refine g_run hx [(.pop, 0, 0), (.iinc 2 1, 1, 0)] (pc' := 53) (lo' := [some (.ref 66), some (.int v1), some (.int (v2 + 1))]) (st' := []) (σ' := s4) (by decide +kernel) rfl rfl ?_
        refine g_goto hx (off := (-29)) (tgt := 24) (by decide +kernel) (by decide) ?_
        exact ih _ _ _ h
      · have h := ok_t h c36
        refine g_run hx [(.iload_n 2, 0, 0)] (pc' := 40) (lo' := [some (.ref 66), some (.int v1), some (.int v2)]) (st' := [.int v2]) (σ' := σ) (by decide +kernel) rfl rfl ?_
        exact g_iret hx hr rfl _ rfl (by decide +kernel) (ok_some h)
set_option maxRecDepth 100000 in
theorem s_m_backIn {y : EX} {N : Nat} {v1 : Int32} {σ : Sg} {P : Int32 × Sg → Prop} (h : ok (f_m_backIn N v1 σ) P) : Ev y M_m_backIn 2 [.ref 66, .int v1] σ rvI P := by
  refine Ev.of mk_m_backIn (Nat.le_of_ble_eq_true rfl) (fun x hx hc hr => ?_)
  have hx : Cx 10 prog_12_method_70_code x := hx
  have hc : Cc y 3 2 x := hc
  show G x 0 [some (.ref 66), some (.int v1), none] [] σ
  unfold f_m_backIn at h
  refine g_run hx [(.aload_n 0, 0, 0)] (pc' := 1) (lo' := [some (.ref 66), some (.int v1), none]) (st' := [.ref 66]) (σ' := σ) (by decide +kernel) rfl rfl ?_
  refine g_callV (rest := []) [] hx hc mk_m_anew ln_10_174 rfl (by decide +kernel) (by decide) (Nat.le_of_ble_eq_true rfl) (s_m_anew (ok_b h)) (fun r1 s1 h => ?_)
  refine g_run hx [(.aload_n 0, 0, 0), (.iload_n 1, 0, 0)] (pc' := 6) (lo' := [some (.ref 66), some (.int v1), none]) (st' := [.int v1, .ref 66]) (σ' := s1) (by decide +kernel) rfl rfl ?_
  refine g_callV (rest := []) [.int v1] hx hc mk_m_isCell ln_10_279 rfl (by decide +kernel) (by decide) (Nat.le_of_ble_eq_true rfl) (s_m_isCell (ok_b h)) (fun r2 s2 h => ?_)
  refine g_ifb_ne hx (off := 9) (tgt := 18) (by decide +kernel) (by decide) (fun c9 => ?_) (fun c9 => ?_)
  · have h := ok_t h c9
    refine g_run hx [(.aload_n 0, 0, 0)] (pc' := 19) (lo' := [some (.ref 66), some (.int v1), none]) (st' := [.ref 66]) (σ' := s2) (by decide +kernel) rfl rfl ?_
    refine g_callV (rest := []) [] hx hc mk_m_begin ln_10_272 rfl (by decide +kernel) (by decide) (Nat.le_of_ble_eq_true rfl) (s_m_begin (ok_b h)) (fun r3 s3 h => ?_)
    refine g_run hx [(.iconst 0, 0, 0), (.istore_n 2, 0, 0)] (pc' := 24) (lo' := [some (.ref 66), some (.int v1), some (.int 0)]) (st' := []) (σ' := s3) (by decide +kernel) rfl rfl ?_
    refine s_m_backIn_L24 hx hc hr N _ _ _ h
  · have h := ok_f h c9
    refine g_run hx [(.aload_n 0, 0, 0), (.iconst 1, 1, 0)] (pc' := 14) (lo' := [some (.ref 66), some (.int v1), none]) (st' := [.int 1, .ref 66]) (σ' := s2) (by decide +kernel) rfl rfl ?_
    refine g_callV (rest := []) [.int 1] hx hc mk_m_no ln_10_177 rfl (by decide +kernel) (by decide) (Nat.le_of_ble_eq_true rfl) (s_m_no (ok_b h)) (fun r5 s5 h => ?_)
    exact g_iret hx hr rfl _ rfl (by decide +kernel) (ok_some h)
def f_m_goneFrom_L14 (N : Nat) : Nat → Int32 → Int32 → Int32 → Int32 → Sg → Option (Int32 × Sg)
  | 0, _, _, _, _, _ => none
  | n + 1, v1, v2, v3, v4, σ =>
    if v2 ≤ v1 then
      if v1 < v4 then
        some (v3, σ)
      else
        if vin v4 63 then
        if (gA σ 74 v4) ≤ 0 then
          f_m_goneFrom_L14 N n v1 v2 (v3 + 0) (v4 + 1) σ
        else
          f_m_goneFrom_L14 N n v1 v2 (v3 + 1) (v4 + 1) σ
        else none
    else
      if v2 < v4 then
        some (v3, σ)
      else
        if vin v4 63 then
        if (gA σ 74 v4) ≤ 0 then
          f_m_goneFrom_L14 N n v1 v2 (v3 + 0) (v4 + 1) σ
        else
          f_m_goneFrom_L14 N n v1 v2 (v3 + 1) (v4 + 1) σ
        else none
def f_m_goneFrom (N : Nat) (v1 : Int32) (v2 : Int32) (σ : Sg) : Option (Int32 × Sg) :=
  if v2 ≤ v1 then
    f_m_goneFrom_L14 N N v1 v2 0 v2 σ
  else
    f_m_goneFrom_L14 N N v1 v2 0 v1 σ
set_option maxRecDepth 100000 in
theorem s_m_goneFrom_L14 {y : EX} {N : Nat} {x : CX} {P : Int32 × Sg → Prop} (hx : Cx 10 prog_12_method_64_code x) (hc : Cc y 5 0 x) (hr : Cr M_m_goneFrom rvI P x) : ∀ (n : Nat) (v1 : Int32) (v2 : Int32) (v3 : Int32) (v4 : Int32) (σ : Sg), ok (f_m_goneFrom_L14 N n v1 v2 v3 v4 σ) P → G x 14 [some (.ref 66), some (.int v1), some (.int v2), some (.int v3), some (.int v4)] [] σ := by
  intro n
  induction n with
  | zero => intro v1 v2 v3 v4 σ h; exact ok_none h
  | succ n ih =>
    intro v1 v2 v3 v4 σ h
    rw [f_m_goneFrom_L14] at h
    refine g_run hx [(.iload 4, 0, 0), (.iload_n 1, 0, 0), (.iload_n 2, 0, 0)] (pc' := 18) (lo' := [some (.ref 66), some (.int v1), some (.int v2), some (.int v3), some (.int v4)]) (st' := [.int v2, .int v1, .int v4]) (σ' := σ) (by decide +kernel) rfl rfl ?_
    refine g_ic_ge hx (off := 7) (tgt := 25) (by decide +kernel) (by decide) (fun c18 => ?_) (fun c18 => ?_)
    · have h := ok_t h c18
      refine g_run hx [(.iload_n 1, 0, 0)] (pc' := 26) (lo' := [some (.ref 66), some (.int v1), some (.int v2), some (.int v3), some (.int v4)]) (st' := [.int v1, .int v4]) (σ' := σ) (by decide +kernel) rfl rfl ?_
      refine g_ic_gt hx (off := 27) (tgt := 53) (by decide +kernel) (by decide) (fun c26 => ?_) (fun c26 => ?_)
      · have h := ok_t h c26
        refine g_run hx [(.iload_n 3, 0, 0)] (pc' := 54) (lo' := [some (.ref 66), some (.int v1), some (.int v2), some (.int v3), some (.int v4)]) (st' := [.int v3]) (σ' := σ) (by decide +kernel) rfl rfl ?_
        exact g_iret hx hr rfl _ rfl (by decide +kernel) (ok_some h)
      · have h := ok_f h c26
        refine g_run hx [(.iload_n 3, 0, 0), (.aload_n 0, 0, 0), (.getfield 35, 0, 0), (.iload 4, 0, 0)] (pc' := 36) (lo' := [some (.ref 66), some (.int v1), some (.int v2), some (.int v3), some (.int v4)]) (st' := [.int v4, .ref 74, .int v3]) (σ' := σ) (by decide +kernel) rfl rfl ?_
        obtain ⟨c36, h⟩ := ok_g h
        refine g_iald hx (by decide +kernel) (i := 74) (n := 63) rfl c36 ?_
        refine g_if_le hx (off := 7) (tgt := 44) (by decide +kernel) (by decide) (fun c37 => ?_) (fun c37 => ?_)
        · have h := ok_t h c37
          refine g_run hx [(.iconst 0, 0, 0), (.iadd, 0, 0), (.istore_n 3, 0, 0), (.iinc 4 1, 1, 0)] (pc' := 50) (lo' := [some (.ref 66), some (.int v1), some (.int v2), some (.int (v3 + 0)), some (.int (v4 + 1))]) (st' := []) (σ' := σ) (by decide +kernel) rfl rfl ?_
          refine g_goto hx (off := (-36)) (tgt := 14) (by decide +kernel) (by decide) ?_
          exact ih _ _ _ _ _ h
        · have h := ok_f h c37
          refine g_run hx [(.iconst 1, 1, 0)] (pc' := 41) (lo' := [some (.ref 66), some (.int v1), some (.int v2), some (.int v3), some (.int v4)]) (st' := [.int 1, .int v3]) (σ' := σ) (by decide +kernel) rfl rfl ?_
          refine g_goto hx (off := 4) (tgt := 45) (by decide +kernel) (by decide) ?_
          refine g_run hx [(.iadd, 0, 0), (.istore_n 3, 0, 0), (.iinc 4 1, 1, 0)] (pc' := 50) (lo' := [some (.ref 66), some (.int v1), some (.int v2), some (.int (v3 + 1)), some (.int (v4 + 1))]) (st' := []) (σ' := σ) (by decide +kernel) rfl rfl ?_
          refine g_goto hx (off := (-36)) (tgt := 14) (by decide +kernel) (by decide) ?_
          exact ih _ _ _ _ _ h
    · have h := ok_f h c18
      refine g_run hx [(.iload_n 2, 0, 0)] (pc' := 22) (lo' := [some (.ref 66), some (.int v1), some (.int v2), some (.int v3), some (.int v4)]) (st' := [.int v2, .int v4]) (σ' := σ) (by decide +kernel) rfl rfl ?_
      refine g_goto hx (off := 4) (tgt := 26) (by decide +kernel) (by decide) ?_
      refine g_ic_gt hx (off := 27) (tgt := 53) (by decide +kernel) (by decide) (fun c26 => ?_) (fun c26 => ?_)
      · have h := ok_t h c26
        refine g_run hx [(.iload_n 3, 0, 0)] (pc' := 54) (lo' := [some (.ref 66), some (.int v1), some (.int v2), some (.int v3), some (.int v4)]) (st' := [.int v3]) (σ' := σ) (by decide +kernel) rfl rfl ?_
        exact g_iret hx hr rfl _ rfl (by decide +kernel) (ok_some h)
      · have h := ok_f h c26
        refine g_run hx [(.iload_n 3, 0, 0), (.aload_n 0, 0, 0), (.getfield 35, 0, 0), (.iload 4, 0, 0)] (pc' := 36) (lo' := [some (.ref 66), some (.int v1), some (.int v2), some (.int v3), some (.int v4)]) (st' := [.int v4, .ref 74, .int v3]) (σ' := σ) (by decide +kernel) rfl rfl ?_
        obtain ⟨c36, h⟩ := ok_g h
        refine g_iald hx (by decide +kernel) (i := 74) (n := 63) rfl c36 ?_
        refine g_if_le hx (off := 7) (tgt := 44) (by decide +kernel) (by decide) (fun c37 => ?_) (fun c37 => ?_)
        · have h := ok_t h c37
          refine g_run hx [(.iconst 0, 0, 0), (.iadd, 0, 0), (.istore_n 3, 0, 0), (.iinc 4 1, 1, 0)] (pc' := 50) (lo' := [some (.ref 66), some (.int v1), some (.int v2), some (.int (v3 + 0)), some (.int (v4 + 1))]) (st' := []) (σ' := σ) (by decide +kernel) rfl rfl ?_
          refine g_goto hx (off := (-36)) (tgt := 14) (by decide +kernel) (by decide) ?_
          exact ih _ _ _ _ _ h
        · have h := ok_f h c37
          refine g_run hx [(.iconst 1, 1, 0)] (pc' := 41) (lo' := [some (.ref 66), some (.int v1), some (.int v2), some (.int v3), some (.int v4)]) (st' := [.int 1, .int v3]) (σ' := σ) (by decide +kernel) rfl rfl ?_
          refine g_goto hx (off := 4) (tgt := 45) (by decide +kernel) (by decide) ?_
          refine g_run hx [(.iadd, 0, 0), (.istore_n 3, 0, 0), (.iinc 4 1, 1, 0)] (pc' := 50) (lo' := [some (.ref 66), some (.int v1), some (.int v2), some (.int (v3 + 1)), some (.int (v4 + 1))]) (st' := []) (σ' := σ) (by decide +kernel) rfl rfl ?_
          refine g_goto hx (off := (-36)) (tgt := 14) (by decide +kernel) (by decide) ?_
          exact ih _ _ _ _ _ h
set_option maxRecDepth 100000 in
theorem s_m_goneFrom {y : EX} {N : Nat} {v1 : Int32} {v2 : Int32} {σ : Sg} {P : Int32 × Sg → Prop} (h : ok (f_m_goneFrom N v1 v2 σ) P) : Ev y M_m_goneFrom 0 [.ref 66, .int v1, .int v2] σ rvI P := by
  refine Ev.of mk_m_goneFrom (Nat.le_of_ble_eq_true rfl) (fun x hx hc hr => ?_)
  have hx : Cx 10 prog_12_method_64_code x := hx
  have hc : Cc y 5 0 x := hc
  show G x 0 [some (.ref 66), some (.int v1), some (.int v2), none, none] [] σ
  unfold f_m_goneFrom at h
  refine g_run hx [(.iconst 0, 0, 0), (.istore_n 3, 0, 0), (.iload_n 1, 0, 0), (.iload_n 2, 0, 0)] (pc' := 4) (lo' := [some (.ref 66), some (.int v1), some (.int v2), some (.int 0), none]) (st' := [.int v2, .int v1]) (σ' := σ) (by decide +kernel) rfl rfl ?_
  refine g_ic_ge hx (off := 7) (tgt := 11) (by decide +kernel) (by decide) (fun c4 => ?_) (fun c4 => ?_)
  · have h := ok_t h c4
    refine g_run hx [(.iload_n 2, 0, 0), (.istore 4, 0, 0)] (pc' := 14) (lo' := [some (.ref 66), some (.int v1), some (.int v2), some (.int 0), some (.int v2)]) (st' := []) (σ' := σ) (by decide +kernel) rfl rfl ?_
    refine s_m_goneFrom_L14 hx hc hr N _ _ _ _ _ h
  · have h := ok_f h c4
    refine g_run hx [(.iload_n 1, 0, 0)] (pc' := 8) (lo' := [some (.ref 66), some (.int v1), some (.int v2), some (.int 0), none]) (st' := [.int v1]) (σ' := σ) (by decide +kernel) rfl rfl ?_
    refine g_goto hx (off := 4) (tgt := 12) (by decide +kernel) (by decide) ?_
    refine g_run hx [(.istore 4, 0, 0)] (pc' := 14) (lo' := [some (.ref 66), some (.int v1), some (.int v2), some (.int 0), some (.int v1)]) (st' := []) (σ' := σ) (by decide +kernel) rfl rfl ?_
    refine s_m_goneFrom_L14 hx hc hr N _ _ _ _ _ h
def f_m_between (N : Nat) (v1 : Int32) (v2 : Int32) (σ : Sg) : Option (Int32 × Sg) :=
  (f_m_anew N σ).bind fun q1 =>
  (f_m_isCell N v1 q1.2).bind fun q2 =>
  if q2.1 = true then
    (f_m_isCell N v2 q2.2).bind fun q4 =>
    if q4.1 = true then
      (f_m_goneFrom N v1 v2 q4.2).bind fun q6 =>
      some (q6.1, q6.2)
    else
      (f_m_no N 1 q4.2).bind fun q5 =>
      some (q5.1, q5.2)
  else
    (f_m_no N 1 q2.2).bind fun q3 =>
    some (q3.1, q3.2)
set_option maxRecDepth 100000 in
theorem s_m_between {y : EX} {N : Nat} {v1 : Int32} {v2 : Int32} {σ : Sg} {P : Int32 × Sg → Prop} (h : ok (f_m_between N v1 v2 σ) P) : Ev y M_m_between 2 [.ref 66, .int v1, .int v2] σ rvI P := by
  refine Ev.of mk_m_between (Nat.le_of_ble_eq_true rfl) (fun x hx hc hr => ?_)
  have hx : Cx 10 prog_12_method_65_code x := hx
  have hc : Cc y 3 2 x := hc
  show G x 0 [some (.ref 66), some (.int v1), some (.int v2)] [] σ
  unfold f_m_between at h
  refine g_run hx [(.aload_n 0, 0, 0)] (pc' := 1) (lo' := [some (.ref 66), some (.int v1), some (.int v2)]) (st' := [.ref 66]) (σ' := σ) (by decide +kernel) rfl rfl ?_
  refine g_callV (rest := []) [] hx hc mk_m_anew ln_10_174 rfl (by decide +kernel) (by decide) (Nat.le_of_ble_eq_true rfl) (s_m_anew (ok_b h)) (fun r1 s1 h => ?_)
  refine g_run hx [(.aload_n 0, 0, 0), (.iload_n 1, 0, 0)] (pc' := 6) (lo' := [some (.ref 66), some (.int v1), some (.int v2)]) (st' := [.int v1, .ref 66]) (σ' := s1) (by decide +kernel) rfl rfl ?_
  refine g_callV (rest := []) [.int v1] hx hc mk_m_isCell ln_10_279 rfl (by decide +kernel) (by decide) (Nat.le_of_ble_eq_true rfl) (s_m_isCell (ok_b h)) (fun r2 s2 h => ?_)
  refine g_ifb_eq hx (off := 20) (tgt := 29) (by decide +kernel) (by decide) (fun c9 => ?_) (fun c9 => ?_)
  · have h := ok_f h c9
    refine g_run hx [(.aload_n 0, 0, 0), (.iconst 1, 1, 0)] (pc' := 31) (lo' := [some (.ref 66), some (.int v1), some (.int v2)]) (st' := [.int 1, .ref 66]) (σ' := s2) (by decide +kernel) rfl rfl ?_
    refine g_callV (rest := []) [.int 1] hx hc mk_m_no ln_10_177 rfl (by decide +kernel) (by decide) (Nat.le_of_ble_eq_true rfl) (s_m_no (ok_b h)) (fun r3 s3 h => ?_)
    exact g_iret hx hr rfl _ rfl (by decide +kernel) (ok_some h)
  · have h := ok_t h c9
    refine g_run hx [(.aload_n 0, 0, 0), (.iload_n 2, 0, 0)] (pc' := 14) (lo' := [some (.ref 66), some (.int v1), some (.int v2)]) (st' := [.int v2, .ref 66]) (σ' := s2) (by decide +kernel) rfl rfl ?_
    refine g_callV (rest := []) [.int v2] hx hc mk_m_isCell ln_10_279 rfl (by decide +kernel) (by decide) (Nat.le_of_ble_eq_true rfl) (s_m_isCell (ok_b h)) (fun r4 s4 h => ?_)
    refine g_ifb_eq hx (off := 12) (tgt := 29) (by decide +kernel) (by decide) (fun c17 => ?_) (fun c17 => ?_)
    · have h := ok_f h c17
      refine g_run hx [(.aload_n 0, 0, 0), (.iconst 1, 1, 0)] (pc' := 31) (lo' := [some (.ref 66), some (.int v1), some (.int v2)]) (st' := [.int 1, .ref 66]) (σ' := s4) (by decide +kernel) rfl rfl ?_
      refine g_callV (rest := []) [.int 1] hx hc mk_m_no ln_10_177 rfl (by decide +kernel) (by decide) (Nat.le_of_ble_eq_true rfl) (s_m_no (ok_b h)) (fun r5 s5 h => ?_)
      exact g_iret hx hr rfl _ rfl (by decide +kernel) (ok_some h)
    · have h := ok_t h c17
      refine g_run hx [(.aload_n 0, 0, 0), (.iload_n 1, 0, 0), (.iload_n 2, 0, 0)] (pc' := 23) (lo' := [some (.ref 66), some (.int v1), some (.int v2)]) (st' := [.int v2, .int v1, .ref 66]) (σ' := s4) (by decide +kernel) rfl rfl ?_
      refine g_callV (rest := []) [.int v1, .int v2] hx hc mk_m_goneFrom ln_10_310 rfl (by decide +kernel) (by decide) (Nat.le_of_ble_eq_true rfl) (s_m_goneFrom (ok_b h)) (fun r6 s6 h => ?_)
      refine g_goto hx (off := 8) (tgt := 34) (by decide +kernel) (by decide) ?_
      exact g_iret hx hr rfl _ rfl (by decide +kernel) (ok_some h)
def f_m_isBoots (N : Nat) (v1 : Int32) (σ : Sg) : Option (Bool × Sg) :=
  if (gI σ 66 14) = 0 then
    some (false, σ)
  else
    (f_m_in N v1 0 ((gA σ 69 2) - 1) σ).bind fun q1 =>
    if q1.1 = true then
      some (true, q1.2)
    else
      some (false, q1.2)
set_option maxRecDepth 100000 in
theorem s_m_isBoots {y : EX} {N : Nat} {v1 : Int32} {σ : Sg} {P : Bool × Sg → Prop} (h : ok (f_m_isBoots N v1 σ) P) : Ev y M_m_isBoots 1 [.ref 66, .int v1] σ rvB P := by
  refine Ev.of mk_m_isBoots (Nat.le_of_ble_eq_true rfl) (fun x hx hc hr => ?_)
  have hx : Cx 10 prog_12_method_41_code x := hx
  have hc : Cc y 2 1 x := hc
  show G x 0 [some (.ref 66), some (.int v1)] [] σ
  unfold f_m_isBoots at h
  refine g_run hx [(.aload_n 0, 0, 0), (.getfield 187, 0, 0)] (pc' := 4) (lo' := [some (.ref 66), some (.int v1)]) (st' := [.int (gI σ 66 14)]) (σ' := σ) (by decide +kernel) rfl rfl ?_
  refine g_if_eq hx (off := 23) (tgt := 27) (by decide +kernel) (by decide) (fun c4 => ?_) (fun c4 => ?_)
  · have h := ok_t h c4
    refine g_run hx [(.iconst 0, 0, 0)] (pc' := 28) (lo' := [some (.ref 66), some (.int v1)]) (st' := [.int 0]) (σ' := σ) (by decide +kernel) rfl rfl ?_
    exact g_zret (b := false) hx hr rfl false rfl (by decide +kernel) (ok_some h)
  · have h := ok_f h c4
    refine g_run hx [(.iload_n 1, 0, 0), (.iconst 0, 0, 0), (.aload_n 0, 0, 0), (.getfield 20, 0, 0), (.iconst 2, 2, 0), (.iaload, 0, 0), (.iconst 1, 1, 0), (.isub, 0, 0)] (pc' := 17) (lo' := [some (.ref 66), some (.int v1)]) (st' := [.int ((gA σ 69 2) - 1), .int 0, .int v1]) (σ' := σ) (by decide +kernel) rfl rfl ?_
    refine g_callS (rest := []) [.int v1, .int 0, .int ((gA σ 69 2) - 1)] hx hc mk_m_in ln_10_156 (by decide +kernel) (by decide) (Nat.le_of_ble_eq_true rfl) (s_m_in (ok_b h)) (fun r1 s1 h => ?_)
    refine g_ifb_eq hx (off := 7) (tgt := 27) (by decide +kernel) (by decide) (fun c20 => ?_) (fun c20 => ?_)
    · have h := ok_f h c20
      refine g_run hx [(.iconst 0, 0, 0)] (pc' := 28) (lo' := [some (.ref 66), some (.int v1)]) (st' := [.int 0]) (σ' := s1) (by decide +kernel) rfl rfl ?_
      exact g_zret (b := false) hx hr rfl false rfl (by decide +kernel) (ok_some h)
    · have h := ok_t h c20
      refine g_run hx [(.iconst 1, 1, 0)] (pc' := 24) (lo' := [some (.ref 66), some (.int v1)]) (st' := [.int 1]) (σ' := s1) (by decide +kernel) rfl rfl ?_
      refine g_goto hx (off := 4) (tgt := 28) (by decide +kernel) (by decide) ?_
      exact g_zret (b := true) hx hr rfl true rfl (by decide +kernel) (ok_some h)
def f_m_boots (N : Nat) (v1 : Int32) (σ : Sg) : Option (Int32 × Sg) :=
  (f_m_anew N σ).bind fun q1 =>
  (f_m_isBoots N v1 q1.2).bind fun q2 =>
  if q2.1 = true then
    if vin (9 + v1) 189 then
    some ((gA q2.2 69 (9 + v1)), q2.2)
    else none
  else
    (f_m_no N 1 q2.2).bind fun q3 =>
    some (q3.1, q3.2)
set_option maxRecDepth 100000 in
theorem s_m_boots {y : EX} {N : Nat} {v1 : Int32} {σ : Sg} {P : Int32 × Sg → Prop} (h : ok (f_m_boots N v1 σ) P) : Ev y M_m_boots 2 [.ref 66, .int v1] σ rvI P := by
  refine Ev.of mk_m_boots (Nat.le_of_ble_eq_true rfl) (fun x hx hc hr => ?_)
  have hx : Cx 10 prog_12_method_55_code x := hx
  have hc : Cc y 2 2 x := hc
  show G x 0 [some (.ref 66), some (.int v1)] [] σ
  unfold f_m_boots at h
  refine g_run hx [(.aload_n 0, 0, 0)] (pc' := 1) (lo' := [some (.ref 66), some (.int v1)]) (st' := [.ref 66]) (σ' := σ) (by decide +kernel) rfl rfl ?_
  refine g_callV (rest := []) [] hx hc mk_m_anew ln_10_174 rfl (by decide +kernel) (by decide) (Nat.le_of_ble_eq_true rfl) (s_m_anew (ok_b h)) (fun r1 s1 h => ?_)
  refine g_run hx [(.aload_n 0, 0, 0), (.iload_n 1, 0, 0)] (pc' := 6) (lo' := [some (.ref 66), some (.int v1)]) (st' := [.int v1, .ref 66]) (σ' := s1) (by decide +kernel) rfl rfl ?_
  refine g_callV (rest := []) [.int v1] hx hc mk_m_isBoots ln_10_288 rfl (by decide +kernel) (by decide) (Nat.le_of_ble_eq_true rfl) (s_m_isBoots (ok_b h)) (fun r2 s2 h => ?_)
  refine g_ifb_eq hx (off := 15) (tgt := 24) (by decide +kernel) (by decide) (fun c9 => ?_) (fun c9 => ?_)
  · have h := ok_f h c9
    refine g_run hx [(.aload_n 0, 0, 0), (.iconst 1, 1, 0)] (pc' := 26) (lo' := [some (.ref 66), some (.int v1)]) (st' := [.int 1, .ref 66]) (σ' := s2) (by decide +kernel) rfl rfl ?_
    refine g_callV (rest := []) [.int 1] hx hc mk_m_no ln_10_177 rfl (by decide +kernel) (by decide) (Nat.le_of_ble_eq_true rfl) (s_m_no (ok_b h)) (fun r3 s3 h => ?_)
    exact g_iret hx hr rfl _ rfl (by decide +kernel) (ok_some h)
  · have h := ok_t h c9
    refine g_run hx [(.aload_n 0, 0, 0), (.getfield 20, 0, 0), (.bipush 9, 9, 0), (.iload_n 1, 0, 0), (.iadd, 0, 0)] (pc' := 20) (lo' := [some (.ref 66), some (.int v1)]) (st' := [.int (9 + v1), .ref 69]) (σ' := s2) (by decide +kernel) rfl rfl ?_
    obtain ⟨c20, h⟩ := ok_g h
    refine g_iald hx (by decide +kernel) (i := 69) (n := 189) rfl c20 ?_
    refine g_goto hx (off := 8) (tgt := 29) (by decide +kernel) (by decide) ?_
    exact g_iret hx hr rfl _ rfl (by decide +kernel) (ok_some h)
def f_m_placeAt_L2 (N : Nat) : Nat → Int32 → Int32 → Sg → Option (Int32 × Sg)
  | 0, _, _, _ => none
  | n + 1, v1, v2, σ =>
    if (gA σ 69 3) ≤ v2 then
      some ((-2), σ)
    else
      if vin (12 + (2 * v2)) 189 then
      if (gA σ 69 (12 + (2 * v2))) = v1 then
        some (v2, σ)
      else
        f_m_placeAt_L2 N n v1 (v2 + 1) σ
      else none
def f_m_placeAt (N : Nat) (v1 : Int32) (σ : Sg) : Option (Int32 × Sg) :=
  f_m_placeAt_L2 N N v1 0 σ
set_option maxRecDepth 100000 in
theorem s_m_placeAt_L2 {y : EX} {N : Nat} {x : CX} {P : Int32 × Sg → Prop} (hx : Cx 10 prog_12_method_52_code x) (hc : Cc y 3 0 x) (hr : Cr M_m_placeAt rvI P x) : ∀ (n : Nat) (v1 : Int32) (v2 : Int32) (σ : Sg), ok (f_m_placeAt_L2 N n v1 v2 σ) P → G x 2 [some (.ref 66), some (.int v1), some (.int v2)] [] σ := by
  intro n
  induction n with
  | zero => intro v1 v2 σ h; exact ok_none h
  | succ n ih =>
    intro v1 v2 σ h
    rw [f_m_placeAt_L2] at h
    refine g_run hx [(.iload_n 2, 0, 0), (.aload_n 0, 0, 0), (.getfield 20, 0, 0), (.iconst 3, 3, 0), (.iaload, 0, 0)] (pc' := 9) (lo' := [some (.ref 66), some (.int v1), some (.int v2)]) (st' := [.int (gA σ 69 3), .int v2]) (σ' := σ) (by decide +kernel) rfl rfl ?_
    refine g_ic_ge hx (off := 26) (tgt := 35) (by decide +kernel) (by decide) (fun c9 => ?_) (fun c9 => ?_)
    · have h := ok_t h c9
      refine g_run hx [(.bipush (-2), (-2), 0)] (pc' := 37) (lo' := [some (.ref 66), some (.int v1), some (.int v2)]) (st' := [.int (-2)]) (σ' := σ) (by decide +kernel) rfl rfl ?_
      exact g_iret hx hr rfl _ rfl (by decide +kernel) (ok_some h)
    · have h := ok_f h c9
      refine g_run hx [(.aload_n 0, 0, 0), (.getfield 20, 0, 0), (.bipush 12, 12, 0), (.iconst 2, 2, 0), (.iload_n 2, 0, 0), (.imul, 0, 0), (.iadd, 0, 0)] (pc' := 22) (lo' := [some (.ref 66), some (.int v1), some (.int v2)]) (st' := [.int (12 + (2 * v2)), .ref 69]) (σ' := σ) (by decide +kernel) rfl rfl ?_
      obtain ⟨c22, h⟩ := ok_g h
      refine g_iald hx (by decide +kernel) (i := 69) (n := 189) rfl c22 ?_
      refine g_run hx [(.iload_n 1, 0, 0)] (pc' := 24) (lo' := [some (.ref 66), some (.int v1), some (.int v2)]) (st' := [.int v1, .int (gA σ 69 (12 + (2 * v2)))]) (σ' := σ) (by decide +kernel) rfl rfl ?_
      refine g_ic_ne hx (off := 5) (tgt := 29) (by decide +kernel) (by decide) (fun c24 => ?_) (fun c24 => ?_)
      · have h := ok_f h c24
        refine g_run hx [(.iinc 2 1, 1, 0)] (pc' := 32) (lo' := [some (.ref 66), some (.int v1), some (.int (v2 + 1))]) (st' := []) (σ' := σ) (by decide +kernel) rfl rfl ?_
        refine g_goto hx (off := (-30)) (tgt := 2) (by decide +kernel) (by decide) ?_
        exact ih _ _ _ h
      · have h := ok_t h c24
        refine g_run hx [(.iload_n 2, 0, 0)] (pc' := 28) (lo' := [some (.ref 66), some (.int v1), some (.int v2)]) (st' := [.int v2]) (σ' := σ) (by decide +kernel) rfl rfl ?_
        exact g_iret hx hr rfl _ rfl (by decide +kernel) (ok_some h)
set_option maxRecDepth 100000 in
theorem s_m_placeAt {y : EX} {N : Nat} {v1 : Int32} {σ : Sg} {P : Int32 × Sg → Prop} (h : ok (f_m_placeAt N v1 σ) P) : Ev y M_m_placeAt 0 [.ref 66, .int v1] σ rvI P := by
  refine Ev.of mk_m_placeAt (Nat.le_of_ble_eq_true rfl) (fun x hx hc hr => ?_)
  have hx : Cx 10 prog_12_method_52_code x := hx
  have hc : Cc y 3 0 x := hc
  show G x 0 [some (.ref 66), some (.int v1), none] [] σ
  unfold f_m_placeAt at h
  refine g_run hx [(.iconst 0, 0, 0), (.istore_n 2, 0, 0)] (pc' := 2) (lo' := [some (.ref 66), some (.int v1), some (.int 0)]) (st' := []) (σ' := σ) (by decide +kernel) rfl rfl ?_
  refine s_m_placeAt_L2 hx hc hr N _ _ _ h
def f_m_cell (N : Nat) (v1 : Int32) (v2 : Int32) (σ : Sg) : Option (Int32 × Sg) :=
  (f_m_anew N σ).bind fun q1 =>
  (f_m_isCell N v1 q1.2).bind fun q2 =>
  if q2.1 = true then
    (f_m_in N v2 0 3 q2.2).bind fun q4 =>
    if q4.1 = true then
      if v2 = 0 then
        if vin (129 + v1) 189 then
        some ((gA q4.2 69 (129 + v1)), q4.2)
        else none
      else if v2 = 1 then
        if vin v1 63 then
        some ((gA q4.2 74 v1), q4.2)
        else none
      else if v2 = 2 then
        (f_m_placeAt N v1 q4.2).bind fun q5 =>
        some (q5.1, q5.2)
      else 
        if (gA q4.2 74 61) = v1 then
          some (((b2i (decide ((gA q4.2 74 60) = v1))) + 2), q4.2)
        else
          some (((b2i (decide ((gA q4.2 74 60) = v1))) + 0), q4.2)
    else
      (f_m_no N 1 q4.2).bind fun q6 =>
      some (q6.1, q6.2)
  else
    (f_m_no N 1 q2.2).bind fun q3 =>
    some (q3.1, q3.2)
set_option maxRecDepth 100000 in
theorem s_m_cell {y : EX} {N : Nat} {v1 : Int32} {v2 : Int32} {σ : Sg} {P : Int32 × Sg → Prop} (h : ok (f_m_cell N v1 v2 σ) P) : Ev y M_m_cell 2 [.ref 66, .int v1, .int v2] σ rvI P := by
  refine Ev.of mk_m_cell (Nat.le_of_ble_eq_true rfl) (fun x hx hc hr => ?_)
  have hx : Cx 10 prog_12_method_53_code x := hx
  have hc : Cc y 3 2 x := hc
  show G x 0 [some (.ref 66), some (.int v1), some (.int v2)] [] σ
  unfold f_m_cell at h
  refine g_run hx [(.aload_n 0, 0, 0)] (pc' := 1) (lo' := [some (.ref 66), some (.int v1), some (.int v2)]) (st' := [.ref 66]) (σ' := σ) (by decide +kernel) rfl rfl ?_
  refine g_callV (rest := []) [] hx hc mk_m_anew ln_10_174 rfl (by decide +kernel) (by decide) (Nat.le_of_ble_eq_true rfl) (s_m_anew (ok_b h)) (fun r1 s1 h => ?_)
  refine g_run hx [(.aload_n 0, 0, 0), (.iload_n 1, 0, 0)] (pc' := 6) (lo' := [some (.ref 66), some (.int v1), some (.int v2)]) (st' := [.int v1, .ref 66]) (σ' := s1) (by decide +kernel) rfl rfl ?_
  refine g_callV (rest := []) [.int v1] hx hc mk_m_isCell ln_10_279 rfl (by decide +kernel) (by decide) (Nat.le_of_ble_eq_true rfl) (s_m_isCell (ok_b h)) (fun r2 s2 h => ?_)
  refine g_ifb_eq hx (off := 12) (tgt := 21) (by decide +kernel) (by decide) (fun c9 => ?_) (fun c9 => ?_)
  · have h := ok_f h c9
    refine g_run hx [(.aload_n 0, 0, 0), (.iconst 1, 1, 0)] (pc' := 23) (lo' := [some (.ref 66), some (.int v1), some (.int v2)]) (st' := [.int 1, .ref 66]) (σ' := s2) (by decide +kernel) rfl rfl ?_
    refine g_callV (rest := []) [.int 1] hx hc mk_m_no ln_10_177 rfl (by decide +kernel) (by decide) (Nat.le_of_ble_eq_true rfl) (s_m_no (ok_b h)) (fun r3 s3 h => ?_)
    exact g_iret hx hr rfl _ rfl (by decide +kernel) (ok_some h)
  · have h := ok_t h c9
    refine g_run hx [(.iload_n 2, 0, 0), (.iconst 0, 0, 0), (.iconst 3, 3, 0)] (pc' := 15) (lo' := [some (.ref 66), some (.int v1), some (.int v2)]) (st' := [.int 3, .int 0, .int v2]) (σ' := s2) (by decide +kernel) rfl rfl ?_
    refine g_callS (rest := []) [.int v2, .int 0, .int 3] hx hc mk_m_in ln_10_156 (by decide +kernel) (by decide) (Nat.le_of_ble_eq_true rfl) (s_m_in (ok_b h)) (fun r4 s4 h => ?_)
    refine g_ifb_ne hx (off := 9) (tgt := 27) (by decide +kernel) (by decide) (fun c18 => ?_) (fun c18 => ?_)
    · have h := ok_t h c18
      refine g_run hx [(.iload_n 2, 0, 0)] (pc' := 28) (lo' := [some (.ref 66), some (.int v1), some (.int v2)]) (st' := [.int v2]) (σ' := s4) (by decide +kernel) rfl rfl ?_
      by_cases c28_0 : v2 = 0
      · have h := ok_t h c28_0
        refine g_tin hx (dflt := 52) (lo := 0) (hi := 2) (offs := #[28, 39, 46]) (len := 28) (off := 28) (tgt := 56) (v := 0) (by decide +kernel) c28_0 (by decide +kernel) (by decide +kernel) (by decide +kernel) (by decide) ?_
        refine g_run hx [(.aload_n 0, 0, 0), (.getfield 20, 0, 0), (.sipush 129, 129, 0), (.iload_n 1, 0, 0), (.iadd, 0, 0)] (pc' := 65) (lo' := [some (.ref 66), some (.int v1), some (.int v2)]) (st' := [.int (129 + v1), .ref 69]) (σ' := s4) (by decide +kernel) rfl rfl ?_
        obtain ⟨c65, h⟩ := ok_g h
        refine g_iald hx (by decide +kernel) (i := 69) (n := 189) rfl c65 ?_
        exact g_iret hx hr rfl _ rfl (by decide +kernel) (ok_some h)
      have h := ok_f h c28_0
      by_cases c28_1 : v2 = 1
      · have h := ok_t h c28_1
        refine g_tin hx (dflt := 52) (lo := 0) (hi := 2) (offs := #[28, 39, 46]) (len := 28) (off := 39) (tgt := 67) (v := 1) (by decide +kernel) c28_1 (by decide +kernel) (by decide +kernel) (by decide +kernel) (by decide) ?_
        refine g_run hx [(.aload_n 0, 0, 0), (.getfield 35, 0, 0), (.iload_n 1, 0, 0)] (pc' := 72) (lo' := [some (.ref 66), some (.int v1), some (.int v2)]) (st' := [.int v1, .ref 74]) (σ' := s4) (by decide +kernel) rfl rfl ?_
        obtain ⟨c72, h⟩ := ok_g h
        refine g_iald hx (by decide +kernel) (i := 74) (n := 63) rfl c72 ?_
        exact g_iret hx hr rfl _ rfl (by decide +kernel) (ok_some h)
      have h := ok_f h c28_1
      by_cases c28_2 : v2 = 2
      · have h := ok_t h c28_2
        refine g_tin hx (dflt := 52) (lo := 0) (hi := 2) (offs := #[28, 39, 46]) (len := 28) (off := 46) (tgt := 74) (v := 2) (by decide +kernel) c28_2 (by decide +kernel) (by decide +kernel) (by decide +kernel) (by decide) ?_
        refine g_run hx [(.aload_n 0, 0, 0), (.iload_n 1, 0, 0)] (pc' := 76) (lo' := [some (.ref 66), some (.int v1), some (.int v2)]) (st' := [.int v1, .ref 66]) (σ' := s4) (by decide +kernel) rfl rfl ?_
        refine g_callV (rest := []) [.int v1] hx hc mk_m_placeAt ln_10_282 rfl (by decide +kernel) (by decide) (Nat.le_of_ble_eq_true rfl) (s_m_placeAt (ok_b h)) (fun r5 s5 h => ?_)
        exact g_iret hx hr rfl _ rfl (by decide +kernel) (ok_some h)
      have h := ok_f h c28_2
      refine g_tout hx (dflt := 52) (n := 3) (offs := #[28, 39, 46]) (len := 28) (tgt := 80) (by decide +kernel) (by decide) (sw_ne ⟨c28_0, c28_1, c28_2, trivial⟩) (by decide) ?_
      refine g_run hx [(.aload_n 0, 0, 0), (.getfield 35, 0, 0), (.bipush 60, 60, 0), (.iaload, 0, 0), (.iload_n 1, 0, 0)] (pc' := 88) (lo' := [some (.ref 66), some (.int v1), some (.int v2)]) (st' := [.int v1, .int (gA s4 74 60)]) (σ' := s4) (by decide +kernel) rfl rfl ?_
      have hm : G x 96 [some (.ref 66), some (.int v1), some (.int v2)] [.int (b2i (decide ((gA s4 74 60) = v1)))] s4 := by
        refine g_run hx [(.aload_n 0, 0, 0), (.getfield 35, 0, 0), (.bipush 61, 61, 0), (.iaload, 0, 0), (.iload_n 1, 0, 0)] (pc' := 104) (lo' := [some (.ref 66), some (.int v1), some (.int v2)]) (st' := [.int v1, .int (gA s4 74 61), .int (b2i (decide ((gA s4 74 60) = v1)))]) (σ' := s4) (by decide +kernel) rfl rfl ?_
        refine g_ic_ne hx (off := 7) (tgt := 111) (by decide +kernel) (by decide) (fun c104 => ?_) (fun c104 => ?_)
        · have h := ok_f h c104
          refine g_run hx [(.iconst 0, 0, 0), (.iadd, 0, 0)] (pc' := 113) (lo' := [some (.ref 66), some (.int v1), some (.int v2)]) (st' := [.int ((b2i (decide ((gA s4 74 60) = v1))) + 0)]) (σ' := s4) (by decide +kernel) rfl rfl ?_
          exact g_iret hx hr rfl _ rfl (by decide +kernel) (ok_some h)
        · have h := ok_t h c104
          refine g_run hx [(.iconst 2, 2, 0)] (pc' := 108) (lo' := [some (.ref 66), some (.int v1), some (.int v2)]) (st' := [.int 2, .int (b2i (decide ((gA s4 74 60) = v1)))]) (σ' := s4) (by decide +kernel) rfl rfl ?_
          refine g_goto hx (off := 4) (tgt := 112) (by decide +kernel) (by decide) ?_
          refine g_run hx [(.iadd, 0, 0)] (pc' := 113) (lo' := [some (.ref 66), some (.int v1), some (.int v2)]) (st' := [.int ((b2i (decide ((gA s4 74 60) = v1))) + 2)]) (σ' := s4) (by decide +kernel) rfl rfl ?_
          exact g_iret hx hr rfl _ rfl (by decide +kernel) (ok_some h)
      refine g_ic_ne hx (off := 7) (tgt := 95) (by decide +kernel) (by decide) (fun c88 => ?_) (fun c88 => ?_)
      · refine g_run hx [(.iconst 0, 0, 0)] (pc' := 96) (lo' := [some (.ref 66), some (.int v1), some (.int v2)]) (st' := [.int 0]) (σ' := s4) (by decide +kernel) rfl rfl ?_
        exact g_bf c88 hm
      · refine g_run hx [(.iconst 1, 1, 0)] (pc' := 92) (lo' := [some (.ref 66), some (.int v1), some (.int v2)]) (st' := [.int 1]) (σ' := s4) (by decide +kernel) rfl rfl ?_
        refine g_goto hx (off := 4) (tgt := 96) (by decide +kernel) (by decide) ?_
        exact g_bt c88 hm
    · have h := ok_f h c18
      refine g_run hx [(.aload_n 0, 0, 0), (.iconst 1, 1, 0)] (pc' := 23) (lo' := [some (.ref 66), some (.int v1), some (.int v2)]) (st' := [.int 1, .ref 66]) (σ' := s4) (by decide +kernel) rfl rfl ?_
      refine g_callV (rest := []) [.int 1] hx hc mk_m_no ln_10_177 rfl (by decide +kernel) (by decide) (Nat.le_of_ble_eq_true rfl) (s_m_no (ok_b h)) (fun r6 s6 h => ?_)
      exact g_iret hx hr rfl _ rfl (by decide +kernel) (ok_some h)
set_option maxRecDepth 100000 in
theorem s_m_copy_74_80_L3 {y : EX} {N : Nat} {x : CX} {P : Unit × Sg → Prop} (hx : Cx 10 prog_12_method_8_code x) (hc : Cc y 6 0 x) (hr : Cr M_m_copy rvN P x) : ∀ (n : Nat) (v1 : Int32) (v3 : Int32) (v4 : Int32) (v5 : Int32) (σ : Sg), ok (f_m_copy_L3 N 63 378 80 74 n v1 v3 v4 v5 σ) P → G x 3 [some (.ref 74), some (.int v1), some (.ref 80), some (.int v3), some (.int v4), some (.int v5)] [] σ := by
  intro n
  induction n with
  | zero => intro v1 v3 v4 v5 σ h; exact ok_none h
  | succ n ih =>
    intro v1 v3 v4 v5 σ h
    rw [f_m_copy_L3] at h
    refine g_run hx [(.iload 5, 0, 0), (.iload 4, 0, 0)] (pc' := 7) (lo' := [some (.ref 74), some (.int v1), some (.ref 80), some (.int v3), some (.int v4), some (.int v5)]) (st' := [.int v4, .int v5]) (σ' := σ) (by decide +kernel) rfl rfl ?_
    refine g_ic_ge hx (off := 21) (tgt := 28) (by decide +kernel) (by decide) (fun c7 => ?_) (fun c7 => ?_)
    · have h := ok_t h c7
      exact g_vret hx hr rfl () rfl (by decide +kernel) (ok_some h)
    · have h := ok_f h c7
      refine g_run hx [(.aload_n 2, 0, 0), (.iload_n 3, 0, 0), (.iload 5, 0, 0), (.iadd, 0, 0), (.aload_n 0, 0, 0), (.iload_n 1, 0, 0), (.iload 5, 0, 0), (.iadd, 0, 0)] (pc' := 20) (lo' := [some (.ref 74), some (.int v1), some (.ref 80), some (.int v3), some (.int v4), some (.int v5)]) (st' := [.int (v1 + v5), .ref 74, .int (v3 + v5), .ref 80]) (σ' := σ) (by decide +kernel) rfl rfl ?_
      obtain ⟨c20, h⟩ := ok_g h
      refine g_iald hx (by decide +kernel) (i := 74) (n := 63) rfl c20 ?_
      obtain ⟨c21, h⟩ := ok_g h
      refine g_iast hx (by decide +kernel) (i := 80) (n := 378) rfl c21 ?_
      refine g_run hx [(.iinc 5 1, 1, 0)] (pc' := 25) (lo' := [some (.ref 74), some (.int v1), some (.ref 80), some (.int v3), some (.int v4), some (.int (v5 + 1))]) (st' := []) (σ' := sA σ 80 (v3 + v5) (gA σ 74 (v1 + v5))) (by decide +kernel) rfl rfl ?_
      refine g_goto hx (off := (-22)) (tgt := 3) (by decide +kernel) (by decide) ?_
      exact ih _ _ _ _ _ h
set_option maxRecDepth 100000 in
theorem s_m_copy_74_80 {y : EX} {N : Nat} {v1 : Int32} {v3 : Int32} {v4 : Int32} {σ : Sg} {P : Unit × Sg → Prop} (h : ok (f_m_copy N 63 378 80 74 v1 v3 v4 σ) P) : Ev y M_m_copy 0 [.ref 74, .int v1, .ref 80, .int v3, .int v4] σ rvN P := by
  refine Ev.of mk_m_copy (Nat.le_of_ble_eq_true rfl) (fun x hx hc hr => ?_)
  have hx : Cx 10 prog_12_method_8_code x := hx
  have hc : Cc y 6 0 x := hc
  show G x 0 [some (.ref 74), some (.int v1), some (.ref 80), some (.int v3), some (.int v4), none] [] σ
  unfold f_m_copy at h
  refine g_run hx [(.iconst 0, 0, 0), (.istore 5, 0, 0)] (pc' := 3) (lo' := [some (.ref 74), some (.int v1), some (.ref 80), some (.int v3), some (.int v4), some (.int 0)]) (st' := []) (σ' := σ) (by decide +kernel) rfl rfl ?_
  refine s_m_copy_74_80_L3 hx hc hr N _ _ _ _ _ h
set_option maxRecDepth 100000 in
theorem s_m_copy_80_81_L3 {y : EX} {N : Nat} {x : CX} {P : Unit × Sg → Prop} (hx : Cx 10 prog_12_method_8_code x) (hc : Cc y 6 0 x) (hr : Cr M_m_copy rvN P x) : ∀ (n : Nat) (v1 : Int32) (v3 : Int32) (v4 : Int32) (v5 : Int32) (σ : Sg), ok (f_m_copy_L3 N 378 63 81 80 n v1 v3 v4 v5 σ) P → G x 3 [some (.ref 80), some (.int v1), some (.ref 81), some (.int v3), some (.int v4), some (.int v5)] [] σ := by
  intro n
  induction n with
  | zero => intro v1 v3 v4 v5 σ h; exact ok_none h
  | succ n ih =>
    intro v1 v3 v4 v5 σ h
    rw [f_m_copy_L3] at h
    refine g_run hx [(.iload 5, 0, 0), (.iload 4, 0, 0)] (pc' := 7) (lo' := [some (.ref 80), some (.int v1), some (.ref 81), some (.int v3), some (.int v4), some (.int v5)]) (st' := [.int v4, .int v5]) (σ' := σ) (by decide +kernel) rfl rfl ?_
    refine g_ic_ge hx (off := 21) (tgt := 28) (by decide +kernel) (by decide) (fun c7 => ?_) (fun c7 => ?_)
    · have h := ok_t h c7
      exact g_vret hx hr rfl () rfl (by decide +kernel) (ok_some h)
    · have h := ok_f h c7
      refine g_run hx [(.aload_n 2, 0, 0), (.iload_n 3, 0, 0), (.iload 5, 0, 0), (.iadd, 0, 0), (.aload_n 0, 0, 0), (.iload_n 1, 0, 0), (.iload 5, 0, 0), (.iadd, 0, 0)] (pc' := 20) (lo' := [some (.ref 80), some (.int v1), some (.ref 81), some (.int v3), some (.int v4), some (.int v5)]) (st' := [.int (v1 + v5), .ref 80, .int (v3 + v5), .ref 81]) (σ' := σ) (by decide +kernel) rfl rfl ?_
      obtain ⟨c20, h⟩ := ok_g h
      refine g_iald hx (by decide +kernel) (i := 80) (n := 378) rfl c20 ?_
      obtain ⟨c21, h⟩ := ok_g h
      refine g_iast hx (by decide +kernel) (i := 81) (n := 63) rfl c21 ?_
      refine g_run hx [(.iinc 5 1, 1, 0)] (pc' := 25) (lo' := [some (.ref 80), some (.int v1), some (.ref 81), some (.int v3), some (.int v4), some (.int (v5 + 1))]) (st' := []) (σ' := sA σ 81 (v3 + v5) (gA σ 80 (v1 + v5))) (by decide +kernel) rfl rfl ?_
      refine g_goto hx (off := (-22)) (tgt := 3) (by decide +kernel) (by decide) ?_
      exact ih _ _ _ _ _ h
set_option maxRecDepth 100000 in
theorem s_m_copy_80_81 {y : EX} {N : Nat} {v1 : Int32} {v3 : Int32} {v4 : Int32} {σ : Sg} {P : Unit × Sg → Prop} (h : ok (f_m_copy N 378 63 81 80 v1 v3 v4 σ) P) : Ev y M_m_copy 0 [.ref 80, .int v1, .ref 81, .int v3, .int v4] σ rvN P := by
  refine Ev.of mk_m_copy (Nat.le_of_ble_eq_true rfl) (fun x hx hc hr => ?_)
  have hx : Cx 10 prog_12_method_8_code x := hx
  have hc : Cc y 6 0 x := hc
  show G x 0 [some (.ref 80), some (.int v1), some (.ref 81), some (.int v3), some (.int v4), none] [] σ
  unfold f_m_copy at h
  refine g_run hx [(.iconst 0, 0, 0), (.istore 5, 0, 0)] (pc' := 3) (lo' := [some (.ref 80), some (.int v1), some (.ref 81), some (.int v3), some (.int v4), some (.int 0)]) (st' := []) (σ' := σ) (by decide +kernel) rfl rfl ?_
  refine s_m_copy_80_81_L3 hx hc hr N _ _ _ _ _ h
set_option maxRecDepth 100000 in
theorem s_m_leadOf_69_81 {y : EX} {N : Nat} {v2 : Int32} {v3 : Int32} {σ : Sg} {P : Int32 × Sg → Prop} (h : ok (f_m_leadOf N 189 81 69 63 v2 v3 σ) P) : Ev y M_m_leadOf 1 [.ref 69, .ref 81, .int v2, .int v3] σ rvI P := by
  refine Ev.of mk_m_leadOf (Nat.le_of_ble_eq_true rfl) (fun x hx hc hr => ?_)
  have hx : Cx 10 prog_12_method_44_code x := hx
  have hc : Cc y 5 1 x := hc
  show G x 0 [some (.ref 69), some (.ref 81), some (.int v2), some (.int v3), none] [] σ
  unfold f_m_leadOf at h
  refine g_run hx [(.aload_n 1, 0, 0), (.bipush 60, 60, 0), (.iaload, 0, 0), (.iload_n 3, 0, 0)] (pc' := 5) (lo' := [some (.ref 69), some (.ref 81), some (.int v2), some (.int v3), none]) (st' := [.int v3, .int (gA σ 81 60)]) (σ' := σ) (by decide +kernel) rfl rfl ?_
  refine g_if_ne hx (off := 12) (tgt := 17) (by decide +kernel) (by decide) (fun c5 => ?_) (fun c5 => ?_)
  · have h := ok_f h c5
    refine g_run hx [(.aload_n 0, 0, 0), (.bipush 9, 9, 0), (.iload_n 2, 0, 0), (.iadd, 0, 0)] (pc' := 22) (lo' := [some (.ref 69), some (.ref 81), some (.int v2), some (.int v3), none]) (st' := [.int (9 + v2), .ref 69, .int (gA σ 81 60)]) (σ' := σ) (by decide +kernel) rfl rfl ?_
    obtain ⟨c22, h⟩ := ok_g h
    refine g_iald hx (by decide +kernel) (i := 69) (n := 189) rfl c22 ?_
    refine g_run hx [(.ineg, 0, 0), (.iadd, 0, 0), (.istore 4, 0, 0), (.iload 4, 0, 0), (.iconst 0, 0, 0), (.aload_n 0, 0, 0), (.iconst 0, 0, 0), (.iaload, 0, 0), (.iconst 1, 1, 0), (.isub, 0, 0)] (pc' := 35) (lo' := [some (.ref 69), some (.ref 81), some (.int v2), some (.int v3), some (.int ((gA σ 81 60) + (-(gA σ 69 (9 + v2)))))]) (st' := [.int ((gA σ 69 0) - 1), .int 0, .int ((gA σ 81 60) + (-(gA σ 69 (9 + v2))))]) (σ' := σ) (by decide +kernel) rfl rfl ?_
    refine g_callS (rest := []) [.int ((gA σ 81 60) + (-(gA σ 69 (9 + v2)))), .int 0, .int ((gA σ 69 0) - 1)] hx hc mk_m_in ln_10_156 (by decide +kernel) (by decide) (Nat.le_of_ble_eq_true rfl) (s_m_in (ok_b h)) (fun r1 s1 h => ?_)
    refine g_ifb_eq hx (off := 15) (tgt := 53) (by decide +kernel) (by decide) (fun c38 => ?_) (fun c38 => ?_)
    · have h := ok_f h c38
      refine g_run hx [(.bipush (-2), (-2), 0)] (pc' := 55) (lo' := [some (.ref 69), some (.ref 81), some (.int v2), some (.int v3), some (.int ((gA σ 81 60) + (-(gA σ 69 (9 + v2)))))]) (st' := [.int (-2)]) (σ' := s1) (by decide +kernel) rfl rfl ?_
      exact g_iret hx hr rfl _ rfl (by decide +kernel) (ok_some h)
    · have h := ok_t h c38
      refine g_run hx [(.aload_n 1, 0, 0), (.iload 4, 0, 0)] (pc' := 44) (lo' := [some (.ref 69), some (.ref 81), some (.int v2), some (.int v3), some (.int ((gA σ 81 60) + (-(gA σ 69 (9 + v2)))))]) (st' := [.int ((gA σ 81 60) + (-(gA σ 69 (9 + v2)))), .ref 81]) (σ' := s1) (by decide +kernel) rfl rfl ?_
      obtain ⟨c44, h⟩ := ok_g h
      refine g_iald hx (by decide +kernel) (i := 81) (n := 63) rfl c44 ?_
      refine g_if_ne hx (off := 8) (tgt := 53) (by decide +kernel) (by decide) (fun c45 => ?_) (fun c45 => ?_)
      · have h := ok_f h c45
        refine g_run hx [(.bipush (-2), (-2), 0)] (pc' := 55) (lo' := [some (.ref 69), some (.ref 81), some (.int v2), some (.int v3), some (.int ((gA σ 81 60) + (-(gA σ 69 (9 + v2)))))]) (st' := [.int (-2)]) (σ' := s1) (by decide +kernel) rfl rfl ?_
        exact g_iret hx hr rfl _ rfl (by decide +kernel) (ok_some h)
      · have h := ok_t h c45
        refine g_run hx [(.iload 4, 0, 0)] (pc' := 50) (lo' := [some (.ref 69), some (.ref 81), some (.int v2), some (.int v3), some (.int ((gA σ 81 60) + (-(gA σ 69 (9 + v2)))))]) (st' := [.int ((gA σ 81 60) + (-(gA σ 69 (9 + v2))))]) (σ' := s1) (by decide +kernel) rfl rfl ?_
        refine g_goto hx (off := 5) (tgt := 55) (by decide +kernel) (by decide) ?_
        exact g_iret hx hr rfl _ rfl (by decide +kernel) (ok_some h)
  · have h := ok_t h c5
    refine g_run hx [(.aload_n 0, 0, 0), (.bipush 9, 9, 0), (.iload_n 2, 0, 0), (.iadd, 0, 0)] (pc' := 13) (lo' := [some (.ref 69), some (.ref 81), some (.int v2), some (.int v3), none]) (st' := [.int (9 + v2), .ref 69, .int (gA σ 81 60)]) (σ' := σ) (by decide +kernel) rfl rfl ?_
    obtain ⟨c13, h⟩ := ok_g h
    refine g_iald hx (by decide +kernel) (i := 69) (n := 189) rfl c13 ?_
    refine g_goto hx (off := 10) (tgt := 24) (by decide +kernel) (by decide) ?_
    refine g_run hx [(.iadd, 0, 0), (.istore 4, 0, 0), (.iload 4, 0, 0), (.iconst 0, 0, 0), (.aload_n 0, 0, 0), (.iconst 0, 0, 0), (.iaload, 0, 0), (.iconst 1, 1, 0), (.isub, 0, 0)] (pc' := 35) (lo' := [some (.ref 69), some (.ref 81), some (.int v2), some (.int v3), some (.int ((gA σ 81 60) + (gA σ 69 (9 + v2))))]) (st' := [.int ((gA σ 69 0) - 1), .int 0, .int ((gA σ 81 60) + (gA σ 69 (9 + v2)))]) (σ' := σ) (by decide +kernel) rfl rfl ?_
    refine g_callS (rest := []) [.int ((gA σ 81 60) + (gA σ 69 (9 + v2))), .int 0, .int ((gA σ 69 0) - 1)] hx hc mk_m_in ln_10_156 (by decide +kernel) (by decide) (Nat.le_of_ble_eq_true rfl) (s_m_in (ok_b h)) (fun r2 s2 h => ?_)
    refine g_ifb_eq hx (off := 15) (tgt := 53) (by decide +kernel) (by decide) (fun c38 => ?_) (fun c38 => ?_)
    · have h := ok_f h c38
      refine g_run hx [(.bipush (-2), (-2), 0)] (pc' := 55) (lo' := [some (.ref 69), some (.ref 81), some (.int v2), some (.int v3), some (.int ((gA σ 81 60) + (gA σ 69 (9 + v2))))]) (st' := [.int (-2)]) (σ' := s2) (by decide +kernel) rfl rfl ?_
      exact g_iret hx hr rfl _ rfl (by decide +kernel) (ok_some h)
    · have h := ok_t h c38
      refine g_run hx [(.aload_n 1, 0, 0), (.iload 4, 0, 0)] (pc' := 44) (lo' := [some (.ref 69), some (.ref 81), some (.int v2), some (.int v3), some (.int ((gA σ 81 60) + (gA σ 69 (9 + v2))))]) (st' := [.int ((gA σ 81 60) + (gA σ 69 (9 + v2))), .ref 81]) (σ' := s2) (by decide +kernel) rfl rfl ?_
      obtain ⟨c44, h⟩ := ok_g h
      refine g_iald hx (by decide +kernel) (i := 81) (n := 63) rfl c44 ?_
      refine g_if_ne hx (off := 8) (tgt := 53) (by decide +kernel) (by decide) (fun c45 => ?_) (fun c45 => ?_)
      · have h := ok_f h c45
        refine g_run hx [(.bipush (-2), (-2), 0)] (pc' := 55) (lo' := [some (.ref 69), some (.ref 81), some (.int v2), some (.int v3), some (.int ((gA σ 81 60) + (gA σ 69 (9 + v2))))]) (st' := [.int (-2)]) (σ' := s2) (by decide +kernel) rfl rfl ?_
        exact g_iret hx hr rfl _ rfl (by decide +kernel) (ok_some h)
      · have h := ok_t h c45
        refine g_run hx [(.iload 4, 0, 0)] (pc' := 50) (lo' := [some (.ref 69), some (.ref 81), some (.int v2), some (.int v3), some (.int ((gA σ 81 60) + (gA σ 69 (9 + v2))))]) (st' := [.int ((gA σ 81 60) + (gA σ 69 (9 + v2)))]) (σ' := s2) (by decide +kernel) rfl rfl ?_
        refine g_goto hx (off := 5) (tgt := 55) (by decide +kernel) (by decide) ?_
        exact g_iret hx hr rfl _ rfl (by decide +kernel) (ok_some h)
set_option maxRecDepth 100000 in
theorem s_m_strideOn_69_81_L62 {y : EX} {N : Nat} {x : CX} {P : Bool × Sg → Prop} (hx : Cx 10 prog_12_method_45_code x) (hc : Cc y 8 2 x) (hr : Cr M_m_strideOn rvB P x) : ∀ (n : Nat) (v4 : Int32) (v6 : Int32) (v7 : Int32) (σ : Sg), ok (f_m_strideOn_L62 N 81 63 189 69 n v4 v6 v7 σ) P → G x 62 [some (.ref 69), some (.ref 81), none, none, some (.int v4), none, some (.int v6), some (.int v7)] [] σ := by
  intro n
  induction n with
  | zero => intro v4 v6 v7 σ h; exact ok_none h
  | succ n ih =>
    intro v4 v6 v7 σ h
    rw [f_m_strideOn_L62] at h
    refine g_run hx [(.iload 7, 0, 0), (.iload 6, 0, 0)] (pc' := 66) (lo' := [some (.ref 69), some (.ref 81), none, none, some (.int v4), none, some (.int v6), some (.int v7)]) (st' := [.int v6, .int v7]) (σ' := σ) (by decide +kernel) rfl rfl ?_
    refine g_ic_ge hx (off := 30) (tgt := 96) (by decide +kernel) (by decide) (fun c66 => ?_) (fun c66 => ?_)
    · have h := ok_t h c66
      refine g_run hx [(.aload_n 1, 0, 0), (.bipush 60, 60, 0), (.iload 4, 0, 0), (.iastore, 0, 0), (.iconst 1, 1, 0)] (pc' := 103) (lo' := [some (.ref 69), some (.ref 81), none, none, some (.int v4), none, some (.int v6), some (.int v7)]) (st' := [.int 1]) (σ' := sA σ 81 60 v4) (by decide +kernel) rfl rfl ?_
      exact g_zret (b := true) hx hr rfl true rfl (by decide +kernel) (ok_some h)
    · have h := ok_f h c66
      refine g_run hx [(.aload_n 1, 0, 0), (.iload 7, 0, 0)] (pc' := 72) (lo' := [some (.ref 69), some (.ref 81), none, none, some (.int v4), none, some (.int v6), some (.int v7)]) (st' := [.int v7, .ref 81]) (σ' := σ) (by decide +kernel) rfl rfl ?_
      obtain ⟨c72, h⟩ := ok_g h
      refine g_iald hx (by decide +kernel) (i := 81) (n := 63) rfl c72 ?_
      refine g_if_ne hx (off := 17) (tgt := 90) (by decide +kernel) (by decide) (fun c73 => ?_) (fun c73 => ?_)
      · have h := ok_f h c73
        refine g_run hx [(.iinc 7 1, 1, 0)] (pc' := 93) (lo' := [some (.ref 69), some (.ref 81), none, none, some (.int v4), none, some (.int v6), some (.int (v7 + 1))]) (st' := []) (σ' := σ) (by decide +kernel) rfl rfl ?_
        refine g_goto hx (off := (-31)) (tgt := 62) (by decide +kernel) (by decide) ?_
        exact ih _ _ _ _ h
      · have h := ok_t h c73
        refine g_run hx [(.aload_n 1, 0, 0), (.iload 7, 0, 0), (.aload_n 0, 0, 0), (.sipush 129, 129, 0), (.iload 7, 0, 0), (.iadd, 0, 0)] (pc' := 86) (lo' := [some (.ref 69), some (.ref 81), none, none, some (.int v4), none, some (.int v6), some (.int v7)]) (st' := [.int (129 + v7), .ref 69, .int v7, .ref 81]) (σ' := σ) (by decide +kernel) rfl rfl ?_
        obtain ⟨c86, h⟩ := ok_g h
        refine g_iald hx (by decide +kernel) (i := 69) (n := 189) rfl c86 ?_
        refine g_run hx [(.iconst 1, 1, 0), (.iadd, 0, 0)] (pc' := 89) (lo' := [some (.ref 69), some (.ref 81), none, none, some (.int v4), none, some (.int v6), some (.int v7)]) (st' := [.int ((gA σ 69 (129 + v7)) + 1), .int v7, .ref 81]) (σ' := σ) (by decide +kernel) rfl rfl ?_
        obtain ⟨c89, h⟩ := ok_g h
        refine g_iast hx (by decide +kernel) (i := 81) (n := 63) rfl c89 ?_
        refine g_run hx [(.iinc 7 1, 1, 0)] (pc' := 93) (lo' := [some (.ref 69), some (.ref 81), none, none, some (.int v4), none, some (.int v6), some (.int (v7 + 1))]) (st' := []) (σ' := sA σ 81 v7 ((gA σ 69 (129 + v7)) + 1)) (by decide +kernel) rfl rfl ?_
        refine g_goto hx (off := (-31)) (tgt := 62) (by decide +kernel) (by decide) ?_
        exact ih _ _ _ _ h
set_option maxRecDepth 100000 in
theorem s_m_strideOn_69_81 {y : EX} {N : Nat} {v2 : Int32} {v3 : Int32} {σ : Sg} {P : Bool × Sg → Prop} (h : ok (f_m_strideOn N 81 63 189 69 v2 v3 σ) P) : Ev y M_m_strideOn 2 [.ref 69, .ref 81, .int v2, .int v3] σ rvB P := by
  refine Ev.of mk_m_strideOn (Nat.le_of_ble_eq_true rfl) (fun x hx hc hr => ?_)
  have hx : Cx 10 prog_12_method_45_code x := hx
  have hc : Cc y 8 2 x := hc
  show G x 0 [some (.ref 69), some (.ref 81), some (.int v2), some (.int v3), none, none, none, none] [] σ
  unfold f_m_strideOn at h
  refine g_run hx [(.aload_n 0, 0, 0), (.aload_n 1, 0, 0), (.iload_n 2, 0, 0), (.iload_n 3, 0, 0)] (pc' := 4) (lo' := [some (.ref 69), some (.ref 81), some (.int v2), some (.int v3), none, none, none, none]) (st' := [.int v3, .int v2, .ref 81, .ref 69]) (σ' := σ) (by decide +kernel) rfl rfl ?_
  refine g_callS (rest := []) [.ref 69, .ref 81, .int v2, .int v3] hx hc mk_m_leadOf ln_10_265 (by decide +kernel) (by decide) (Nat.le_of_ble_eq_true rfl) (s_m_leadOf_69_81 (ok_b h)) (fun r1 s1 h => ?_)
  refine g_run hx [(.istore 4, 0, 0), (.iload 4, 0, 0)] (pc' := 11) (lo' := [some (.ref 69), some (.ref 81), some (.int v2), some (.int v3), some (.int r1), none, none, none]) (st' := [.int r1]) (σ' := s1) (by decide +kernel) rfl rfl ?_
  refine g_if_ge hx (off := 5) (tgt := 16) (by decide +kernel) (by decide) (fun c11 => ?_) (fun c11 => ?_)
  · have h := ok_t h c11
    refine g_run hx [(.iload 4, 0, 0), (.aload_n 1, 0, 0), (.bipush 60, 60, 0), (.iaload, 0, 0)] (pc' := 22) (lo' := [some (.ref 69), some (.ref 81), some (.int v2), some (.int v3), some (.int r1), none, none, none]) (st' := [.int (gA s1 81 60), .int r1]) (σ' := s1) (by decide +kernel) rfl rfl ?_
    refine g_ic_ge hx (off := 8) (tgt := 30) (by decide +kernel) (by decide) (fun c22 => ?_) (fun c22 => ?_)
    · have h := ok_t h c22
      refine g_run hx [(.aload_n 1, 0, 0), (.bipush 60, 60, 0), (.iaload, 0, 0), (.istore 5, 0, 0), (.iload 4, 0, 0), (.aload_n 1, 0, 0), (.bipush 60, 60, 0), (.iaload, 0, 0)] (pc' := 42) (lo' := [some (.ref 69), some (.ref 81), some (.int v2), some (.int v3), some (.int r1), some (.int (gA s1 81 60)), none, none]) (st' := [.int (gA s1 81 60), .int r1]) (σ' := s1) (by decide +kernel) rfl rfl ?_
      refine g_ic_ge hx (off := 10) (tgt := 52) (by decide +kernel) (by decide) (fun c42 => ?_) (fun c42 => ?_)
      · have h := ok_t h c42
        refine g_run hx [(.iload 4, 0, 0), (.istore 6, 0, 0), (.iload 5, 0, 0), (.iconst 1, 1, 0), (.iadd, 0, 0), (.istore 7, 0, 0)] (pc' := 62) (lo' := [some (.ref 69), some (.ref 81), some (.int v2), some (.int v3), some (.int r1), some (.int (gA s1 81 60)), some (.int r1), some (.int ((gA s1 81 60) + 1))]) (st' := []) (σ' := s1) (by decide +kernel) rfl rfl ?_
        refine g_wk (lo' := [some (.ref 69), some (.ref 81), none, none, some (.int r1), none, some (.int r1), some (.int ((gA s1 81 60) + 1))]) ⟨rfl, ⟨rfl, ⟨rfl, ⟨rfl, ⟨rfl, trivial⟩⟩⟩⟩⟩ ?_
        refine s_m_strideOn_69_81_L62 hx hc hr N _ _ _ _ h
      · have h := ok_f h c42
        refine g_run hx [(.aload_n 1, 0, 0), (.bipush 60, 60, 0), (.iaload, 0, 0)] (pc' := 49) (lo' := [some (.ref 69), some (.ref 81), some (.int v2), some (.int v3), some (.int r1), some (.int (gA s1 81 60)), none, none]) (st' := [.int (gA s1 81 60)]) (σ' := s1) (by decide +kernel) rfl rfl ?_
        refine g_goto hx (off := 5) (tgt := 54) (by decide +kernel) (by decide) ?_
        refine g_run hx [(.istore 6, 0, 0), (.iload 5, 0, 0), (.iconst 1, 1, 0), (.iadd, 0, 0), (.istore 7, 0, 0)] (pc' := 62) (lo' := [some (.ref 69), some (.ref 81), some (.int v2), some (.int v3), some (.int r1), some (.int (gA s1 81 60)), some (.int (gA s1 81 60)), some (.int ((gA s1 81 60) + 1))]) (st' := []) (σ' := s1) (by decide +kernel) rfl rfl ?_
        refine g_wk (lo' := [some (.ref 69), some (.ref 81), none, none, some (.int r1), none, some (.int (gA s1 81 60)), some (.int ((gA s1 81 60) + 1))]) ⟨rfl, ⟨rfl, ⟨rfl, ⟨rfl, ⟨rfl, trivial⟩⟩⟩⟩⟩ ?_
        refine s_m_strideOn_69_81_L62 hx hc hr N _ _ _ _ h
    · have h := ok_f h c22
      refine g_run hx [(.iload 4, 0, 0)] (pc' := 27) (lo' := [some (.ref 69), some (.ref 81), some (.int v2), some (.int v3), some (.int r1), none, none, none]) (st' := [.int r1]) (σ' := s1) (by decide +kernel) rfl rfl ?_
      refine g_goto hx (off := 7) (tgt := 34) (by decide +kernel) (by decide) ?_
      refine g_run hx [(.istore 5, 0, 0), (.iload 4, 0, 0), (.aload_n 1, 0, 0), (.bipush 60, 60, 0), (.iaload, 0, 0)] (pc' := 42) (lo' := [some (.ref 69), some (.ref 81), some (.int v2), some (.int v3), some (.int r1), some (.int r1), none, none]) (st' := [.int (gA s1 81 60), .int r1]) (σ' := s1) (by decide +kernel) rfl rfl ?_
      refine g_ic_ge hx (off := 10) (tgt := 52) (by decide +kernel) (by decide) (fun c42 => ?_) (fun c42 => ?_)
      · have h := ok_t h c42
        refine g_run hx [(.iload 4, 0, 0), (.istore 6, 0, 0), (.iload 5, 0, 0), (.iconst 1, 1, 0), (.iadd, 0, 0), (.istore 7, 0, 0)] (pc' := 62) (lo' := [some (.ref 69), some (.ref 81), some (.int v2), some (.int v3), some (.int r1), some (.int r1), some (.int r1), some (.int (r1 + 1))]) (st' := []) (σ' := s1) (by decide +kernel) rfl rfl ?_
        refine g_wk (lo' := [some (.ref 69), some (.ref 81), none, none, some (.int r1), none, some (.int r1), some (.int (r1 + 1))]) ⟨rfl, ⟨rfl, ⟨rfl, ⟨rfl, ⟨rfl, trivial⟩⟩⟩⟩⟩ ?_
        refine s_m_strideOn_69_81_L62 hx hc hr N _ _ _ _ h
      · have h := ok_f h c42
        refine g_run hx [(.aload_n 1, 0, 0), (.bipush 60, 60, 0), (.iaload, 0, 0)] (pc' := 49) (lo' := [some (.ref 69), some (.ref 81), some (.int v2), some (.int v3), some (.int r1), some (.int r1), none, none]) (st' := [.int (gA s1 81 60)]) (σ' := s1) (by decide +kernel) rfl rfl ?_
        refine g_goto hx (off := 5) (tgt := 54) (by decide +kernel) (by decide) ?_
        refine g_run hx [(.istore 6, 0, 0), (.iload 5, 0, 0), (.iconst 1, 1, 0), (.iadd, 0, 0), (.istore 7, 0, 0)] (pc' := 62) (lo' := [some (.ref 69), some (.ref 81), some (.int v2), some (.int v3), some (.int r1), some (.int r1), some (.int (gA s1 81 60)), some (.int (r1 + 1))]) (st' := []) (σ' := s1) (by decide +kernel) rfl rfl ?_
        refine g_wk (lo' := [some (.ref 69), some (.ref 81), none, none, some (.int r1), none, some (.int (gA s1 81 60)), some (.int (r1 + 1))]) ⟨rfl, ⟨rfl, ⟨rfl, ⟨rfl, ⟨rfl, trivial⟩⟩⟩⟩⟩ ?_
        refine s_m_strideOn_69_81_L62 hx hc hr N _ _ _ _ h
  · have h := ok_f h c11
    refine g_run hx [(.iconst 0, 0, 0)] (pc' := 15) (lo' := [some (.ref 69), some (.ref 81), some (.int v2), some (.int v3), some (.int r1), none, none, none]) (st' := [.int 0]) (σ' := s1) (by decide +kernel) rfl rfl ?_
    exact g_zret (b := false) hx hr rfl false rfl (by decide +kernel) (ok_some h)
def f_m_digitOn (N : Nat) (a0 : Nat) (a1 : Nat) (a2 : Nat) (a3 : Nat) (v2 : Int32) (σ : Sg) : Option (Bool × Sg) :=
  (f_m_strideOn N a0 a1 a2 a3 ((v2 - 1) / 2) ((v2 - 1) - (v2 - 1) / 2 * 2) σ).bind fun q1 =>
  some (q1.1, q1.2)
set_option maxRecDepth 100000 in
theorem s_m_digitOn_66_81 {y : EX} {N : Nat} {v2 : Int32} {σ : Sg} {P : Bool × Sg → Prop} (h : ok (f_m_digitOn N 81 63 189 69 v2 σ) P) : Ev y M_m_digitOn 3 [.ref 66, .ref 81, .int v2] σ rvB P := by
  refine Ev.of mk_m_digitOn (Nat.le_of_ble_eq_true rfl) (fun x hx hc hr => ?_)
  have hx : Cx 10 prog_12_method_77_code x := hx
  have hc : Cc y 3 3 x := hc
  show G x 0 [some (.ref 66), some (.ref 81), some (.int v2)] [] σ
  unfold f_m_digitOn at h
  refine g_run hx [(.aload_n 0, 0, 0), (.getfield 20, 0, 0), (.aload_n 1, 0, 0), (.iload_n 2, 0, 0), (.iconst 1, 1, 0), (.isub, 0, 0), (.iconst 2, 2, 0), (.idiv, 0, 0), (.iload_n 2, 0, 0), (.iconst 1, 1, 0), (.isub, 0, 0), (.iconst 2, 2, 0), (.irem, 0, 0)] (pc' := 15) (lo' := [some (.ref 66), some (.ref 81), some (.int v2)]) (st' := [.int ((v2 - 1) - (v2 - 1) / 2 * 2), .int ((v2 - 1) / 2), .ref 81, .ref 69]) (σ' := σ) (by decide +kernel) rfl rfl ?_
  refine g_callS (rest := []) [.ref 69, .ref 81, .int ((v2 - 1) / 2), .int ((v2 - 1) - (v2 - 1) / 2 * 2)] hx hc mk_m_strideOn ln_10_253 (by decide +kernel) (by decide) (Nat.le_of_ble_eq_true rfl) (s_m_strideOn_69_81 (ok_b h)) (fun r1 s1 h => ?_)
  exact g_zret hx hr rfl _ rfl (by decide +kernel) (ok_some h)
set_option maxRecDepth 100000 in
theorem s_m_copy_81_80_L3 {y : EX} {N : Nat} {x : CX} {P : Unit × Sg → Prop} (hx : Cx 10 prog_12_method_8_code x) (hc : Cc y 6 0 x) (hr : Cr M_m_copy rvN P x) : ∀ (n : Nat) (v1 : Int32) (v3 : Int32) (v4 : Int32) (v5 : Int32) (σ : Sg), ok (f_m_copy_L3 N 63 378 80 81 n v1 v3 v4 v5 σ) P → G x 3 [some (.ref 81), some (.int v1), some (.ref 80), some (.int v3), some (.int v4), some (.int v5)] [] σ := by
  intro n
  induction n with
  | zero => intro v1 v3 v4 v5 σ h; exact ok_none h
  | succ n ih =>
    intro v1 v3 v4 v5 σ h
    rw [f_m_copy_L3] at h
    refine g_run hx [(.iload 5, 0, 0), (.iload 4, 0, 0)] (pc' := 7) (lo' := [some (.ref 81), some (.int v1), some (.ref 80), some (.int v3), some (.int v4), some (.int v5)]) (st' := [.int v4, .int v5]) (σ' := σ) (by decide +kernel) rfl rfl ?_
    refine g_ic_ge hx (off := 21) (tgt := 28) (by decide +kernel) (by decide) (fun c7 => ?_) (fun c7 => ?_)
    · have h := ok_t h c7
      exact g_vret hx hr rfl () rfl (by decide +kernel) (ok_some h)
    · have h := ok_f h c7
      refine g_run hx [(.aload_n 2, 0, 0), (.iload_n 3, 0, 0), (.iload 5, 0, 0), (.iadd, 0, 0), (.aload_n 0, 0, 0), (.iload_n 1, 0, 0), (.iload 5, 0, 0), (.iadd, 0, 0)] (pc' := 20) (lo' := [some (.ref 81), some (.int v1), some (.ref 80), some (.int v3), some (.int v4), some (.int v5)]) (st' := [.int (v1 + v5), .ref 81, .int (v3 + v5), .ref 80]) (σ' := σ) (by decide +kernel) rfl rfl ?_
      obtain ⟨c20, h⟩ := ok_g h
      refine g_iald hx (by decide +kernel) (i := 81) (n := 63) rfl c20 ?_
      obtain ⟨c21, h⟩ := ok_g h
      refine g_iast hx (by decide +kernel) (i := 80) (n := 378) rfl c21 ?_
      refine g_run hx [(.iinc 5 1, 1, 0)] (pc' := 25) (lo' := [some (.ref 81), some (.int v1), some (.ref 80), some (.int v3), some (.int v4), some (.int (v5 + 1))]) (st' := []) (σ' := sA σ 80 (v3 + v5) (gA σ 81 (v1 + v5))) (by decide +kernel) rfl rfl ?_
      refine g_goto hx (off := (-22)) (tgt := 3) (by decide +kernel) (by decide) ?_
      exact ih _ _ _ _ _ h
set_option maxRecDepth 100000 in
theorem s_m_copy_81_80 {y : EX} {N : Nat} {v1 : Int32} {v3 : Int32} {v4 : Int32} {σ : Sg} {P : Unit × Sg → Prop} (h : ok (f_m_copy N 63 378 80 81 v1 v3 v4 σ) P) : Ev y M_m_copy 0 [.ref 81, .int v1, .ref 80, .int v3, .int v4] σ rvN P := by
  refine Ev.of mk_m_copy (Nat.le_of_ble_eq_true rfl) (fun x hx hc hr => ?_)
  have hx : Cx 10 prog_12_method_8_code x := hx
  have hc : Cc y 6 0 x := hc
  show G x 0 [some (.ref 81), some (.int v1), some (.ref 80), some (.int v3), some (.int v4), none] [] σ
  unfold f_m_copy at h
  refine g_run hx [(.iconst 0, 0, 0), (.istore 5, 0, 0)] (pc' := 3) (lo' := [some (.ref 81), some (.int v1), some (.ref 80), some (.int v3), some (.int v4), some (.int 0)]) (st' := []) (σ' := σ) (by decide +kernel) rfl rfl ?_
  refine s_m_copy_81_80_L3 hx hc hr N _ _ _ _ _ h
def f_m_lostOn_L4 (N : Nat) (a0 : Nat) (a1 : Nat) (a2 : Nat) (a3 : Nat) : Nat → Int32 → Int32 → Sg → Option (Int32 × Sg)
  | 0, _, _, _ => none
  | n + 1, v2, v3, σ =>
    if (gA σ a0 3) ≤ v3 then
      some (v2, σ)
    else
      if vin (12 + (2 * v3)) a1 then
      if vin (gA σ a0 (12 + (2 * v3))) a2 then
      if (gA σ a3 (gA σ a0 (12 + (2 * v3)))) ≤ 0 then
        f_m_lostOn_L4 N a0 a1 a2 a3 n (v2 + 0) (v3 + 1) σ
      else
        if vin ((12 + (2 * v3)) + 1) a1 then
        f_m_lostOn_L4 N a0 a1 a2 a3 n (v2 + (gA σ a0 ((12 + (2 * v3)) + 1))) (v3 + 1) σ
        else none
      else none
      else none
def f_m_lostOn (N : Nat) (a0 : Nat) (a1 : Nat) (a2 : Nat) (a3 : Nat) (σ : Sg) : Option (Int32 × Sg) :=
  f_m_lostOn_L4 N a0 a1 a2 a3 N 0 0 σ
set_option maxRecDepth 100000 in
theorem s_m_lostOn_66_81_L4 {y : EX} {N : Nat} {x : CX} {P : Int32 × Sg → Prop} (hx : Cx 10 prog_12_method_49_code x) (hc : Cc y 4 0 x) (hr : Cr M_m_lostOn rvI P x) : ∀ (n : Nat) (v2 : Int32) (v3 : Int32) (σ : Sg), ok (f_m_lostOn_L4 N 69 189 63 81 n v2 v3 σ) P → G x 4 [some (.ref 66), some (.ref 81), some (.int v2), some (.int v3)] [] σ := by
  intro n
  induction n with
  | zero => intro v2 v3 σ h; exact ok_none h
  | succ n ih =>
    intro v2 v3 σ h
    rw [f_m_lostOn_L4] at h
    refine g_run hx [(.iload_n 3, 0, 0), (.aload_n 0, 0, 0), (.getfield 20, 0, 0), (.iconst 3, 3, 0), (.iaload, 0, 0)] (pc' := 11) (lo' := [some (.ref 66), some (.ref 81), some (.int v2), some (.int v3)]) (st' := [.int (gA σ 69 3), .int v3]) (σ' := σ) (by decide +kernel) rfl rfl ?_
    refine g_ic_ge hx (off := 45) (tgt := 56) (by decide +kernel) (by decide) (fun c11 => ?_) (fun c11 => ?_)
    · have h := ok_t h c11
      refine g_run hx [(.iload_n 2, 0, 0)] (pc' := 57) (lo' := [some (.ref 66), some (.ref 81), some (.int v2), some (.int v3)]) (st' := [.int v2]) (σ' := σ) (by decide +kernel) rfl rfl ?_
      exact g_iret hx hr rfl _ rfl (by decide +kernel) (ok_some h)
    · have h := ok_f h c11
      refine g_run hx [(.iload_n 2, 0, 0), (.aload_n 1, 0, 0), (.aload_n 0, 0, 0), (.getfield 20, 0, 0), (.bipush 12, 12, 0), (.iconst 2, 2, 0), (.iload_n 3, 0, 0), (.imul, 0, 0), (.iadd, 0, 0)] (pc' := 26) (lo' := [some (.ref 66), some (.ref 81), some (.int v2), some (.int v3)]) (st' := [.int (12 + (2 * v3)), .ref 69, .ref 81, .int v2]) (σ' := σ) (by decide +kernel) rfl rfl ?_
      obtain ⟨c26, h⟩ := ok_g h
      refine g_iald hx (by decide +kernel) (i := 69) (n := 189) rfl c26 ?_
      obtain ⟨c27, h⟩ := ok_g h
      refine g_iald hx (by decide +kernel) (i := 81) (n := 63) rfl c27 ?_
      refine g_if_le hx (off := 19) (tgt := 47) (by decide +kernel) (by decide) (fun c28 => ?_) (fun c28 => ?_)
      · have h := ok_t h c28
        refine g_run hx [(.iconst 0, 0, 0), (.iadd, 0, 0), (.istore_n 2, 0, 0), (.iinc 3 1, 1, 0)] (pc' := 53) (lo' := [some (.ref 66), some (.ref 81), some (.int (v2 + 0)), some (.int (v3 + 1))]) (st' := []) (σ' := σ) (by decide +kernel) rfl rfl ?_
        refine g_goto hx (off := (-49)) (tgt := 4) (by decide +kernel) (by decide) ?_
        exact ih _ _ _ h
      · have h := ok_f h c28
        refine g_run hx [(.aload_n 0, 0, 0), (.getfield 20, 0, 0), (.bipush 12, 12, 0), (.iconst 2, 2, 0), (.iload_n 3, 0, 0), (.imul, 0, 0), (.iadd, 0, 0), (.iconst 1, 1, 0), (.iadd, 0, 0)] (pc' := 43) (lo' := [some (.ref 66), some (.ref 81), some (.int v2), some (.int v3)]) (st' := [.int ((12 + (2 * v3)) + 1), .ref 69, .int v2]) (σ' := σ) (by decide +kernel) rfl rfl ?_
        obtain ⟨c43, h⟩ := ok_g h
        refine g_iald hx (by decide +kernel) (i := 69) (n := 189) rfl c43 ?_
        refine g_goto hx (off := 4) (tgt := 48) (by decide +kernel) (by decide) ?_
        refine g_run hx [(.iadd, 0, 0), (.istore_n 2, 0, 0), (.iinc 3 1, 1, 0)] (pc' := 53) (lo' := [some (.ref 66), some (.ref 81), some (.int (v2 + (gA σ 69 ((12 + (2 * v3)) + 1)))), some (.int (v3 + 1))]) (st' := []) (σ' := σ) (by decide +kernel) rfl rfl ?_
        refine g_goto hx (off := (-49)) (tgt := 4) (by decide +kernel) (by decide) ?_
        exact ih _ _ _ h
set_option maxRecDepth 100000 in
theorem s_m_lostOn_66_81 {y : EX} {N : Nat} {σ : Sg} {P : Int32 × Sg → Prop} (h : ok (f_m_lostOn N 69 189 63 81 σ) P) : Ev y M_m_lostOn 0 [.ref 66, .ref 81] σ rvI P := by
  refine Ev.of mk_m_lostOn (Nat.le_of_ble_eq_true rfl) (fun x hx hc hr => ?_)
  have hx : Cx 10 prog_12_method_49_code x := hx
  have hc : Cc y 4 0 x := hc
  show G x 0 [some (.ref 66), some (.ref 81), none, none] [] σ
  unfold f_m_lostOn at h
  refine g_run hx [(.iconst 0, 0, 0), (.istore_n 2, 0, 0), (.iconst 0, 0, 0), (.istore_n 3, 0, 0)] (pc' := 4) (lo' := [some (.ref 66), some (.ref 81), some (.int 0), some (.int 0)]) (st' := []) (σ' := σ) (by decide +kernel) rfl rfl ?_
  refine s_m_lostOn_66_81_L4 hx hc hr N _ _ _ h
def f_m_tryRows_L129 (N : Nat) (rec : Int32 → Int32 → Sg → Option (Unit × Sg)) : Nat → Int32 → Int32 → Int32 → Sg → Option (Unit × Sg)
  | 0, _, _, _, _ => none
  | n + 1, v1, v2, v4, σ =>
    if (2 * (gA σ 69 2)) < v4 then
      some ((), σ)
    else
      if (gI σ 66 36) ≤ v1 then
        some ((), σ)
      else
        (f_m_copy N 378 63 81 80 (63 * v1) 0 63 σ).bind fun q2 =>
        (f_m_digitOn N 81 63 189 69 v4 q2.2).bind fun q3 =>
        if q3.1 = true then
          (f_m_copy N 63 378 80 81 0 (63 * (v1 + 1)) 63 q3.2).bind fun q4 =>
          (rec (v1 + 1) ((10 * v2) + v4) q4.2).bind fun q5 =>
          f_m_tryRows_L129 N rec n v1 v2 (v4 + 1) q5.2
        else
          f_m_tryRows_L129 N rec n v1 v2 (v4 + 1) q3.2
def f_m_tryRows_B (N : Nat) (rec : Int32 → Int32 → Sg → Option (Unit × Sg)) (v1 : Int32) (v2 : Int32) (σ : Sg) : Option (Unit × Sg) :=
  (f_m_copy N 378 63 81 80 (63 * v1) 0 63 σ).bind fun q1 =>
  if vin (gA q1.2 81 60) 60 then
  if (gA q1.2 82 (gA q1.2 81 60)) ≤ v1 then
    if (gA q1.2 81 60) = (gI q1.2 66 35) then
      (f_m_lostOn N 69 189 63 81 q1.2).bind fun q6 =>
      if (gI q6.2 66 39) < 0 then
        f_m_tryRows_L129 N rec N v1 v2 1 (sI (sI (sI q6.2 66 39 v2) 66 37 v1) 66 38 q6.1)
      else
        if q6.1 < (gI q6.2 66 38) then
          f_m_tryRows_L129 N rec N v1 v2 1 (sI (sI (sI q6.2 66 39 v2) 66 37 v1) 66 38 q6.1)
        else
          if q6.1 = (gI q6.2 66 38) then
            if v1 < (gI q6.2 66 37) then
              f_m_tryRows_L129 N rec N v1 v2 1 (sI (sI (sI q6.2 66 39 v2) 66 37 v1) 66 38 q6.1)
            else
              if v1 = (gI q6.2 66 37) then
                if (gI q6.2 66 39) ≤ v2 then
                  f_m_tryRows_L129 N rec N v1 v2 1 q6.2
                else
                  f_m_tryRows_L129 N rec N v1 v2 1 (sI (sI (sI q6.2 66 39 v2) 66 37 v1) 66 38 q6.1)
              else
                f_m_tryRows_L129 N rec N v1 v2 1 q6.2
          else
            f_m_tryRows_L129 N rec N v1 v2 1 q6.2
    else
      f_m_tryRows_L129 N rec N v1 v2 1 q1.2
  else
    if vin (gA q1.2 81 60) 60 then
    if (gA q1.2 81 60) = (gI (sA q1.2 82 (gA q1.2 81 60) v1) 66 35) then
      (f_m_lostOn N 69 189 63 81 (sA q1.2 82 (gA q1.2 81 60) v1)).bind fun q7 =>
      if (gI q7.2 66 39) < 0 then
        f_m_tryRows_L129 N rec N v1 v2 1 (sI (sI (sI q7.2 66 39 v2) 66 37 v1) 66 38 q7.1)
      else
        if q7.1 < (gI q7.2 66 38) then
          f_m_tryRows_L129 N rec N v1 v2 1 (sI (sI (sI q7.2 66 39 v2) 66 37 v1) 66 38 q7.1)
        else
          if q7.1 = (gI q7.2 66 38) then
            if v1 < (gI q7.2 66 37) then
              f_m_tryRows_L129 N rec N v1 v2 1 (sI (sI (sI q7.2 66 39 v2) 66 37 v1) 66 38 q7.1)
            else
              if v1 = (gI q7.2 66 37) then
                if (gI q7.2 66 39) ≤ v2 then
                  f_m_tryRows_L129 N rec N v1 v2 1 q7.2
                else
                  f_m_tryRows_L129 N rec N v1 v2 1 (sI (sI (sI q7.2 66 39 v2) 66 37 v1) 66 38 q7.1)
              else
                f_m_tryRows_L129 N rec N v1 v2 1 q7.2
          else
            f_m_tryRows_L129 N rec N v1 v2 1 q7.2
    else
      f_m_tryRows_L129 N rec N v1 v2 1 (sA q1.2 82 (gA q1.2 81 60) v1)
    else none
  else none
def f_m_tryRows (N : Nat) : Nat → Int32 → Int32 → Sg → Option (Unit × Sg)
  | 0, _, _, _ => none
  | D + 1, v1, v2, σ => f_m_tryRows_B N (f_m_tryRows N D) v1 v2 σ
set_option maxRecDepth 100000 in
theorem s_m_tryRows_L129 {y : EX} {N D : Nat} {x : CX} {P : Unit × Sg → Prop} (hx : Cx 10 prog_12_method_81_code x) (hc : Cc y 5 (D + 1 + 4) x) (hr : Cr M_m_tryRows rvN P x) {rec : Int32 → Int32 → Sg → Option (Unit × Sg)} (hrec : ∀ (v1 : Int32) (v2 : Int32) (σ : Sg) (P : Unit × Sg → Prop), ok (rec v1 v2 σ) P → Ev y M_m_tryRows (D + 4) [.ref 66, .int v1, .int v2] σ rvN P) : ∀ (n : Nat) (v1 : Int32) (v2 : Int32) (v4 : Int32) (σ : Sg), ok (f_m_tryRows_L129 N rec n v1 v2 v4 σ) P → G x 129 [some (.ref 66), some (.int v1), some (.int v2), none, some (.int v4)] [] σ := by
  intro n
  induction n with
  | zero => intro v1 v2 v4 σ h; exact ok_none h
  | succ n ih =>
    intro v1 v2 v4 σ h
    rw [f_m_tryRows_L129] at h
    refine g_run hx [(.iload 4, 0, 0), (.iconst 2, 2, 0), (.aload_n 0, 0, 0), (.getfield 20, 0, 0), (.iconst 2, 2, 0), (.iaload, 0, 0), (.imul, 0, 0)] (pc' := 139) (lo' := [some (.ref 66), some (.int v1), some (.int v2), none, some (.int v4)]) (st' := [.int (2 * (gA σ 69 2)), .int v4]) (σ' := σ) (by decide +kernel) rfl rfl ?_
    refine g_ic_gt hx (off := 85) (tgt := 224) (by decide +kernel) (by decide) (fun c139 => ?_) (fun c139 => ?_)
    · have h := ok_t h c139
      exact g_vret hx hr rfl () rfl (by decide +kernel) (ok_some h)
    · have h := ok_f h c139
      refine g_run hx [(.iload_n 1, 0, 0), (.aload_n 0, 0, 0), (.getfield 347, 0, 0)] (pc' := 147) (lo' := [some (.ref 66), some (.int v1), some (.int v2), none, some (.int v4)]) (st' := [.int (gI σ 66 36), .int v1]) (σ' := σ) (by decide +kernel) rfl rfl ?_
      refine g_ic_ge hx (off := 77) (tgt := 224) (by decide +kernel) (by decide) (fun c147 => ?_) (fun c147 => ?_)
      · have h := ok_t h c147
        exact g_vret hx hr rfl () rfl (by decide +kernel) (ok_some h)
      · have h := ok_f h c147
        refine g_run hx [(.aload_n 0, 0, 0), (.getfield 53, 0, 0), (.bipush 63, 63, 0), (.iload_n 1, 0, 0), (.imul, 0, 0), (.aload_n 0, 0, 0), (.getfield 56, 0, 0), (.iconst 0, 0, 0), (.bipush 63, 63, 0)] (pc' := 165) (lo' := [some (.ref 66), some (.int v1), some (.int v2), none, some (.int v4)]) (st' := [.int 63, .int 0, .ref 81, .int (63 * v1), .ref 80]) (σ' := σ) (by decide +kernel) rfl rfl ?_
        refine g_callS (rest := []) [.ref 80, .int (63 * v1), .ref 81, .int 0, .int 63] hx hc mk_m_copy ln_10_183 (by decide +kernel) (by omega) (Nat.le_of_ble_eq_true rfl) (s_m_copy_80_81 (ok_b h)) (fun r2 s2 h => ?_)
        refine g_run hx [(.aload_n 0, 0, 0), (.aload_n 0, 0, 0), (.getfield 56, 0, 0), (.iload 4, 0, 0)] (pc' := 175) (lo' := [some (.ref 66), some (.int v1), some (.int v2), none, some (.int v4)]) (st' := [.int v4, .ref 81, .ref 66]) (σ' := s2) (by decide +kernel) rfl rfl ?_
        refine g_callV (rest := []) [.ref 81, .int v4] hx hc mk_m_digitOn ln_10_324 rfl (by decide +kernel) (by omega) (Nat.le_of_ble_eq_true rfl) (s_m_digitOn_66_81 (ok_b h)) (fun r3 s3 h => ?_)
        refine g_ifb_ne hx (off := 6) (tgt := 184) (by decide +kernel) (by decide) (fun c178 => ?_) (fun c178 => ?_)
        · have h := ok_t h c178
          refine g_run hx [(.aload_n 0, 0, 0), (.getfield 56, 0, 0), (.iconst 0, 0, 0), (.aload_n 0, 0, 0), (.getfield 53, 0, 0), (.bipush 63, 63, 0), (.iload_n 1, 0, 0), (.iconst 1, 1, 0), (.iadd, 0, 0), (.imul, 0, 0), (.bipush 63, 63, 0)] (pc' := 201) (lo' := [some (.ref 66), some (.int v1), some (.int v2), none, some (.int v4)]) (st' := [.int 63, .int (63 * (v1 + 1)), .ref 80, .int 0, .ref 81]) (σ' := s3) (by decide +kernel) rfl rfl ?_
          refine g_callS (rest := []) [.ref 81, .int 0, .ref 80, .int (63 * (v1 + 1)), .int 63] hx hc mk_m_copy ln_10_183 (by decide +kernel) (by omega) (Nat.le_of_ble_eq_true rfl) (s_m_copy_81_80 (ok_b h)) (fun r4 s4 h => ?_)
          refine g_run hx [(.aload_n 0, 0, 0), (.iload_n 1, 0, 0), (.iconst 1, 1, 0), (.iadd, 0, 0), (.bipush 10, 10, 0), (.iload_n 2, 0, 0), (.imul, 0, 0), (.iload 4, 0, 0), (.iadd, 0, 0)] (pc' := 215) (lo' := [some (.ref 66), some (.int v1), some (.int v2), none, some (.int v4)]) (st' := [.int ((10 * v2) + v4), .int (v1 + 1), .ref 66]) (σ' := s4) (by decide +kernel) rfl rfl ?_
          refine g_callV (rest := []) [.int (v1 + 1), .int ((10 * v2) + v4)] hx hc mk_m_tryRows ln_10_350 rfl (by decide +kernel) (by omega) (Nat.le_of_ble_eq_true rfl) (hrec _ _ _ _ (ok_b h)) (fun r5 s5 h => ?_)
          refine g_run hx [(.iinc 4 1, 1, 0)] (pc' := 221) (lo' := [some (.ref 66), some (.int v1), some (.int v2), none, some (.int (v4 + 1))]) (st' := []) (σ' := s5) (by decide +kernel) rfl rfl ?_
          refine g_goto hx (off := (-92)) (tgt := 129) (by decide +kernel) (by decide) ?_
          exact ih _ _ _ _ h
        · have h := ok_f h c178
          refine g_goto hx (off := 37) (tgt := 218) (by decide +kernel) (by decide) ?_
          refine g_run hx [(.iinc 4 1, 1, 0)] (pc' := 221) (lo' := [some (.ref 66), some (.int v1), some (.int v2), none, some (.int (v4 + 1))]) (st' := []) (σ' := s3) (by decide +kernel) rfl rfl ?_
          refine g_goto hx (off := (-92)) (tgt := 129) (by decide +kernel) (by decide) ?_
          exact ih _ _ _ _ h
set_option maxRecDepth 100000 in
theorem s_m_tryRows_B {y : EX} {N D : Nat} {v1 : Int32} {v2 : Int32} {rec : Int32 → Int32 → Sg → Option (Unit × Sg)} (hrec : ∀ (v1 : Int32) (v2 : Int32) (σ : Sg) (P : Unit × Sg → Prop), ok (rec v1 v2 σ) P → Ev y M_m_tryRows (D + 4) [.ref 66, .int v1, .int v2] σ rvN P) {σ : Sg} {P : Unit × Sg → Prop} (h : ok (f_m_tryRows_B N rec v1 v2 σ) P) : Ev y M_m_tryRows (D + 1 + 4) [.ref 66, .int v1, .int v2] σ rvN P := by
  refine Ev.of mk_m_tryRows (Nat.le_of_ble_eq_true rfl) (fun x hx hc hr => ?_)
  have hx : Cx 10 prog_12_method_81_code x := hx
  have hc : Cc y 5 (D + 1 + 4) x := hc
  show G x 0 [some (.ref 66), some (.int v1), some (.int v2), none, none] [] σ
  unfold f_m_tryRows_B at h
  refine g_run hx [(.aload_n 0, 0, 0), (.getfield 53, 0, 0), (.bipush 63, 63, 0), (.iload_n 1, 0, 0), (.imul, 0, 0), (.aload_n 0, 0, 0), (.getfield 56, 0, 0), (.iconst 0, 0, 0), (.bipush 63, 63, 0)] (pc' := 15) (lo' := [some (.ref 66), some (.int v1), some (.int v2), none, none]) (st' := [.int 63, .int 0, .ref 81, .int (63 * v1), .ref 80]) (σ' := σ) (by decide +kernel) rfl rfl ?_
  refine g_callS (rest := []) [.ref 80, .int (63 * v1), .ref 81, .int 0, .int 63] hx hc mk_m_copy ln_10_183 (by decide +kernel) (by omega) (Nat.le_of_ble_eq_true rfl) (s_m_copy_80_81 (ok_b h)) (fun r1 s1 h => ?_)
  refine g_run hx [(.aload_n 0, 0, 0), (.getfield 56, 0, 0), (.bipush 60, 60, 0), (.iaload, 0, 0), (.istore_n 3, 0, 0), (.iload_n 1, 0, 0), (.aload_n 0, 0, 0), (.getfield 59, 0, 0), (.iload_n 3, 0, 0)] (pc' := 32) (lo' := [some (.ref 66), some (.int v1), some (.int v2), some (.int (gA s1 81 60)), none]) (st' := [.int (gA s1 81 60), .ref 82, .int v1]) (σ' := s1) (by decide +kernel) rfl rfl ?_
  obtain ⟨c32, h⟩ := ok_g h
  refine g_iald hx (by decide +kernel) (i := 82) (n := 60) rfl c32 ?_
  refine g_ic_ge hx (off := 10) (tgt := 43) (by decide +kernel) (by decide) (fun c33 => ?_) (fun c33 => ?_)
  · have h := ok_t h c33
    refine g_run hx [(.iload_n 3, 0, 0), (.aload_n 0, 0, 0), (.getfield 335, 0, 0)] (pc' := 48) (lo' := [some (.ref 66), some (.int v1), some (.int v2), some (.int (gA s1 81 60)), none]) (st' := [.int (gI s1 66 35), .int (gA s1 81 60)]) (σ' := s1) (by decide +kernel) rfl rfl ?_
    refine g_ic_ne hx (off := 78) (tgt := 126) (by decide +kernel) (by decide) (fun c48 => ?_) (fun c48 => ?_)
    · have h := ok_f h c48
      refine g_run hx [(.iconst 1, 1, 0), (.istore 4, 0, 0)] (pc' := 129) (lo' := [some (.ref 66), some (.int v1), some (.int v2), some (.int (gA s1 81 60)), some (.int 1)]) (st' := []) (σ' := s1) (by decide +kernel) rfl rfl ?_
      refine g_wk (lo' := [some (.ref 66), some (.int v1), some (.int v2), none, some (.int 1)]) ⟨rfl, ⟨rfl, ⟨rfl, ⟨rfl, trivial⟩⟩⟩⟩ ?_
      refine s_m_tryRows_L129 hx hc hr hrec N _ _ _ _ h
    · have h := ok_t h c48
      refine g_run hx [(.aload_n 0, 0, 0), (.aload_n 0, 0, 0), (.getfield 56, 0, 0)] (pc' := 56) (lo' := [some (.ref 66), some (.int v1), some (.int v2), some (.int (gA s1 81 60)), none]) (st' := [.ref 81, .ref 66]) (σ' := s1) (by decide +kernel) rfl rfl ?_
      refine g_callV (rest := []) [.ref 81] hx hc mk_m_lostOn ln_10_294 rfl (by decide +kernel) (by omega) (Nat.le_of_ble_eq_true rfl) (s_m_lostOn_66_81 (ok_b h)) (fun r6 s6 h => ?_)
      refine g_run hx [(.istore 4, 0, 0), (.aload_n 0, 0, 0), (.getfield 338, 0, 0)] (pc' := 65) (lo' := [some (.ref 66), some (.int v1), some (.int v2), some (.int (gA s1 81 60)), some (.int r6)]) (st' := [.int (gI s6 66 39)]) (σ' := s6) (by decide +kernel) rfl rfl ?_
      refine g_if_lt hx (off := 45) (tgt := 110) (by decide +kernel) (by decide) (fun c65 => ?_) (fun c65 => ?_)
      · have h := ok_t h c65
        refine g_run hx [(.aload_n 0, 0, 0), (.iload_n 2, 0, 0), (.putfield 338, 0, 0), (.aload_n 0, 0, 0), (.iload_n 1, 0, 0), (.putfield 344, 0, 0), (.aload_n 0, 0, 0), (.iload 4, 0, 0), (.putfield 341, 0, 0), (.iconst 1, 1, 0), (.istore 4, 0, 0)] (pc' := 129) (lo' := [some (.ref 66), some (.int v1), some (.int v2), some (.int (gA s1 81 60)), some (.int 1)]) (st' := []) (σ' := sI (sI (sI s6 66 39 v2) 66 37 v1) 66 38 r6) (by decide +kernel) rfl rfl ?_
        refine g_wk (lo' := [some (.ref 66), some (.int v1), some (.int v2), none, some (.int 1)]) ⟨rfl, ⟨rfl, ⟨rfl, ⟨rfl, trivial⟩⟩⟩⟩ ?_
        refine s_m_tryRows_L129 hx hc hr hrec N _ _ _ _ h
      · have h := ok_f h c65
        refine g_run hx [(.iload 4, 0, 0), (.aload_n 0, 0, 0), (.getfield 341, 0, 0)] (pc' := 74) (lo' := [some (.ref 66), some (.int v1), some (.int v2), some (.int (gA s1 81 60)), some (.int r6)]) (st' := [.int (gI s6 66 38), .int r6]) (σ' := s6) (by decide +kernel) rfl rfl ?_
        refine g_ic_lt hx (off := 36) (tgt := 110) (by decide +kernel) (by decide) (fun c74 => ?_) (fun c74 => ?_)
        · have h := ok_t h c74
          refine g_run hx [(.aload_n 0, 0, 0), (.iload_n 2, 0, 0), (.putfield 338, 0, 0), (.aload_n 0, 0, 0), (.iload_n 1, 0, 0), (.putfield 344, 0, 0), (.aload_n 0, 0, 0), (.iload 4, 0, 0), (.putfield 341, 0, 0), (.iconst 1, 1, 0), (.istore 4, 0, 0)] (pc' := 129) (lo' := [some (.ref 66), some (.int v1), some (.int v2), some (.int (gA s1 81 60)), some (.int 1)]) (st' := []) (σ' := sI (sI (sI s6 66 39 v2) 66 37 v1) 66 38 r6) (by decide +kernel) rfl rfl ?_
          refine g_wk (lo' := [some (.ref 66), some (.int v1), some (.int v2), none, some (.int 1)]) ⟨rfl, ⟨rfl, ⟨rfl, ⟨rfl, trivial⟩⟩⟩⟩ ?_
          refine s_m_tryRows_L129 hx hc hr hrec N _ _ _ _ h
        · have h := ok_f h c74
          refine g_run hx [(.iload 4, 0, 0), (.aload_n 0, 0, 0), (.getfield 341, 0, 0)] (pc' := 83) (lo' := [some (.ref 66), some (.int v1), some (.int v2), some (.int (gA s1 81 60)), some (.int r6)]) (st' := [.int (gI s6 66 38), .int r6]) (σ' := s6) (by decide +kernel) rfl rfl ?_
          refine g_ic_ne hx (off := 43) (tgt := 126) (by decide +kernel) (by decide) (fun c83 => ?_) (fun c83 => ?_)
          · have h := ok_f h c83
            refine g_run hx [(.iconst 1, 1, 0), (.istore 4, 0, 0)] (pc' := 129) (lo' := [some (.ref 66), some (.int v1), some (.int v2), some (.int (gA s1 81 60)), some (.int 1)]) (st' := []) (σ' := s6) (by decide +kernel) rfl rfl ?_
            refine g_wk (lo' := [some (.ref 66), some (.int v1), some (.int v2), none, some (.int 1)]) ⟨rfl, ⟨rfl, ⟨rfl, ⟨rfl, trivial⟩⟩⟩⟩ ?_
            refine s_m_tryRows_L129 hx hc hr hrec N _ _ _ _ h
          · have h := ok_t h c83
            refine g_run hx [(.iload_n 1, 0, 0), (.aload_n 0, 0, 0), (.getfield 344, 0, 0)] (pc' := 91) (lo' := [some (.ref 66), some (.int v1), some (.int v2), some (.int (gA s1 81 60)), some (.int r6)]) (st' := [.int (gI s6 66 37), .int v1]) (σ' := s6) (by decide +kernel) rfl rfl ?_
            refine g_ic_lt hx (off := 19) (tgt := 110) (by decide +kernel) (by decide) (fun c91 => ?_) (fun c91 => ?_)
            · have h := ok_t h c91
              refine g_run hx [(.aload_n 0, 0, 0), (.iload_n 2, 0, 0), (.putfield 338, 0, 0), (.aload_n 0, 0, 0), (.iload_n 1, 0, 0), (.putfield 344, 0, 0), (.aload_n 0, 0, 0), (.iload 4, 0, 0), (.putfield 341, 0, 0), (.iconst 1, 1, 0), (.istore 4, 0, 0)] (pc' := 129) (lo' := [some (.ref 66), some (.int v1), some (.int v2), some (.int (gA s1 81 60)), some (.int 1)]) (st' := []) (σ' := sI (sI (sI s6 66 39 v2) 66 37 v1) 66 38 r6) (by decide +kernel) rfl rfl ?_
              refine g_wk (lo' := [some (.ref 66), some (.int v1), some (.int v2), none, some (.int 1)]) ⟨rfl, ⟨rfl, ⟨rfl, ⟨rfl, trivial⟩⟩⟩⟩ ?_
              refine s_m_tryRows_L129 hx hc hr hrec N _ _ _ _ h
            · have h := ok_f h c91
              refine g_run hx [(.iload_n 1, 0, 0), (.aload_n 0, 0, 0), (.getfield 344, 0, 0)] (pc' := 99) (lo' := [some (.ref 66), some (.int v1), some (.int v2), some (.int (gA s1 81 60)), some (.int r6)]) (st' := [.int (gI s6 66 37), .int v1]) (σ' := s6) (by decide +kernel) rfl rfl ?_
              refine g_ic_ne hx (off := 27) (tgt := 126) (by decide +kernel) (by decide) (fun c99 => ?_) (fun c99 => ?_)
              · have h := ok_f h c99
                refine g_run hx [(.iconst 1, 1, 0), (.istore 4, 0, 0)] (pc' := 129) (lo' := [some (.ref 66), some (.int v1), some (.int v2), some (.int (gA s1 81 60)), some (.int 1)]) (st' := []) (σ' := s6) (by decide +kernel) rfl rfl ?_
                refine g_wk (lo' := [some (.ref 66), some (.int v1), some (.int v2), none, some (.int 1)]) ⟨rfl, ⟨rfl, ⟨rfl, ⟨rfl, trivial⟩⟩⟩⟩ ?_
                refine s_m_tryRows_L129 hx hc hr hrec N _ _ _ _ h
              · have h := ok_t h c99
                refine g_run hx [(.iload_n 2, 0, 0), (.aload_n 0, 0, 0), (.getfield 338, 0, 0)] (pc' := 107) (lo' := [some (.ref 66), some (.int v1), some (.int v2), some (.int (gA s1 81 60)), some (.int r6)]) (st' := [.int (gI s6 66 39), .int v2]) (σ' := s6) (by decide +kernel) rfl rfl ?_
                refine g_ic_ge hx (off := 19) (tgt := 126) (by decide +kernel) (by decide) (fun c107 => ?_) (fun c107 => ?_)
                · have h := ok_t h c107
                  refine g_run hx [(.iconst 1, 1, 0), (.istore 4, 0, 0)] (pc' := 129) (lo' := [some (.ref 66), some (.int v1), some (.int v2), some (.int (gA s1 81 60)), some (.int 1)]) (st' := []) (σ' := s6) (by decide +kernel) rfl rfl ?_
                  refine g_wk (lo' := [some (.ref 66), some (.int v1), some (.int v2), none, some (.int 1)]) ⟨rfl, ⟨rfl, ⟨rfl, ⟨rfl, trivial⟩⟩⟩⟩ ?_
                  refine s_m_tryRows_L129 hx hc hr hrec N _ _ _ _ h
                · have h := ok_f h c107
                  refine g_run hx [(.aload_n 0, 0, 0), (.iload_n 2, 0, 0), (.putfield 338, 0, 0), (.aload_n 0, 0, 0), (.iload_n 1, 0, 0), (.putfield 344, 0, 0), (.aload_n 0, 0, 0), (.iload 4, 0, 0), (.putfield 341, 0, 0), (.iconst 1, 1, 0), (.istore 4, 0, 0)] (pc' := 129) (lo' := [some (.ref 66), some (.int v1), some (.int v2), some (.int (gA s1 81 60)), some (.int 1)]) (st' := []) (σ' := sI (sI (sI s6 66 39 v2) 66 37 v1) 66 38 r6) (by decide +kernel) rfl rfl ?_
                  refine g_wk (lo' := [some (.ref 66), some (.int v1), some (.int v2), none, some (.int 1)]) ⟨rfl, ⟨rfl, ⟨rfl, ⟨rfl, trivial⟩⟩⟩⟩ ?_
                  refine s_m_tryRows_L129 hx hc hr hrec N _ _ _ _ h
  · have h := ok_f h c33
    refine g_run hx [(.aload_n 0, 0, 0), (.getfield 59, 0, 0), (.iload_n 3, 0, 0), (.iload_n 1, 0, 0)] (pc' := 42) (lo' := [some (.ref 66), some (.int v1), some (.int v2), some (.int (gA s1 81 60)), none]) (st' := [.int v1, .int (gA s1 81 60), .ref 82]) (σ' := s1) (by decide +kernel) rfl rfl ?_
    obtain ⟨c42, h⟩ := ok_g h
    refine g_iast hx (by decide +kernel) (i := 82) (n := 60) rfl c42 ?_
    refine g_run hx [(.iload_n 3, 0, 0), (.aload_n 0, 0, 0), (.getfield 335, 0, 0)] (pc' := 48) (lo' := [some (.ref 66), some (.int v1), some (.int v2), some (.int (gA s1 81 60)), none]) (st' := [.int (gI (sA s1 82 (gA s1 81 60) v1) 66 35), .int (gA s1 81 60)]) (σ' := sA s1 82 (gA s1 81 60) v1) (by decide +kernel) rfl rfl ?_
    refine g_ic_ne hx (off := 78) (tgt := 126) (by decide +kernel) (by decide) (fun c48 => ?_) (fun c48 => ?_)
    · have h := ok_f h c48
      refine g_run hx [(.iconst 1, 1, 0), (.istore 4, 0, 0)] (pc' := 129) (lo' := [some (.ref 66), some (.int v1), some (.int v2), some (.int (gA s1 81 60)), some (.int 1)]) (st' := []) (σ' := sA s1 82 (gA s1 81 60) v1) (by decide +kernel) rfl rfl ?_
      refine g_wk (lo' := [some (.ref 66), some (.int v1), some (.int v2), none, some (.int 1)]) ⟨rfl, ⟨rfl, ⟨rfl, ⟨rfl, trivial⟩⟩⟩⟩ ?_
      refine s_m_tryRows_L129 hx hc hr hrec N _ _ _ _ h
    · have h := ok_t h c48
      refine g_run hx [(.aload_n 0, 0, 0), (.aload_n 0, 0, 0), (.getfield 56, 0, 0)] (pc' := 56) (lo' := [some (.ref 66), some (.int v1), some (.int v2), some (.int (gA s1 81 60)), none]) (st' := [.ref 81, .ref 66]) (σ' := sA s1 82 (gA s1 81 60) v1) (by decide +kernel) rfl rfl ?_
      refine g_callV (rest := []) [.ref 81] hx hc mk_m_lostOn ln_10_294 rfl (by decide +kernel) (by omega) (Nat.le_of_ble_eq_true rfl) (s_m_lostOn_66_81 (ok_b h)) (fun r7 s7 h => ?_)
      refine g_run hx [(.istore 4, 0, 0), (.aload_n 0, 0, 0), (.getfield 338, 0, 0)] (pc' := 65) (lo' := [some (.ref 66), some (.int v1), some (.int v2), some (.int (gA s1 81 60)), some (.int r7)]) (st' := [.int (gI s7 66 39)]) (σ' := s7) (by decide +kernel) rfl rfl ?_
      refine g_if_lt hx (off := 45) (tgt := 110) (by decide +kernel) (by decide) (fun c65 => ?_) (fun c65 => ?_)
      · have h := ok_t h c65
        refine g_run hx [(.aload_n 0, 0, 0), (.iload_n 2, 0, 0), (.putfield 338, 0, 0), (.aload_n 0, 0, 0), (.iload_n 1, 0, 0), (.putfield 344, 0, 0), (.aload_n 0, 0, 0), (.iload 4, 0, 0), (.putfield 341, 0, 0), (.iconst 1, 1, 0), (.istore 4, 0, 0)] (pc' := 129) (lo' := [some (.ref 66), some (.int v1), some (.int v2), some (.int (gA s1 81 60)), some (.int 1)]) (st' := []) (σ' := sI (sI (sI s7 66 39 v2) 66 37 v1) 66 38 r7) (by decide +kernel) rfl rfl ?_
        refine g_wk (lo' := [some (.ref 66), some (.int v1), some (.int v2), none, some (.int 1)]) ⟨rfl, ⟨rfl, ⟨rfl, ⟨rfl, trivial⟩⟩⟩⟩ ?_
        refine s_m_tryRows_L129 hx hc hr hrec N _ _ _ _ h
      · have h := ok_f h c65
        refine g_run hx [(.iload 4, 0, 0), (.aload_n 0, 0, 0), (.getfield 341, 0, 0)] (pc' := 74) (lo' := [some (.ref 66), some (.int v1), some (.int v2), some (.int (gA s1 81 60)), some (.int r7)]) (st' := [.int (gI s7 66 38), .int r7]) (σ' := s7) (by decide +kernel) rfl rfl ?_
        refine g_ic_lt hx (off := 36) (tgt := 110) (by decide +kernel) (by decide) (fun c74 => ?_) (fun c74 => ?_)
        · have h := ok_t h c74
          refine g_run hx [(.aload_n 0, 0, 0), (.iload_n 2, 0, 0), (.putfield 338, 0, 0), (.aload_n 0, 0, 0), (.iload_n 1, 0, 0), (.putfield 344, 0, 0), (.aload_n 0, 0, 0), (.iload 4, 0, 0), (.putfield 341, 0, 0), (.iconst 1, 1, 0), (.istore 4, 0, 0)] (pc' := 129) (lo' := [some (.ref 66), some (.int v1), some (.int v2), some (.int (gA s1 81 60)), some (.int 1)]) (st' := []) (σ' := sI (sI (sI s7 66 39 v2) 66 37 v1) 66 38 r7) (by decide +kernel) rfl rfl ?_
          refine g_wk (lo' := [some (.ref 66), some (.int v1), some (.int v2), none, some (.int 1)]) ⟨rfl, ⟨rfl, ⟨rfl, ⟨rfl, trivial⟩⟩⟩⟩ ?_
          refine s_m_tryRows_L129 hx hc hr hrec N _ _ _ _ h
        · have h := ok_f h c74
          refine g_run hx [(.iload 4, 0, 0), (.aload_n 0, 0, 0), (.getfield 341, 0, 0)] (pc' := 83) (lo' := [some (.ref 66), some (.int v1), some (.int v2), some (.int (gA s1 81 60)), some (.int r7)]) (st' := [.int (gI s7 66 38), .int r7]) (σ' := s7) (by decide +kernel) rfl rfl ?_
          refine g_ic_ne hx (off := 43) (tgt := 126) (by decide +kernel) (by decide) (fun c83 => ?_) (fun c83 => ?_)
          · have h := ok_f h c83
            refine g_run hx [(.iconst 1, 1, 0), (.istore 4, 0, 0)] (pc' := 129) (lo' := [some (.ref 66), some (.int v1), some (.int v2), some (.int (gA s1 81 60)), some (.int 1)]) (st' := []) (σ' := s7) (by decide +kernel) rfl rfl ?_
            refine g_wk (lo' := [some (.ref 66), some (.int v1), some (.int v2), none, some (.int 1)]) ⟨rfl, ⟨rfl, ⟨rfl, ⟨rfl, trivial⟩⟩⟩⟩ ?_
            refine s_m_tryRows_L129 hx hc hr hrec N _ _ _ _ h
          · have h := ok_t h c83
            refine g_run hx [(.iload_n 1, 0, 0), (.aload_n 0, 0, 0), (.getfield 344, 0, 0)] (pc' := 91) (lo' := [some (.ref 66), some (.int v1), some (.int v2), some (.int (gA s1 81 60)), some (.int r7)]) (st' := [.int (gI s7 66 37), .int v1]) (σ' := s7) (by decide +kernel) rfl rfl ?_
            refine g_ic_lt hx (off := 19) (tgt := 110) (by decide +kernel) (by decide) (fun c91 => ?_) (fun c91 => ?_)
            · have h := ok_t h c91
              refine g_run hx [(.aload_n 0, 0, 0), (.iload_n 2, 0, 0), (.putfield 338, 0, 0), (.aload_n 0, 0, 0), (.iload_n 1, 0, 0), (.putfield 344, 0, 0), (.aload_n 0, 0, 0), (.iload 4, 0, 0), (.putfield 341, 0, 0), (.iconst 1, 1, 0), (.istore 4, 0, 0)] (pc' := 129) (lo' := [some (.ref 66), some (.int v1), some (.int v2), some (.int (gA s1 81 60)), some (.int 1)]) (st' := []) (σ' := sI (sI (sI s7 66 39 v2) 66 37 v1) 66 38 r7) (by decide +kernel) rfl rfl ?_
              refine g_wk (lo' := [some (.ref 66), some (.int v1), some (.int v2), none, some (.int 1)]) ⟨rfl, ⟨rfl, ⟨rfl, ⟨rfl, trivial⟩⟩⟩⟩ ?_
              refine s_m_tryRows_L129 hx hc hr hrec N _ _ _ _ h
            · have h := ok_f h c91
              refine g_run hx [(.iload_n 1, 0, 0), (.aload_n 0, 0, 0), (.getfield 344, 0, 0)] (pc' := 99) (lo' := [some (.ref 66), some (.int v1), some (.int v2), some (.int (gA s1 81 60)), some (.int r7)]) (st' := [.int (gI s7 66 37), .int v1]) (σ' := s7) (by decide +kernel) rfl rfl ?_
              refine g_ic_ne hx (off := 27) (tgt := 126) (by decide +kernel) (by decide) (fun c99 => ?_) (fun c99 => ?_)
              · have h := ok_f h c99
                refine g_run hx [(.iconst 1, 1, 0), (.istore 4, 0, 0)] (pc' := 129) (lo' := [some (.ref 66), some (.int v1), some (.int v2), some (.int (gA s1 81 60)), some (.int 1)]) (st' := []) (σ' := s7) (by decide +kernel) rfl rfl ?_
                refine g_wk (lo' := [some (.ref 66), some (.int v1), some (.int v2), none, some (.int 1)]) ⟨rfl, ⟨rfl, ⟨rfl, ⟨rfl, trivial⟩⟩⟩⟩ ?_
                refine s_m_tryRows_L129 hx hc hr hrec N _ _ _ _ h
              · have h := ok_t h c99
                refine g_run hx [(.iload_n 2, 0, 0), (.aload_n 0, 0, 0), (.getfield 338, 0, 0)] (pc' := 107) (lo' := [some (.ref 66), some (.int v1), some (.int v2), some (.int (gA s1 81 60)), some (.int r7)]) (st' := [.int (gI s7 66 39), .int v2]) (σ' := s7) (by decide +kernel) rfl rfl ?_
                refine g_ic_ge hx (off := 19) (tgt := 126) (by decide +kernel) (by decide) (fun c107 => ?_) (fun c107 => ?_)
                · have h := ok_t h c107
                  refine g_run hx [(.iconst 1, 1, 0), (.istore 4, 0, 0)] (pc' := 129) (lo' := [some (.ref 66), some (.int v1), some (.int v2), some (.int (gA s1 81 60)), some (.int 1)]) (st' := []) (σ' := s7) (by decide +kernel) rfl rfl ?_
                  refine g_wk (lo' := [some (.ref 66), some (.int v1), some (.int v2), none, some (.int 1)]) ⟨rfl, ⟨rfl, ⟨rfl, ⟨rfl, trivial⟩⟩⟩⟩ ?_
                  refine s_m_tryRows_L129 hx hc hr hrec N _ _ _ _ h
                · have h := ok_f h c107
                  refine g_run hx [(.aload_n 0, 0, 0), (.iload_n 2, 0, 0), (.putfield 338, 0, 0), (.aload_n 0, 0, 0), (.iload_n 1, 0, 0), (.putfield 344, 0, 0), (.aload_n 0, 0, 0), (.iload 4, 0, 0), (.putfield 341, 0, 0), (.iconst 1, 1, 0), (.istore 4, 0, 0)] (pc' := 129) (lo' := [some (.ref 66), some (.int v1), some (.int v2), some (.int (gA s1 81 60)), some (.int 1)]) (st' := []) (σ' := sI (sI (sI s7 66 39 v2) 66 37 v1) 66 38 r7) (by decide +kernel) rfl rfl ?_
                  refine g_wk (lo' := [some (.ref 66), some (.int v1), some (.int v2), none, some (.int 1)]) ⟨rfl, ⟨rfl, ⟨rfl, ⟨rfl, trivial⟩⟩⟩⟩ ?_
                  refine s_m_tryRows_L129 hx hc hr hrec N _ _ _ _ h
theorem s_m_tryRows {y : EX} {N : Nat} : ∀ (D : Nat) (v1 : Int32) (v2 : Int32) (σ : Sg) (P : Unit × Sg → Prop), ok (f_m_tryRows N D v1 v2 σ) P → Ev y M_m_tryRows (D + 4) [.ref 66, .int v1, .int v2] σ rvN P := by
  intro D
  induction D with
  | zero => intro v1 v2 σ P h; exact ok_none h
  | succ D ih =>
    intro v1 v2 σ P h
    exact s_m_tryRows_B ih h
