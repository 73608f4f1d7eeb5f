def f_m_seekRows_L17 (N : Nat) : Nat → Int32 → Sg → (Sg → Option (Unit × Sg)) → Option (Unit × Sg)
  | 0, _, _, _ => none
  | n + 1, v3, σ, k38 =>
    if 60 ≤ v3 then
      k38 σ
    else
      if vin v3 60 then
      f_m_seekRows_L17 N n (v3 + 1) (sA σ 82 v3 100000000) k38
      else none
def f_m_seekRows (N : Nat) (v1 : Int32) (v2 : Int32) (σ : Sg) : Option (Unit × Sg) :=
  f_m_seekRows_L17 N N 0 (sI (sI (sI σ 66 35 v1) 66 36 v2) 66 39 (-1))
    (fun (t1 : Sg) =>
      (f_m_copy N 63 378 80 74 0 0 63 t1).bind fun q2 =>
      (f_m_tryRows N 12 0 0 q2.2).bind fun q3 =>
      some ((), q3.2))
set_option maxRecDepth 100000 in
theorem s_m_seekRows_L17 {y : EX} {N : Nat} {x : CX} {P : Unit × Sg → Prop} (hx : Cx 10 prog_12_method_82_code x) (hc : Cc y 4 17 x) (hr : Cr M_m_seekRows rvN P x) : ∀ (n : Nat) (v3 : Int32) (σ : Sg) (k38 : Sg → Option (Unit × Sg)) (hk38 : ∀ (t : Sg), ok (k38 t) P → G x 38 [some (.ref 66), none, none, none] [] t), ok (f_m_seekRows_L17 N n v3 σ k38) P → G x 17 [some (.ref 66), none, none, some (.int v3)] [] σ := by
  intro n
  induction n with
  | zero => intro v3 σ k38 hk38 h; exact ok_none h
  | succ n ih =>
    intro v3 σ k38 hk38 h
    rw [f_m_seekRows_L17] at h
    refine g_run hx [(.iload_n 3, 0, 0), (.bipush 60, 60, 0)] (pc' := 20) (lo' := [some (.ref 66), none, none, some (.int v3)]) (st' := [.int 60, .int v3]) (σ' := σ) (by decide +kernel) rfl rfl ?_
    refine g_ic_ge hx (off := 18) (tgt := 38) (by decide +kernel) (by decide) (fun c20 => ?_) (fun c20 => ?_)
    · have h := ok_t h c20
      refine g_wk (lo' := [some (.ref 66), none, none, none]) ⟨rfl, trivial⟩ ?_
      exact hk38 _ h
    · have h := ok_f h c20
      refine g_run hx [(.aload_n 0, 0, 0), (.getfield 59, 0, 0), (.iload_n 3, 0, 0), (.ldc_w 313, 100000000, 0)] (pc' := 31) (lo' := [some (.ref 66), none, none, some (.int v3)]) (st' := [.int 100000000, .int v3, .ref 82]) (σ' := σ) (by decide +kernel) rfl rfl ?_
      obtain ⟨c31, h⟩ := ok_g h
      refine g_iast hx (by decide +kernel) (i := 82) (n := 60) rfl c31 ?_
      refine g_run hx [(.iinc 3 1, 1, 0)] (pc' := 35) (lo' := [some (.ref 66), none, none, some (.int (v3 + 1))]) (st' := []) (σ' := sA σ 82 v3 100000000) (by decide +kernel) rfl rfl ?_
      refine g_goto hx (off := (-18)) (tgt := 17) (by decide +kernel) (by decide) ?_
      exact ih _ _ _ hk38 h
set_option maxRecDepth 100000 in
theorem s_m_seekRows {y : EX} {N : Nat} {v1 : Int32} {v2 : Int32} {σ : Sg} {P : Unit × Sg → Prop} (h : ok (f_m_seekRows N v1 v2 σ) P) : Ev y M_m_seekRows 17 [.ref 66, .int v1, .int v2] σ rvN P := by
  refine Ev.of mk_m_seekRows (Nat.le_of_ble_eq_true rfl) (fun x hx hc hr => ?_)
  have hx : Cx 10 prog_12_method_82_code x := hx
  have hc : Cc y 4 17 x := hc
  show G x 0 [some (.ref 66), some (.int v1), some (.int v2), none] [] σ
  unfold f_m_seekRows at h
  refine g_run hx [(.aload_n 0, 0, 0), (.iload_n 1, 0, 0), (.putfield 335, 0, 0), (.aload_n 0, 0, 0), (.iload_n 2, 0, 0), (.putfield 347, 0, 0), (.aload_n 0, 0, 0), (.iconst (-1), (-1), 0), (.putfield 338, 0, 0), (.iconst 0, 0, 0), (.istore_n 3, 0, 0)] (pc' := 17) (lo' := [some (.ref 66), some (.int v1), some (.int v2), some (.int 0)]) (st' := []) (σ' := sI (sI (sI σ 66 35 v1) 66 36 v2) 66 39 (-1)) (by decide +kernel) rfl rfl ?_
  refine g_wk (lo' := [some (.ref 66), none, none, some (.int 0)]) ⟨rfl, ⟨rfl, trivial⟩⟩ ?_
  refine s_m_seekRows_L17 hx hc hr N _ _ _ (fun t1 h => ?_) h
  refine g_run hx [(.aload_n 0, 0, 0), (.getfield 35, 0, 0), (.iconst 0, 0, 0), (.aload_n 0, 0, 0), (.getfield 53, 0, 0), (.iconst 0, 0, 0), (.bipush 63, 63, 0)] (pc' := 50) (lo' := [some (.ref 66), none, none, none]) (st' := [.int 63, .int 0, .ref 80, .int 0, .ref 74]) (σ' := t1) (by decide +kernel) rfl rfl ?_
  refine g_callS (rest := []) [.ref 74, .int 0, .ref 80, .int 0, .int 63] hx hc mk_m_copy ln_10_183 (by decide +kernel) (by decide) (Nat.le_of_ble_eq_true rfl) (s_m_copy_74_80 (ok_b h)) (fun r2 s2 h => ?_)
  refine g_run hx [(.aload_n 0, 0, 0), (.iconst 0, 0, 0), (.iconst 0, 0, 0)] (pc' := 56) (lo' := [some (.ref 66), none, none, none]) (st' := [.int 0, .int 0, .ref 66]) (σ' := s2) (by decide +kernel) rfl rfl ?_
  refine g_callV (rest := []) [.int 0, .int 0] hx hc mk_m_tryRows ln_10_350 rfl (by decide +kernel) (by decide) (Nat.le_of_ble_eq_true rfl) (s_m_tryRows 12 _ _ _ _ (ok_b h)) (fun r3 s3 h => ?_)
  exact g_vret hx hr rfl () rfl (by decide +kernel) (ok_some h)
def f_m_come (N : Nat) (v1 : Int32) (σ : Sg) : Option (Int32 × Sg) :=
  (f_m_anew N σ).bind fun q1 =>
  (f_m_isCell N v1 q1.2).bind fun q2 =>
  if q2.1 = true then
    (f_m_seekRows N v1 5 q2.2).bind fun q3 =>
    if vin v1 60 then
    if (gA q3.2 82 v1) ≤ 5 then
      if vin v1 60 then
      some ((gA q3.2 82 v1), q3.2)
      else none
    else
      some ((-2), q3.2)
    else none
  else
    (f_m_no N 1 q2.2).bind fun q4 =>
    some (q4.1, q4.2)
set_option maxRecDepth 100000 in
theorem s_m_come {y : EX} {N : Nat} {v1 : Int32} {σ : Sg} {P : Int32 × Sg → Prop} (h : ok (f_m_come N v1 σ) P) : Ev y M_m_come 18 [.ref 66, .int v1] σ rvI P := by
  refine Ev.of mk_m_come (Nat.le_of_ble_eq_true rfl) (fun x hx hc hr => ?_)
  have hx : Cx 10 prog_12_method_84_code x := hx
  have hc : Cc y 2 18 x := hc
  show G x 0 [some (.ref 66), some (.int v1)] [] σ
  unfold f_m_come at h
  refine g_run hx [(.aload_n 0, 0, 0)] (pc' := 1) (lo' := [some (.ref 66), some (.int v1)]) (st' := [.ref 66]) (σ' := σ) (by decide +kernel) rfl rfl ?_
  refine g_callV (rest := []) [] hx hc mk_m_anew ln_10_174 rfl (by decide +kernel) (by decide) (Nat.le_of_ble_eq_true rfl) (s_m_anew (ok_b h)) (fun r1 s1 h => ?_)
  refine g_run hx [(.aload_n 0, 0, 0), (.iload_n 1, 0, 0)] (pc' := 6) (lo' := [some (.ref 66), some (.int v1)]) (st' := [.int v1, .ref 66]) (σ' := s1) (by decide +kernel) rfl rfl ?_
  refine g_callV (rest := []) [.int v1] hx hc mk_m_isCell ln_10_279 rfl (by decide +kernel) (by decide) (Nat.le_of_ble_eq_true rfl) (s_m_isCell (ok_b h)) (fun r2 s2 h => ?_)
  refine g_ifb_ne hx (off := 9) (tgt := 18) (by decide +kernel) (by decide) (fun c9 => ?_) (fun c9 => ?_)
  · have h := ok_t h c9
    refine g_run hx [(.aload_n 0, 0, 0), (.iload_n 1, 0, 0), (.iconst 5, 5, 0)] (pc' := 21) (lo' := [some (.ref 66), some (.int v1)]) (st' := [.int 5, .int v1, .ref 66]) (σ' := s2) (by decide +kernel) rfl rfl ?_
    refine g_callV (rest := []) [.int v1, .int 5] hx hc mk_m_seekRows ln_10_353 rfl (by decide +kernel) (by decide) (Nat.le_of_ble_eq_true rfl) (s_m_seekRows (ok_b h)) (fun r3 s3 h => ?_)
    refine g_run hx [(.aload_n 0, 0, 0), (.getfield 59, 0, 0), (.iload_n 1, 0, 0)] (pc' := 29) (lo' := [some (.ref 66), some (.int v1)]) (st' := [.int v1, .ref 82]) (σ' := s3) (by decide +kernel) rfl rfl ?_
    obtain ⟨c29, h⟩ := ok_g h
    refine g_iald hx (by decide +kernel) (i := 82) (n := 60) rfl c29 ?_
    refine g_run hx [(.iconst 5, 5, 0)] (pc' := 31) (lo' := [some (.ref 66), some (.int v1)]) (st' := [.int 5, .int (gA s3 82 v1)]) (σ' := s3) (by decide +kernel) rfl rfl ?_
    refine g_ic_le hx (off := 8) (tgt := 39) (by decide +kernel) (by decide) (fun c31 => ?_) (fun c31 => ?_)
    · have h := ok_t h c31
      refine g_run hx [(.aload_n 0, 0, 0), (.getfield 59, 0, 0), (.iload_n 1, 0, 0)] (pc' := 44) (lo' := [some (.ref 66), some (.int v1)]) (st' := [.int v1, .ref 82]) (σ' := s3) (by decide +kernel) rfl rfl ?_
      obtain ⟨c44, h⟩ := ok_g h
      refine g_iald hx (by decide +kernel) (i := 82) (n := 60) rfl c44 ?_
      exact g_iret hx hr rfl _ rfl (by decide +kernel) (ok_some h)
    · have h := ok_f h c31
      refine g_run hx [(.bipush (-2), (-2), 0)] (pc' := 36) (lo' := [some (.ref 66), some (.int v1)]) (st' := [.int (-2)]) (σ' := s3) (by decide +kernel) rfl rfl ?_
      refine g_goto hx (off := 9) (tgt := 45) (by decide +kernel) (by decide) ?_
      exact g_iret hx hr rfl _ rfl (by decide +kernel) (ok_some h)
  · have h := ok_f h c9
    refine g_run hx [(.aload_n 0, 0, 0), (.iconst 1, 1, 0)] (pc' := 14) (lo' := [some (.ref 66), some (.int v1)]) (st' := [.int 1, .ref 66]) (σ' := s2) (by decide +kernel) rfl rfl ?_
    refine g_callV (rest := []) [.int 1] hx hc mk_m_no ln_10_177 rfl (by decide +kernel) (by decide) (Nat.le_of_ble_eq_true rfl) (s_m_no (ok_b h)) (fun r4 s4 h => ?_)
    exact g_iret hx hr rfl _ rfl (by decide +kernel) (ok_some h)
def f_m_rowWhy_L29 (N : Nat) : Nat → Int32 → Int32 → Sg → Option (Int32 × Sg)
  | 0, _, _, _ => none
  | n + 1, v4, v5, σ =>
    if v5 < 0 then
      if v4 = 0 then
        some (0, σ)
      else
        some (2, σ)
    else
      if vin v5 5 then
      if vin v5 5 then
      (f_m_in N (gA (sA σ 79 v5 (v4 - v4 / 10 * 10)) 79 v5) 1 (2 * (gA (sA σ 79 v5 (v4 - v4 / 10 * 10)) 69 2)) (sA σ 79 v5 (v4 - v4 / 10 * 10))).bind fun q2 =>
      if q2.1 = true then
        f_m_rowWhy_L29 N n (v4 / 10) (v5 + (-1)) q2.2
      else
        some (2, q2.2)
      else none
      else none
def f_m_rowWhy (N : Nat) (v1 : Int32) (v2 : Int32) (v3 : Int32) (σ : Sg) : Option (Int32 × Sg) :=
  if v1 = 0 then
    some (1, σ)
  else
    (f_m_in N v3 0 5 σ).bind fun q1 =>
    if q1.1 = true then
      if 0 ≤ v2 then
        f_m_rowWhy_L29 N N v2 (v3 - 1) q1.2
      else
        some (2, q1.2)
    else
      some (2, q1.2)
set_option maxRecDepth 100000 in
theorem s_m_rowWhy_L29 {y : EX} {N : Nat} {x : CX} {P : Int32 × Sg → Prop} (hx : Cx 10 prog_12_method_76_code x) (hc : Cc y 6 1 x) (hr : Cr M_m_rowWhy rvI P x) : ∀ (n : Nat) (v4 : Int32) (v5 : Int32) (σ : Sg), ok (f_m_rowWhy_L29 N n v4 v5 σ) P → G x 29 [some (.ref 66), none, none, none, some (.int v4), some (.int v5)] [] σ := by
  intro n
  induction n with
  | zero => intro v4 v5 σ h; exact ok_none h
  | succ n ih =>
    intro v4 v5 σ h
    rw [f_m_rowWhy_L29] at h
    refine g_run hx [(.iload 5, 0, 0)] (pc' := 31) (lo' := [some (.ref 66), none, none, none, some (.int v4), some (.int v5)]) (st' := [.int v5]) (σ' := σ) (by decide +kernel) rfl rfl ?_
    refine g_if_lt hx (off := 52) (tgt := 83) (by decide +kernel) (by decide) (fun c31 => ?_) (fun c31 => ?_)
    · have h := ok_t h c31
      refine g_run hx [(.iload 4, 0, 0)] (pc' := 85) (lo' := [some (.ref 66), none, none, none, some (.int v4), some (.int v5)]) (st' := [.int v4]) (σ' := σ) (by decide +kernel) rfl rfl ?_
      refine g_if_ne hx (off := 7) (tgt := 92) (by decide +kernel) (by decide) (fun c85 => ?_) (fun c85 => ?_)
      · have h := ok_f h c85
        refine g_run hx [(.iconst 2, 2, 0)] (pc' := 93) (lo' := [some (.ref 66), none, none, none, some (.int v4), some (.int v5)]) (st' := [.int 2]) (σ' := σ) (by decide +kernel) rfl rfl ?_
        exact g_iret hx hr rfl _ rfl (by decide +kernel) (ok_some h)
      · have h := ok_t h c85
        refine g_run hx [(.iconst 0, 0, 0)] (pc' := 89) (lo' := [some (.ref 66), none, none, none, some (.int v4), some (.int v5)]) (st' := [.int 0]) (σ' := σ) (by decide +kernel) rfl rfl ?_
        refine g_goto hx (off := 4) (tgt := 93) (by decide +kernel) (by decide) ?_
        exact g_iret hx hr rfl _ rfl (by decide +kernel) (ok_some h)
    · have h := ok_f h c31
      refine g_run hx [(.aload_n 0, 0, 0), (.getfield 50, 0, 0), (.iload 5, 0, 0), (.iload 4, 0, 0), (.bipush 10, 10, 0), (.irem, 0, 0)] (pc' := 45) (lo' := [some (.ref 66), none, none, none, some (.int v4), some (.int v5)]) (st' := [.int (v4 - v4 / 10 * 10), .int v5, .ref 79]) (σ' := σ) (by decide +kernel) rfl rfl ?_
      obtain ⟨c45, h⟩ := ok_g h
      refine g_iast hx (by decide +kernel) (i := 79) (n := 5) rfl c45 ?_
      refine g_run hx [(.aload_n 0, 0, 0), (.getfield 50, 0, 0), (.iload 5, 0, 0)] (pc' := 52) (lo' := [some (.ref 66), none, none, none, some (.int v4), some (.int v5)]) (st' := [.int v5, .ref 79]) (σ' := sA σ 79 v5 (v4 - v4 / 10 * 10)) (by decide +kernel) rfl rfl ?_
      obtain ⟨c52, h⟩ := ok_g h
      refine g_iald hx (by decide +kernel) (i := 79) (n := 5) rfl c52 ?_
      refine g_run hx [(.iconst 1, 1, 0), (.iconst 2, 2, 0), (.aload_n 0, 0, 0), (.getfield 20, 0, 0), (.iconst 2, 2, 0), (.iaload, 0, 0), (.imul, 0, 0)] (pc' := 62) (lo' := [some (.ref 66), none, none, none, some (.int v4), some (.int v5)]) (st' := [.int (2 * (gA (sA σ 79 v5 (v4 - v4 / 10 * 10)) 69 2)), .int 1, .int (gA (sA σ 79 v5 (v4 - v4 / 10 * 10)) 79 v5)]) (σ' := sA σ 79 v5 (v4 - v4 / 10 * 10)) (by decide +kernel) rfl rfl ?_
      refine g_callS (rest := []) [.int (gA (sA σ 79 v5 (v4 - v4 / 10 * 10)) 79 v5), .int 1, .int (2 * (gA (sA σ 79 v5 (v4 - v4 / 10 * 10)) 69 2))] hx hc mk_m_in ln_10_156 (by decide +kernel) (by decide) (Nat.le_of_ble_eq_true rfl) (s_m_in (ok_b h)) (fun r2 s2 h => ?_)
      refine g_ifb_ne hx (off := 5) (tgt := 70) (by decide +kernel) (by decide) (fun c65 => ?_) (fun c65 => ?_)
      · have h := ok_t h c65
        refine g_run hx [(.iload 4, 0, 0), (.bipush 10, 10, 0), (.idiv, 0, 0), (.istore 4, 0, 0), (.iinc 5 (-1), (-1), 0)] (pc' := 80) (lo' := [some (.ref 66), none, none, none, some (.int (v4 / 10)), some (.int (v5 + (-1)))]) (st' := []) (σ' := s2) (by decide +kernel) rfl rfl ?_
        refine g_goto hx (off := (-51)) (tgt := 29) (by decide +kernel) (by decide) ?_
        exact ih _ _ _ h
      · have h := ok_f h c65
        refine g_run hx [(.iconst 2, 2, 0)] (pc' := 69) (lo' := [some (.ref 66), none, none, none, some (.int v4), some (.int v5)]) (st' := [.int 2]) (σ' := s2) (by decide +kernel) rfl rfl ?_
        exact g_iret hx hr rfl _ rfl (by decide +kernel) (ok_some h)
set_option maxRecDepth 100000 in
theorem s_m_rowWhy {y : EX} {N : Nat} {v1 : Int32} {v2 : Int32} {v3 : Int32} {σ : Sg} {P : Int32 × Sg → Prop} (h : ok (f_m_rowWhy N v1 v2 v3 σ) P) : Ev y M_m_rowWhy 1 [.ref 66, .int v1, .int v2, .int v3] σ rvI P := by
  refine Ev.of mk_m_rowWhy (Nat.le_of_ble_eq_true rfl) (fun x hx hc hr => ?_)
  have hx : Cx 10 prog_12_method_76_code x := hx
  have hc : Cc y 6 1 x := hc
  show G x 0 [some (.ref 66), some (.int v1), some (.int v2), some (.int v3), none, none] [] σ
  unfold f_m_rowWhy at h
  refine g_run hx [(.iload_n 1, 0, 0)] (pc' := 1) (lo' := [some (.ref 66), some (.int v1), some (.int v2), some (.int v3), none, none]) (st' := [.int v1]) (σ' := σ) (by decide +kernel) rfl rfl ?_
  refine g_if_ne hx (off := 5) (tgt := 6) (by decide +kernel) (by decide) (fun c1 => ?_) (fun c1 => ?_)
  · have h := ok_f h c1
    refine g_run hx [(.iload_n 3, 0, 0), (.iconst 0, 0, 0), (.iconst 5, 5, 0)] (pc' := 9) (lo' := [some (.ref 66), some (.int v1), some (.int v2), some (.int v3), none, none]) (st' := [.int 5, .int 0, .int v3]) (σ' := σ) (by decide +kernel) rfl rfl ?_
    refine g_callS (rest := []) [.int v3, .int 0, .int 5] hx hc mk_m_in ln_10_156 (by decide +kernel) (by decide) (Nat.le_of_ble_eq_true rfl) (s_m_in (ok_b h)) (fun r1 s1 h => ?_)
    refine g_ifb_eq hx (off := 7) (tgt := 19) (by decide +kernel) (by decide) (fun c12 => ?_) (fun c12 => ?_)
    · have h := ok_f h c12
      refine g_run hx [(.iconst 2, 2, 0)] (pc' := 20) (lo' := [some (.ref 66), some (.int v1), some (.int v2), some (.int v3), none, none]) (st' := [.int 2]) (σ' := s1) (by decide +kernel) rfl rfl ?_
      exact g_iret hx hr rfl _ rfl (by decide +kernel) (ok_some h)
    · have h := ok_t h c12
      refine g_run hx [(.iload_n 2, 0, 0)] (pc' := 16) (lo' := [some (.ref 66), some (.int v1), some (.int v2), some (.int v3), none, none]) (st' := [.int v2]) (σ' := s1) (by decide +kernel) rfl rfl ?_
      refine g_if_ge hx (off := 5) (tgt := 21) (by decide +kernel) (by decide) (fun c16 => ?_) (fun c16 => ?_)
      · have h := ok_t h c16
        refine g_run hx [(.iload_n 2, 0, 0), (.istore 4, 0, 0), (.iload_n 3, 0, 0), (.iconst 1, 1, 0), (.isub, 0, 0), (.istore 5, 0, 0)] (pc' := 29) (lo' := [some (.ref 66), some (.int v1), some (.int v2), some (.int v3), some (.int v2), some (.int (v3 - 1))]) (st' := []) (σ' := s1) (by decide +kernel) rfl rfl ?_
        refine g_wk (lo' := [some (.ref 66), none, none, none, some (.int v2), some (.int (v3 - 1))]) ⟨rfl, ⟨rfl, ⟨rfl, trivial⟩⟩⟩ ?_
        refine s_m_rowWhy_L29 hx hc hr N _ _ _ h
      · have h := ok_f h c16
        refine g_run hx [(.iconst 2, 2, 0)] (pc' := 20) (lo' := [some (.ref 66), some (.int v1), some (.int v2), some (.int v3), none, none]) (st' := [.int 2]) (σ' := s1) (by decide +kernel) rfl rfl ?_
        exact g_iret hx hr rfl _ rfl (by decide +kernel) (ok_some h)
  · have h := ok_t h c1
    refine g_run hx [(.iconst 1, 1, 0)] (pc' := 5) (lo' := [some (.ref 66), some (.int v1), some (.int v2), some (.int v3), none, none]) (st' := [.int 1]) (σ' := σ) (by decide +kernel) rfl rfl ?_
    exact g_iret hx hr rfl _ rfl (by decide +kernel) (ok_some h)
set_option maxRecDepth 100000 in
theorem s_m_digitOn_66_75 {y : EX} {N : Nat} {v2 : Int32} {σ : Sg} {P : Bool × Sg → Prop} (h : ok (f_m_digitOn N 75 63 189 69 v2 σ) P) : Ev y M_m_digitOn 3 [.ref 66, .ref 75, .int v2] σ rvB P := by
  refine Ev.of mk_m_digitOn (Nat.le_of_ble_eq_true rfl) (fun x hx hc hr => ?_)
  have hx : Cx 10 prog_12_method_77_code x := hx
  have hc : Cc y 3 3 x := hc
  show G x 0 [some (.ref 66), some (.ref 75), some (.int v2)] [] σ
  unfold f_m_digitOn at h
  refine g_run hx [(.aload_n 0, 0, 0), (.getfield 20, 0, 0), (.aload_n 1, 0, 0), (.iload_n 2, 0, 0), (.iconst 1, 1, 0), (.isub, 0, 0), (.iconst 2, 2, 0), (.idiv, 0, 0), (.iload_n 2, 0, 0), (.iconst 1, 1, 0), (.isub, 0, 0), (.iconst 2, 2, 0), (.irem, 0, 0)] (pc' := 15) (lo' := [some (.ref 66), some (.ref 75), some (.int v2)]) (st' := [.int ((v2 - 1) - (v2 - 1) / 2 * 2), .int ((v2 - 1) / 2), .ref 75, .ref 69]) (σ' := σ) (by decide +kernel) rfl rfl ?_
  refine g_callS (rest := []) [.ref 69, .ref 75, .int ((v2 - 1) / 2), .int ((v2 - 1) - (v2 - 1) / 2 * 2)] hx hc mk_m_strideOn ln_10_253 (by decide +kernel) (by decide) (Nat.le_of_ble_eq_true rfl) (s_m_strideOn_69_75 (ok_b h)) (fun r1 s1 h => ?_)
  exact g_zret hx hr rfl _ rfl (by decide +kernel) (ok_some h)
def f_m_makes_L6 (N : Nat) : Nat → Int32 → Int32 → Sg → Option (Bool × Sg)
  | 0, _, _, _ => none
  | n + 1, v1, v2, σ =>
    if v1 ≤ v2 then
      some (true, σ)
    else
      if vin v2 5 then
      (f_m_digitOn N 75 63 189 69 (gA σ 79 v2) σ).bind fun q2 =>
      if q2.1 = true then
        f_m_makes_L6 N n v1 (v2 + 1) q2.2
      else
        some (false, q2.2)
      else none
def f_m_makes (N : Nat) (v1 : Int32) (σ : Sg) : Option (Bool × Sg) :=
  (f_m_begin N σ).bind fun q1 =>
  f_m_makes_L6 N N v1 0 q1.2
set_option maxRecDepth 100000 in
theorem s_m_makes_L6 {y : EX} {N : Nat} {x : CX} {P : Bool × Sg → Prop} (hx : Cx 10 prog_12_method_78_code x) (hc : Cc y 3 4 x) (hr : Cr M_m_makes rvB P x) : ∀ (n : Nat) (v1 : Int32) (v2 : Int32) (σ : Sg), ok (f_m_makes_L6 N n v1 v2 σ) P → G x 6 [some (.ref 66), some (.int v1), some (.int v2)] [] σ := by
  intro n
  induction n with
  | zero => intro v1 v2 σ h; exact ok_none h
  | succ n ih =>
    intro v1 v2 σ h
    rw [f_m_makes_L6] at h
    refine g_run hx [(.iload_n 2, 0, 0), (.iload_n 1, 0, 0)] (pc' := 8) (lo' := [some (.ref 66), some (.int v1), some (.int v2)]) (st' := [.int v1, .int v2]) (σ' := σ) (by decide +kernel) rfl rfl ?_
    refine g_ic_ge hx (off := 28) (tgt := 36) (by decide +kernel) (by decide) (fun c8 => ?_) (fun c8 => ?_)
    · have h := ok_t h c8
      refine g_run hx [(.iconst 1, 1, 0)] (pc' := 37) (lo' := [some (.ref 66), some (.int v1), some (.int v2)]) (st' := [.int 1]) (σ' := σ) (by decide +kernel) rfl rfl ?_
      exact g_zret (b := true) hx hr rfl true rfl (by decide +kernel) (ok_some h)
    · have h := ok_f h c8
      refine g_run hx [(.aload_n 0, 0, 0), (.aload_n 0, 0, 0), (.getfield 38, 0, 0), (.aload_n 0, 0, 0), (.getfield 50, 0, 0), (.iload_n 2, 0, 0)] (pc' := 21) (lo' := [some (.ref 66), some (.int v1), some (.int v2)]) (st' := [.int v2, .ref 79, .ref 75, .ref 66]) (σ' := σ) (by decide +kernel) rfl rfl ?_
      obtain ⟨c21, h⟩ := ok_g h
      refine g_iald hx (by decide +kernel) (i := 79) (n := 5) rfl c21 ?_
      refine g_callV (rest := []) [.ref 75, .int (gA σ 79 v2)] hx hc mk_m_digitOn ln_10_324 rfl (by decide +kernel) (by decide) (Nat.le_of_ble_eq_true rfl) (s_m_digitOn_66_75 (ok_b h)) (fun r2 s2 h => ?_)
      refine g_ifb_ne hx (off := 5) (tgt := 30) (by decide +kernel) (by decide) (fun c25 => ?_) (fun c25 => ?_)
      · have h := ok_t h c25
        refine g_run hx [(.iinc 2 1, 1, 0)] (pc' := 33) (lo' := [some (.ref 66), some (.int v1), some (.int (v2 + 1))]) (st' := []) (σ' := s2) (by decide +kernel) rfl rfl ?_
        refine g_goto hx (off := (-27)) (tgt := 6) (by decide +kernel) (by decide) ?_
        exact ih _ _ _ h
      · have h := ok_f h c25
        refine g_run hx [(.iconst 0, 0, 0)] (pc' := 29) (lo' := [some (.ref 66), some (.int v1), some (.int v2)]) (st' := [.int 0]) (σ' := s2) (by decide +kernel) rfl rfl ?_
        exact g_zret (b := false) hx hr rfl false rfl (by decide +kernel) (ok_some h)
set_option maxRecDepth 100000 in
theorem s_m_makes {y : EX} {N : Nat} {v1 : Int32} {σ : Sg} {P : Bool × Sg → Prop} (h : ok (f_m_makes N v1 σ) P) : Ev y M_m_makes 4 [.ref 66, .int v1] σ rvB P := by
  refine Ev.of mk_m_makes (Nat.le_of_ble_eq_true rfl) (fun x hx hc hr => ?_)
  have hx : Cx 10 prog_12_method_78_code x := hx
  have hc : Cc y 3 4 x := hc
  show G x 0 [some (.ref 66), some (.int v1), none] [] σ
  unfold f_m_makes at h
  refine g_run hx [(.aload_n 0, 0, 0)] (pc' := 1) (lo' := [some (.ref 66), some (.int v1), none]) (st' := [.ref 66]) (σ' := σ) (by decide +kernel) rfl rfl ?_
  refine g_callV (rest := []) [] hx hc mk_m_begin ln_10_272 rfl (by decide +kernel) (by decide) (Nat.le_of_ble_eq_true rfl) (s_m_begin (ok_b h)) (fun r1 s1 h => ?_)
  refine g_run hx [(.iconst 0, 0, 0), (.istore_n 2, 0, 0)] (pc' := 6) (lo' := [some (.ref 66), some (.int v1), some (.int 0)]) (st' := []) (σ' := s1) (by decide +kernel) rfl rfl ?_
  refine s_m_makes_L6 hx hc hr N _ _ _ h
def f_m_comeRow_L26 (N : Nat) : Nat → Int32 → Int32 → Int32 → Int32 → Sg → (Int32 → Int32 → Int32 → Sg → Option (Int32 × Sg)) → Option (Int32 × Sg)
  | 0, _, _, _, _, _, _ => none
  | n + 1, v1, v2, v3, v4, σ, k43 =>
    if v2 ≤ v4 then
      k43 v1 v2 v3 σ
    else
      f_m_comeRow_L26 N n v1 v2 (v3 * 10) (v4 + 1) σ k43
def f_m_comeRow_L46 (N : Nat) : Nat → Int32 → Int32 → Int32 → Int32 → Sg → Option (Int32 × Sg)
  | 0, _, _, _, _, _ => none
  | n + 1, v1, v2, v3, v4, σ =>
    if v3 ≤ v4 then
      some ((-2), σ)
    else
      (f_m_rowWhy N 1 v4 v2 σ).bind fun q3 =>
      if q3.1 = 0 then
        (f_m_makes N v2 q3.2).bind fun q4 =>
        if q4.1 = true then
          if (gA q4.2 75 60) = v1 then
            some (v4, q4.2)
          else
            f_m_comeRow_L46 N n v1 v2 v3 (v4 + 1) q4.2
        else
          f_m_comeRow_L46 N n v1 v2 v3 (v4 + 1) q4.2
      else
        f_m_comeRow_L46 N n v1 v2 v3 (v4 + 1) q3.2
def f_m_comeRow (N : Nat) (v1 : Int32) (σ : Sg) : Option (Int32 × Sg) :=
  (f_m_seekRows N v1 5 σ).bind fun q1 =>
  if vin v1 60 then
  if (gA q1.2 82 v1) ≤ 5 then
    f_m_comeRow_L26 N N v1 (gA q1.2 82 v1) 1 0 q1.2
      (fun (w1 : Int32) (w2 : Int32) (w3 : Int32) (t2 : Sg) =>
        f_m_comeRow_L46 N N w1 w2 w3 0 t2)
  else
    some ((-2), q1.2)
  else none
set_option maxRecDepth 100000 in
theorem s_m_comeRow_L26 {y : EX} {N : Nat} {x : CX} {P : Int32 × Sg → Prop} (hx : Cx 10 prog_12_method_83_code x) (hc : Cc y 5 18 x) (hr : Cr M_m_comeRow rvI P x) : ∀ (n : Nat) (v1 : Int32) (v2 : Int32) (v3 : Int32) (v4 : Int32) (σ : Sg) (k43 : Int32 → Int32 → Int32 → Sg → Option (Int32 × Sg)) (hk43 : ∀ (w1 : Int32) (w2 : Int32) (w3 : Int32) (t : Sg), ok (k43 w1 w2 w3 t) P → G x 43 [some (.ref 66), some (.int w1), some (.int w2), some (.int w3), none] [] t), ok (f_m_comeRow_L26 N n v1 v2 v3 v4 σ k43) P → G x 26 [some (.ref 66), some (.int v1), some (.int v2), some (.int v3), some (.int v4)] [] σ := by
  intro n
  induction n with
  | zero => intro v1 v2 v3 v4 σ k43 hk43 h; exact ok_none h
  | succ n ih =>
    intro v1 v2 v3 v4 σ k43 hk43 h
    rw [f_m_comeRow_L26] at h
    refine g_run hx [(.iload 4, 0, 0), (.iload_n 2, 0, 0)] (pc' := 29) (lo' := [some (.ref 66), some (.int v1), some (.int v2), some (.int v3), some (.int v4)]) (st' := [.int v2, .int v4]) (σ' := σ) (by decide +kernel) rfl rfl ?_
    refine g_ic_ge hx (off := 14) (tgt := 43) (by decide +kernel) (by decide) (fun c29 => ?_) (fun c29 => ?_)
    · have h := ok_t h c29
      refine g_wk (lo' := [some (.ref 66), some (.int v1), some (.int v2), some (.int v3), none]) ⟨rfl, ⟨rfl, ⟨rfl, ⟨rfl, trivial⟩⟩⟩⟩ ?_
      exact hk43 _ _ _ _ h
    · have h := ok_f h c29
      refine g_run hx [(.iload_n 3, 0, 0), (.bipush 10, 10, 0), (.imul, 0, 0), (.istore_n 3, 0, 0), (.iinc 4 1, 1, 0)] (pc' := 40) (lo' := [some (.ref 66), some (.int v1), some (.int v2), some (.int (v3 * 10)), some (.int (v4 + 1))]) (st' := []) (σ' := σ) (by decide +kernel) rfl rfl ?_
      refine g_goto hx (off := (-14)) (tgt := 26) (by decide +kernel) (by decide) ?_
      exact ih _ _ _ _ _ _ hk43 h
set_option maxRecDepth 100000 in
theorem s_m_comeRow_L46 {y : EX} {N : Nat} {x : CX} {P : Int32 × Sg → Prop} (hx : Cx 10 prog_12_method_83_code x) (hc : Cc y 5 18 x) (hr : Cr M_m_comeRow rvI P x) : ∀ (n : Nat) (v1 : Int32) (v2 : Int32) (v3 : Int32) (v4 : Int32) (σ : Sg), ok (f_m_comeRow_L46 N n v1 v2 v3 v4 σ) P → G x 46 [some (.ref 66), some (.int v1), some (.int v2), some (.int v3), some (.int v4)] [] σ := by
  intro n
  induction n with
  | zero => intro v1 v2 v3 v4 σ h; exact ok_none h
  | succ n ih =>
    intro v1 v2 v3 v4 σ h
    rw [f_m_comeRow_L46] at h
    refine g_run hx [(.iload 4, 0, 0), (.iload_n 3, 0, 0)] (pc' := 49) (lo' := [some (.ref 66), some (.int v1), some (.int v2), some (.int v3), some (.int v4)]) (st' := [.int v3, .int v4]) (σ' := σ) (by decide +kernel) rfl rfl ?_
    refine g_ic_ge hx (off := 42) (tgt := 91) (by decide +kernel) (by decide) (fun c49 => ?_) (fun c49 => ?_)
    · have h := ok_t h c49
      refine g_run hx [(.bipush (-2), (-2), 0)] (pc' := 93) (lo' := [some (.ref 66), some (.int v1), some (.int v2), some (.int v3), some (.int v4)]) (st' := [.int (-2)]) (σ' := σ) (by decide +kernel) rfl rfl ?_
      exact g_iret hx hr rfl _ rfl (by decide +kernel) (ok_some h)
    · have h := ok_f h c49
      refine g_run hx [(.aload_n 0, 0, 0), (.iconst 1, 1, 0), (.iload 4, 0, 0), (.iload_n 2, 0, 0)] (pc' := 57) (lo' := [some (.ref 66), some (.int v1), some (.int v2), some (.int v3), some (.int v4)]) (st' := [.int v2, .int v4, .int 1, .ref 66]) (σ' := σ) (by decide +kernel) rfl rfl ?_
      refine g_callV (rest := []) [.int 1, .int v4, .int v2] hx hc mk_m_rowWhy ln_10_328 rfl (by decide +kernel) (by decide) (Nat.le_of_ble_eq_true rfl) (s_m_rowWhy (ok_b h)) (fun r3 s3 h => ?_)
      refine g_if_ne hx (off := 25) (tgt := 85) (by decide +kernel) (by decide) (fun c60 => ?_) (fun c60 => ?_)
      · have h := ok_f h c60
        refine g_run hx [(.iinc 4 1, 1, 0)] (pc' := 88) (lo' := [some (.ref 66), some (.int v1), some (.int v2), some (.int v3), some (.int (v4 + 1))]) (st' := []) (σ' := s3) (by decide +kernel) rfl rfl ?_
        refine g_goto hx (off := (-42)) (tgt := 46) (by decide +kernel) (by decide) ?_
        exact ih _ _ _ _ _ h
      · have h := ok_t h c60
        refine g_run hx [(.aload_n 0, 0, 0), (.iload_n 2, 0, 0)] (pc' := 65) (lo' := [some (.ref 66), some (.int v1), some (.int v2), some (.int v3), some (.int v4)]) (st' := [.int v2, .ref 66]) (σ' := s3) (by decide +kernel) rfl rfl ?_
        refine g_callV (rest := []) [.int v2] hx hc mk_m_makes ln_10_332 rfl (by decide +kernel) (by decide) (Nat.le_of_ble_eq_true rfl) (s_m_makes (ok_b h)) (fun r4 s4 h => ?_)
        refine g_ifb_eq hx (off := 17) (tgt := 85) (by decide +kernel) (by decide) (fun c68 => ?_) (fun c68 => ?_)
        · have h := ok_f h c68
          refine g_run hx [(.iinc 4 1, 1, 0)] (pc' := 88) (lo' := [some (.ref 66), some (.int v1), some (.int v2), some (.int v3), some (.int (v4 + 1))]) (st' := []) (σ' := s4) (by decide +kernel) rfl rfl ?_
          refine g_goto hx (off := (-42)) (tgt := 46) (by decide +kernel) (by decide) ?_
          exact ih _ _ _ _ _ h
        · have h := ok_t h c68
          refine g_run hx [(.aload_n 0, 0, 0), (.getfield 38, 0, 0), (.bipush 60, 60, 0), (.iaload, 0, 0), (.iload_n 1, 0, 0)] (pc' := 79) (lo' := [some (.ref 66), some (.int v1), some (.int v2), some (.int v3), some (.int v4)]) (st' := [.int v1, .int (gA s4 75 60)]) (σ' := s4) (by decide +kernel) rfl rfl ?_
          refine g_ic_ne hx (off := 6) (tgt := 85) (by decide +kernel) (by decide) (fun c79 => ?_) (fun c79 => ?_)
          · have h := ok_f h c79
            refine g_run hx [(.iinc 4 1, 1, 0)] (pc' := 88) (lo' := [some (.ref 66), some (.int v1), some (.int v2), some (.int v3), some (.int (v4 + 1))]) (st' := []) (σ' := s4) (by decide +kernel) rfl rfl ?_
            refine g_goto hx (off := (-42)) (tgt := 46) (by decide +kernel) (by decide) ?_
            exact ih _ _ _ _ _ h
          · have h := ok_t h c79
            refine g_run hx [(.iload 4, 0, 0)] (pc' := 84) (lo' := [some (.ref 66), some (.int v1), some (.int v2), some (.int v3), some (.int v4)]) (st' := [.int v4]) (σ' := s4) (by decide +kernel) rfl rfl ?_
            exact g_iret hx hr rfl _ rfl (by decide +kernel) (ok_some h)
set_option maxRecDepth 100000 in
theorem s_m_comeRow {y : EX} {N : Nat} {v1 : Int32} {σ : Sg} {P : Int32 × Sg → Prop} (h : ok (f_m_comeRow N v1 σ) P) : Ev y M_m_comeRow 18 [.ref 66, .int v1] σ rvI P := by
  refine Ev.of mk_m_comeRow (Nat.le_of_ble_eq_true rfl) (fun x hx hc hr => ?_)
  have hx : Cx 10 prog_12_method_83_code x := hx
  have hc : Cc y 5 18 x := hc
  show G x 0 [some (.ref 66), some (.int v1), none, none, none] [] σ
  unfold f_m_comeRow at h
  refine g_run hx [(.aload_n 0, 0, 0), (.iload_n 1, 0, 0), (.iconst 5, 5, 0)] (pc' := 3) (lo' := [some (.ref 66), some (.int v1), none, none, none]) (st' := [.int 5, .int v1, .ref 66]) (σ' := σ) (by decide +kernel) rfl rfl ?_
  refine g_callV (rest := []) [.int v1, .int 5] hx hc mk_m_seekRows ln_10_353 rfl (by decide +kernel) (by decide) (Nat.le_of_ble_eq_true rfl) (s_m_seekRows (ok_b h)) (fun r1 s1 h => ?_)
  refine g_run hx [(.aload_n 0, 0, 0), (.getfield 59, 0, 0), (.iload_n 1, 0, 0)] (pc' := 11) (lo' := [some (.ref 66), some (.int v1), none, none, none]) (st' := [.int v1, .ref 82]) (σ' := s1) (by decide +kernel) rfl rfl ?_
  obtain ⟨c11, h⟩ := ok_g h
  refine g_iald hx (by decide +kernel) (i := 82) (n := 60) rfl c11 ?_
  refine g_run hx [(.istore_n 2, 0, 0), (.iload_n 2, 0, 0), (.iconst 5, 5, 0)] (pc' := 15) (lo' := [some (.ref 66), some (.int v1), some (.int (gA s1 82 v1)), none, none]) (st' := [.int 5, .int (gA s1 82 v1)]) (σ' := s1) (by decide +kernel) rfl rfl ?_
  refine g_ic_le hx (off := 6) (tgt := 21) (by decide +kernel) (by decide) (fun c15 => ?_) (fun c15 => ?_)
  · have h := ok_t h c15
    refine g_run hx [(.iconst 1, 1, 0), (.istore_n 3, 0, 0), (.iconst 0, 0, 0), (.istore 4, 0, 0)] (pc' := 26) (lo' := [some (.ref 66), some (.int v1), some (.int (gA s1 82 v1)), some (.int 1), some (.int 0)]) (st' := []) (σ' := s1) (by decide +kernel) rfl rfl ?_
    refine s_m_comeRow_L26 hx hc hr N _ _ _ _ _ _ (fun w1 w2 w3 t2 h => ?_) h
    refine g_run hx [(.iconst 0, 0, 0), (.istore 4, 0, 0)] (pc' := 46) (lo' := [some (.ref 66), some (.int w1), some (.int w2), some (.int w3), some (.int 0)]) (st' := []) (σ' := t2) (by decide +kernel) rfl rfl ?_
    refine s_m_comeRow_L46 hx hc hr N _ _ _ _ _ h
  · have h := ok_f h c15
    refine g_run hx [(.bipush (-2), (-2), 0)] (pc' := 20) (lo' := [some (.ref 66), some (.int v1), some (.int (gA s1 82 v1)), none, none]) (st' := [.int (-2)]) (σ' := s1) (by decide +kernel) rfl rfl ?_
    exact g_iret hx hr rfl _ rfl (by decide +kernel) (ok_some h)
def f_m_comeAt (N : Nat) (v1 : Int32) (v2 : Int32) (σ : Sg) : Option (Int32 × Sg) :=
  (f_m_anew N σ).bind fun q1 =>
  (f_m_isCell N v1 q1.2).bind fun q2 =>
  if q2.1 = true then
    (f_m_comeRow N v1 q2.2).bind fun q3 =>
    if vin v1 60 then
    if q3.1 < 0 then
      (f_m_no N 1 q3.2).bind fun q4 =>
      some (q4.1, q4.2)
    else
      (f_m_in N v2 0 ((gA q3.2 82 v1) - 1) q3.2).bind fun q5 =>
      if q5.1 = true then
        (f_m_rowWhy N 1 q3.1 (gA q3.2 82 v1) q5.2).bind fun q6 =>
        if vin v2 5 then
        some ((gA q6.2 79 v2), q6.2)
        else none
      else
        (f_m_no N 1 q5.2).bind fun q7 =>
        some (q7.1, q7.2)
    else none
  else
    (f_m_no N 1 q2.2).bind fun q8 =>
    some (q8.1, q8.2)
set_option maxRecDepth 100000 in
theorem s_m_comeAt {y : EX} {N : Nat} {v1 : Int32} {v2 : Int32} {σ : Sg} {P : Int32 × Sg → Prop} (h : ok (f_m_comeAt N v1 v2 σ) P) : Ev y M_m_comeAt 19 [.ref 66, .int v1, .int v2] σ rvI P := by
  refine Ev.of mk_m_comeAt (Nat.le_of_ble_eq_true rfl) (fun x hx hc hr => ?_)
  have hx : Cx 10 prog_12_method_85_code x := hx
  have hc : Cc y 5 19 x := hc
  show G x 0 [some (.ref 66), some (.int v1), some (.int v2), none, none] [] σ
  unfold f_m_comeAt at h
  refine g_run hx [(.aload_n 0, 0, 0)] (pc' := 1) (lo' := [some (.ref 66), some (.int v1), some (.int v2), none, none]) (st' := [.ref 66]) (σ' := σ) (by decide +kernel) rfl rfl ?_
  refine g_callV (rest := []) [] hx hc mk_m_anew ln_10_174 rfl (by decide +kernel) (by decide) (Nat.le_of_ble_eq_true rfl) (s_m_anew (ok_b h)) (fun r1 s1 h => ?_)
  refine g_run hx [(.aload_n 0, 0, 0), (.iload_n 1, 0, 0)] (pc' := 6) (lo' := [some (.ref 66), some (.int v1), some (.int v2), none, none]) (st' := [.int v1, .ref 66]) (σ' := s1) (by decide +kernel) rfl rfl ?_
  refine g_callV (rest := []) [.int v1] hx hc mk_m_isCell ln_10_279 rfl (by decide +kernel) (by decide) (Nat.le_of_ble_eq_true rfl) (s_m_isCell (ok_b h)) (fun r2 s2 h => ?_)
  refine g_ifb_ne hx (off := 9) (tgt := 18) (by decide +kernel) (by decide) (fun c9 => ?_) (fun c9 => ?_)
  · have h := ok_t h c9
    refine g_run hx [(.aload_n 0, 0, 0), (.iload_n 1, 0, 0)] (pc' := 20) (lo' := [some (.ref 66), some (.int v1), some (.int v2), none, none]) (st' := [.int v1, .ref 66]) (σ' := s2) (by decide +kernel) rfl rfl ?_
    refine g_callV (rest := []) [.int v1] hx hc mk_m_comeRow ln_10_356 rfl (by decide +kernel) (by decide) (Nat.le_of_ble_eq_true rfl) (s_m_comeRow (ok_b h)) (fun r3 s3 h => ?_)
    refine g_run hx [(.istore_n 3, 0, 0), (.aload_n 0, 0, 0), (.getfield 59, 0, 0), (.iload_n 1, 0, 0)] (pc' := 29) (lo' := [some (.ref 66), some (.int v1), some (.int v2), some (.int r3), none]) (st' := [.int v1, .ref 82]) (σ' := s3) (by decide +kernel) rfl rfl ?_
    obtain ⟨c29, h⟩ := ok_g h
    refine g_iald hx (by decide +kernel) (i := 82) (n := 60) rfl c29 ?_
    refine g_run hx [(.istore 4, 0, 0), (.iload_n 3, 0, 0)] (pc' := 33) (lo' := [some (.ref 66), some (.int v1), some (.int v2), some (.int r3), some (.int (gA s3 82 v1))]) (st' := [.int r3]) (σ' := s3) (by decide +kernel) rfl rfl ?_
    refine g_if_lt hx (off := 15) (tgt := 48) (by decide +kernel) (by decide) (fun c33 => ?_) (fun c33 => ?_)
    · have h := ok_t h c33
      refine g_run hx [(.aload_n 0, 0, 0), (.iconst 1, 1, 0)] (pc' := 50) (lo' := [some (.ref 66), some (.int v1), some (.int v2), some (.int r3), some (.int (gA s3 82 v1))]) (st' := [.int 1, .ref 66]) (σ' := s3) (by decide +kernel) rfl rfl ?_
      refine g_callV (rest := []) [.int 1] hx hc mk_m_no ln_10_177 rfl (by decide +kernel) (by decide) (Nat.le_of_ble_eq_true rfl) (s_m_no (ok_b h)) (fun r4 s4 h => ?_)
      exact g_iret hx hr rfl _ rfl (by decide +kernel) (ok_some h)
    · have h := ok_f h c33
      refine g_run hx [(.iload_n 2, 0, 0), (.iconst 0, 0, 0), (.iload 4, 0, 0), (.iconst 1, 1, 0), (.isub, 0, 0)] (pc' := 42) (lo' := [some (.ref 66), some (.int v1), some (.int v2), some (.int r3), some (.int (gA s3 82 v1))]) (st' := [.int ((gA s3 82 v1) - 1), .int 0, .int v2]) (σ' := s3) (by decide +kernel) rfl rfl ?_
      refine g_callS (rest := []) [.int v2, .int 0, .int ((gA s3 82 v1) - 1)] hx hc mk_m_in ln_10_156 (by decide +kernel) (by decide) (Nat.le_of_ble_eq_true rfl) (s_m_in (ok_b h)) (fun r5 s5 h => ?_)
      refine g_ifb_ne hx (off := 9) (tgt := 54) (by decide +kernel) (by decide) (fun c45 => ?_) (fun c45 => ?_)
      · have h := ok_t h c45
        refine g_run hx [(.aload_n 0, 0, 0), (.iconst 1, 1, 0), (.iload_n 3, 0, 0), (.iload 4, 0, 0)] (pc' := 59) (lo' := [some (.ref 66), some (.int v1), some (.int v2), some (.int r3), some (.int (gA s3 82 v1))]) (st' := [.int (gA s3 82 v1), .int r3, .int 1, .ref 66]) (σ' := s5) (by decide +kernel) rfl rfl ?_
        refine g_callV (rest := []) [.int 1, .int r3, .int (gA s3 82 v1)] hx hc mk_m_rowWhy ln_10_328 rfl (by decide +kernel) (by decide) (Nat.le_of_ble_eq_true rfl) (s_m_rowWhy (ok_b h)) (fun r6 s6 h => ?_)
        refine g_run hx [(.pop, 0, 0), (.aload_n 0, 0, 0), (.getfield 50, 0, 0), (.iload_n 2, 0, 0)] (pc' := 68) (lo' := [some (.ref 66), some (.int v1), some (.int v2), some (.int r3), some (.int (gA s3 82 v1))]) (st' := [.int v2, .ref 79]) (σ' := s6) (by decide +kernel) rfl rfl ?_
        obtain ⟨c68, h⟩ := ok_g h
        refine g_iald hx (by decide +kernel) (i := 79) (n := 5) rfl c68 ?_
        exact g_iret hx hr rfl _ rfl (by decide +kernel) (ok_some h)
      · have h := ok_f h c45
        refine g_run hx [(.aload_n 0, 0, 0), (.iconst 1, 1, 0)] (pc' := 50) (lo' := [some (.ref 66), some (.int v1), some (.int v2), some (.int r3), some (.int (gA s3 82 v1))]) (st' := [.int 1, .ref 66]) (σ' := s5) (by decide +kernel) rfl rfl ?_
        refine g_callV (rest := []) [.int 1] hx hc mk_m_no ln_10_177 rfl (by decide +kernel) (by decide) (Nat.le_of_ble_eq_true rfl) (s_m_no (ok_b h)) (fun r7 s7 h => ?_)
        exact g_iret hx hr rfl _ rfl (by decide +kernel) (ok_some h)
  · have h := ok_f h c9
    refine g_run hx [(.aload_n 0, 0, 0), (.iconst 1, 1, 0)] (pc' := 14) (lo' := [some (.ref 66), some (.int v1), some (.int v2), none, none]) (st' := [.int 1, .ref 66]) (σ' := s2) (by decide +kernel) rfl rfl ?_
    refine g_callV (rest := []) [.int 1] hx hc mk_m_no ln_10_177 rfl (by decide +kernel) (by decide) (Nat.le_of_ble_eq_true rfl) (s_m_no (ok_b h)) (fun r8 s8 h => ?_)
    exact g_iret hx hr rfl _ rfl (by decide +kernel) (ok_some h)
def f_m_why (N : Nat) (v1 : Int32) (v2 : Int32) (σ : Sg) : Option (Int32 × Sg) :=
  if v1 = 0 then
    some (1, σ)
  else
    if v2 = 0 then
      some (2, σ)
    else
      some (0, σ)
set_option maxRecDepth 100000 in
theorem s_m_why {y : EX} {N : Nat} {v1 : Int32} {v2 : Int32} {σ : Sg} {P : Int32 × Sg → Prop} (h : ok (f_m_why N v1 v2 σ) P) : Ev y M_m_why 0 [.ref 66, .int v1, .int v2] σ rvI P := by
  refine Ev.of mk_m_why (Nat.le_of_ble_eq_true rfl) (fun x hx hc hr => ?_)
  have hx : Cx 10 prog_12_method_42_code x := hx
  have hc : Cc y 3 0 x := hc
  show G x 0 [some (.ref 66), some (.int v1), some (.int v2)] [] σ
  unfold f_m_why at h
  refine g_run hx [(.iload_n 1, 0, 0)] (pc' := 1) (lo' := [some (.ref 66), some (.int v1), some (.int v2)]) (st' := [.int v1]) (σ' := σ) (by decide +kernel) rfl rfl ?_
  refine g_if_ne hx (off := 7) (tgt := 8) (by decide +kernel) (by decide) (fun c1 => ?_) (fun c1 => ?_)
  · have h := ok_f h c1
    refine g_run hx [(.iload_n 2, 0, 0)] (pc' := 9) (lo' := [some (.ref 66), some (.int v1), some (.int v2)]) (st' := [.int v2]) (σ' := σ) (by decide +kernel) rfl rfl ?_
    refine g_if_eq hx (off := 7) (tgt := 16) (by decide +kernel) (by decide) (fun c9 => ?_) (fun c9 => ?_)
    · have h := ok_t h c9
      refine g_run hx [(.iconst 2, 2, 0)] (pc' := 17) (lo' := [some (.ref 66), some (.int v1), some (.int v2)]) (st' := [.int 2]) (σ' := σ) (by decide +kernel) rfl rfl ?_
      exact g_iret hx hr rfl _ rfl (by decide +kernel) (ok_some h)
    · have h := ok_f h c9
      refine g_run hx [(.iconst 0, 0, 0)] (pc' := 13) (lo' := [some (.ref 66), some (.int v1), some (.int v2)]) (st' := [.int 0]) (σ' := σ) (by decide +kernel) rfl rfl ?_
      refine g_goto hx (off := 4) (tgt := 17) (by decide +kernel) (by decide) ?_
      exact g_iret hx hr rfl _ rfl (by decide +kernel) (ok_some h)
  · have h := ok_t h c1
    refine g_run hx [(.iconst 1, 1, 0)] (pc' := 5) (lo' := [some (.ref 66), some (.int v1), some (.int v2)]) (st' := [.int 1]) (σ' := σ) (by decide +kernel) rfl rfl ?_
    refine g_goto hx (off := 12) (tgt := 17) (by decide +kernel) (by decide) ?_
    exact g_iret hx hr rfl _ rfl (by decide +kernel) (ok_some h)
def f_m_wayWhy (N : Nat) (v1 : Int32) (v2 : Int32) (σ : Sg) : Option (Int32 × Sg) :=
  (f_m_isBoots N v1 σ).bind fun q1 =>
  (f_m_in N v2 0 1 q1.2).bind fun q2 =>
  (f_m_why N (b2i q1.1) (b2i q2.1) q2.2).bind fun q3 =>
  some (q3.1, q3.2)
set_option maxRecDepth 100000 in
theorem s_m_wayWhy {y : EX} {N : Nat} {v1 : Int32} {v2 : Int32} {σ : Sg} {P : Int32 × Sg → Prop} (h : ok (f_m_wayWhy N v1 v2 σ) P) : Ev y M_m_wayWhy 2 [.ref 66, .int v1, .int v2] σ rvI P := by
  refine Ev.of mk_m_wayWhy (Nat.le_of_ble_eq_true rfl) (fun x hx hc hr => ?_)
  have hx : Cx 10 prog_12_method_72_code x := hx
  have hc : Cc y 3 2 x := hc
  show G x 0 [some (.ref 66), some (.int v1), some (.int v2)] [] σ
  unfold f_m_wayWhy at h
  refine g_run hx [(.aload_n 0, 0, 0), (.aload_n 0, 0, 0), (.iload_n 1, 0, 0)] (pc' := 3) (lo' := [some (.ref 66), some (.int v1), some (.int v2)]) (st' := [.int v1, .ref 66, .ref 66]) (σ' := σ) (by decide +kernel) rfl rfl ?_
  refine g_callV (rest := [.ref 66]) [.int v1] hx hc mk_m_isBoots ln_10_288 rfl (by decide +kernel) (by decide) (Nat.le_of_ble_eq_true rfl) (s_m_isBoots (ok_b h)) (fun r1 s1 h => ?_)
  refine g_run hx [(.iload_n 2, 0, 0), (.iconst 0, 0, 0), (.iconst 1, 1, 0)] (pc' := 9) (lo' := [some (.ref 66), some (.int v1), some (.int v2)]) (st' := [.int 1, .int 0, .int v2, .int (b2i r1), .ref 66]) (σ' := s1) (by decide +kernel) rfl rfl ?_
  refine g_callS (rest := [.int (b2i r1), .ref 66]) [.int v2, .int 0, .int 1] hx hc mk_m_in ln_10_156 (by decide +kernel) (by decide) (Nat.le_of_ble_eq_true rfl) (s_m_in (ok_b h)) (fun r2 s2 h => ?_)
  refine g_callV (rest := []) [.int (b2i r1), .int (b2i r2)] hx hc mk_m_why ln_10_261 rfl (by decide +kernel) (by decide) (Nat.le_of_ble_eq_true rfl) (s_m_why (ok_b h)) (fun r3 s3 h => ?_)
  exact g_iret hx hr rfl _ rfl (by decide +kernel) (ok_some h)
set_option maxRecDepth 100000 in
theorem s_m_lostOn_66_75_L4 {y : EX} {N : Nat} {x : CX} {P : Int32 × Sg → Prop} (hx : Cx 10 prog_12_method_49_code x) (hc : Cc y 4 0 x) (hr : Cr M_m_lostOn rvI P x) : ∀ (n : Nat) (v2 : Int32) (v3 : Int32) (σ : Sg), ok (f_m_lostOn_L4 N 69 189 63 75 n v2 v3 σ) P → G x 4 [some (.ref 66), some (.ref 75), some (.int v2), some (.int v3)] [] σ := by
  intro n
  induction n with
  | zero => intro v2 v3 σ h; exact ok_none h
  | succ n ih =>
    intro v2 v3 σ h
    rw [f_m_lostOn_L4] at h
    refine g_run hx [(.iload_n 3, 0, 0), (.aload_n 0, 0, 0), (.getfield 20, 0, 0), (.iconst 3, 3, 0), (.iaload, 0, 0)] (pc' := 11) (lo' := [some (.ref 66), some (.ref 75), some (.int v2), some (.int v3)]) (st' := [.int (gA σ 69 3), .int v3]) (σ' := σ) (by decide +kernel) rfl rfl ?_
    refine g_ic_ge hx (off := 45) (tgt := 56) (by decide +kernel) (by decide) (fun c11 => ?_) (fun c11 => ?_)
    · have h := ok_t h c11
      refine g_run hx [(.iload_n 2, 0, 0)] (pc' := 57) (lo' := [some (.ref 66), some (.ref 75), some (.int v2), some (.int v3)]) (st' := [.int v2]) (σ' := σ) (by decide +kernel) rfl rfl ?_
      exact g_iret hx hr rfl _ rfl (by decide +kernel) (ok_some h)
    · have h := ok_f h c11
      refine g_run hx [(.iload_n 2, 0, 0), (.aload_n 1, 0, 0), (.aload_n 0, 0, 0), (.getfield 20, 0, 0), (.bipush 12, 12, 0), (.iconst 2, 2, 0), (.iload_n 3, 0, 0), (.imul, 0, 0), (.iadd, 0, 0)] (pc' := 26) (lo' := [some (.ref 66), some (.ref 75), some (.int v2), some (.int v3)]) (st' := [.int (12 + (2 * v3)), .ref 69, .ref 75, .int v2]) (σ' := σ) (by decide +kernel) rfl rfl ?_
      obtain ⟨c26, h⟩ := ok_g h
      refine g_iald hx (by decide +kernel) (i := 69) (n := 189) rfl c26 ?_
      obtain ⟨c27, h⟩ := ok_g h
      refine g_iald hx (by decide +kernel) (i := 75) (n := 63) rfl c27 ?_
      refine g_if_le hx (off := 19) (tgt := 47) (by decide +kernel) (by decide) (fun c28 => ?_) (fun c28 => ?_)
      · have h := ok_t h c28
        refine g_run hx [(.iconst 0, 0, 0), (.iadd, 0, 0), (.istore_n 2, 0, 0), (.iinc 3 1, 1, 0)] (pc' := 53) (lo' := [some (.ref 66), some (.ref 75), some (.int (v2 + 0)), some (.int (v3 + 1))]) (st' := []) (σ' := σ) (by decide +kernel) rfl rfl ?_
        refine g_goto hx (off := (-49)) (tgt := 4) (by decide +kernel) (by decide) ?_
        exact ih _ _ _ h
      · have h := ok_f h c28
        refine g_run hx [(.aload_n 0, 0, 0), (.getfield 20, 0, 0), (.bipush 12, 12, 0), (.iconst 2, 2, 0), (.iload_n 3, 0, 0), (.imul, 0, 0), (.iadd, 0, 0), (.iconst 1, 1, 0), (.iadd, 0, 0)] (pc' := 43) (lo' := [some (.ref 66), some (.ref 75), some (.int v2), some (.int v3)]) (st' := [.int ((12 + (2 * v3)) + 1), .ref 69, .int v2]) (σ' := σ) (by decide +kernel) rfl rfl ?_
        obtain ⟨c43, h⟩ := ok_g h
        refine g_iald hx (by decide +kernel) (i := 69) (n := 189) rfl c43 ?_
        refine g_goto hx (off := 4) (tgt := 48) (by decide +kernel) (by decide) ?_
        refine g_run hx [(.iadd, 0, 0), (.istore_n 2, 0, 0), (.iinc 3 1, 1, 0)] (pc' := 53) (lo' := [some (.ref 66), some (.ref 75), some (.int (v2 + (gA σ 69 ((12 + (2 * v3)) + 1)))), some (.int (v3 + 1))]) (st' := []) (σ' := σ) (by decide +kernel) rfl rfl ?_
        refine g_goto hx (off := (-49)) (tgt := 4) (by decide +kernel) (by decide) ?_
        exact ih _ _ _ h
set_option maxRecDepth 100000 in
theorem s_m_lostOn_66_75 {y : EX} {N : Nat} {σ : Sg} {P : Int32 × Sg → Prop} (h : ok (f_m_lostOn N 69 189 63 75 σ) P) : Ev y M_m_lostOn 0 [.ref 66, .ref 75] σ rvI P := by
  refine Ev.of mk_m_lostOn (Nat.le_of_ble_eq_true rfl) (fun x hx hc hr => ?_)
  have hx : Cx 10 prog_12_method_49_code x := hx
  have hc : Cc y 4 0 x := hc
  show G x 0 [some (.ref 66), some (.ref 75), none, none] [] σ
  unfold f_m_lostOn at h
  refine g_run hx [(.iconst 0, 0, 0), (.istore_n 2, 0, 0), (.iconst 0, 0, 0), (.istore_n 3, 0, 0)] (pc' := 4) (lo' := [some (.ref 66), some (.ref 75), some (.int 0), some (.int 0)]) (st' := []) (σ' := σ) (by decide +kernel) rfl rfl ?_
  refine s_m_lostOn_66_75_L4 hx hc hr N _ _ _ h
set_option maxRecDepth 100000 in
theorem s_m_lostOn_66_74_L4 {y : EX} {N : Nat} {x : CX} {P : Int32 × Sg → Prop} (hx : Cx 10 prog_12_method_49_code x) (hc : Cc y 4 0 x) (hr : Cr M_m_lostOn rvI P x) : ∀ (n : Nat) (v2 : Int32) (v3 : Int32) (σ : Sg), ok (f_m_lostOn_L4 N 69 189 63 74 n v2 v3 σ) P → G x 4 [some (.ref 66), some (.ref 74), some (.int v2), some (.int v3)] [] σ := by
  intro n
  induction n with
  | zero => intro v2 v3 σ h; exact ok_none h
  | succ n ih =>
    intro v2 v3 σ h
    rw [f_m_lostOn_L4] at h
    refine g_run hx [(.iload_n 3, 0, 0), (.aload_n 0, 0, 0), (.getfield 20, 0, 0), (.iconst 3, 3, 0), (.iaload, 0, 0)] (pc' := 11) (lo' := [some (.ref 66), some (.ref 74), some (.int v2), some (.int v3)]) (st' := [.int (gA σ 69 3), .int v3]) (σ' := σ) (by decide +kernel) rfl rfl ?_
    refine g_ic_ge hx (off := 45) (tgt := 56) (by decide +kernel) (by decide) (fun c11 => ?_) (fun c11 => ?_)
    · have h := ok_t h c11
      refine g_run hx [(.iload_n 2, 0, 0)] (pc' := 57) (lo' := [some (.ref 66), some (.ref 74), some (.int v2), some (.int v3)]) (st' := [.int v2]) (σ' := σ) (by decide +kernel) rfl rfl ?_
      exact g_iret hx hr rfl _ rfl (by decide +kernel) (ok_some h)
    · have h := ok_f h c11
      refine g_run hx [(.iload_n 2, 0, 0), (.aload_n 1, 0, 0), (.aload_n 0, 0, 0), (.getfield 20, 0, 0), (.bipush 12, 12, 0), (.iconst 2, 2, 0), (.iload_n 3, 0, 0), (.imul, 0, 0), (.iadd, 0, 0)] (pc' := 26) (lo' := [some (.ref 66), some (.ref 74), some (.int v2), some (.int v3)]) (st' := [.int (12 + (2 * v3)), .ref 69, .ref 74, .int v2]) (σ' := σ) (by decide +kernel) rfl rfl ?_
      obtain ⟨c26, h⟩ := ok_g h
      refine g_iald hx (by decide +kernel) (i := 69) (n := 189) rfl c26 ?_
      obtain ⟨c27, h⟩ := ok_g h
      refine g_iald hx (by decide +kernel) (i := 74) (n := 63) rfl c27 ?_
      refine g_if_le hx (off := 19) (tgt := 47) (by decide +kernel) (by decide) (fun c28 => ?_) (fun c28 => ?_)
      · have h := ok_t h c28
        refine g_run hx [(.iconst 0, 0, 0), (.iadd, 0, 0), (.istore_n 2, 0, 0), (.iinc 3 1, 1, 0)] (pc' := 53) (lo' := [some (.ref 66), some (.ref 74), some (.int (v2 + 0)), some (.int (v3 + 1))]) (st' := []) (σ' := σ) (by decide +kernel) rfl rfl ?_
        refine g_goto hx (off := (-49)) (tgt := 4) (by decide +kernel) (by decide) ?_
        exact ih _ _ _ h
      · have h := ok_f h c28
        refine g_run hx [(.aload_n 0, 0, 0), (.getfield 20, 0, 0), (.bipush 12, 12, 0), (.iconst 2, 2, 0), (.iload_n 3, 0, 0), (.imul, 0, 0), (.iadd, 0, 0), (.iconst 1, 1, 0), (.iadd, 0, 0)] (pc' := 43) (lo' := [some (.ref 66), some (.ref 74), some (.int v2), some (.int v3)]) (st' := [.int ((12 + (2 * v3)) + 1), .ref 69, .int v2]) (σ' := σ) (by decide +kernel) rfl rfl ?_
        obtain ⟨c43, h⟩ := ok_g h
        refine g_iald hx (by decide +kernel) (i := 69) (n := 189) rfl c43 ?_
        refine g_goto hx (off := 4) (tgt := 48) (by decide +kernel) (by decide) ?_
        refine g_run hx [(.iadd, 0, 0), (.istore_n 2, 0, 0), (.iinc 3 1, 1, 0)] (pc' := 53) (lo' := [some (.ref 66), some (.ref 74), some (.int (v2 + (gA σ 69 ((12 + (2 * v3)) + 1)))), some (.int (v3 + 1))]) (st' := []) (σ' := σ) (by decide +kernel) rfl rfl ?_
        refine g_goto hx (off := (-49)) (tgt := 4) (by decide +kernel) (by decide) ?_
        exact ih _ _ _ h
set_option maxRecDepth 100000 in
theorem s_m_lostOn_66_74 {y : EX} {N : Nat} {σ : Sg} {P : Int32 × Sg → Prop} (h : ok (f_m_lostOn N 69 189 63 74 σ) P) : Ev y M_m_lostOn 0 [.ref 66, .ref 74] σ rvI P := by
  refine Ev.of mk_m_lostOn (Nat.le_of_ble_eq_true rfl) (fun x hx hc hr => ?_)
  have hx : Cx 10 prog_12_method_49_code x := hx
  have hc : Cc y 4 0 x := hc
  show G x 0 [some (.ref 66), some (.ref 74), none, none] [] σ
  unfold f_m_lostOn at h
  refine g_run hx [(.iconst 0, 0, 0), (.istore_n 2, 0, 0), (.iconst 0, 0, 0), (.istore_n 3, 0, 0)] (pc' := 4) (lo' := [some (.ref 66), some (.ref 74), some (.int 0), some (.int 0)]) (st' := []) (σ' := σ) (by decide +kernel) rfl rfl ?_
  refine s_m_lostOn_66_74_L4 hx hc hr N _ _ _ h
def f_m_costs (N : Nat) (v1 : Int32) (v2 : Int32) (σ : Sg) : Option (Int32 × Sg) :=
  (f_m_anew N σ).bind fun q1 =>
  (f_m_wayWhy N v1 v2 q1.2).bind fun q2 =>
  if q2.1 = 0 then
    (f_m_begin N q2.2).bind fun q3 =>
    (f_m_strideOn N 75 63 189 69 v1 v2 q3.2).bind fun q4 =>
    if q4.1 = true then
      (f_m_lostOn N 69 189 63 75 q4.2).bind fun q5 =>
      (f_m_lostOn N 69 189 63 74 q5.2).bind fun q6 =>
      some ((q5.1 - q6.1), q6.2)
    else
      some ((-2), q4.2)
  else
    (f_m_no N q2.1 q2.2).bind fun q7 =>
    some (q7.1, q7.2)
set_option maxRecDepth 100000 in
theorem s_m_costs {y : EX} {N : Nat} {v1 : Int32} {v2 : Int32} {σ : Sg} {P : Int32 × Sg → Prop} (h : ok (f_m_costs N v1 v2 σ) P) : Ev y M_m_costs 3 [.ref 66, .int v1, .int v2] σ rvI P := by
  refine Ev.of mk_m_costs (Nat.le_of_ble_eq_true rfl) (fun x hx hc hr => ?_)
  have hx : Cx 10 prog_12_method_75_code x := hx
  have hc : Cc y 4 3 x := hc
  show G x 0 [some (.ref 66), some (.int v1), some (.int v2), none] [] σ
  unfold f_m_costs at h
  refine g_run hx [(.aload_n 0, 0, 0)] (pc' := 1) (lo' := [some (.ref 66), some (.int v1), some (.int v2), none]) (st' := [.ref 66]) (σ' := σ) (by decide +kernel) rfl rfl ?_
  refine g_callV (rest := []) [] hx hc mk_m_anew ln_10_174 rfl (by decide +kernel) (by decide) (Nat.le_of_ble_eq_true rfl) (s_m_anew (ok_b h)) (fun r1 s1 h => ?_)
  refine g_run hx [(.aload_n 0, 0, 0), (.iload_n 1, 0, 0), (.iload_n 2, 0, 0)] (pc' := 7) (lo' := [some (.ref 66), some (.int v1), some (.int v2), none]) (st' := [.int v2, .int v1, .ref 66]) (σ' := s1) (by decide +kernel) rfl rfl ?_
  refine g_callV (rest := []) [.int v1, .int v2] hx hc mk_m_wayWhy ln_10_321 rfl (by decide +kernel) (by decide) (Nat.le_of_ble_eq_true rfl) (s_m_wayWhy (ok_b h)) (fun r2 s2 h => ?_)
  refine g_run hx [(.istore_n 3, 0, 0), (.iload_n 3, 0, 0)] (pc' := 12) (lo' := [some (.ref 66), some (.int v1), some (.int v2), some (.int r2)]) (st' := [.int r2]) (σ' := s2) (by decide +kernel) rfl rfl ?_
  refine g_if_eq hx (off := 9) (tgt := 21) (by decide +kernel) (by decide) (fun c12 => ?_) (fun c12 => ?_)
  · have h := ok_t h c12
    refine g_run hx [(.aload_n 0, 0, 0)] (pc' := 22) (lo' := [some (.ref 66), some (.int v1), some (.int v2), some (.int r2)]) (st' := [.ref 66]) (σ' := s2) (by decide +kernel) rfl rfl ?_
    refine g_callV (rest := []) [] hx hc mk_m_begin ln_10_272 rfl (by decide +kernel) (by decide) (Nat.le_of_ble_eq_true rfl) (s_m_begin (ok_b h)) (fun r3 s3 h => ?_)
    refine g_run hx [(.aload_n 0, 0, 0), (.getfield 20, 0, 0), (.aload_n 0, 0, 0), (.getfield 38, 0, 0), (.iload_n 1, 0, 0), (.iload_n 2, 0, 0)] (pc' := 35) (lo' := [some (.ref 66), some (.int v1), some (.int v2), some (.int r2)]) (st' := [.int v2, .int v1, .ref 75, .ref 69]) (σ' := s3) (by decide +kernel) rfl rfl ?_
    refine g_callS (rest := []) [.ref 69, .ref 75, .int v1, .int v2] hx hc mk_m_strideOn ln_10_253 (by decide +kernel) (by decide) (Nat.le_of_ble_eq_true rfl) (s_m_strideOn_69_75 (ok_b h)) (fun r4 s4 h => ?_)
    refine g_ifb_eq hx (off := 23) (tgt := 61) (by decide +kernel) (by decide) (fun c38 => ?_) (fun c38 => ?_)
    · have h := ok_f h c38
      refine g_run hx [(.bipush (-2), (-2), 0)] (pc' := 63) (lo' := [some (.ref 66), some (.int v1), some (.int v2), some (.int r2)]) (st' := [.int (-2)]) (σ' := s4) (by decide +kernel) rfl rfl ?_
      exact g_iret hx hr rfl _ rfl (by decide +kernel) (ok_some h)
    · have h := ok_t h c38
      refine g_run hx [(.aload_n 0, 0, 0), (.aload_n 0, 0, 0), (.getfield 38, 0, 0)] (pc' := 46) (lo' := [some (.ref 66), some (.int v1), some (.int v2), some (.int r2)]) (st' := [.ref 75, .ref 66]) (σ' := s4) (by decide +kernel) rfl rfl ?_
      refine g_callV (rest := []) [.ref 75] hx hc mk_m_lostOn ln_10_294 rfl (by decide +kernel) (by decide) (Nat.le_of_ble_eq_true rfl) (s_m_lostOn_66_75 (ok_b h)) (fun r5 s5 h => ?_)
      refine g_run hx [(.aload_n 0, 0, 0), (.aload_n 0, 0, 0), (.getfield 35, 0, 0)] (pc' := 54) (lo' := [some (.ref 66), some (.int v1), some (.int v2), some (.int r2)]) (st' := [.ref 74, .ref 66, .int r5]) (σ' := s5) (by decide +kernel) rfl rfl ?_
      refine g_callV (rest := [.int r5]) [.ref 74] hx hc mk_m_lostOn ln_10_294 rfl (by decide +kernel) (by decide) (Nat.le_of_ble_eq_true rfl) (s_m_lostOn_66_74 (ok_b h)) (fun r6 s6 h => ?_)
      refine g_run hx [(.isub, 0, 0)] (pc' := 58) (lo' := [some (.ref 66), some (.int v1), some (.int v2), some (.int r2)]) (st' := [.int (r5 - r6)]) (σ' := s6) (by decide +kernel) rfl rfl ?_
      refine g_goto hx (off := 5) (tgt := 63) (by decide +kernel) (by decide) ?_
      exact g_iret hx hr rfl _ rfl (by decide +kernel) (ok_some h)
  · have h := ok_f h c12
    refine g_run hx [(.aload_n 0, 0, 0), (.iload_n 3, 0, 0)] (pc' := 17) (lo' := [some (.ref 66), some (.int v1), some (.int v2), some (.int r2)]) (st' := [.int r2, .ref 66]) (σ' := s2) (by decide +kernel) rfl rfl ?_
    refine g_callV (rest := []) [.int r2] hx hc mk_m_no ln_10_177 rfl (by decide +kernel) (by decide) (Nat.le_of_ble_eq_true rfl) (s_m_no (ok_b h)) (fun r7 s7 h => ?_)
    exact g_iret hx hr rfl _ rfl (by decide +kernel) (ok_some h)
def f_m_could (N : Nat) (σ : Sg) : Option (Int32 × Sg) :=
  (f_m_anew N σ).bind fun q1 =>
  if (gI q1.2 66 14) = 0 then
    (f_m_no N 1 q1.2).bind fun q3 =>
    some (q3.1, q3.2)
  else
    (f_m_seekSets N (-1) q1.2).bind fun q2 =>
    some ((gI q2.2 66 46), q2.2)
set_option maxRecDepth 100000 in
theorem s_m_could {y : EX} {N : Nat} {σ : Sg} {P : Int32 × Sg → Prop} (h : ok (f_m_could N σ) P) : Ev y M_m_could 5 [.ref 66] σ rvI P := by
  refine Ev.of mk_m_could (Nat.le_of_ble_eq_true rfl) (fun x hx hc hr => ?_)
  have hx : Cx 10 prog_12_method_104_code x := hx
  have hc : Cc y 1 5 x := hc
  show G x 0 [some (.ref 66)] [] σ
  unfold f_m_could at h
  refine g_run hx [(.aload_n 0, 0, 0)] (pc' := 1) (lo' := [some (.ref 66)]) (st' := [.ref 66]) (σ' := σ) (by decide +kernel) rfl rfl ?_
  refine g_callV (rest := []) [] hx hc mk_m_anew ln_10_174 rfl (by decide +kernel) (by decide) (Nat.le_of_ble_eq_true rfl) (s_m_anew (ok_b h)) (fun r1 s1 h => ?_)
  refine g_run hx [(.aload_n 0, 0, 0), (.getfield 187, 0, 0)] (pc' := 8) (lo' := [some (.ref 66)]) (st' := [.int (gI s1 66 14)]) (σ' := s1) (by decide +kernel) rfl rfl ?_
  refine g_if_ne hx (off := 9) (tgt := 17) (by decide +kernel) (by decide) (fun c8 => ?_) (fun c8 => ?_)
  · have h := ok_f h c8
    refine g_run hx [(.aload_n 0, 0, 0), (.iconst (-1), (-1), 0)] (pc' := 19) (lo' := [some (.ref 66)]) (st' := [.int (-1), .ref 66]) (σ' := s1) (by decide +kernel) rfl rfl ?_
    refine g_callV (rest := []) [.int (-1)] hx hc mk_m_seekSets ln_10_399 rfl (by decide +kernel) (by decide) (Nat.le_of_ble_eq_true rfl) (s_m_seekSets (ok_b h)) (fun r2 s2 h => ?_)
    refine g_run hx [(.pop, 0, 0), (.aload_n 0, 0, 0), (.getfield 390, 0, 0)] (pc' := 27) (lo' := [some (.ref 66)]) (st' := [.int (gI s2 66 46)]) (σ' := s2) (by decide +kernel) rfl rfl ?_
    exact g_iret hx hr rfl _ rfl (by decide +kernel) (ok_some h)
  · have h := ok_t h c8
    refine g_run hx [(.aload_n 0, 0, 0), (.iconst 1, 1, 0)] (pc' := 13) (lo' := [some (.ref 66)]) (st' := [.int 1, .ref 66]) (σ' := s1) (by decide +kernel) rfl rfl ?_
    refine g_callV (rest := []) [.int 1] hx hc mk_m_no ln_10_177 rfl (by decide +kernel) (by decide) (Nat.le_of_ble_eq_true rfl) (s_m_no (ok_b h)) (fun r3 s3 h => ?_)
    exact g_iret hx hr rfl _ rfl (by decide +kernel) (ok_some h)
def f_m_curate (N : Nat) (σ : Sg) : Option (Int32 × Sg) :=
  (f_m_anew N σ).bind fun q1 =>
  if (gI q1.2 66 14) = 0 then
    (f_m_no N 1 q1.2).bind fun q2 =>
    some (q2.1, q2.2)
  else
    some ((gA q1.2 74 61), q1.2)
set_option maxRecDepth 100000 in
theorem s_m_curate {y : EX} {N : Nat} {σ : Sg} {P : Int32 × Sg → Prop} (h : ok (f_m_curate N σ) P) : Ev y M_m_curate 1 [.ref 66] σ rvI P := by
  refine Ev.of mk_m_curate (Nat.le_of_ble_eq_true rfl) (fun x hx hc hr => ?_)
  have hx : Cx 10 prog_12_method_57_code x := hx
  have hc : Cc y 1 1 x := hc
  show G x 0 [some (.ref 66)] [] σ
  unfold f_m_curate at h
  refine g_run hx [(.aload_n 0, 0, 0)] (pc' := 1) (lo' := [some (.ref 66)]) (st' := [.ref 66]) (σ' := σ) (by decide +kernel) rfl rfl ?_
  refine g_callV (rest := []) [] hx hc mk_m_anew ln_10_174 rfl (by decide +kernel) (by decide) (Nat.le_of_ble_eq_true rfl) (s_m_anew (ok_b h)) (fun r1 s1 h => ?_)
  refine g_run hx [(.aload_n 0, 0, 0), (.getfield 187, 0, 0)] (pc' := 8) (lo' := [some (.ref 66)]) (st' := [.int (gI s1 66 14)]) (σ' := s1) (by decide +kernel) rfl rfl ?_
  refine g_if_eq hx (off := 13) (tgt := 21) (by decide +kernel) (by decide) (fun c8 => ?_) (fun c8 => ?_)
  · have h := ok_t h c8
    refine g_run hx [(.aload_n 0, 0, 0), (.iconst 1, 1, 0)] (pc' := 23) (lo' := [some (.ref 66)]) (st' := [.int 1, .ref 66]) (σ' := s1) (by decide +kernel) rfl rfl ?_
    refine g_callV (rest := []) [.int 1] hx hc mk_m_no ln_10_177 rfl (by decide +kernel) (by decide) (Nat.le_of_ble_eq_true rfl) (s_m_no (ok_b h)) (fun r2 s2 h => ?_)
    exact g_iret hx hr rfl _ rfl (by decide +kernel) (ok_some h)
  · have h := ok_f h c8
    refine g_run hx [(.aload_n 0, 0, 0), (.getfield 35, 0, 0), (.bipush 61, 61, 0), (.iaload, 0, 0)] (pc' := 18) (lo' := [some (.ref 66)]) (st' := [.int (gA s1 74 61)]) (σ' := s1) (by decide +kernel) rfl rfl ?_
    refine g_goto hx (off := 8) (tgt := 26) (by decide +kernel) (by decide) ?_
    exact g_iret hx hr rfl _ rfl (by decide +kernel) (ok_some h)
def f_m_deep_L40 (N : Nat) : Nat → Int32 → Int32 → Int32 → Int32 → Sg → Option (Int32 × Sg)
  | 0, _, _, _, _, _ => none
  | n + 1, v1, v2, v3, v4, σ =>
    if v2 ≤ v1 then
      if v1 < v4 then
        some (v3, σ)
      else
        if vin v4 63 then
        f_m_deep_L40 N n v1 v2 (v3 + (gA σ 74 v4)) (v4 + 1) σ
        else none
    else
      if v2 < v4 then
        some (v3, σ)
      else
        if vin v4 63 then
        f_m_deep_L40 N n v1 v2 (v3 + (gA σ 74 v4)) (v4 + 1) σ
        else none
def f_m_deep (N : Nat) (v1 : Int32) (v2 : Int32) (σ : Sg) : Option (Int32 × Sg) :=
  (f_m_anew N σ).bind fun q1 =>
  (f_m_isCell N v1 q1.2).bind fun q2 =>
  if q2.1 = true then
    (f_m_isCell N v2 q2.2).bind fun q4 =>
    if q4.1 = true then
      if v2 ≤ v1 then
        f_m_deep_L40 N N v1 v2 0 v2 q4.2
      else
        f_m_deep_L40 N N v1 v2 0 v1 q4.2
    else
      (f_m_no N 1 q4.2).bind fun q5 =>
      some (q5.1, q5.2)
  else
    (f_m_no N 1 q2.2).bind fun q3 =>
    some (q3.1, q3.2)
set_option maxRecDepth 100000 in
theorem s_m_deep_L40 {y : EX} {N : Nat} {x : CX} {P : Int32 × Sg → Prop} (hx : Cx 10 prog_12_method_66_code x) (hc : Cc y 5 2 x) (hr : Cr M_m_deep rvI P x) : ∀ (n : Nat) (v1 : Int32) (v2 : Int32) (v3 : Int32) (v4 : Int32) (σ : Sg), ok (f_m_deep_L40 N n v1 v2 v3 v4 σ) P → G x 40 [some (.ref 66), some (.int v1), some (.int v2), some (.int v3), some (.int v4)] [] σ := by
  intro n
  induction n with
  | zero => intro v1 v2 v3 v4 σ h; exact ok_none h
  | succ n ih =>
    intro v1 v2 v3 v4 σ h
    rw [f_m_deep_L40] at h
    refine g_run hx [(.iload 4, 0, 0), (.iload_n 1, 0, 0), (.iload_n 2, 0, 0)] (pc' := 44) (lo' := [some (.ref 66), some (.int v1), some (.int v2), some (.int v3), some (.int v4)]) (st' := [.int v2, .int v1, .int v4]) (σ' := σ) (by decide +kernel) rfl rfl ?_
    refine g_ic_ge hx (off := 7) (tgt := 51) (by decide +kernel) (by decide) (fun c44 => ?_) (fun c44 => ?_)
    · have h := ok_t h c44
      refine g_run hx [(.iload_n 1, 0, 0)] (pc' := 52) (lo' := [some (.ref 66), some (.int v1), some (.int v2), some (.int v3), some (.int v4)]) (st' := [.int v1, .int v4]) (σ' := σ) (by decide +kernel) rfl rfl ?_
      refine g_ic_gt hx (off := 19) (tgt := 71) (by decide +kernel) (by decide) (fun c52 => ?_) (fun c52 => ?_)
      · have h := ok_t h c52
        refine g_run hx [(.iload_n 3, 0, 0)] (pc' := 72) (lo' := [some (.ref 66), some (.int v1), some (.int v2), some (.int v3), some (.int v4)]) (st' := [.int v3]) (σ' := σ) (by decide +kernel) rfl rfl ?_
        exact g_iret hx hr rfl _ rfl (by decide +kernel) (ok_some h)
      · have h := ok_f h c52
        refine g_run hx [(.iload_n 3, 0, 0), (.aload_n 0, 0, 0), (.getfield 35, 0, 0), (.iload 4, 0, 0)] (pc' := 62) (lo' := [some (.ref 66), some (.int v1), some (.int v2), some (.int v3), some (.int v4)]) (st' := [.int v4, .ref 74, .int v3]) (σ' := σ) (by decide +kernel) rfl rfl ?_
        obtain ⟨c62, h⟩ := ok_g h
        refine g_iald hx (by decide +kernel) (i := 74) (n := 63) rfl c62 ?_
        refine g_run hx [(.iadd, 0, 0), (.istore_n 3, 0, 0), (.iinc 4 1, 1, 0)] (pc' := 68) (lo' := [some (.ref 66), some (.int v1), some (.int v2), some (.int (v3 + (gA σ 74 v4))), some (.int (v4 + 1))]) (st' := []) (σ' := σ) (by decide +kernel) rfl rfl ?_
        refine g_goto hx (off := (-28)) (tgt := 40) (by decide +kernel) (by decide) ?_
        exact ih _ _ _ _ _ h
    · have h := ok_f h c44
      refine g_run hx [(.iload_n 2, 0, 0)] (pc' := 48) (lo' := [some (.ref 66), some (.int v1), some (.int v2), some (.int v3), some (.int v4)]) (st' := [.int v2, .int v4]) (σ' := σ) (by decide +kernel) rfl rfl ?_
      refine g_goto hx (off := 4) (tgt := 52) (by decide +kernel) (by decide) ?_
      refine g_ic_gt hx (off := 19) (tgt := 71) (by decide +kernel) (by decide) (fun c52 => ?_) (fun c52 => ?_)
      · have h := ok_t h c52
        refine g_run hx [(.iload_n 3, 0, 0)] (pc' := 72) (lo' := [some (.ref 66), some (.int v1), some (.int v2), some (.int v3), some (.int v4)]) (st' := [.int v3]) (σ' := σ) (by decide +kernel) rfl rfl ?_
        exact g_iret hx hr rfl _ rfl (by decide +kernel) (ok_some h)
      · have h := ok_f h c52
        refine g_run hx [(.iload_n 3, 0, 0), (.aload_n 0, 0, 0), (.getfield 35, 0, 0), (.iload 4, 0, 0)] (pc' := 62) (lo' := [some (.ref 66), some (.int v1), some (.int v2), some (.int v3), some (.int v4)]) (st' := [.int v4, .ref 74, .int v3]) (σ' := σ) (by decide +kernel) rfl rfl ?_
        obtain ⟨c62, h⟩ := ok_g h
        refine g_iald hx (by decide +kernel) (i := 74) (n := 63) rfl c62 ?_
        refine g_run hx [(.iadd, 0, 0), (.istore_n 3, 0, 0), (.iinc 4 1, 1, 0)] (pc' := 68) (lo' := [some (.ref 66), some (.int v1), some (.int v2), some (.int (v3 + (gA σ 74 v4))), some (.int (v4 + 1))]) (st' := []) (σ' := σ) (by decide +kernel) rfl rfl ?_
        refine g_goto hx (off := (-28)) (tgt := 40) (by decide +kernel) (by decide) ?_
        exact ih _ _ _ _ _ h
set_option maxRecDepth 100000 in
theorem s_m_deep {y : EX} {N : Nat} {v1 : Int32} {v2 : Int32} {σ : Sg} {P : Int32 × Sg → Prop} (h : ok (f_m_deep N v1 v2 σ) P) : Ev y M_m_deep 2 [.ref 66, .int v1, .int v2] σ rvI P := by
  refine Ev.of mk_m_deep (Nat.le_of_ble_eq_true rfl) (fun x hx hc hr => ?_)
  have hx : Cx 10 prog_12_method_66_code x := hx
  have hc : Cc y 5 2 x := hc
  show G x 0 [some (.ref 66), some (.int v1), some (.int v2), none, none] [] σ
  unfold f_m_deep at h
  refine g_run hx [(.aload_n 0, 0, 0)] (pc' := 1) (lo' := [some (.ref 66), some (.int v1), some (.int v2), none, none]) (st' := [.ref 66]) (σ' := σ) (by decide +kernel) rfl rfl ?_
  refine g_callV (rest := []) [] hx hc mk_m_anew ln_10_174 rfl (by decide +kernel) (by decide) (Nat.le_of_ble_eq_true rfl) (s_m_anew (ok_b h)) (fun r1 s1 h => ?_)
  refine g_run hx [(.aload_n 0, 0, 0), (.iload_n 1, 0, 0)] (pc' := 6) (lo' := [some (.ref 66), some (.int v1), some (.int v2), none, none]) (st' := [.int v1, .ref 66]) (σ' := s1) (by decide +kernel) rfl rfl ?_
  refine g_callV (rest := []) [.int v1] hx hc mk_m_isCell ln_10_279 rfl (by decide +kernel) (by decide) (Nat.le_of_ble_eq_true rfl) (s_m_isCell (ok_b h)) (fun r2 s2 h => ?_)
  refine g_ifb_eq hx (off := 11) (tgt := 20) (by decide +kernel) (by decide) (fun c9 => ?_) (fun c9 => ?_)
  · have h := ok_f h c9
    refine g_run hx [(.aload_n 0, 0, 0), (.iconst 1, 1, 0)] (pc' := 22) (lo' := [some (.ref 66), some (.int v1), some (.int v2), none, none]) (st' := [.int 1, .ref 66]) (σ' := s2) (by decide +kernel) rfl rfl ?_
    refine g_callV (rest := []) [.int 1] hx hc mk_m_no ln_10_177 rfl (by decide +kernel) (by decide) (Nat.le_of_ble_eq_true rfl) (s_m_no (ok_b h)) (fun r3 s3 h => ?_)
    exact g_iret hx hr rfl _ rfl (by decide +kernel) (ok_some h)
  · have h := ok_t h c9
    refine g_run hx [(.aload_n 0, 0, 0), (.iload_n 2, 0, 0)] (pc' := 14) (lo' := [some (.ref 66), some (.int v1), some (.int v2), none, none]) (st' := [.int v2, .ref 66]) (σ' := s2) (by decide +kernel) rfl rfl ?_
    refine g_callV (rest := []) [.int v2] hx hc mk_m_isCell ln_10_279 rfl (by decide +kernel) (by decide) (Nat.le_of_ble_eq_true rfl) (s_m_isCell (ok_b h)) (fun r4 s4 h => ?_)
    refine g_ifb_ne hx (off := 9) (tgt := 26) (by decide +kernel) (by decide) (fun c17 => ?_) (fun c17 => ?_)
    · have h := ok_t h c17
      refine g_run hx [(.iconst 0, 0, 0), (.istore_n 3, 0, 0), (.iload_n 1, 0, 0), (.iload_n 2, 0, 0)] (pc' := 30) (lo' := [some (.ref 66), some (.int v1), some (.int v2), some (.int 0), none]) (st' := [.int v2, .int v1]) (σ' := s4) (by decide +kernel) rfl rfl ?_
      refine g_ic_ge hx (off := 7) (tgt := 37) (by decide +kernel) (by decide) (fun c30 => ?_) (fun c30 => ?_)
      · have h := ok_t h c30
        refine g_run hx [(.iload_n 2, 0, 0), (.istore 4, 0, 0)] (pc' := 40) (lo' := [some (.ref 66), some (.int v1), some (.int v2), some (.int 0), some (.int v2)]) (st' := []) (σ' := s4) (by decide +kernel) rfl rfl ?_
        refine s_m_deep_L40 hx hc hr N _ _ _ _ _ h
      · have h := ok_f h c30
        refine g_run hx [(.iload_n 1, 0, 0)] (pc' := 34) (lo' := [some (.ref 66), some (.int v1), some (.int v2), some (.int 0), none]) (st' := [.int v1]) (σ' := s4) (by decide +kernel) rfl rfl ?_
        refine g_goto hx (off := 4) (tgt := 38) (by decide +kernel) (by decide) ?_
        refine g_run hx [(.istore 4, 0, 0)] (pc' := 40) (lo' := [some (.ref 66), some (.int v1), some (.int v2), some (.int 0), some (.int v1)]) (st' := []) (σ' := s4) (by decide +kernel) rfl rfl ?_
        refine s_m_deep_L40 hx hc hr N _ _ _ _ _ h
    · have h := ok_f h c17
      refine g_run hx [(.aload_n 0, 0, 0), (.iconst 1, 1, 0)] (pc' := 22) (lo' := [some (.ref 66), some (.int v1), some (.int v2), none, none]) (st' := [.int 1, .ref 66]) (σ' := s4) (by decide +kernel) rfl rfl ?_
      refine g_callV (rest := []) [.int 1] hx hc mk_m_no ln_10_177 rfl (by decide +kernel) (by decide) (Nat.le_of_ble_eq_true rfl) (s_m_no (ok_b h)) (fun r5 s5 h => ?_)
      exact g_iret hx hr rfl _ rfl (by decide +kernel) (ok_some h)
def f_m_drawn_L57 (N : Nat) : Nat → Int32 → Int32 → Int32 → Sg → Option (Int32 × Sg)
  | 0, _, _, _, _ => none
  | n + 1, v2, v5, v6, σ =>
    if v2 ≤ v6 then
      some ((gA σ 75 60), σ)
    else
      if ((((75 * v5) + 74) - ((75 * v5) + 74) / 65537 * 65537) - (((75 * v5) + 74) - ((75 * v5) + 74) / 65537 * 65537) / 100 * 100) < (gA σ 69 1) then
        f_m_drawn_L57 N n v2 (((75 * v5) + 74) - ((75 * v5) + 74) / 65537 * 65537) (v6 + 1) σ
      else
        if vin v6 5 then
        (f_m_digitOn N 75 63 189 69 (gA σ 79 v6) σ).bind fun q4 =>
        f_m_drawn_L57 N n v2 (((75 * v5) + 74) - ((75 * v5) + 74) / 65537 * 65537) (v6 + 1) q4.2
        else none
def f_m_drawn (N : Nat) (v1 : Int32) (v2 : Int32) (v3 : Int32) (σ : Sg) : Option (Int32 × Sg) :=
  (f_m_anew N σ).bind fun q1 =>
  (f_m_rowWhy N (gI q1.2 66 14) v1 v2 q1.2).bind fun q2 =>
  if q2.1 = 0 then
    (f_m_in N v3 0 65536 q2.2).bind fun q6 =>
    if q6.1 = true then
      if q2.1 = 0 then
        (f_m_begin N q6.2).bind fun q7 =>
        f_m_drawn_L57 N N v2 v3 0 q7.2
      else
        (f_m_no N q2.1 q6.2).bind fun q8 =>
        some (q8.1, q8.2)
    else
      (f_m_no N 2 q6.2).bind fun q9 =>
      some (q9.1, q9.2)
  else
    if q2.1 = 0 then
      (f_m_begin N q2.2).bind fun q3 =>
      f_m_drawn_L57 N N v2 v3 0 q3.2
    else
      (f_m_no N q2.1 q2.2).bind fun q5 =>
      some (q5.1, q5.2)
set_option maxRecDepth 100000 in
theorem s_m_drawn_L57 {y : EX} {N : Nat} {x : CX} {P : Int32 × Sg → Prop} (hx : Cx 10 prog_12_method_119_code x) (hc : Cc y 7 4 x) (hr : Cr M_m_drawn rvI P x) : ∀ (n : Nat) (v2 : Int32) (v5 : Int32) (v6 : Int32) (σ : Sg), ok (f_m_drawn_L57 N n v2 v5 v6 σ) P → G x 57 [some (.ref 66), none, some (.int v2), none, none, some (.int v5), some (.int v6)] [] σ := by
  intro n
  induction n with
  | zero => intro v2 v5 v6 σ h; exact ok_none h
  | succ n ih =>
    intro v2 v5 v6 σ h
    rw [f_m_drawn_L57] at h
    refine g_run hx [(.iload 6, 0, 0), (.iload_n 2, 0, 0)] (pc' := 60) (lo' := [some (.ref 66), none, some (.int v2), none, none, some (.int v5), some (.int v6)]) (st' := [.int v2, .int v6]) (σ' := σ) (by decide +kernel) rfl rfl ?_
    refine g_ic_ge hx (off := 53) (tgt := 113) (by decide +kernel) (by decide) (fun c60 => ?_) (fun c60 => ?_)
    · have h := ok_t h c60
      refine g_run hx [(.aload_n 0, 0, 0), (.getfield 38, 0, 0), (.bipush 60, 60, 0), (.iaload, 0, 0)] (pc' := 120) (lo' := [some (.ref 66), none, some (.int v2), none, none, some (.int v5), some (.int v6)]) (st' := [.int (gA σ 75 60)]) (σ' := σ) (by decide +kernel) rfl rfl ?_
      exact g_iret hx hr rfl _ rfl (by decide +kernel) (ok_some h)
    · have h := ok_f h c60
      refine g_run hx [(.bipush 75, 75, 0), (.iload 5, 0, 0), (.imul, 0, 0), (.bipush 74, 74, 0), (.iadd, 0, 0), (.ldc_w 436, 65537, 0), (.irem, 0, 0), (.istore 5, 0, 0), (.iload 5, 0, 0), (.bipush 100, 100, 0), (.irem, 0, 0), (.aload_n 0, 0, 0), (.getfield 20, 0, 0), (.iconst 1, 1, 0), (.iaload, 0, 0)] (pc' := 88) (lo' := [some (.ref 66), none, some (.int v2), none, none, some (.int (((75 * v5) + 74) - ((75 * v5) + 74) / 65537 * 65537)), some (.int v6)]) (st' := [.int (gA σ 69 1), .int ((((75 * v5) + 74) - ((75 * v5) + 74) / 65537 * 65537) - (((75 * v5) + 74) - ((75 * v5) + 74) / 65537 * 65537) / 100 * 100)]) (σ' := σ) (by decide +kernel) rfl rfl ?_
      refine g_ic_lt hx (off := 19) (tgt := 107) (by decide +kernel) (by decide) (fun c88 => ?_) (fun c88 => ?_)
      · have h := ok_t h c88
        refine g_run hx [(.iinc 6 1, 1, 0)] (pc' := 110) (lo' := [some (.ref 66), none, some (.int v2), none, none, some (.int (((75 * v5) + 74) - ((75 * v5) + 74) / 65537 * 65537)), some (.int (v6 + 1))]) (st' := []) (σ' := σ) (by decide +kernel) rfl rfl ?_
        refine g_goto hx (off := (-53)) (tgt := 57) (by decide +kernel) (by decide) ?_
        exact ih _ _ _ _ h
      · have h := ok_f h c88
        refine g_run hx [(.aload_n 0, 0, 0), (.aload_n 0, 0, 0), (.getfield 38, 0, 0), (.aload_n 0, 0, 0), (.getfield 50, 0, 0), (.iload 6, 0, 0)] (pc' := 102) (lo' := [some (.ref 66), none, some (.int v2), none, none, some (.int (((75 * v5) + 74) - ((75 * v5) + 74) / 65537 * 65537)), some (.int v6)]) (st' := [.int v6, .ref 79, .ref 75, .ref 66]) (σ' := σ) (by decide +kernel) rfl rfl ?_
        obtain ⟨c102, h⟩ := ok_g h
        refine g_iald hx (by decide +kernel) (i := 79) (n := 5) rfl c102 ?_
        refine g_callV (rest := []) [.ref 75, .int (gA σ 79 v6)] hx hc mk_m_digitOn ln_10_324 rfl (by decide +kernel) (by decide) (Nat.le_of_ble_eq_true rfl) (s_m_digitOn_66_75 (ok_b h)) (fun r4 s4 h => ?_)
        refine g_run hx [(.pop, 0, 0), (.iinc 6 1, 1, 0)] (pc' := 110) (lo' := [some (.ref 66), none, some (.int v2), none, none, some (.int (((75 * v5) + 74) - ((75 * v5) + 74) / 65537 * 65537)), some (.int (v6 + 1))]) (st' := []) (σ' := s4) (by decide +kernel) rfl rfl ?_
        refine g_goto hx (off := (-53)) (tgt := 57) (by decide +kernel) (by decide) ?_
        exact ih _ _ _ _ h
set_option maxRecDepth 100000 in
theorem s_m_drawn {y : EX} {N : Nat} {v1 : Int32} {v2 : Int32} {v3 : Int32} {σ : Sg} {P : Int32 × Sg → Prop} (h : ok (f_m_drawn N v1 v2 v3 σ) P) : Ev y M_m_drawn 4 [.ref 66, .int v1, .int v2, .int v3] σ rvI P := by
  refine Ev.of mk_m_drawn (Nat.le_of_ble_eq_true rfl) (fun x hx hc hr => ?_)
  have hx : Cx 10 prog_12_method_119_code x := hx
  have hc : Cc y 7 4 x := hc
  show G x 0 [some (.ref 66), some (.int v1), some (.int v2), some (.int v3), none, none, none] [] σ
  unfold f_m_drawn at h
  refine g_run hx [(.aload_n 0, 0, 0)] (pc' := 1) (lo' := [some (.ref 66), some (.int v1), some (.int v2), some (.int v3), none, none, none]) (st' := [.ref 66]) (σ' := σ) (by decide +kernel) rfl rfl ?_
  refine g_callV (rest := []) [] hx hc mk_m_anew ln_10_174 rfl (by decide +kernel) (by decide) (Nat.le_of_ble_eq_true rfl) (s_m_anew (ok_b h)) (fun r1 s1 h => ?_)
  refine g_run hx [(.aload_n 0, 0, 0), (.aload_n 0, 0, 0), (.getfield 187, 0, 0), (.iload_n 1, 0, 0), (.iload_n 2, 0, 0)] (pc' := 11) (lo' := [some (.ref 66), some (.int v1), some (.int v2), some (.int v3), none, none, none]) (st' := [.int v2, .int v1, .int (gI s1 66 14), .ref 66]) (σ' := s1) (by decide +kernel) rfl rfl ?_
  refine g_callV (rest := []) [.int (gI s1 66 14), .int v1, .int v2] hx hc mk_m_rowWhy ln_10_328 rfl (by decide +kernel) (by decide) (Nat.le_of_ble_eq_true rfl) (s_m_rowWhy (ok_b h)) (fun r2 s2 h => ?_)
  refine g_run hx [(.istore 4, 0, 0), (.iload 4, 0, 0)] (pc' := 18) (lo' := [some (.ref 66), some (.int v1), some (.int v2), some (.int v3), some (.int r2), none, none]) (st' := [.int r2]) (σ' := s2) (by decide +kernel) rfl rfl ?_
  refine g_if_ne hx (off := 17) (tgt := 35) (by decide +kernel) (by decide) (fun c18 => ?_) (fun c18 => ?_)
  · have h := ok_f h c18
    refine g_run hx [(.iload 4, 0, 0)] (pc' := 37) (lo' := [some (.ref 66), some (.int v1), some (.int v2), some (.int v3), some (.int r2), none, none]) (st' := [.int r2]) (σ' := s2) (by decide +kernel) rfl rfl ?_
    refine g_if_eq hx (off := 10) (tgt := 47) (by decide +kernel) (by decide) (fun c37 => ?_) (fun c37 => ?_)
    · have h := ok_t h c37
      refine g_run hx [(.aload_n 0, 0, 0)] (pc' := 48) (lo' := [some (.ref 66), some (.int v1), some (.int v2), some (.int v3), some (.int r2), none, none]) (st' := [.ref 66]) (σ' := s2) (by decide +kernel) rfl rfl ?_
      refine g_callV (rest := []) [] hx hc mk_m_begin ln_10_272 rfl (by decide +kernel) (by decide) (Nat.le_of_ble_eq_true rfl) (s_m_begin (ok_b h)) (fun r3 s3 h => ?_)
      refine g_run hx [(.iload_n 3, 0, 0), (.istore 5, 0, 0), (.iconst 0, 0, 0), (.istore 6, 0, 0)] (pc' := 57) (lo' := [some (.ref 66), some (.int v1), some (.int v2), some (.int v3), some (.int r2), some (.int v3), some (.int 0)]) (st' := []) (σ' := s3) (by decide +kernel) rfl rfl ?_
      refine g_wk (lo' := [some (.ref 66), none, some (.int v2), none, none, some (.int v3), some (.int 0)]) ⟨rfl, ⟨rfl, ⟨rfl, ⟨rfl, trivial⟩⟩⟩⟩ ?_
      refine s_m_drawn_L57 hx hc hr N _ _ _ _ h
    · have h := ok_f h c37
      refine g_run hx [(.aload_n 0, 0, 0), (.iload 4, 0, 0)] (pc' := 43) (lo' := [some (.ref 66), some (.int v1), some (.int v2), some (.int v3), some (.int r2), none, none]) (st' := [.int r2, .ref 66]) (σ' := s2) (by decide +kernel) rfl rfl ?_
      refine g_callV (rest := []) [.int r2] hx hc mk_m_no ln_10_177 rfl (by decide +kernel) (by decide) (Nat.le_of_ble_eq_true rfl) (s_m_no (ok_b h)) (fun r5 s5 h => ?_)
      exact g_iret hx hr rfl _ rfl (by decide +kernel) (ok_some h)
  · have h := ok_t h c18
    refine g_run hx [(.iload_n 3, 0, 0), (.iconst 0, 0, 0), (.ldc_w 435, 65536, 0)] (pc' := 26) (lo' := [some (.ref 66), some (.int v1), some (.int v2), some (.int v3), some (.int r2), none, none]) (st' := [.int 65536, .int 0, .int v3]) (σ' := s2) (by decide +kernel) rfl rfl ?_
    refine g_callS (rest := []) [.int v3, .int 0, .int 65536] hx hc mk_m_in ln_10_156 (by decide +kernel) (by decide) (Nat.le_of_ble_eq_true rfl) (s_m_in (ok_b h)) (fun r6 s6 h => ?_)
    refine g_ifb_ne hx (off := 6) (tgt := 35) (by decide +kernel) (by decide) (fun c29 => ?_) (fun c29 => ?_)
    · have h := ok_t h c29
      refine g_run hx [(.iload 4, 0, 0)] (pc' := 37) (lo' := [some (.ref 66), some (.int v1), some (.int v2), some (.int v3), some (.int r2), none, none]) (st' := [.int r2]) (σ' := s6) (by decide +kernel) rfl rfl ?_
      refine g_if_eq hx (off := 10) (tgt := 47) (by decide +kernel) (by decide) (fun c37 => ?_) (fun c37 => ?_)
      · have h := ok_t h c37
        refine g_run hx [(.aload_n 0, 0, 0)] (pc' := 48) (lo' := [some (.ref 66), some (.int v1), some (.int v2), some (.int v3), some (.int r2), none, none]) (st' := [.ref 66]) (σ' := s6) (by decide +kernel) rfl rfl ?_
        refine g_callV (rest := []) [] hx hc mk_m_begin ln_10_272 rfl (by decide +kernel) (by decide) (Nat.le_of_ble_eq_true rfl) (s_m_begin (ok_b h)) (fun r7 s7 h => ?_)
        refine g_run hx [(.iload_n 3, 0, 0), (.istore 5, 0, 0), (.iconst 0, 0, 0), (.istore 6, 0, 0)] (pc' := 57) (lo' := [some (.ref 66), some (.int v1), some (.int v2), some (.int v3), some (.int r2), some (.int v3), some (.int 0)]) (st' := []) (σ' := s7) (by decide +kernel) rfl rfl ?_
        refine g_wk (lo' := [some (.ref 66), none, some (.int v2), none, none, some (.int v3), some (.int 0)]) ⟨rfl, ⟨rfl, ⟨rfl, ⟨rfl, trivial⟩⟩⟩⟩ ?_
        refine s_m_drawn_L57 hx hc hr N _ _ _ _ h
      · have h := ok_f h c37
        refine g_run hx [(.aload_n 0, 0, 0), (.iload 4, 0, 0)] (pc' := 43) (lo' := [some (.ref 66), some (.int v1), some (.int v2), some (.int v3), some (.int r2), none, none]) (st' := [.int r2, .ref 66]) (σ' := s6) (by decide +kernel) rfl rfl ?_
        refine g_callV (rest := []) [.int r2] hx hc mk_m_no ln_10_177 rfl (by decide +kernel) (by decide) (Nat.le_of_ble_eq_true rfl) (s_m_no (ok_b h)) (fun r8 s8 h => ?_)
        exact g_iret hx hr rfl _ rfl (by decide +kernel) (ok_some h)
    · have h := ok_f h c29
      refine g_run hx [(.iconst 2, 2, 0), (.istore 4, 0, 0), (.iload 4, 0, 0)] (pc' := 37) (lo' := [some (.ref 66), some (.int v1), some (.int v2), some (.int v3), some (.int 2), none, none]) (st' := [.int 2]) (σ' := s6) (by decide +kernel) rfl rfl ?_
      refine g_if_eq hx (off := 10) (tgt := 47) (by decide +kernel) (by decide) (fun c => absurd c (by decide)) (fun _ => ?_)
      refine g_run hx [(.aload_n 0, 0, 0), (.iload 4, 0, 0)] (pc' := 43) (lo' := [some (.ref 66), some (.int v1), some (.int v2), some (.int v3), some (.int 2), none, none]) (st' := [.int 2, .ref 66]) (σ' := s6) (by decide +kernel) rfl rfl ?_
      refine g_callV (rest := []) [.int 2] hx hc mk_m_no ln_10_177 rfl (by decide +kernel) (by decide) (Nat.le_of_ble_eq_true rfl) (s_m_no (ok_b h)) (fun r9 s9 h => ?_)
      exact g_iret hx hr rfl _ rfl (by decide +kernel) (ok_some h)
def f_m_fault (N : Nat) (σ : Sg) : Option (Int32 × Sg) :=
  some ((gI (sI σ 66 0 0) 66 9), sI σ 66 0 0)
set_option maxRecDepth 100000 in
theorem s_m_fault {y : EX} {N : Nat} {σ : Sg} {P : Int32 × Sg → Prop} (h : ok (f_m_fault N σ) P) : Ev y M_m_fault 0 [.ref 66] σ rvI P := by
  refine Ev.of mk_m_fault (Nat.le_of_ble_eq_true rfl) (fun x hx hc hr => ?_)
  have hx : Cx 10 prog_12_method_37_code x := hx
  have hc : Cc y 1 0 x := hc
  show G x 0 [some (.ref 66)] [] σ
  unfold f_m_fault at h
  refine g_run hx [(.aload_n 0, 0, 0), (.iconst 0, 0, 0), (.putfield 68, 0, 0), (.aload_n 0, 0, 0), (.getfield 110, 0, 0)] (pc' := 9) (lo' := [some (.ref 66)]) (st' := [.int (gI (sI σ 66 0 0) 66 9)]) (σ' := sI σ 66 0 0) (by decide +kernel) rfl rfl ?_
  exact g_iret hx hr rfl _ rfl (by decide +kernel) (ok_some h)
def f_m_feed_L23 (N : Nat) : Nat → Int32 → Int32 → Int32 → Int32 → Int32 → Int32 → Sg → Option (Int32 × Sg)
  | 0, _, _, _, _, _, _, _ => none
  | n + 1, v1, v2, v3, v4, v5, v6, σ =>
    if 20 ≤ v6 then
      some ((gI σ 66 2), σ)
    else
      if 4 ≤ v6 then
        if 8 ≤ v6 then
          if 12 ≤ v6 then
            if 16 ≤ v6 then
              if vin (gI σ 66 2) 900 then
              f_m_feed_L23 N n v1 v2 v3 v4 v5 (v6 + 1) (sI (sA σ 67 (gI σ 66 2) ((v5 >>> ((24 - (8 * (v6 - v6 / 4 * 4))) &&& 31)) &&& 255)) 66 2 ((gI (sA σ 67 (gI σ 66 2) ((v5 >>> ((24 - (8 * (v6 - v6 / 4 * 4))) &&& 31)) &&& 255)) 66 2) + 1))
              else none
            else
              if vin (gI σ 66 2) 900 then
              f_m_feed_L23 N n v1 v2 v3 v4 v5 (v6 + 1) (sI (sA σ 67 (gI σ 66 2) ((v4 >>> ((24 - (8 * (v6 - v6 / 4 * 4))) &&& 31)) &&& 255)) 66 2 ((gI (sA σ 67 (gI σ 66 2) ((v4 >>> ((24 - (8 * (v6 - v6 / 4 * 4))) &&& 31)) &&& 255)) 66 2) + 1))
              else none
          else
            if vin (gI σ 66 2) 900 then
            f_m_feed_L23 N n v1 v2 v3 v4 v5 (v6 + 1) (sI (sA σ 67 (gI σ 66 2) ((v3 >>> ((24 - (8 * (v6 - v6 / 4 * 4))) &&& 31)) &&& 255)) 66 2 ((gI (sA σ 67 (gI σ 66 2) ((v3 >>> ((24 - (8 * (v6 - v6 / 4 * 4))) &&& 31)) &&& 255)) 66 2) + 1))
            else none
        else
          if vin (gI σ 66 2) 900 then
          f_m_feed_L23 N n v1 v2 v3 v4 v5 (v6 + 1) (sI (sA σ 67 (gI σ 66 2) ((v2 >>> ((24 - (8 * (v6 - v6 / 4 * 4))) &&& 31)) &&& 255)) 66 2 ((gI (sA σ 67 (gI σ 66 2) ((v2 >>> ((24 - (8 * (v6 - v6 / 4 * 4))) &&& 31)) &&& 255)) 66 2) + 1))
          else none
      else
        if vin (gI σ 66 2) 900 then
        f_m_feed_L23 N n v1 v2 v3 v4 v5 (v6 + 1) (sI (sA σ 67 (gI σ 66 2) ((v1 >>> ((24 - (8 * (v6 - v6 / 4 * 4))) &&& 31)) &&& 255)) 66 2 ((gI (sA σ 67 (gI σ 66 2) ((v1 >>> ((24 - (8 * (v6 - v6 / 4 * 4))) &&& 31)) &&& 255)) 66 2) + 1))
        else none
def f_m_feed (N : Nat) (v1 : Int32) (v2 : Int32) (v3 : Int32) (v4 : Int32) (v5 : Int32) (σ : Sg) : Option (Int32 × Sg) :=
  if ((gI (sI σ 66 0 0) 66 2) + 20) ≤ 900 then
    f_m_feed_L23 N N v1 v2 v3 v4 v5 0 (sI σ 66 0 0)
  else
    some ((-1), sI σ 66 0 0)
set_option maxRecDepth 100000 in
theorem s_m_feed_L23 {y : EX} {N : Nat} {x : CX} {P : Int32 × Sg → Prop} (hx : Cx 10 prog_12_method_10_code x) (hc : Cc y 8 0 x) (hr : Cr M_m_feed rvI P x) : ∀ (n : Nat) (v1 : Int32) (v2 : Int32) (v3 : Int32) (v4 : Int32) (v5 : Int32) (v6 : Int32) (σ : Sg), ok (f_m_feed_L23 N n v1 v2 v3 v4 v5 v6 σ) P → G x 23 [some (.ref 66), some (.int v1), some (.int v2), some (.int v3), some (.int v4), some (.int v5), some (.int v6), none] [] σ := by
  intro n
  induction n with
  | zero => intro v1 v2 v3 v4 v5 v6 σ h; exact ok_none h
  | succ n ih =>
    intro v1 v2 v3 v4 v5 v6 σ h
    rw [f_m_feed_L23] at h
    refine g_run hx [(.iload 6, 0, 0), (.bipush 20, 20, 0)] (pc' := 27) (lo' := [some (.ref 66), some (.int v1), some (.int v2), some (.int v3), some (.int v4), some (.int v5), some (.int v6), none]) (st' := [.int 20, .int v6]) (σ' := σ) (by decide +kernel) rfl rfl ?_
    refine g_ic_ge hx (off := 93) (tgt := 120) (by decide +kernel) (by decide) (fun c27 => ?_) (fun c27 => ?_)
    · have h := ok_t h c27
      refine g_run hx [(.aload_n 0, 0, 0), (.getfield 74, 0, 0)] (pc' := 124) (lo' := [some (.ref 66), some (.int v1), some (.int v2), some (.int v3), some (.int v4), some (.int v5), some (.int v6), none]) (st' := [.int (gI σ 66 2)]) (σ' := σ) (by decide +kernel) rfl rfl ?_
      exact g_iret hx hr rfl _ rfl (by decide +kernel) (ok_some h)
    · have h := ok_f h c27
      refine g_run hx [(.iload 6, 0, 0), (.iconst 4, 4, 0)] (pc' := 33) (lo' := [some (.ref 66), some (.int v1), some (.int v2), some (.int v3), some (.int v4), some (.int v5), some (.int v6), none]) (st' := [.int 4, .int v6]) (σ' := σ) (by decide +kernel) rfl rfl ?_
      refine g_ic_ge hx (off := 7) (tgt := 40) (by decide +kernel) (by decide) (fun c33 => ?_) (fun c33 => ?_)
      · have h := ok_t h c33
        refine g_run hx [(.iload 6, 0, 0), (.bipush 8, 8, 0)] (pc' := 44) (lo' := [some (.ref 66), some (.int v1), some (.int v2), some (.int v3), some (.int v4), some (.int v5), some (.int v6), none]) (st' := [.int 8, .int v6]) (σ' := σ) (by decide +kernel) rfl rfl ?_
        refine g_ic_ge hx (off := 7) (tgt := 51) (by decide +kernel) (by decide) (fun c44 => ?_) (fun c44 => ?_)
        · have h := ok_t h c44
          refine g_run hx [(.iload 6, 0, 0), (.bipush 12, 12, 0)] (pc' := 55) (lo' := [some (.ref 66), some (.int v1), some (.int v2), some (.int v3), some (.int v4), some (.int v5), some (.int v6), none]) (st' := [.int 12, .int v6]) (σ' := σ) (by decide +kernel) rfl rfl ?_
          refine g_ic_ge hx (off := 7) (tgt := 62) (by decide +kernel) (by decide) (fun c55 => ?_) (fun c55 => ?_)
          · have h := ok_t h c55
            refine g_run hx [(.iload 6, 0, 0), (.bipush 16, 16, 0)] (pc' := 66) (lo' := [some (.ref 66), some (.int v1), some (.int v2), some (.int v3), some (.int v4), some (.int v5), some (.int v6), none]) (st' := [.int 16, .int v6]) (σ' := σ) (by decide +kernel) rfl rfl ?_
            refine g_ic_ge hx (off := 8) (tgt := 74) (by decide +kernel) (by decide) (fun c66 => ?_) (fun c66 => ?_)
            · have h := ok_t h c66
              refine g_run hx [(.iload 5, 0, 0), (.istore 7, 0, 0), (.aload_n 0, 0, 0), (.getfield 7, 0, 0), (.aload_n 0, 0, 0), (.getfield 74, 0, 0), (.iload 7, 0, 0), (.bipush 24, 24, 0), (.bipush 8, 8, 0), (.iload 6, 0, 0), (.iconst 4, 4, 0), (.irem, 0, 0), (.imul, 0, 0), (.isub, 0, 0), (.ishr, 0, 0), (.sipush 255, 255, 0), (.iand, 0, 0)] (pc' := 103) (lo' := [some (.ref 66), some (.int v1), some (.int v2), some (.int v3), some (.int v4), some (.int v5), some (.int v6), some (.int v5)]) (st' := [.int ((v5 >>> ((24 - (8 * (v6 - v6 / 4 * 4))) &&& 31)) &&& 255), .int (gI σ 66 2), .ref 67]) (σ' := σ) (by decide +kernel) rfl rfl ?_
              obtain ⟨c103, h⟩ := ok_g h
              refine g_iast hx (by decide +kernel) (i := 67) (n := 900) rfl c103 ?_
              refine g_run hx [(.aload_n 0, 0, 0), (.dup, 0, 0), (.getfield 74, 0, 0), (.iconst 1, 1, 0), (.iadd, 0, 0), (.putfield 74, 0, 0), (.iinc 6 1, 1, 0)] (pc' := 117) (lo' := [some (.ref 66), some (.int v1), some (.int v2), some (.int v3), some (.int v4), some (.int v5), some (.int (v6 + 1)), some (.int v5)]) (st' := []) (σ' := sI (sA σ 67 (gI σ 66 2) ((v5 >>> ((24 - (8 * (v6 - v6 / 4 * 4))) &&& 31)) &&& 255)) 66 2 ((gI (sA σ 67 (gI σ 66 2) ((v5 >>> ((24 - (8 * (v6 - v6 / 4 * 4))) &&& 31)) &&& 255)) 66 2) + 1)) (by decide +kernel) rfl rfl ?_
              refine g_goto hx (off := (-94)) (tgt := 23) (by decide +kernel) (by decide) ?_
              refine g_wk (lo' := [some (.ref 66), some (.int v1), some (.int v2), some (.int v3), some (.int v4), some (.int v5), some (.int (v6 + 1)), none]) ⟨rfl, ⟨rfl, ⟨rfl, ⟨rfl, ⟨rfl, ⟨rfl, ⟨rfl, trivial⟩⟩⟩⟩⟩⟩⟩ ?_
              exact ih _ _ _ _ _ _ _ h
            · have h := ok_f h c66
              refine g_run hx [(.iload 4, 0, 0)] (pc' := 71) (lo' := [some (.ref 66), some (.int v1), some (.int v2), some (.int v3), some (.int v4), some (.int v5), some (.int v6), none]) (st' := [.int v4]) (σ' := σ) (by decide +kernel) rfl rfl ?_
              refine g_goto hx (off := 5) (tgt := 76) (by decide +kernel) (by decide) ?_
              refine g_run hx [(.istore 7, 0, 0), (.aload_n 0, 0, 0), (.getfield 7, 0, 0), (.aload_n 0, 0, 0), (.getfield 74, 0, 0), (.iload 7, 0, 0), (.bipush 24, 24, 0), (.bipush 8, 8, 0), (.iload 6, 0, 0), (.iconst 4, 4, 0), (.irem, 0, 0), (.imul, 0, 0), (.isub, 0, 0), (.ishr, 0, 0), (.sipush 255, 255, 0), (.iand, 0, 0)] (pc' := 103) (lo' := [some (.ref 66), some (.int v1), some (.int v2), some (.int v3), some (.int v4), some (.int v5), some (.int v6), some (.int v4)]) (st' := [.int ((v4 >>> ((24 - (8 * (v6 - v6 / 4 * 4))) &&& 31)) &&& 255), .int (gI σ 66 2), .ref 67]) (σ' := σ) (by decide +kernel) rfl rfl ?_
              obtain ⟨c103, h⟩ := ok_g h
              refine g_iast hx (by decide +kernel) (i := 67) (n := 900) rfl c103 ?_
              refine g_run hx [(.aload_n 0, 0, 0), (.dup, 0, 0), (.getfield 74, 0, 0), (.iconst 1, 1, 0), (.iadd, 0, 0), (.putfield 74, 0, 0), (.iinc 6 1, 1, 0)] (pc' := 117) (lo' := [some (.ref 66), some (.int v1), some (.int v2), some (.int v3), some (.int v4), some (.int v5), some (.int (v6 + 1)), some (.int v4)]) (st' := []) (σ' := sI (sA σ 67 (gI σ 66 2) ((v4 >>> ((24 - (8 * (v6 - v6 / 4 * 4))) &&& 31)) &&& 255)) 66 2 ((gI (sA σ 67 (gI σ 66 2) ((v4 >>> ((24 - (8 * (v6 - v6 / 4 * 4))) &&& 31)) &&& 255)) 66 2) + 1)) (by decide +kernel) rfl rfl ?_
              refine g_goto hx (off := (-94)) (tgt := 23) (by decide +kernel) (by decide) ?_
              refine g_wk (lo' := [some (.ref 66), some (.int v1), some (.int v2), some (.int v3), some (.int v4), some (.int v5), some (.int (v6 + 1)), none]) ⟨rfl, ⟨rfl, ⟨rfl, ⟨rfl, ⟨rfl, ⟨rfl, ⟨rfl, trivial⟩⟩⟩⟩⟩⟩⟩ ?_
              exact ih _ _ _ _ _ _ _ h
          · have h := ok_f h c55
            refine g_run hx [(.iload_n 3, 0, 0)] (pc' := 59) (lo' := [some (.ref 66), some (.int v1), some (.int v2), some (.int v3), some (.int v4), some (.int v5), some (.int v6), none]) (st' := [.int v3]) (σ' := σ) (by decide +kernel) rfl rfl ?_
            refine g_goto hx (off := 17) (tgt := 76) (by decide +kernel) (by decide) ?_
            refine g_run hx [(.istore 7, 0, 0), (.aload_n 0, 0, 0), (.getfield 7, 0, 0), (.aload_n 0, 0, 0), (.getfield 74, 0, 0), (.iload 7, 0, 0), (.bipush 24, 24, 0), (.bipush 8, 8, 0), (.iload 6, 0, 0), (.iconst 4, 4, 0), (.irem, 0, 0), (.imul, 0, 0), (.isub, 0, 0), (.ishr, 0, 0), (.sipush 255, 255, 0), (.iand, 0, 0)] (pc' := 103) (lo' := [some (.ref 66), some (.int v1), some (.int v2), some (.int v3), some (.int v4), some (.int v5), some (.int v6), some (.int v3)]) (st' := [.int ((v3 >>> ((24 - (8 * (v6 - v6 / 4 * 4))) &&& 31)) &&& 255), .int (gI σ 66 2), .ref 67]) (σ' := σ) (by decide +kernel) rfl rfl ?_
            obtain ⟨c103, h⟩ := ok_g h
            refine g_iast hx (by decide +kernel) (i := 67) (n := 900) rfl c103 ?_
            refine g_run hx [(.aload_n 0, 0, 0), (.dup, 0, 0), (.getfield 74, 0, 0), (.iconst 1, 1, 0), (.iadd, 0, 0), (.putfield 74, 0, 0), (.iinc 6 1, 1, 0)] (pc' := 117) (lo' := [some (.ref 66), some (.int v1), some (.int v2), some (.int v3), some (.int v4), some (.int v5), some (.int (v6 + 1)), some (.int v3)]) (st' := []) (σ' := sI (sA σ 67 (gI σ 66 2) ((v3 >>> ((24 - (8 * (v6 - v6 / 4 * 4))) &&& 31)) &&& 255)) 66 2 ((gI (sA σ 67 (gI σ 66 2) ((v3 >>> ((24 - (8 * (v6 - v6 / 4 * 4))) &&& 31)) &&& 255)) 66 2) + 1)) (by decide +kernel) rfl rfl ?_
            refine g_goto hx (off := (-94)) (tgt := 23) (by decide +kernel) (by decide) ?_
            refine g_wk (lo' := [some (.ref 66), some (.int v1), some (.int v2), some (.int v3), some (.int v4), some (.int v5), some (.int (v6 + 1)), none]) ⟨rfl, ⟨rfl, ⟨rfl, ⟨rfl, ⟨rfl, ⟨rfl, ⟨rfl, trivial⟩⟩⟩⟩⟩⟩⟩ ?_
            exact ih _ _ _ _ _ _ _ h
        · have h := ok_f h c44
          refine g_run hx [(.iload_n 2, 0, 0)] (pc' := 48) (lo' := [some (.ref 66), some (.int v1), some (.int v2), some (.int v3), some (.int v4), some (.int v5), some (.int v6), none]) (st' := [.int v2]) (σ' := σ) (by decide +kernel) rfl rfl ?_
          refine g_goto hx (off := 28) (tgt := 76) (by decide +kernel) (by decide) ?_
          refine g_run hx [(.istore 7, 0, 0), (.aload_n 0, 0, 0), (.getfield 7, 0, 0), (.aload_n 0, 0, 0), (.getfield 74, 0, 0), (.iload 7, 0, 0), (.bipush 24, 24, 0), (.bipush 8, 8, 0), (.iload 6, 0, 0), (.iconst 4, 4, 0), (.irem, 0, 0), (.imul, 0, 0), (.isub, 0, 0), (.ishr, 0, 0), (.sipush 255, 255, 0), (.iand, 0, 0)] (pc' := 103) (lo' := [some (.ref 66), some (.int v1), some (.int v2), some (.int v3), some (.int v4), some (.int v5), some (.int v6), some (.int v2)]) (st' := [.int ((v2 >>> ((24 - (8 * (v6 - v6 / 4 * 4))) &&& 31)) &&& 255), .int (gI σ 66 2), .ref 67]) (σ' := σ) (by decide +kernel) rfl rfl ?_
          obtain ⟨c103, h⟩ := ok_g h
          refine g_iast hx (by decide +kernel) (i := 67) (n := 900) rfl c103 ?_
          refine g_run hx [(.aload_n 0, 0, 0), (.dup, 0, 0), (.getfield 74, 0, 0), (.iconst 1, 1, 0), (.iadd, 0, 0), (.putfield 74, 0, 0), (.iinc 6 1, 1, 0)] (pc' := 117) (lo' := [some (.ref 66), some (.int v1), some (.int v2), some (.int v3), some (.int v4), some (.int v5), some (.int (v6 + 1)), some (.int v2)]) (st' := []) (σ' := sI (sA σ 67 (gI σ 66 2) ((v2 >>> ((24 - (8 * (v6 - v6 / 4 * 4))) &&& 31)) &&& 255)) 66 2 ((gI (sA σ 67 (gI σ 66 2) ((v2 >>> ((24 - (8 * (v6 - v6 / 4 * 4))) &&& 31)) &&& 255)) 66 2) + 1)) (by decide +kernel) rfl rfl ?_
          refine g_goto hx (off := (-94)) (tgt := 23) (by decide +kernel) (by decide) ?_
          refine g_wk (lo' := [some (.ref 66), some (.int v1), some (.int v2), some (.int v3), some (.int v4), some (.int v5), some (.int (v6 + 1)), none]) ⟨rfl, ⟨rfl, ⟨rfl, ⟨rfl, ⟨rfl, ⟨rfl, ⟨rfl, trivial⟩⟩⟩⟩⟩⟩⟩ ?_
          exact ih _ _ _ _ _ _ _ h
      · have h := ok_f h c33
        refine g_run hx [(.iload_n 1, 0, 0)] (pc' := 37) (lo' := [some (.ref 66), some (.int v1), some (.int v2), some (.int v3), some (.int v4), some (.int v5), some (.int v6), none]) (st' := [.int v1]) (σ' := σ) (by decide +kernel) rfl rfl ?_
        refine g_goto hx (off := 39) (tgt := 76) (by decide +kernel) (by decide) ?_
        refine g_run hx [(.istore 7, 0, 0), (.aload_n 0, 0, 0), (.getfield 7, 0, 0), (.aload_n 0, 0, 0), (.getfield 74, 0, 0), (.iload 7, 0, 0), (.bipush 24, 24, 0), (.bipush 8, 8, 0), (.iload 6, 0, 0), (.iconst 4, 4, 0), (.irem, 0, 0), (.imul, 0, 0), (.isub, 0, 0), (.ishr, 0, 0), (.sipush 255, 255, 0), (.iand, 0, 0)] (pc' := 103) (lo' := [some (.ref 66), some (.int v1), some (.int v2), some (.int v3), some (.int v4), some (.int v5), some (.int v6), some (.int v1)]) (st' := [.int ((v1 >>> ((24 - (8 * (v6 - v6 / 4 * 4))) &&& 31)) &&& 255), .int (gI σ 66 2), .ref 67]) (σ' := σ) (by decide +kernel) rfl rfl ?_
        obtain ⟨c103, h⟩ := ok_g h
        refine g_iast hx (by decide +kernel) (i := 67) (n := 900) rfl c103 ?_
        refine g_run hx [(.aload_n 0, 0, 0), (.dup, 0, 0), (.getfield 74, 0, 0), (.iconst 1, 1, 0), (.iadd, 0, 0), (.putfield 74, 0, 0), (.iinc 6 1, 1, 0)] (pc' := 117) (lo' := [some (.ref 66), some (.int v1), some (.int v2), some (.int v3), some (.int v4), some (.int v5), some (.int (v6 + 1)), some (.int v1)]) (st' := []) (σ' := sI (sA σ 67 (gI σ 66 2) ((v1 >>> ((24 - (8 * (v6 - v6 / 4 * 4))) &&& 31)) &&& 255)) 66 2 ((gI (sA σ 67 (gI σ 66 2) ((v1 >>> ((24 - (8 * (v6 - v6 / 4 * 4))) &&& 31)) &&& 255)) 66 2) + 1)) (by decide +kernel) rfl rfl ?_
        refine g_goto hx (off := (-94)) (tgt := 23) (by decide +kernel) (by decide) ?_
        refine g_wk (lo' := [some (.ref 66), some (.int v1), some (.int v2), some (.int v3), some (.int v4), some (.int v5), some (.int (v6 + 1)), none]) ⟨rfl, ⟨rfl, ⟨rfl, ⟨rfl, ⟨rfl, ⟨rfl, ⟨rfl, trivial⟩⟩⟩⟩⟩⟩⟩ ?_
        exact ih _ _ _ _ _ _ _ h
set_option maxRecDepth 100000 in
theorem s_m_feed {y : EX} {N : Nat} {v1 : Int32} {v2 : Int32} {v3 : Int32} {v4 : Int32} {v5 : Int32} {σ : Sg} {P : Int32 × Sg → Prop} (h : ok (f_m_feed N v1 v2 v3 v4 v5 σ) P) : Ev y M_m_feed 0 [.ref 66, .int v1, .int v2, .int v3, .int v4, .int v5] σ rvI P := by
  refine Ev.of mk_m_feed (Nat.le_of_ble_eq_true rfl) (fun x hx hc hr => ?_)
  have hx : Cx 10 prog_12_method_10_code x := hx
  have hc : Cc y 8 0 x := hc
  show G x 0 [some (.ref 66), some (.int v1), some (.int v2), some (.int v3), some (.int v4), some (.int v5), none, none] [] σ
  unfold f_m_feed at h
  refine g_run hx [(.aload_n 0, 0, 0), (.iconst 0, 0, 0), (.putfield 68, 0, 0), (.aload_n 0, 0, 0), (.getfield 74, 0, 0), (.bipush 20, 20, 0), (.iadd, 0, 0), (.sipush 900, 900, 0)] (pc' := 15) (lo' := [some (.ref 66), some (.int v1), some (.int v2), some (.int v3), some (.int v4), some (.int v5), none, none]) (st' := [.int 900, .int ((gI (sI σ 66 0 0) 66 2) + 20)]) (σ' := sI σ 66 0 0) (by decide +kernel) rfl rfl ?_
  refine g_ic_le hx (off := 5) (tgt := 20) (by decide +kernel) (by decide) (fun c15 => ?_) (fun c15 => ?_)
  · have h := ok_t h c15
    refine g_run hx [(.iconst 0, 0, 0), (.istore 6, 0, 0)] (pc' := 23) (lo' := [some (.ref 66), some (.int v1), some (.int v2), some (.int v3), some (.int v4), some (.int v5), some (.int 0), none]) (st' := []) (σ' := sI σ 66 0 0) (by decide +kernel) rfl rfl ?_
    refine s_m_feed_L23 hx hc hr N _ _ _ _ _ _ _ h
  · have h := ok_f h c15
    refine g_run hx [(.iconst (-1), (-1), 0)] (pc' := 19) (lo' := [some (.ref 66), some (.int v1), some (.int v2), some (.int v3), some (.int v4), some (.int v5), none, none]) (st' := [.int (-1)]) (σ' := sI σ 66 0 0) (by decide +kernel) rfl rfl ?_
    exact g_iret hx hr rfl _ rfl (by decide +kernel) (ok_some h)
