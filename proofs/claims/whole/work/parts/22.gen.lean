set_option maxRecDepth 100000 in
theorem s_m_copy_74_76_L3 {y : EX} {N : Nat} {x : CX} {P : Unit × Sg → Prop} (hx : Cx 10 prog_12_method_8_code x) (hc : Cc y 6 0 x) (hr : Cr M_m_copy rvN P x) : ∀ (n : Nat) (v1 : Int32) (v3 : Int32) (v4 : Int32) (v5 : Int32) (σ : Sg), ok (f_m_copy_L3 N 63 1008 76 74 n v1 v3 v4 v5 σ) P → G x 3 [some (.ref 74), some (.int v1), some (.ref 76), some (.int v3), some (.int v4), some (.int v5)] [] σ := by
  intro n
  induction n with
  | zero => intro v1 v3 v4 v5 σ h; exact ok_none h
  | succ n ih =>
    intro v1 v3 v4 v5 σ h
    rw [f_m_copy_L3] at h
    refine g_run hx [(.iload 5, 0, 0), (.iload 4, 0, 0)] (pc' := 7) (lo' := [some (.ref 74), some (.int v1), some (.ref 76), some (.int v3), some (.int v4), some (.int v5)]) (st' := [.int v4, .int v5]) (σ' := σ) (by decide +kernel) rfl rfl ?_
    refine g_ic_ge hx (off := 21) (tgt := 28) (by decide +kernel) (by decide) (fun c7 => ?_) (fun c7 => ?_)
    · have h := ok_t h c7
      exact g_vret hx hr rfl () rfl (by decide +kernel) (ok_some h)
    · have h := ok_f h c7
      refine g_run hx [(.aload_n 2, 0, 0), (.iload_n 3, 0, 0), (.iload 5, 0, 0), (.iadd, 0, 0), (.aload_n 0, 0, 0), (.iload_n 1, 0, 0), (.iload 5, 0, 0), (.iadd, 0, 0)] (pc' := 20) (lo' := [some (.ref 74), some (.int v1), some (.ref 76), some (.int v3), some (.int v4), some (.int v5)]) (st' := [.int (v1 + v5), .ref 74, .int (v3 + v5), .ref 76]) (σ' := σ) (by decide +kernel) rfl rfl ?_
      obtain ⟨c20, h⟩ := ok_g h
      refine g_iald hx (by decide +kernel) (i := 74) (n := 63) rfl c20 ?_
      obtain ⟨c21, h⟩ := ok_g h
      refine g_iast hx (by decide +kernel) (i := 76) (n := 1008) rfl c21 ?_
      refine g_run hx [(.iinc 5 1, 1, 0)] (pc' := 25) (lo' := [some (.ref 74), some (.int v1), some (.ref 76), some (.int v3), some (.int v4), some (.int (v5 + 1))]) (st' := []) (σ' := sA σ 76 (v3 + v5) (gA σ 74 (v1 + v5))) (by decide +kernel) rfl rfl ?_
      refine g_goto hx (off := (-22)) (tgt := 3) (by decide +kernel) (by decide) ?_
      exact ih _ _ _ _ _ h
set_option maxRecDepth 100000 in
theorem s_m_copy_74_76 {y : EX} {N : Nat} {v1 : Int32} {v3 : Int32} {v4 : Int32} {σ : Sg} {P : Unit × Sg → Prop} (h : ok (f_m_copy N 63 1008 76 74 v1 v3 v4 σ) P) : Ev y M_m_copy 0 [.ref 74, .int v1, .ref 76, .int v3, .int v4] σ rvN P := by
  refine Ev.of mk_m_copy (Nat.le_of_ble_eq_true rfl) (fun x hx hc hr => ?_)
  have hx : Cx 10 prog_12_method_8_code x := hx
  have hc : Cc y 6 0 x := hc
  show G x 0 [some (.ref 74), some (.int v1), some (.ref 76), some (.int v3), some (.int v4), none] [] σ
  unfold f_m_copy at h
  refine g_run hx [(.iconst 0, 0, 0), (.istore 5, 0, 0)] (pc' := 3) (lo' := [some (.ref 74), some (.int v1), some (.ref 76), some (.int v3), some (.int v4), some (.int 0)]) (st' := []) (σ' := σ) (by decide +kernel) rfl rfl ?_
  refine s_m_copy_74_76_L3 hx hc hr N _ _ _ _ _ h
def f_m_note_L11 (N : Nat) : Nat → Int32 → Sg → (Sg → Option (Unit × Sg)) → Option (Unit × Sg)
  | 0, _, _, _ => none
  | n + 1, v1, σ, k39 =>
    if 945 ≤ v1 then
      k39 σ
    else
      if vin (v1 + 63) 1008 then
      if vin v1 1008 then
      f_m_note_L11 N n (v1 + 1) (sA σ 76 v1 (gA σ 76 (v1 + 63))) k39
      else none
      else none
def f_m_note (N : Nat) (σ : Sg) : Option (Unit × Sg) :=
  if (gI σ 66 24) = 16 then
    f_m_note_L11 N N 0 σ
      (fun (t2 : Sg) =>
        (f_m_copy N 63 1008 76 74 0 (63 * (gI (sI t2 66 24 ((gI t2 66 24) - 1)) 66 24)) 63 (sI t2 66 24 ((gI t2 66 24) - 1))).bind fun q3 =>
        some ((), sI q3.2 66 24 ((gI q3.2 66 24) + 1)))
  else
    (f_m_copy N 63 1008 76 74 0 (63 * (gI σ 66 24)) 63 σ).bind fun q1 =>
    some ((), sI q1.2 66 24 ((gI q1.2 66 24) + 1))
set_option maxRecDepth 100000 in
theorem s_m_note_L11 {y : EX} {N : Nat} {x : CX} {P : Unit × Sg → Prop} (hx : Cx 10 prog_12_method_120_code x) (hc : Cc y 2 1 x) (hr : Cr M_m_note rvN P x) : ∀ (n : Nat) (v1 : Int32) (σ : Sg) (k39 : Sg → Option (Unit × Sg)) (hk39 : ∀ (t : Sg), ok (k39 t) P → G x 39 [some (.ref 66), none] [] t), ok (f_m_note_L11 N n v1 σ k39) P → G x 11 [some (.ref 66), some (.int v1)] [] σ := by
  intro n
  induction n with
  | zero => intro v1 σ k39 hk39 h; exact ok_none h
  | succ n ih =>
    intro v1 σ k39 hk39 h
    rw [f_m_note_L11] at h
    refine g_run hx [(.iload_n 1, 0, 0), (.sipush 945, 945, 0)] (pc' := 15) (lo' := [some (.ref 66), some (.int v1)]) (st' := [.int 945, .int v1]) (σ' := σ) (by decide +kernel) rfl rfl ?_
    refine g_ic_ge hx (off := 24) (tgt := 39) (by decide +kernel) (by decide) (fun c15 => ?_) (fun c15 => ?_)
    · have h := ok_t h c15
      refine g_wk (lo' := [some (.ref 66), none]) ⟨rfl, trivial⟩ ?_
      exact hk39 _ h
    · have h := ok_f h c15
      refine g_run hx [(.aload_n 0, 0, 0), (.getfield 41, 0, 0), (.iload_n 1, 0, 0), (.aload_n 0, 0, 0), (.getfield 41, 0, 0), (.iload_n 1, 0, 0), (.bipush 63, 63, 0), (.iadd, 0, 0)] (pc' := 31) (lo' := [some (.ref 66), some (.int v1)]) (st' := [.int (v1 + 63), .ref 76, .int v1, .ref 76]) (σ' := σ) (by decide +kernel) rfl rfl ?_
      obtain ⟨c31, h⟩ := ok_g h
      refine g_iald hx (by decide +kernel) (i := 76) (n := 1008) rfl c31 ?_
      obtain ⟨c32, h⟩ := ok_g h
      refine g_iast hx (by decide +kernel) (i := 76) (n := 1008) rfl c32 ?_
      refine g_run hx [(.iinc 1 1, 1, 0)] (pc' := 36) (lo' := [some (.ref 66), some (.int (v1 + 1))]) (st' := []) (σ' := sA σ 76 v1 (gA σ 76 (v1 + 63))) (by decide +kernel) rfl rfl ?_
      refine g_goto hx (off := (-25)) (tgt := 11) (by decide +kernel) (by decide) ?_
      exact ih _ _ _ hk39 h
set_option maxRecDepth 100000 in
theorem s_m_note {y : EX} {N : Nat} {σ : Sg} {P : Unit × Sg → Prop} (h : ok (f_m_note N σ) P) : Ev y M_m_note 1 [.ref 66] σ rvN P := by
  refine Ev.of mk_m_note (Nat.le_of_ble_eq_true rfl) (fun x hx hc hr => ?_)
  have hx : Cx 10 prog_12_method_120_code x := hx
  have hc : Cc y 2 1 x := hc
  show G x 0 [some (.ref 66), none] [] σ
  unfold f_m_note at h
  refine g_run hx [(.aload_n 0, 0, 0), (.getfield 190, 0, 0), (.bipush 16, 16, 0)] (pc' := 6) (lo' := [some (.ref 66), none]) (st' := [.int 16, .int (gI σ 66 24)]) (σ' := σ) (by decide +kernel) rfl rfl ?_
  refine g_ic_ne hx (off := 43) (tgt := 49) (by decide +kernel) (by decide) (fun c6 => ?_) (fun c6 => ?_)
  · have h := ok_f h c6
    refine g_run hx [(.aload_n 0, 0, 0), (.getfield 35, 0, 0), (.iconst 0, 0, 0), (.aload_n 0, 0, 0), (.getfield 41, 0, 0), (.bipush 63, 63, 0), (.aload_n 0, 0, 0), (.getfield 190, 0, 0), (.imul, 0, 0), (.bipush 63, 63, 0)] (pc' := 67) (lo' := [some (.ref 66), none]) (st' := [.int 63, .int (63 * (gI σ 66 24)), .ref 76, .int 0, .ref 74]) (σ' := σ) (by decide +kernel) rfl rfl ?_
    refine g_callS (rest := []) [.ref 74, .int 0, .ref 76, .int (63 * (gI σ 66 24)), .int 63] hx hc mk_m_copy ln_10_183 (by decide +kernel) (by decide) (Nat.le_of_ble_eq_true rfl) (s_m_copy_74_76 (ok_b h)) (fun r1 s1 h => ?_)
    refine g_run hx [(.aload_n 0, 0, 0), (.dup, 0, 0), (.getfield 190, 0, 0), (.iconst 1, 1, 0), (.iadd, 0, 0), (.putfield 190, 0, 0)] (pc' := 80) (lo' := [some (.ref 66), none]) (st' := []) (σ' := sI s1 66 24 ((gI s1 66 24) + 1)) (by decide +kernel) rfl rfl ?_
    exact g_vret hx hr rfl () rfl (by decide +kernel) (ok_some h)
  · have h := ok_t h c6
    refine g_run hx [(.iconst 0, 0, 0), (.istore_n 1, 0, 0)] (pc' := 11) (lo' := [some (.ref 66), some (.int 0)]) (st' := []) (σ' := σ) (by decide +kernel) rfl rfl ?_
    refine s_m_note_L11 hx hc hr N _ _ _ (fun t2 h => ?_) h
    refine g_run hx [(.aload_n 0, 0, 0), (.dup, 0, 0), (.getfield 190, 0, 0), (.iconst 1, 1, 0), (.isub, 0, 0), (.putfield 190, 0, 0), (.aload_n 0, 0, 0), (.getfield 35, 0, 0), (.iconst 0, 0, 0), (.aload_n 0, 0, 0), (.getfield 41, 0, 0), (.bipush 63, 63, 0), (.aload_n 0, 0, 0), (.getfield 190, 0, 0), (.imul, 0, 0), (.bipush 63, 63, 0)] (pc' := 67) (lo' := [some (.ref 66), none]) (st' := [.int 63, .int (63 * (gI (sI t2 66 24 ((gI t2 66 24) - 1)) 66 24)), .ref 76, .int 0, .ref 74]) (σ' := sI t2 66 24 ((gI t2 66 24) - 1)) (by decide +kernel) rfl rfl ?_
    refine g_callS (rest := []) [.ref 74, .int 0, .ref 76, .int (63 * (gI (sI t2 66 24 ((gI t2 66 24) - 1)) 66 24)), .int 63] hx hc mk_m_copy ln_10_183 (by decide +kernel) (by decide) (Nat.le_of_ble_eq_true rfl) (s_m_copy_74_76 (ok_b h)) (fun r3 s3 h => ?_)
    refine g_run hx [(.aload_n 0, 0, 0), (.dup, 0, 0), (.getfield 190, 0, 0), (.iconst 1, 1, 0), (.iadd, 0, 0), (.putfield 190, 0, 0)] (pc' := 80) (lo' := [some (.ref 66), none]) (st' := []) (σ' := sI s3 66 24 ((gI s3 66 24) + 1)) (by decide +kernel) rfl rfl ?_
    exact g_vret hx hr rfl () rfl (by decide +kernel) (ok_some h)
def f_m_fill (N : Nat) (v1 : Int32) (σ : Sg) : Option (Int32 × Sg) :=
  (f_m_anew N σ).bind fun q1 =>
  (f_m_isCell N v1 q1.2).bind fun q2 =>
  if q2.1 = true then
    if vin v1 63 then
    if (gA q2.2 74 v1) = 0 then
      (f_m_no N 5 q2.2).bind fun q4 =>
      some (q4.1, q4.2)
    else
      (f_m_note N q2.2).bind fun q3 =>
      if vin v1 63 then
      if vin v1 63 then
      some ((gA q3.2 74 v1), sA q3.2 74 v1 0)
      else none
      else none
    else none
  else
    (f_m_no N 1 q2.2).bind fun q5 =>
    some (q5.1, q5.2)
set_option maxRecDepth 100000 in
theorem s_m_fill {y : EX} {N : Nat} {v1 : Int32} {σ : Sg} {P : Int32 × Sg → Prop} (h : ok (f_m_fill N v1 σ) P) : Ev y M_m_fill 2 [.ref 66, .int v1] σ rvI P := by
  refine Ev.of mk_m_fill (Nat.le_of_ble_eq_true rfl) (fun x hx hc hr => ?_)
  have hx : Cx 10 prog_12_method_124_code x := hx
  have hc : Cc y 3 2 x := hc
  show G x 0 [some (.ref 66), some (.int v1), none] [] σ
  unfold f_m_fill at h
  refine g_run hx [(.aload_n 0, 0, 0)] (pc' := 1) (lo' := [some (.ref 66), some (.int v1), none]) (st' := [.ref 66]) (σ' := σ) (by decide +kernel) rfl rfl ?_
  refine g_callV (rest := []) [] hx hc mk_m_anew ln_10_174 rfl (by decide +kernel) (by decide) (Nat.le_of_ble_eq_true rfl) (s_m_anew (ok_b h)) (fun r1 s1 h => ?_)
  refine g_run hx [(.aload_n 0, 0, 0), (.iload_n 1, 0, 0)] (pc' := 6) (lo' := [some (.ref 66), some (.int v1), none]) (st' := [.int v1, .ref 66]) (σ' := s1) (by decide +kernel) rfl rfl ?_
  refine g_callV (rest := []) [.int v1] hx hc mk_m_isCell ln_10_279 rfl (by decide +kernel) (by decide) (Nat.le_of_ble_eq_true rfl) (s_m_isCell (ok_b h)) (fun r2 s2 h => ?_)
  refine g_ifb_ne hx (off := 9) (tgt := 18) (by decide +kernel) (by decide) (fun c9 => ?_) (fun c9 => ?_)
  · have h := ok_t h c9
    refine g_run hx [(.aload_n 0, 0, 0), (.getfield 35, 0, 0), (.iload_n 1, 0, 0)] (pc' := 23) (lo' := [some (.ref 66), some (.int v1), none]) (st' := [.int v1, .ref 74]) (σ' := s2) (by decide +kernel) rfl rfl ?_
    obtain ⟨c23, h⟩ := ok_g h
    refine g_iald hx (by decide +kernel) (i := 74) (n := 63) rfl c23 ?_
    refine g_if_ne hx (off := 9) (tgt := 33) (by decide +kernel) (by decide) (fun c24 => ?_) (fun c24 => ?_)
    · have h := ok_f h c24
      refine g_run hx [(.aload_n 0, 0, 0)] (pc' := 34) (lo' := [some (.ref 66), some (.int v1), none]) (st' := [.ref 66]) (σ' := s2) (by decide +kernel) rfl rfl ?_
      refine g_callV (rest := []) [] hx hc mk_m_note ln_10_437 rfl (by decide +kernel) (by decide) (Nat.le_of_ble_eq_true rfl) (s_m_note (ok_b h)) (fun r3 s3 h => ?_)
      refine g_run hx [(.aload_n 0, 0, 0), (.getfield 35, 0, 0), (.iload_n 1, 0, 0)] (pc' := 42) (lo' := [some (.ref 66), some (.int v1), none]) (st' := [.int v1, .ref 74]) (σ' := s3) (by decide +kernel) rfl rfl ?_
      obtain ⟨c42, h⟩ := ok_g h
      refine g_iald hx (by decide +kernel) (i := 74) (n := 63) rfl c42 ?_
      refine g_run hx [(.istore_n 2, 0, 0), (.aload_n 0, 0, 0), (.getfield 35, 0, 0), (.iload_n 1, 0, 0), (.iconst 0, 0, 0)] (pc' := 50) (lo' := [some (.ref 66), some (.int v1), some (.int (gA s3 74 v1))]) (st' := [.int 0, .int v1, .ref 74]) (σ' := s3) (by decide +kernel) rfl rfl ?_
      obtain ⟨c50, h⟩ := ok_g h
      refine g_iast hx (by decide +kernel) (i := 74) (n := 63) rfl c50 ?_
      refine g_run hx [(.iload_n 2, 0, 0)] (pc' := 52) (lo' := [some (.ref 66), some (.int v1), some (.int (gA s3 74 v1))]) (st' := [.int (gA s3 74 v1)]) (σ' := sA s3 74 v1 0) (by decide +kernel) rfl rfl ?_
      exact g_iret hx hr rfl _ rfl (by decide +kernel) (ok_some h)
    · have h := ok_t h c24
      refine g_run hx [(.aload_n 0, 0, 0), (.iconst 5, 5, 0)] (pc' := 29) (lo' := [some (.ref 66), some (.int v1), none]) (st' := [.int 5, .ref 66]) (σ' := s2) (by decide +kernel) rfl rfl ?_
      refine g_callV (rest := []) [.int 5] hx hc mk_m_no ln_10_177 rfl (by decide +kernel) (by decide) (Nat.le_of_ble_eq_true rfl) (s_m_no (ok_b h)) (fun r4 s4 h => ?_)
      exact g_iret hx hr rfl _ rfl (by decide +kernel) (ok_some h)
  · have h := ok_f h c9
    refine g_run hx [(.aload_n 0, 0, 0), (.iconst 1, 1, 0)] (pc' := 14) (lo' := [some (.ref 66), some (.int v1), none]) (st' := [.int 1, .ref 66]) (σ' := s2) (by decide +kernel) rfl rfl ?_
    refine g_callV (rest := []) [.int 1] hx hc mk_m_no ln_10_177 rfl (by decide +kernel) (by decide) (Nat.le_of_ble_eq_true rfl) (s_m_no (ok_b h)) (fun r5 s5 h => ?_)
    exact g_iret hx hr rfl _ rfl (by decide +kernel) (ok_some h)
def f_m_fitAt (N : Nat) (v1 : Int32) (σ : Sg) : Option (Int32 × Sg) :=
  (f_m_anew N σ).bind fun q1 =>
  if (gI q1.2 66 14) = 0 then
    (f_m_no N 1 q1.2).bind fun q2 =>
    some (q2.1, q2.2)
  else
    if 0 ≤ v1 then
      (f_m_seekSets N v1 q1.2).bind fun q3 =>
      if 0 ≤ q3.1 then
        some (q3.1, q3.2)
      else
        (f_m_no N 1 q3.2).bind fun q4 =>
        some (q4.1, q4.2)
    else
      (f_m_no N 1 q1.2).bind fun q5 =>
      some (q5.1, q5.2)
set_option maxRecDepth 100000 in
theorem s_m_fitAt {y : EX} {N : Nat} {v1 : Int32} {σ : Sg} {P : Int32 × Sg → Prop} (h : ok (f_m_fitAt N v1 σ) P) : Ev y M_m_fitAt 5 [.ref 66, .int v1] σ rvI P := by
  refine Ev.of mk_m_fitAt (Nat.le_of_ble_eq_true rfl) (fun x hx hc hr => ?_)
  have hx : Cx 10 prog_12_method_103_code x := hx
  have hc : Cc y 3 5 x := hc
  show G x 0 [some (.ref 66), some (.int v1), none] [] σ
  unfold f_m_fitAt at h
  refine g_run hx [(.aload_n 0, 0, 0)] (pc' := 1) (lo' := [some (.ref 66), some (.int v1), none]) (st' := [.ref 66]) (σ' := σ) (by decide +kernel) rfl rfl ?_
  refine g_callV (rest := []) [] hx hc mk_m_anew ln_10_174 rfl (by decide +kernel) (by decide) (Nat.le_of_ble_eq_true rfl) (s_m_anew (ok_b h)) (fun r1 s1 h => ?_)
  refine g_run hx [(.aload_n 0, 0, 0), (.getfield 187, 0, 0)] (pc' := 8) (lo' := [some (.ref 66), some (.int v1), none]) (st' := [.int (gI s1 66 14)]) (σ' := s1) (by decide +kernel) rfl rfl ?_
  refine g_if_eq hx (off := 7) (tgt := 15) (by decide +kernel) (by decide) (fun c8 => ?_) (fun c8 => ?_)
  · have h := ok_t h c8
    refine g_run hx [(.aload_n 0, 0, 0), (.iconst 1, 1, 0)] (pc' := 17) (lo' := [some (.ref 66), some (.int v1), none]) (st' := [.int 1, .ref 66]) (σ' := s1) (by decide +kernel) rfl rfl ?_
    refine g_callV (rest := []) [.int 1] hx hc mk_m_no ln_10_177 rfl (by decide +kernel) (by decide) (Nat.le_of_ble_eq_true rfl) (s_m_no (ok_b h)) (fun r2 s2 h => ?_)
    exact g_iret hx hr rfl _ rfl (by decide +kernel) (ok_some h)
  · have h := ok_f h c8
    refine g_run hx [(.iload_n 1, 0, 0)] (pc' := 12) (lo' := [some (.ref 66), some (.int v1), none]) (st' := [.int v1]) (σ' := s1) (by decide +kernel) rfl rfl ?_
    refine g_if_ge hx (off := 9) (tgt := 21) (by decide +kernel) (by decide) (fun c12 => ?_) (fun c12 => ?_)
    · have h := ok_t h c12
      refine g_run hx [(.aload_n 0, 0, 0), (.iload_n 1, 0, 0)] (pc' := 23) (lo' := [some (.ref 66), some (.int v1), none]) (st' := [.int v1, .ref 66]) (σ' := s1) (by decide +kernel) rfl rfl ?_
      refine g_callV (rest := []) [.int v1] hx hc mk_m_seekSets ln_10_399 rfl (by decide +kernel) (by decide) (Nat.le_of_ble_eq_true rfl) (s_m_seekSets (ok_b h)) (fun r3 s3 h => ?_)
      refine g_run hx [(.istore_n 2, 0, 0), (.iload_n 2, 0, 0)] (pc' := 28) (lo' := [some (.ref 66), some (.int v1), some (.int r3)]) (st' := [.int r3]) (σ' := s3) (by decide +kernel) rfl rfl ?_
      refine g_if_ge hx (off := 11) (tgt := 39) (by decide +kernel) (by decide) (fun c28 => ?_) (fun c28 => ?_)
      · have h := ok_t h c28
        refine g_run hx [(.iload_n 2, 0, 0)] (pc' := 40) (lo' := [some (.ref 66), some (.int v1), some (.int r3)]) (st' := [.int r3]) (σ' := s3) (by decide +kernel) rfl rfl ?_
        exact g_iret hx hr rfl _ rfl (by decide +kernel) (ok_some h)
      · have h := ok_f h c28
        refine g_run hx [(.aload_n 0, 0, 0), (.iconst 1, 1, 0)] (pc' := 33) (lo' := [some (.ref 66), some (.int v1), some (.int r3)]) (st' := [.int 1, .ref 66]) (σ' := s3) (by decide +kernel) rfl rfl ?_
        refine g_callV (rest := []) [.int 1] hx hc mk_m_no ln_10_177 rfl (by decide +kernel) (by decide) (Nat.le_of_ble_eq_true rfl) (s_m_no (ok_b h)) (fun r4 s4 h => ?_)
        refine g_goto hx (off := 4) (tgt := 40) (by decide +kernel) (by decide) ?_
        exact g_iret hx hr rfl _ rfl (by decide +kernel) (ok_some h)
    · have h := ok_f h c12
      refine g_run hx [(.aload_n 0, 0, 0), (.iconst 1, 1, 0)] (pc' := 17) (lo' := [some (.ref 66), some (.int v1), none]) (st' := [.int 1, .ref 66]) (σ' := s1) (by decide +kernel) rfl rfl ?_
      refine g_callV (rest := []) [.int 1] hx hc mk_m_no ln_10_177 rfl (by decide +kernel) (by decide) (Nat.le_of_ble_eq_true rfl) (s_m_no (ok_b h)) (fun r5 s5 h => ?_)
      exact g_iret hx hr rfl _ rfl (by decide +kernel) (ok_some h)
def f_m_fits (N : Nat) (σ : Sg) : Option (Int32 × Sg) :=
  (f_m_anew N σ).bind fun q1 =>
  if (gI q1.2 66 14) = 0 then
    (f_m_no N 1 q1.2).bind fun q3 =>
    some (q3.1, q3.2)
  else
    (f_m_seekSets N (-1) q1.2).bind fun q2 =>
    some ((gI q2.2 66 45), q2.2)
set_option maxRecDepth 100000 in
theorem s_m_fits {y : EX} {N : Nat} {σ : Sg} {P : Int32 × Sg → Prop} (h : ok (f_m_fits N σ) P) : Ev y M_m_fits 5 [.ref 66] σ rvI P := by
  refine Ev.of mk_m_fits (Nat.le_of_ble_eq_true rfl) (fun x hx hc hr => ?_)
  have hx : Cx 10 prog_12_method_102_code x := hx
  have hc : Cc y 1 5 x := hc
  show G x 0 [some (.ref 66)] [] σ
  unfold f_m_fits at h
  refine g_run hx [(.aload_n 0, 0, 0)] (pc' := 1) (lo' := [some (.ref 66)]) (st' := [.ref 66]) (σ' := σ) (by decide +kernel) rfl rfl ?_
  refine g_callV (rest := []) [] hx hc mk_m_anew ln_10_174 rfl (by decide +kernel) (by decide) (Nat.le_of_ble_eq_true rfl) (s_m_anew (ok_b h)) (fun r1 s1 h => ?_)
  refine g_run hx [(.aload_n 0, 0, 0), (.getfield 187, 0, 0)] (pc' := 8) (lo' := [some (.ref 66)]) (st' := [.int (gI s1 66 14)]) (σ' := s1) (by decide +kernel) rfl rfl ?_
  refine g_if_ne hx (off := 9) (tgt := 17) (by decide +kernel) (by decide) (fun c8 => ?_) (fun c8 => ?_)
  · have h := ok_f h c8
    refine g_run hx [(.aload_n 0, 0, 0), (.iconst (-1), (-1), 0)] (pc' := 19) (lo' := [some (.ref 66)]) (st' := [.int (-1), .ref 66]) (σ' := s1) (by decide +kernel) rfl rfl ?_
    refine g_callV (rest := []) [.int (-1)] hx hc mk_m_seekSets ln_10_399 rfl (by decide +kernel) (by decide) (Nat.le_of_ble_eq_true rfl) (s_m_seekSets (ok_b h)) (fun r2 s2 h => ?_)
    refine g_run hx [(.pop, 0, 0), (.aload_n 0, 0, 0), (.getfield 387, 0, 0)] (pc' := 27) (lo' := [some (.ref 66)]) (st' := [.int (gI s2 66 45)]) (σ' := s2) (by decide +kernel) rfl rfl ?_
    exact g_iret hx hr rfl _ rfl (by decide +kernel) (ok_some h)
  · have h := ok_t h c8
    refine g_run hx [(.aload_n 0, 0, 0), (.iconst 1, 1, 0)] (pc' := 13) (lo' := [some (.ref 66)]) (st' := [.int 1, .ref 66]) (σ' := s1) (by decide +kernel) rfl rfl ?_
    refine g_callV (rest := []) [.int 1] hx hc mk_m_no ln_10_177 rfl (by decide +kernel) (by decide) (Nat.le_of_ble_eq_true rfl) (s_m_no (ok_b h)) (fun r3 s3 h => ?_)
    exact g_iret hx hr rfl _ rfl (by decide +kernel) (ok_some h)
def f_m_goesOf (N : Nat) (v0 : Int32) (v1 : Int32) (v2 : Int32) (σ : Sg) : Option (Int32 × Sg) :=
  if v1 = 0 then
    if v2 = 0 then
      some (1, σ)
    else
      some ((-1), σ)
  else
    if v2 = 0 then
      some (3, σ)
    else
      some ((-v0), σ)
set_option maxRecDepth 100000 in
theorem s_m_goesOf {y : EX} {N : Nat} {v0 : Int32} {v1 : Int32} {v2 : Int32} {σ : Sg} {P : Int32 × Sg → Prop} (h : ok (f_m_goesOf N v0 v1 v2 σ) P) : Ev y M_m_goesOf 0 [.int v0, .int v1, .int v2] σ rvI P := by
  refine Ev.of mk_m_goesOf (Nat.le_of_ble_eq_true rfl) (fun x hx hc hr => ?_)
  have hx : Cx 10 prog_12_method_111_code x := hx
  have hc : Cc y 3 0 x := hc
  show G x 0 [some (.int v0), some (.int v1), some (.int v2)] [] σ
  unfold f_m_goesOf at h
  refine g_run hx [(.iload_n 1, 0, 0)] (pc' := 1) (lo' := [some (.int v0), some (.int v1), some (.int v2)]) (st' := [.int v1]) (σ' := σ) (by decide +kernel) rfl rfl ?_
  refine g_if_eq hx (off := 16) (tgt := 17) (by decide +kernel) (by decide) (fun c1 => ?_) (fun c1 => ?_)
  · have h := ok_t h c1
    refine g_run hx [(.iload_n 2, 0, 0)] (pc' := 18) (lo' := [some (.int v0), some (.int v1), some (.int v2)]) (st' := [.int v2]) (σ' := σ) (by decide +kernel) rfl rfl ?_
    refine g_if_eq hx (off := 7) (tgt := 25) (by decide +kernel) (by decide) (fun c18 => ?_) (fun c18 => ?_)
    · have h := ok_t h c18
      refine g_run hx [(.iconst 1, 1, 0)] (pc' := 26) (lo' := [some (.int v0), some (.int v1), some (.int v2)]) (st' := [.int 1]) (σ' := σ) (by decide +kernel) rfl rfl ?_
      exact g_iret hx hr rfl _ rfl (by decide +kernel) (ok_some h)
    · have h := ok_f h c18
      refine g_run hx [(.iconst (-1), (-1), 0)] (pc' := 22) (lo' := [some (.int v0), some (.int v1), some (.int v2)]) (st' := [.int (-1)]) (σ' := σ) (by decide +kernel) rfl rfl ?_
      refine g_goto hx (off := 4) (tgt := 26) (by decide +kernel) (by decide) ?_
      exact g_iret hx hr rfl _ rfl (by decide +kernel) (ok_some h)
  · have h := ok_f h c1
    refine g_run hx [(.iload_n 2, 0, 0)] (pc' := 5) (lo' := [some (.int v0), some (.int v1), some (.int v2)]) (st' := [.int v2]) (σ' := σ) (by decide +kernel) rfl rfl ?_
    refine g_if_eq hx (off := 8) (tgt := 13) (by decide +kernel) (by decide) (fun c5 => ?_) (fun c5 => ?_)
    · have h := ok_t h c5
      refine g_run hx [(.iconst 3, 3, 0)] (pc' := 14) (lo' := [some (.int v0), some (.int v1), some (.int v2)]) (st' := [.int 3]) (σ' := σ) (by decide +kernel) rfl rfl ?_
      refine g_goto hx (off := 12) (tgt := 26) (by decide +kernel) (by decide) ?_
      exact g_iret hx hr rfl _ rfl (by decide +kernel) (ok_some h)
    · have h := ok_f h c5
      refine g_run hx [(.iload_n 0, 0, 0), (.ineg, 0, 0)] (pc' := 10) (lo' := [some (.int v0), some (.int v1), some (.int v2)]) (st' := [.int (-v0)]) (σ' := σ) (by decide +kernel) rfl rfl ?_
      refine g_goto hx (off := 16) (tgt := 26) (by decide +kernel) (by decide) ?_
      exact g_iret hx hr rfl _ rfl (by decide +kernel) (ok_some h)
def f_m_goes (N : Nat) (v1 : Int32) (v2 : Int32) (v3 : Int32) (v4 : Int32) (σ : Sg) : Option (Int32 × Sg) :=
  (f_m_anew N σ).bind fun q1 =>
  (f_m_in N v1 0 9 q1.2).bind fun q2 =>
  (f_m_why N (gI q1.2 66 14) (b2i q2.1) q2.2).bind fun q3 =>
  if q3.1 = 0 then
    if v4 = 0 then
      (f_m_goesOf N v1 v2 v3 q3.2).bind fun q4 =>
      some (q4.1, q4.2)
    else
      (f_m_goesOf N v1 v3 v2 q3.2).bind fun q5 =>
      some (q5.1, q5.2)
  else
    some ((-100), sI q3.2 66 11 q3.1)
set_option maxRecDepth 100000 in
theorem s_m_goes {y : EX} {N : Nat} {v1 : Int32} {v2 : Int32} {v3 : Int32} {v4 : Int32} {σ : Sg} {P : Int32 × Sg → Prop} (h : ok (f_m_goes N v1 v2 v3 v4 σ) P) : Ev y M_m_goes 1 [.ref 66, .int v1, .int v2, .int v3, .int v4] σ rvI P := by
  refine Ev.of mk_m_goes (Nat.le_of_ble_eq_true rfl) (fun x hx hc hr => ?_)
  have hx : Cx 10 prog_12_method_112_code x := hx
  have hc : Cc y 6 1 x := hc
  show G x 0 [some (.ref 66), some (.int v1), some (.int v2), some (.int v3), some (.int v4), none] [] σ
  unfold f_m_goes at h
  refine g_run hx [(.aload_n 0, 0, 0)] (pc' := 1) (lo' := [some (.ref 66), some (.int v1), some (.int v2), some (.int v3), some (.int v4), none]) (st' := [.ref 66]) (σ' := σ) (by decide +kernel) rfl rfl ?_
  refine g_callV (rest := []) [] hx hc mk_m_anew ln_10_174 rfl (by decide +kernel) (by decide) (Nat.le_of_ble_eq_true rfl) (s_m_anew (ok_b h)) (fun r1 s1 h => ?_)
  refine g_run hx [(.aload_n 0, 0, 0), (.aload_n 0, 0, 0), (.getfield 187, 0, 0), (.iload_n 1, 0, 0), (.iconst 0, 0, 0), (.bipush 9, 9, 0)] (pc' := 13) (lo' := [some (.ref 66), some (.int v1), some (.int v2), some (.int v3), some (.int v4), none]) (st' := [.int 9, .int 0, .int v1, .int (gI s1 66 14), .ref 66]) (σ' := s1) (by decide +kernel) rfl rfl ?_
  refine g_callS (rest := [.int (gI s1 66 14), .ref 66]) [.int v1, .int 0, .int 9] hx hc mk_m_in ln_10_156 (by decide +kernel) (by decide) (Nat.le_of_ble_eq_true rfl) (s_m_in (ok_b h)) (fun r2 s2 h => ?_)
  refine g_callV (rest := []) [.int (gI s1 66 14), .int (b2i r2)] hx hc mk_m_why ln_10_261 rfl (by decide +kernel) (by decide) (Nat.le_of_ble_eq_true rfl) (s_m_why (ok_b h)) (fun r3 s3 h => ?_)
  refine g_run hx [(.istore 5, 0, 0), (.iload 5, 0, 0)] (pc' := 23) (lo' := [some (.ref 66), some (.int v1), some (.int v2), some (.int v3), some (.int v4), some (.int r3)]) (st' := [.int r3]) (σ' := s3) (by decide +kernel) rfl rfl ?_
  refine g_if_ne hx (off := 24) (tgt := 47) (by decide +kernel) (by decide) (fun c23 => ?_) (fun c23 => ?_)
  · have h := ok_f h c23
    refine g_run hx [(.aload_n 0, 0, 0), (.iload 5, 0, 0), (.putfield 71, 0, 0), (.bipush (-100), (-100), 0)] (pc' := 55) (lo' := [some (.ref 66), some (.int v1), some (.int v2), some (.int v3), some (.int v4), some (.int r3)]) (st' := [.int (-100)]) (σ' := sI s3 66 11 r3) (by decide +kernel) rfl rfl ?_
    exact g_iret hx hr rfl _ rfl (by decide +kernel) (ok_some h)
  · have h := ok_t h c23
    refine g_run hx [(.iload 4, 0, 0)] (pc' := 28) (lo' := [some (.ref 66), some (.int v1), some (.int v2), some (.int v3), some (.int v4), some (.int r3)]) (st' := [.int v4]) (σ' := s3) (by decide +kernel) rfl rfl ?_
    refine g_if_eq hx (off := 12) (tgt := 40) (by decide +kernel) (by decide) (fun c28 => ?_) (fun c28 => ?_)
    · have h := ok_t h c28
      refine g_run hx [(.iload_n 1, 0, 0), (.iload_n 2, 0, 0), (.iload_n 3, 0, 0)] (pc' := 43) (lo' := [some (.ref 66), some (.int v1), some (.int v2), some (.int v3), some (.int v4), some (.int r3)]) (st' := [.int v3, .int v2, .int v1]) (σ' := s3) (by decide +kernel) rfl rfl ?_
      refine g_callS (rest := []) [.int v1, .int v2, .int v3] hx hc mk_m_goesOf ln_10_408 (by decide +kernel) (by decide) (Nat.le_of_ble_eq_true rfl) (s_m_goesOf (ok_b h)) (fun r4 s4 h => ?_)
      exact g_iret hx hr rfl _ rfl (by decide +kernel) (ok_some h)
    · have h := ok_f h c28
      refine g_run hx [(.iload_n 1, 0, 0), (.iload_n 3, 0, 0), (.iload_n 2, 0, 0)] (pc' := 34) (lo' := [some (.ref 66), some (.int v1), some (.int v2), some (.int v3), some (.int v4), some (.int r3)]) (st' := [.int v2, .int v3, .int v1]) (σ' := s3) (by decide +kernel) rfl rfl ?_
      refine g_callS (rest := []) [.int v1, .int v3, .int v2] hx hc mk_m_goesOf ln_10_408 (by decide +kernel) (by decide) (Nat.le_of_ble_eq_true rfl) (s_m_goesOf (ok_b h)) (fun r5 s5 h => ?_)
      refine g_goto hx (off := 9) (tgt := 46) (by decide +kernel) (by decide) ?_
      exact g_iret hx hr rfl _ rfl (by decide +kernel) (ok_some h)
def f_m_goneOn_L4 (N : Nat) (a0 : Nat) (a1 : Nat) (a2 : Nat) : Nat → Int32 → Int32 → Sg → Option (Int32 × Sg)
  | 0, _, _, _ => none
  | n + 1, v2, v3, σ =>
    if (gA σ a0 0) ≤ v3 then
      some (v2, σ)
    else
      if vin v3 a1 then
      if (gA σ a2 v3) ≤ 0 then
        f_m_goneOn_L4 N a0 a1 a2 n (v2 + 0) (v3 + 1) σ
      else
        f_m_goneOn_L4 N a0 a1 a2 n (v2 + 1) (v3 + 1) σ
      else none
def f_m_goneOn (N : Nat) (a0 : Nat) (a1 : Nat) (a2 : Nat) (σ : Sg) : Option (Int32 × Sg) :=
  f_m_goneOn_L4 N a0 a1 a2 N 0 0 σ
set_option maxRecDepth 100000 in
theorem s_m_goneOn_66_74_L4 {y : EX} {N : Nat} {x : CX} {P : Int32 × Sg → Prop} (hx : Cx 10 prog_12_method_48_code x) (hc : Cc y 4 0 x) (hr : Cr M_m_goneOn rvI P x) : ∀ (n : Nat) (v2 : Int32) (v3 : Int32) (σ : Sg), ok (f_m_goneOn_L4 N 69 63 74 n v2 v3 σ) P → G x 4 [some (.ref 66), some (.ref 74), some (.int v2), some (.int v3)] [] σ := by
  intro n
  induction n with
  | zero => intro v2 v3 σ h; exact ok_none h
  | succ n ih =>
    intro v2 v3 σ h
    rw [f_m_goneOn_L4] at h
    refine g_run hx [(.iload_n 3, 0, 0), (.aload_n 0, 0, 0), (.getfield 20, 0, 0), (.iconst 0, 0, 0), (.iaload, 0, 0)] (pc' := 11) (lo' := [some (.ref 66), some (.ref 74), some (.int v2), some (.int v3)]) (st' := [.int (gA σ 69 0), .int v3]) (σ' := σ) (by decide +kernel) rfl rfl ?_
    refine g_ic_ge hx (off := 23) (tgt := 34) (by decide +kernel) (by decide) (fun c11 => ?_) (fun c11 => ?_)
    · have h := ok_t h c11
      refine g_run hx [(.iload_n 2, 0, 0)] (pc' := 35) (lo' := [some (.ref 66), some (.ref 74), some (.int v2), some (.int v3)]) (st' := [.int v2]) (σ' := σ) (by decide +kernel) rfl rfl ?_
      exact g_iret hx hr rfl _ rfl (by decide +kernel) (ok_some h)
    · have h := ok_f h c11
      refine g_run hx [(.iload_n 2, 0, 0), (.aload_n 1, 0, 0), (.iload_n 3, 0, 0)] (pc' := 17) (lo' := [some (.ref 66), some (.ref 74), some (.int v2), some (.int v3)]) (st' := [.int v3, .ref 74, .int v2]) (σ' := σ) (by decide +kernel) rfl rfl ?_
      obtain ⟨c17, h⟩ := ok_g h
      refine g_iald hx (by decide +kernel) (i := 74) (n := 63) rfl c17 ?_
      refine g_if_le hx (off := 7) (tgt := 25) (by decide +kernel) (by decide) (fun c18 => ?_) (fun c18 => ?_)
      · have h := ok_t h c18
        refine g_run hx [(.iconst 0, 0, 0), (.iadd, 0, 0), (.istore_n 2, 0, 0), (.iinc 3 1, 1, 0)] (pc' := 31) (lo' := [some (.ref 66), some (.ref 74), some (.int (v2 + 0)), some (.int (v3 + 1))]) (st' := []) (σ' := σ) (by decide +kernel) rfl rfl ?_
        refine g_goto hx (off := (-27)) (tgt := 4) (by decide +kernel) (by decide) ?_
        exact ih _ _ _ h
      · have h := ok_f h c18
        refine g_run hx [(.iconst 1, 1, 0)] (pc' := 22) (lo' := [some (.ref 66), some (.ref 74), some (.int v2), some (.int v3)]) (st' := [.int 1, .int v2]) (σ' := σ) (by decide +kernel) rfl rfl ?_
        refine g_goto hx (off := 4) (tgt := 26) (by decide +kernel) (by decide) ?_
        refine g_run hx [(.iadd, 0, 0), (.istore_n 2, 0, 0), (.iinc 3 1, 1, 0)] (pc' := 31) (lo' := [some (.ref 66), some (.ref 74), some (.int (v2 + 1)), some (.int (v3 + 1))]) (st' := []) (σ' := σ) (by decide +kernel) rfl rfl ?_
        refine g_goto hx (off := (-27)) (tgt := 4) (by decide +kernel) (by decide) ?_
        exact ih _ _ _ h
set_option maxRecDepth 100000 in
theorem s_m_goneOn_66_74 {y : EX} {N : Nat} {σ : Sg} {P : Int32 × Sg → Prop} (h : ok (f_m_goneOn N 69 63 74 σ) P) : Ev y M_m_goneOn 0 [.ref 66, .ref 74] σ rvI P := by
  refine Ev.of mk_m_goneOn (Nat.le_of_ble_eq_true rfl) (fun x hx hc hr => ?_)
  have hx : Cx 10 prog_12_method_48_code x := hx
  have hc : Cc y 4 0 x := hc
  show G x 0 [some (.ref 66), some (.ref 74), none, none] [] σ
  unfold f_m_goneOn at h
  refine g_run hx [(.iconst 0, 0, 0), (.istore_n 2, 0, 0), (.iconst 0, 0, 0), (.istore_n 3, 0, 0)] (pc' := 4) (lo' := [some (.ref 66), some (.ref 74), some (.int 0), some (.int 0)]) (st' := []) (σ' := σ) (by decide +kernel) rfl rfl ?_
  refine s_m_goneOn_66_74_L4 hx hc hr N _ _ _ h
def f_m_gone (N : Nat) (σ : Sg) : Option (Int32 × Sg) :=
  (f_m_anew N σ).bind fun q1 =>
  if (gI q1.2 66 14) = 0 then
    (f_m_no N 1 q1.2).bind fun q2 =>
    some (q2.1, q2.2)
  else
    (f_m_goneOn N 69 63 74 q1.2).bind fun q3 =>
    some (q3.1, q3.2)
set_option maxRecDepth 100000 in
theorem s_m_gone {y : EX} {N : Nat} {σ : Sg} {P : Int32 × Sg → Prop} (h : ok (f_m_gone N σ) P) : Ev y M_m_gone 1 [.ref 66] σ rvI P := by
  refine Ev.of mk_m_gone (Nat.le_of_ble_eq_true rfl) (fun x hx hc hr => ?_)
  have hx : Cx 10 prog_12_method_58_code x := hx
  have hc : Cc y 1 1 x := hc
  show G x 0 [some (.ref 66)] [] σ
  unfold f_m_gone at h
  refine g_run hx [(.aload_n 0, 0, 0)] (pc' := 1) (lo' := [some (.ref 66)]) (st' := [.ref 66]) (σ' := σ) (by decide +kernel) rfl rfl ?_
  refine g_callV (rest := []) [] hx hc mk_m_anew ln_10_174 rfl (by decide +kernel) (by decide) (Nat.le_of_ble_eq_true rfl) (s_m_anew (ok_b h)) (fun r1 s1 h => ?_)
  refine g_run hx [(.aload_n 0, 0, 0), (.getfield 187, 0, 0)] (pc' := 8) (lo' := [some (.ref 66)]) (st' := [.int (gI s1 66 14)]) (σ' := s1) (by decide +kernel) rfl rfl ?_
  refine g_if_eq hx (off := 14) (tgt := 22) (by decide +kernel) (by decide) (fun c8 => ?_) (fun c8 => ?_)
  · have h := ok_t h c8
    refine g_run hx [(.aload_n 0, 0, 0), (.iconst 1, 1, 0)] (pc' := 24) (lo' := [some (.ref 66)]) (st' := [.int 1, .ref 66]) (σ' := s1) (by decide +kernel) rfl rfl ?_
    refine g_callV (rest := []) [.int 1] hx hc mk_m_no ln_10_177 rfl (by decide +kernel) (by decide) (Nat.le_of_ble_eq_true rfl) (s_m_no (ok_b h)) (fun r2 s2 h => ?_)
    exact g_iret hx hr rfl _ rfl (by decide +kernel) (ok_some h)
  · have h := ok_f h c8
    refine g_run hx [(.aload_n 0, 0, 0), (.aload_n 0, 0, 0), (.getfield 35, 0, 0)] (pc' := 16) (lo' := [some (.ref 66)]) (st' := [.ref 74, .ref 66]) (σ' := s1) (by decide +kernel) rfl rfl ?_
    refine g_callV (rest := []) [.ref 74] hx hc mk_m_goneOn ln_10_291 rfl (by decide +kernel) (by decide) (Nat.le_of_ble_eq_true rfl) (s_m_goneOn_66_74 (ok_b h)) (fun r3 s3 h => ?_)
    refine g_goto hx (off := 8) (tgt := 27) (by decide +kernel) (by decide) ?_
    exact g_iret hx hr rfl _ rfl (by decide +kernel) (ok_some h)
def f_m_aheadWhy (N : Nat) (v1 : Int32) (v2 : Int32) (σ : Sg) : Option (Int32 × Sg) :=
  (f_m_in N v2 0 60 σ).bind fun q1 =>
  (f_m_why N v1 (b2i q1.1) q1.2).bind fun q2 =>
  some (q2.1, q2.2)
set_option maxRecDepth 100000 in
theorem s_m_aheadWhy {y : EX} {N : Nat} {v1 : Int32} {v2 : Int32} {σ : Sg} {P : Int32 × Sg → Prop} (h : ok (f_m_aheadWhy N v1 v2 σ) P) : Ev y M_m_aheadWhy 1 [.ref 66, .int v1, .int v2] σ rvI P := by
  refine Ev.of mk_m_aheadWhy (Nat.le_of_ble_eq_true rfl) (fun x hx hc hr => ?_)
  have hx : Cx 10 prog_12_method_43_code x := hx
  have hc : Cc y 3 1 x := hc
  show G x 0 [some (.ref 66), some (.int v1), some (.int v2)] [] σ
  unfold f_m_aheadWhy at h
  refine g_run hx [(.aload_n 0, 0, 0), (.iload_n 1, 0, 0), (.iload_n 2, 0, 0), (.iconst 0, 0, 0), (.bipush 60, 60, 0)] (pc' := 6) (lo' := [some (.ref 66), some (.int v1), some (.int v2)]) (st' := [.int 60, .int 0, .int v2, .int v1, .ref 66]) (σ' := σ) (by decide +kernel) rfl rfl ?_
  refine g_callS (rest := [.int v1, .ref 66]) [.int v2, .int 0, .int 60] hx hc mk_m_in ln_10_156 (by decide +kernel) (by decide) (Nat.le_of_ble_eq_true rfl) (s_m_in (ok_b h)) (fun r1 s1 h => ?_)
  refine g_callV (rest := []) [.int v1, .int (b2i r1)] hx hc mk_m_why ln_10_261 rfl (by decide +kernel) (by decide) (Nat.le_of_ble_eq_true rfl) (s_m_why (ok_b h)) (fun r2 s2 h => ?_)
  exact g_iret hx hr rfl _ rfl (by decide +kernel) (ok_some h)
def f_m_yearsOn_L6 (N : Nat) : Nat → Int32 → Int32 → Sg → Option (Unit × Sg)
  | 0, _, _, _ => none
  | n + 1, v1, v2, σ =>
    if v1 ≤ v2 then
      some ((), σ)
    else
      (f_m_yearOn N 69 63 60 78 75 189 66 σ).bind fun q2 =>
      f_m_yearsOn_L6 N n v1 (v2 + 1) q2.2
def f_m_yearsOn (N : Nat) (v1 : Int32) (σ : Sg) : Option (Unit × Sg) :=
  (f_m_begin N σ).bind fun q1 =>
  f_m_yearsOn_L6 N N v1 0 q1.2
set_option maxRecDepth 100000 in
theorem s_m_yearsOn_L6 {y : EX} {N : Nat} {x : CX} {P : Unit × Sg → Prop} (hx : Cx 10 prog_12_method_51_code x) (hc : Cc y 3 2 x) (hr : Cr M_m_yearsOn rvN P x) : ∀ (n : Nat) (v1 : Int32) (v2 : Int32) (σ : Sg), ok (f_m_yearsOn_L6 N n v1 v2 σ) P → G x 6 [some (.ref 66), some (.int v1), some (.int v2)] [] σ := by
  intro n
  induction n with
  | zero => intro v1 v2 σ h; exact ok_none h
  | succ n ih =>
    intro v1 v2 σ h
    rw [f_m_yearsOn_L6] at h
    refine g_run hx [(.iload_n 2, 0, 0), (.iload_n 1, 0, 0)] (pc' := 8) (lo' := [some (.ref 66), some (.int v1), some (.int v2)]) (st' := [.int v1, .int v2]) (σ' := σ) (by decide +kernel) rfl rfl ?_
    refine g_ic_ge hx (off := 18) (tgt := 26) (by decide +kernel) (by decide) (fun c8 => ?_) (fun c8 => ?_)
    · have h := ok_t h c8
      exact g_vret hx hr rfl () rfl (by decide +kernel) (ok_some h)
    · have h := ok_f h c8
      refine g_run hx [(.aload_n 0, 0, 0), (.aload_n 0, 0, 0), (.getfield 38, 0, 0)] (pc' := 16) (lo' := [some (.ref 66), some (.int v1), some (.int v2)]) (st' := [.ref 75, .ref 66]) (σ' := σ) (by decide +kernel) rfl rfl ?_
      refine g_callV (rest := []) [.ref 75] hx hc mk_m_yearOn ln_10_275 rfl (by decide +kernel) (by decide) (Nat.le_of_ble_eq_true rfl) (s_m_yearOn_66_75 (ok_b h)) (fun r2 s2 h => ?_)
      refine g_run hx [(.pop, 0, 0), (.iinc 2 1, 1, 0)] (pc' := 23) (lo' := [some (.ref 66), some (.int v1), some (.int (v2 + 1))]) (st' := []) (σ' := s2) (by decide +kernel) rfl rfl ?_
      refine g_goto hx (off := (-17)) (tgt := 6) (by decide +kernel) (by decide) ?_
      exact ih _ _ _ h
set_option maxRecDepth 100000 in
theorem s_m_yearsOn {y : EX} {N : Nat} {v1 : Int32} {σ : Sg} {P : Unit × Sg → Prop} (h : ok (f_m_yearsOn N v1 σ) P) : Ev y M_m_yearsOn 2 [.ref 66, .int v1] σ rvN P := by
  refine Ev.of mk_m_yearsOn (Nat.le_of_ble_eq_true rfl) (fun x hx hc hr => ?_)
  have hx : Cx 10 prog_12_method_51_code x := hx
  have hc : Cc y 3 2 x := hc
  show G x 0 [some (.ref 66), some (.int v1), none] [] σ
  unfold f_m_yearsOn at h
  refine g_run hx [(.aload_n 0, 0, 0)] (pc' := 1) (lo' := [some (.ref 66), some (.int v1), none]) (st' := [.ref 66]) (σ' := σ) (by decide +kernel) rfl rfl ?_
  refine g_callV (rest := []) [] hx hc mk_m_begin ln_10_272 rfl (by decide +kernel) (by decide) (Nat.le_of_ble_eq_true rfl) (s_m_begin (ok_b h)) (fun r1 s1 h => ?_)
  refine g_run hx [(.iconst 0, 0, 0), (.istore_n 2, 0, 0)] (pc' := 6) (lo' := [some (.ref 66), some (.int v1), some (.int 0)]) (st' := []) (σ' := s1) (by decide +kernel) rfl rfl ?_
  refine s_m_yearsOn_L6 hx hc hr N _ _ _ h
set_option maxRecDepth 100000 in
theorem s_m_goneOn_66_75_L4 {y : EX} {N : Nat} {x : CX} {P : Int32 × Sg → Prop} (hx : Cx 10 prog_12_method_48_code x) (hc : Cc y 4 0 x) (hr : Cr M_m_goneOn rvI P x) : ∀ (n : Nat) (v2 : Int32) (v3 : Int32) (σ : Sg), ok (f_m_goneOn_L4 N 69 63 75 n v2 v3 σ) P → G x 4 [some (.ref 66), some (.ref 75), some (.int v2), some (.int v3)] [] σ := by
  intro n
  induction n with
  | zero => intro v2 v3 σ h; exact ok_none h
  | succ n ih =>
    intro v2 v3 σ h
    rw [f_m_goneOn_L4] at h
    refine g_run hx [(.iload_n 3, 0, 0), (.aload_n 0, 0, 0), (.getfield 20, 0, 0), (.iconst 0, 0, 0), (.iaload, 0, 0)] (pc' := 11) (lo' := [some (.ref 66), some (.ref 75), some (.int v2), some (.int v3)]) (st' := [.int (gA σ 69 0), .int v3]) (σ' := σ) (by decide +kernel) rfl rfl ?_
    refine g_ic_ge hx (off := 23) (tgt := 34) (by decide +kernel) (by decide) (fun c11 => ?_) (fun c11 => ?_)
    · have h := ok_t h c11
      refine g_run hx [(.iload_n 2, 0, 0)] (pc' := 35) (lo' := [some (.ref 66), some (.ref 75), some (.int v2), some (.int v3)]) (st' := [.int v2]) (σ' := σ) (by decide +kernel) rfl rfl ?_
      exact g_iret hx hr rfl _ rfl (by decide +kernel) (ok_some h)
    · have h := ok_f h c11
      refine g_run hx [(.iload_n 2, 0, 0), (.aload_n 1, 0, 0), (.iload_n 3, 0, 0)] (pc' := 17) (lo' := [some (.ref 66), some (.ref 75), some (.int v2), some (.int v3)]) (st' := [.int v3, .ref 75, .int v2]) (σ' := σ) (by decide +kernel) rfl rfl ?_
      obtain ⟨c17, h⟩ := ok_g h
      refine g_iald hx (by decide +kernel) (i := 75) (n := 63) rfl c17 ?_
      refine g_if_le hx (off := 7) (tgt := 25) (by decide +kernel) (by decide) (fun c18 => ?_) (fun c18 => ?_)
      · have h := ok_t h c18
        refine g_run hx [(.iconst 0, 0, 0), (.iadd, 0, 0), (.istore_n 2, 0, 0), (.iinc 3 1, 1, 0)] (pc' := 31) (lo' := [some (.ref 66), some (.ref 75), some (.int (v2 + 0)), some (.int (v3 + 1))]) (st' := []) (σ' := σ) (by decide +kernel) rfl rfl ?_
        refine g_goto hx (off := (-27)) (tgt := 4) (by decide +kernel) (by decide) ?_
        exact ih _ _ _ h
      · have h := ok_f h c18
        refine g_run hx [(.iconst 1, 1, 0)] (pc' := 22) (lo' := [some (.ref 66), some (.ref 75), some (.int v2), some (.int v3)]) (st' := [.int 1, .int v2]) (σ' := σ) (by decide +kernel) rfl rfl ?_
        refine g_goto hx (off := 4) (tgt := 26) (by decide +kernel) (by decide) ?_
        refine g_run hx [(.iadd, 0, 0), (.istore_n 2, 0, 0), (.iinc 3 1, 1, 0)] (pc' := 31) (lo' := [some (.ref 66), some (.ref 75), some (.int (v2 + 1)), some (.int (v3 + 1))]) (st' := []) (σ' := σ) (by decide +kernel) rfl rfl ?_
        refine g_goto hx (off := (-27)) (tgt := 4) (by decide +kernel) (by decide) ?_
        exact ih _ _ _ h
set_option maxRecDepth 100000 in
theorem s_m_goneOn_66_75 {y : EX} {N : Nat} {σ : Sg} {P : Int32 × Sg → Prop} (h : ok (f_m_goneOn N 69 63 75 σ) P) : Ev y M_m_goneOn 0 [.ref 66, .ref 75] σ rvI P := by
  refine Ev.of mk_m_goneOn (Nat.le_of_ble_eq_true rfl) (fun x hx hc hr => ?_)
  have hx : Cx 10 prog_12_method_48_code x := hx
  have hc : Cc y 4 0 x := hc
  show G x 0 [some (.ref 66), some (.ref 75), none, none] [] σ
  unfold f_m_goneOn at h
  refine g_run hx [(.iconst 0, 0, 0), (.istore_n 2, 0, 0), (.iconst 0, 0, 0), (.istore_n 3, 0, 0)] (pc' := 4) (lo' := [some (.ref 66), some (.ref 75), some (.int 0), some (.int 0)]) (st' := []) (σ' := σ) (by decide +kernel) rfl rfl ?_
  refine s_m_goneOn_66_75_L4 hx hc hr N _ _ _ h
def f_m_goneIn (N : Nat) (v1 : Int32) (σ : Sg) : Option (Int32 × Sg) :=
  (f_m_anew N σ).bind fun q1 =>
  (f_m_aheadWhy N (gI q1.2 66 14) v1 q1.2).bind fun q2 =>
  if q2.1 = 0 then
    (f_m_yearsOn N v1 q2.2).bind fun q3 =>
    (f_m_goneOn N 69 63 75 q3.2).bind fun q4 =>
    some (q4.1, q4.2)
  else
    (f_m_no N q2.1 q2.2).bind fun q5 =>
    some (q5.1, q5.2)
set_option maxRecDepth 100000 in
theorem s_m_goneIn {y : EX} {N : Nat} {v1 : Int32} {σ : Sg} {P : Int32 × Sg → Prop} (h : ok (f_m_goneIn N v1 σ) P) : Ev y M_m_goneIn 3 [.ref 66, .int v1] σ rvI P := by
  refine Ev.of mk_m_goneIn (Nat.le_of_ble_eq_true rfl) (fun x hx hc hr => ?_)
  have hx : Cx 10 prog_12_method_68_code x := hx
  have hc : Cc y 3 3 x := hc
  show G x 0 [some (.ref 66), some (.int v1), none] [] σ
  unfold f_m_goneIn at h
  refine g_run hx [(.aload_n 0, 0, 0)] (pc' := 1) (lo' := [some (.ref 66), some (.int v1), none]) (st' := [.ref 66]) (σ' := σ) (by decide +kernel) rfl rfl ?_
  refine g_callV (rest := []) [] hx hc mk_m_anew ln_10_174 rfl (by decide +kernel) (by decide) (Nat.le_of_ble_eq_true rfl) (s_m_anew (ok_b h)) (fun r1 s1 h => ?_)
  refine g_run hx [(.aload_n 0, 0, 0), (.aload_n 0, 0, 0), (.getfield 187, 0, 0), (.iload_n 1, 0, 0)] (pc' := 10) (lo' := [some (.ref 66), some (.int v1), none]) (st' := [.int v1, .int (gI s1 66 14), .ref 66]) (σ' := s1) (by decide +kernel) rfl rfl ?_
  refine g_callV (rest := []) [.int (gI s1 66 14), .int v1] hx hc mk_m_aheadWhy ln_10_314 rfl (by decide +kernel) (by decide) (Nat.le_of_ble_eq_true rfl) (s_m_aheadWhy (ok_b h)) (fun r2 s2 h => ?_)
  refine g_run hx [(.istore_n 2, 0, 0), (.iload_n 2, 0, 0)] (pc' := 15) (lo' := [some (.ref 66), some (.int v1), some (.int r2)]) (st' := [.int r2]) (σ' := s2) (by decide +kernel) rfl rfl ?_
  refine g_if_eq hx (off := 9) (tgt := 24) (by decide +kernel) (by decide) (fun c15 => ?_) (fun c15 => ?_)
  · have h := ok_t h c15
    refine g_run hx [(.aload_n 0, 0, 0), (.iload_n 1, 0, 0)] (pc' := 26) (lo' := [some (.ref 66), some (.int v1), some (.int r2)]) (st' := [.int v1, .ref 66]) (σ' := s2) (by decide +kernel) rfl rfl ?_
    refine g_callV (rest := []) [.int v1] hx hc mk_m_yearsOn ln_10_318 rfl (by decide +kernel) (by decide) (Nat.le_of_ble_eq_true rfl) (s_m_yearsOn (ok_b h)) (fun r3 s3 h => ?_)
    refine g_run hx [(.aload_n 0, 0, 0), (.aload_n 0, 0, 0), (.getfield 38, 0, 0)] (pc' := 34) (lo' := [some (.ref 66), some (.int v1), some (.int r2)]) (st' := [.ref 75, .ref 66]) (σ' := s3) (by decide +kernel) rfl rfl ?_
    refine g_callV (rest := []) [.ref 75] hx hc mk_m_goneOn ln_10_291 rfl (by decide +kernel) (by decide) (Nat.le_of_ble_eq_true rfl) (s_m_goneOn_66_75 (ok_b h)) (fun r4 s4 h => ?_)
    exact g_iret hx hr rfl _ rfl (by decide +kernel) (ok_some h)
  · have h := ok_f h c15
    refine g_run hx [(.aload_n 0, 0, 0), (.iload_n 2, 0, 0)] (pc' := 20) (lo' := [some (.ref 66), some (.int v1), some (.int r2)]) (st' := [.int r2, .ref 66]) (σ' := s2) (by decide +kernel) rfl rfl ?_
    refine g_callV (rest := []) [.int r2] hx hc mk_m_no ln_10_177 rfl (by decide +kernel) (by decide) (Nat.le_of_ble_eq_true rfl) (s_m_no (ok_b h)) (fun r5 s5 h => ?_)
    exact g_iret hx hr rfl _ rfl (by decide +kernel) (ok_some h)
set_option maxRecDepth 100000 in
theorem s_m_copy_74_77_L3 {y : EX} {N : Nat} {x : CX} {P : Unit × Sg → Prop} (hx : Cx 10 prog_12_method_8_code x) (hc : Cc y 6 0 x) (hr : Cr M_m_copy rvN P x) : ∀ (n : Nat) (v1 : Int32) (v3 : Int32) (v4 : Int32) (v5 : Int32) (σ : Sg), ok (f_m_copy_L3 N 63 189 77 74 n v1 v3 v4 v5 σ) P → G x 3 [some (.ref 74), some (.int v1), some (.ref 77), some (.int v3), some (.int v4), some (.int v5)] [] σ := by
  intro n
  induction n with
  | zero => intro v1 v3 v4 v5 σ h; exact ok_none h
  | succ n ih =>
    intro v1 v3 v4 v5 σ h
    rw [f_m_copy_L3] at h
    refine g_run hx [(.iload 5, 0, 0), (.iload 4, 0, 0)] (pc' := 7) (lo' := [some (.ref 74), some (.int v1), some (.ref 77), some (.int v3), some (.int v4), some (.int v5)]) (st' := [.int v4, .int v5]) (σ' := σ) (by decide +kernel) rfl rfl ?_
    refine g_ic_ge hx (off := 21) (tgt := 28) (by decide +kernel) (by decide) (fun c7 => ?_) (fun c7 => ?_)
    · have h := ok_t h c7
      exact g_vret hx hr rfl () rfl (by decide +kernel) (ok_some h)
    · have h := ok_f h c7
      refine g_run hx [(.aload_n 2, 0, 0), (.iload_n 3, 0, 0), (.iload 5, 0, 0), (.iadd, 0, 0), (.aload_n 0, 0, 0), (.iload_n 1, 0, 0), (.iload 5, 0, 0), (.iadd, 0, 0)] (pc' := 20) (lo' := [some (.ref 74), some (.int v1), some (.ref 77), some (.int v3), some (.int v4), some (.int v5)]) (st' := [.int (v1 + v5), .ref 74, .int (v3 + v5), .ref 77]) (σ' := σ) (by decide +kernel) rfl rfl ?_
      obtain ⟨c20, h⟩ := ok_g h
      refine g_iald hx (by decide +kernel) (i := 74) (n := 63) rfl c20 ?_
      obtain ⟨c21, h⟩ := ok_g h
      refine g_iast hx (by decide +kernel) (i := 77) (n := 189) rfl c21 ?_
      refine g_run hx [(.iinc 5 1, 1, 0)] (pc' := 25) (lo' := [some (.ref 74), some (.int v1), some (.ref 77), some (.int v3), some (.int v4), some (.int (v5 + 1))]) (st' := []) (σ' := sA σ 77 (v3 + v5) (gA σ 74 (v1 + v5))) (by decide +kernel) rfl rfl ?_
      refine g_goto hx (off := (-22)) (tgt := 3) (by decide +kernel) (by decide) ?_
      exact ih _ _ _ _ _ h
set_option maxRecDepth 100000 in
theorem s_m_copy_74_77 {y : EX} {N : Nat} {v1 : Int32} {v3 : Int32} {v4 : Int32} {σ : Sg} {P : Unit × Sg → Prop} (h : ok (f_m_copy N 63 189 77 74 v1 v3 v4 σ) P) : Ev y M_m_copy 0 [.ref 74, .int v1, .ref 77, .int v3, .int v4] σ rvN P := by
  refine Ev.of mk_m_copy (Nat.le_of_ble_eq_true rfl) (fun x hx hc hr => ?_)
  have hx : Cx 10 prog_12_method_8_code x := hx
  have hc : Cc y 6 0 x := hc
  show G x 0 [some (.ref 74), some (.int v1), some (.ref 77), some (.int v3), some (.int v4), none] [] σ
  unfold f_m_copy at h
  refine g_run hx [(.iconst 0, 0, 0), (.istore 5, 0, 0)] (pc' := 3) (lo' := [some (.ref 74), some (.int v1), some (.ref 77), some (.int v3), some (.int v4), some (.int 0)]) (st' := []) (σ' := σ) (by decide +kernel) rfl rfl ?_
  refine s_m_copy_74_77_L3 hx hc hr N _ _ _ _ _ h
def f_m_image (N : Nat) (σ : Sg) : Option (Int32 × Sg) :=
  (f_m_anew N σ).bind fun q1 =>
  if (gI q1.2 66 14) = 0 then
    (f_m_no N 1 q1.2).bind fun q4 =>
    some (q4.1, q4.2)
  else
    if (gI q1.2 66 25) = 3 then
      (f_m_no N 3 q1.2).bind fun q3 =>
      some (q3.1, q3.2)
    else
      (f_m_copy N 63 189 77 74 0 (63 * (gI q1.2 66 25)) 63 q1.2).bind fun q2 =>
      some (((gI (sI q2.2 66 25 ((gI q2.2 66 25) + 1)) 66 25) - 1), sI q2.2 66 25 ((gI q2.2 66 25) + 1))
set_option maxRecDepth 100000 in
theorem s_m_image {y : EX} {N : Nat} {σ : Sg} {P : Int32 × Sg → Prop} (h : ok (f_m_image N σ) P) : Ev y M_m_image 1 [.ref 66] σ rvI P := by
  refine Ev.of mk_m_image (Nat.le_of_ble_eq_true rfl) (fun x hx hc hr => ?_)
  have hx : Cx 10 prog_12_method_126_code x := hx
  have hc : Cc y 1 1 x := hc
  show G x 0 [some (.ref 66)] [] σ
  unfold f_m_image at h
  refine g_run hx [(.aload_n 0, 0, 0)] (pc' := 1) (lo' := [some (.ref 66)]) (st' := [.ref 66]) (σ' := σ) (by decide +kernel) rfl rfl ?_
  refine g_callV (rest := []) [] hx hc mk_m_anew ln_10_174 rfl (by decide +kernel) (by decide) (Nat.le_of_ble_eq_true rfl) (s_m_anew (ok_b h)) (fun r1 s1 h => ?_)
  refine g_run hx [(.aload_n 0, 0, 0), (.getfield 187, 0, 0)] (pc' := 8) (lo' := [some (.ref 66)]) (st' := [.int (gI s1 66 14)]) (σ' := s1) (by decide +kernel) rfl rfl ?_
  refine g_if_ne hx (off := 9) (tgt := 17) (by decide +kernel) (by decide) (fun c8 => ?_) (fun c8 => ?_)
  · have h := ok_f h c8
    refine g_run hx [(.aload_n 0, 0, 0), (.getfield 193, 0, 0), (.iconst 3, 3, 0)] (pc' := 22) (lo' := [some (.ref 66)]) (st' := [.int 3, .int (gI s1 66 25)]) (σ' := s1) (by decide +kernel) rfl rfl ?_
    refine g_ic_ne hx (off := 9) (tgt := 31) (by decide +kernel) (by decide) (fun c22 => ?_) (fun c22 => ?_)
    · have h := ok_f h c22
      refine g_run hx [(.aload_n 0, 0, 0), (.getfield 35, 0, 0), (.iconst 0, 0, 0), (.aload_n 0, 0, 0), (.getfield 44, 0, 0), (.bipush 63, 63, 0), (.aload_n 0, 0, 0), (.getfield 193, 0, 0), (.imul, 0, 0), (.bipush 63, 63, 0)] (pc' := 49) (lo' := [some (.ref 66)]) (st' := [.int 63, .int (63 * (gI s1 66 25)), .ref 77, .int 0, .ref 74]) (σ' := s1) (by decide +kernel) rfl rfl ?_
      refine g_callS (rest := []) [.ref 74, .int 0, .ref 77, .int (63 * (gI s1 66 25)), .int 63] hx hc mk_m_copy ln_10_183 (by decide +kernel) (by decide) (Nat.le_of_ble_eq_true rfl) (s_m_copy_74_77 (ok_b h)) (fun r2 s2 h => ?_)
      refine g_run hx [(.aload_n 0, 0, 0), (.dup, 0, 0), (.getfield 193, 0, 0), (.iconst 1, 1, 0), (.iadd, 0, 0), (.putfield 193, 0, 0), (.aload_n 0, 0, 0), (.getfield 193, 0, 0), (.iconst 1, 1, 0), (.isub, 0, 0)] (pc' := 68) (lo' := [some (.ref 66)]) (st' := [.int ((gI (sI s2 66 25 ((gI s2 66 25) + 1)) 66 25) - 1)]) (σ' := sI s2 66 25 ((gI s2 66 25) + 1)) (by decide +kernel) rfl rfl ?_
      exact g_iret hx hr rfl _ rfl (by decide +kernel) (ok_some h)
    · have h := ok_t h c22
      refine g_run hx [(.aload_n 0, 0, 0), (.iconst 3, 3, 0)] (pc' := 27) (lo' := [some (.ref 66)]) (st' := [.int 3, .ref 66]) (σ' := s1) (by decide +kernel) rfl rfl ?_
      refine g_callV (rest := []) [.int 3] hx hc mk_m_no ln_10_177 rfl (by decide +kernel) (by decide) (Nat.le_of_ble_eq_true rfl) (s_m_no (ok_b h)) (fun r3 s3 h => ?_)
      exact g_iret hx hr rfl _ rfl (by decide +kernel) (ok_some h)
  · have h := ok_t h c8
    refine g_run hx [(.aload_n 0, 0, 0), (.iconst 1, 1, 0)] (pc' := 13) (lo' := [some (.ref 66)]) (st' := [.int 1, .ref 66]) (σ' := s1) (by decide +kernel) rfl rfl ?_
    refine g_callV (rest := []) [.int 1] hx hc mk_m_no ln_10_177 rfl (by decide +kernel) (by decide) (Nat.le_of_ble_eq_true rfl) (s_m_no (ok_b h)) (fun r4 s4 h => ?_)
    exact g_iret hx hr rfl _ rfl (by decide +kernel) (ok_some h)
def f_m_judge (N : Nat) (σ : Sg) : Option (Int32 × Sg) :=
  (f_m_anew N σ).bind fun q1 =>
  if (gI q1.2 66 14) = 0 then
    (f_m_no N 1 q1.2).bind fun q2 =>
    some (q2.1, q2.2)
  else
    (f_m_wrongBy N 0 q1.2).bind fun q3 =>
    some (q3.1, q3.2)
set_option maxRecDepth 100000 in
theorem s_m_judge {y : EX} {N : Nat} {σ : Sg} {P : Int32 × Sg → Prop} (h : ok (f_m_judge N σ) P) : Ev y M_m_judge 4 [.ref 66] σ rvI P := by
  refine Ev.of mk_m_judge (Nat.le_of_ble_eq_true rfl) (fun x hx hc hr => ?_)
  have hx : Cx 10 prog_12_method_110_code x := hx
  have hc : Cc y 1 4 x := hc
  show G x 0 [some (.ref 66)] [] σ
  unfold f_m_judge at h
  refine g_run hx [(.aload_n 0, 0, 0)] (pc' := 1) (lo' := [some (.ref 66)]) (st' := [.ref 66]) (σ' := σ) (by decide +kernel) rfl rfl ?_
  refine g_callV (rest := []) [] hx hc mk_m_anew ln_10_174 rfl (by decide +kernel) (by decide) (Nat.le_of_ble_eq_true rfl) (s_m_anew (ok_b h)) (fun r1 s1 h => ?_)
  refine g_run hx [(.aload_n 0, 0, 0), (.getfield 187, 0, 0)] (pc' := 8) (lo' := [some (.ref 66)]) (st' := [.int (gI s1 66 14)]) (σ' := s1) (by decide +kernel) rfl rfl ?_
  refine g_if_eq hx (off := 11) (tgt := 19) (by decide +kernel) (by decide) (fun c8 => ?_) (fun c8 => ?_)
  · have h := ok_t h c8
    refine g_run hx [(.aload_n 0, 0, 0), (.iconst 1, 1, 0)] (pc' := 21) (lo' := [some (.ref 66)]) (st' := [.int 1, .ref 66]) (σ' := s1) (by decide +kernel) rfl rfl ?_
    refine g_callV (rest := []) [.int 1] hx hc mk_m_no ln_10_177 rfl (by decide +kernel) (by decide) (Nat.le_of_ble_eq_true rfl) (s_m_no (ok_b h)) (fun r2 s2 h => ?_)
    exact g_iret hx hr rfl _ rfl (by decide +kernel) (ok_some h)
  · have h := ok_f h c8
    refine g_run hx [(.aload_n 0, 0, 0), (.iconst 0, 0, 0)] (pc' := 13) (lo' := [some (.ref 66)]) (st' := [.int 0, .ref 66]) (σ' := s1) (by decide +kernel) rfl rfl ?_
    refine g_callV (rest := []) [.int 0] hx hc mk_m_wrongBy ln_10_396 rfl (by decide +kernel) (by decide) (Nat.le_of_ble_eq_true rfl) (s_m_wrongBy (ok_b h)) (fun r3 s3 h => ?_)
    refine g_goto hx (off := 8) (tgt := 24) (by decide +kernel) (by decide) ?_
    exact g_iret hx hr rfl _ rfl (by decide +kernel) (ok_some h)
def f_m_see (N : Nat) (v1 : Int32) (σ : Sg) : Option (Int32 × Sg) :=
  if (gI σ 66 3) ≤ v1 then
    some ((-1), σ)
  else
    if vin v1 900 then
    some ((gA σ 67 v1), σ)
    else none
set_option maxRecDepth 100000 in
theorem s_m_see {y : EX} {N : Nat} {v1 : Int32} {σ : Sg} {P : Int32 × Sg → Prop} (h : ok (f_m_see N v1 σ) P) : Ev y M_m_see 0 [.ref 66, .int v1] σ rvI P := by
  refine Ev.of mk_m_see (Nat.le_of_ble_eq_true rfl) (fun x hx hc hr => ?_)
  have hx : Cx 10 prog_12_method_11_code x := hx
  have hc : Cc y 2 0 x := hc
  show G x 0 [some (.ref 66), some (.int v1)] [] σ
  unfold f_m_see at h
  refine g_run hx [(.iload_n 1, 0, 0), (.aload_n 0, 0, 0), (.getfield 77, 0, 0)] (pc' := 5) (lo' := [some (.ref 66), some (.int v1)]) (st' := [.int (gI σ 66 3), .int v1]) (σ' := σ) (by decide +kernel) rfl rfl ?_
  refine g_ic_ge hx (off := 12) (tgt := 17) (by decide +kernel) (by decide) (fun c5 => ?_) (fun c5 => ?_)
  · have h := ok_t h c5
    refine g_run hx [(.iconst (-1), (-1), 0)] (pc' := 18) (lo' := [some (.ref 66), some (.int v1)]) (st' := [.int (-1)]) (σ' := σ) (by decide +kernel) rfl rfl ?_
    exact g_iret hx hr rfl _ rfl (by decide +kernel) (ok_some h)
  · have h := ok_f h c5
    refine g_run hx [(.aload_n 0, 0, 0), (.getfield 7, 0, 0), (.iload_n 1, 0, 0)] (pc' := 13) (lo' := [some (.ref 66), some (.int v1)]) (st' := [.int v1, .ref 67]) (σ' := σ) (by decide +kernel) rfl rfl ?_
    obtain ⟨c13, h⟩ := ok_g h
    refine g_iald hx (by decide +kernel) (i := 67) (n := 900) rfl c13 ?_
    refine g_goto hx (off := 4) (tgt := 18) (by decide +kernel) (by decide) ?_
    exact g_iret hx hr rfl _ rfl (by decide +kernel) (ok_some h)
def f_m_isSmall (N : Nat) (v0 : Int32) (σ : Sg) : Option (Bool × Sg) :=
  if v0 < 97 then
    some (false, σ)
  else
    if 122 < v0 then
      some (false, σ)
    else
      some (true, σ)
set_option maxRecDepth 100000 in
theorem s_m_isSmall {y : EX} {N : Nat} {v0 : Int32} {σ : Sg} {P : Bool × Sg → Prop} (h : ok (f_m_isSmall N v0 σ) P) : Ev y M_m_isSmall 0 [.int v0] σ rvB P := by
  refine Ev.of mk_m_isSmall (Nat.le_of_ble_eq_true rfl) (fun x hx hc hr => ?_)
  have hx : Cx 10 prog_12_method_12_code x := hx
  have hc : Cc y 1 0 x := hc
  show G x 0 [some (.int v0)] [] σ
  unfold f_m_isSmall at h
  refine g_run hx [(.iload_n 0, 0, 0), (.bipush 97, 97, 0)] (pc' := 3) (lo' := [some (.int v0)]) (st' := [.int 97, .int v0]) (σ' := σ) (by decide +kernel) rfl rfl ?_
  refine g_ic_lt hx (off := 13) (tgt := 16) (by decide +kernel) (by decide) (fun c3 => ?_) (fun c3 => ?_)
  · have h := ok_t h c3
    refine g_run hx [(.iconst 0, 0, 0)] (pc' := 17) (lo' := [some (.int v0)]) (st' := [.int 0]) (σ' := σ) (by decide +kernel) rfl rfl ?_
    exact g_zret (b := false) hx hr rfl false rfl (by decide +kernel) (ok_some h)
  · have h := ok_f h c3
    refine g_run hx [(.iload_n 0, 0, 0), (.bipush 122, 122, 0)] (pc' := 9) (lo' := [some (.int v0)]) (st' := [.int 122, .int v0]) (σ' := σ) (by decide +kernel) rfl rfl ?_
    refine g_ic_gt hx (off := 7) (tgt := 16) (by decide +kernel) (by decide) (fun c9 => ?_) (fun c9 => ?_)
    · have h := ok_t h c9
      refine g_run hx [(.iconst 0, 0, 0)] (pc' := 17) (lo' := [some (.int v0)]) (st' := [.int 0]) (σ' := σ) (by decide +kernel) rfl rfl ?_
      exact g_zret (b := false) hx hr rfl false rfl (by decide +kernel) (ok_some h)
    · have h := ok_f h c9
      refine g_run hx [(.iconst 1, 1, 0)] (pc' := 13) (lo' := [some (.int v0)]) (st' := [.int 1]) (σ' := σ) (by decide +kernel) rfl rfl ?_
      refine g_goto hx (off := 4) (tgt := 17) (by decide +kernel) (by decide) ?_
      exact g_zret (b := true) hx hr rfl true rfl (by decide +kernel) (ok_some h)
def f_m_isDigit (N : Nat) (v0 : Int32) (σ : Sg) : Option (Bool × Sg) :=
  if v0 < 48 then
    some (false, σ)
  else
    if 57 < v0 then
      some (false, σ)
    else
      some (true, σ)
set_option maxRecDepth 100000 in
theorem s_m_isDigit {y : EX} {N : Nat} {v0 : Int32} {σ : Sg} {P : Bool × Sg → Prop} (h : ok (f_m_isDigit N v0 σ) P) : Ev y M_m_isDigit 0 [.int v0] σ rvB P := by
  refine Ev.of mk_m_isDigit (Nat.le_of_ble_eq_true rfl) (fun x hx hc hr => ?_)
  have hx : Cx 10 prog_12_method_13_code x := hx
  have hc : Cc y 1 0 x := hc
  show G x 0 [some (.int v0)] [] σ
  unfold f_m_isDigit at h
  refine g_run hx [(.iload_n 0, 0, 0), (.bipush 48, 48, 0)] (pc' := 3) (lo' := [some (.int v0)]) (st' := [.int 48, .int v0]) (σ' := σ) (by decide +kernel) rfl rfl ?_
  refine g_ic_lt hx (off := 13) (tgt := 16) (by decide +kernel) (by decide) (fun c3 => ?_) (fun c3 => ?_)
  · have h := ok_t h c3
    refine g_run hx [(.iconst 0, 0, 0)] (pc' := 17) (lo' := [some (.int v0)]) (st' := [.int 0]) (σ' := σ) (by decide +kernel) rfl rfl ?_
    exact g_zret (b := false) hx hr rfl false rfl (by decide +kernel) (ok_some h)
  · have h := ok_f h c3
    refine g_run hx [(.iload_n 0, 0, 0), (.bipush 57, 57, 0)] (pc' := 9) (lo' := [some (.int v0)]) (st' := [.int 57, .int v0]) (σ' := σ) (by decide +kernel) rfl rfl ?_
    refine g_ic_gt hx (off := 7) (tgt := 16) (by decide +kernel) (by decide) (fun c9 => ?_) (fun c9 => ?_)
    · have h := ok_t h c9
      refine g_run hx [(.iconst 0, 0, 0)] (pc' := 17) (lo' := [some (.int v0)]) (st' := [.int 0]) (σ' := σ) (by decide +kernel) rfl rfl ?_
      exact g_zret (b := false) hx hr rfl false rfl (by decide +kernel) (ok_some h)
    · have h := ok_f h c9
      refine g_run hx [(.iconst 1, 1, 0)] (pc' := 13) (lo' := [some (.int v0)]) (st' := [.int 1]) (σ' := σ) (by decide +kernel) rfl rfl ?_
      refine g_goto hx (off := 4) (tgt := 17) (by decide +kernel) (by decide) ?_
      exact g_zret (b := true) hx hr rfl true rfl (by decide +kernel) (ok_some h)
def f_m_next_L5 (N : Nat) : Nat → Int32 → Sg → (Int32 → Sg → Option (Unit × Sg)) → Option (Unit × Sg)
  | 0, _, _, _ => none
  | n + 1, v1, σ, k21 =>
    (f_m_see N v1 σ).bind fun q1 =>
    if q1.1 = 32 then
      f_m_next_L5 N n (v1 + 1) q1.2 k21
    else
      k21 v1 q1.2
def f_m_next_L152 (N : Nat) : Nat → Int32 → Int32 → Sg → Option (Unit × Sg)
  | 0, _, _, _ => none
  | n + 1, v1, v3, σ =>
    (f_m_see N v1 σ).bind fun q6 =>
    (f_m_isDigit N q6.1 q6.2).bind fun q7 =>
    if q7.1 = true then
      if 3 ≤ v3 then
        f_m_next_L152 N n (v1 + 1) (v3 + 1) q7.2
      else
        (f_m_see N v1 q7.2).bind fun q8 =>
        f_m_next_L152 N n (v1 + 1) (v3 + 1) (sI q8.2 66 7 (((10 * (gI q7.2 66 7)) + q8.1) - 48))
    else
      if v3 ≤ 3 then
        some ((), sI (sI q7.2 66 5 v1) 66 6 3)
      else
        some ((), sI (sI q7.2 66 5 v1) 66 6 1)
def f_m_next_L67 (N : Nat) : Nat → Int32 → Sg → Option (Unit × Sg)
  | 0, _, _ => none
  | n + 1, v1, σ =>
    (f_m_see N v1 σ).bind fun q9 =>
    (f_m_isSmall N q9.1 q9.2).bind fun q10 =>
    if q10.1 = true then
      if 8 ≤ (gI q10.2 66 8) then
        f_m_next_L67 N n (v1 + 1) (sI q10.2 66 8 ((gI q10.2 66 8) + 1))
      else
        (f_m_see N v1 q10.2).bind fun q11 =>
        if vin (gI q10.2 66 8) 8 then
        f_m_next_L67 N n (v1 + 1) (sI (sA q11.2 68 (gI q10.2 66 8) q11.1) 66 8 ((gI (sA q11.2 68 (gI q10.2 66 8) q11.1) 66 8) + 1))
        else none
    else
      if (gI (sI q10.2 66 5 v1) 66 8) ≤ 8 then
        some ((), sI (sI q10.2 66 5 v1) 66 6 2)
      else
        some ((), sI (sI q10.2 66 5 v1) 66 6 1)
def f_m_next (N : Nat) (σ : Sg) : Option (Unit × Sg) :=
  f_m_next_L5 N N (gI σ 66 5) σ
    (fun (w1 : Int32) (t2 : Sg) =>
      (f_m_see N w1 (sI t2 66 4 w1)).bind fun q3 =>
      if q3.1 = (-1) then
        some ((), sI (sI (sI (sI q3.2 66 8 0) 66 7 0) 66 6 0) 66 5 w1)
      else
        (f_m_isSmall N q3.1 (sI (sI q3.2 66 8 0) 66 7 0)).bind fun q4 =>
        if q4.1 = true then
          f_m_next_L67 N N w1 q4.2
        else
          (f_m_isDigit N q3.1 q4.2).bind fun q5 =>
          if q5.1 = true then
            f_m_next_L152 N N w1 0 q5.2
          else
            if q3.1 = 59 then
              some ((), sI (sI q5.2 66 5 (w1 + 1)) 66 6 q3.1)
            else
              some ((), sI (sI q5.2 66 5 (w1 + 1)) 66 6 1))
set_option maxRecDepth 100000 in
theorem s_m_next_L5 {y : EX} {N : Nat} {x : CX} {P : Unit × Sg → Prop} (hx : Cx 10 prog_12_method_14_code x) (hc : Cc y 4 1 x) (hr : Cr M_m_next rvN P x) : ∀ (n : Nat) (v1 : Int32) (σ : Sg) (k21 : Int32 → Sg → Option (Unit × Sg)) (hk21 : ∀ (w1 : Int32) (t : Sg), ok (k21 w1 t) P → G x 21 [some (.ref 66), some (.int w1), none, none] [] t), ok (f_m_next_L5 N n v1 σ k21) P → G x 5 [some (.ref 66), some (.int v1), none, none] [] σ := by
  intro n
  induction n with
  | zero => intro v1 σ k21 hk21 h; exact ok_none h
  | succ n ih =>
    intro v1 σ k21 hk21 h
    rw [f_m_next_L5] at h
    refine g_run hx [(.aload_n 0, 0, 0), (.iload_n 1, 0, 0)] (pc' := 7) (lo' := [some (.ref 66), some (.int v1), none, none]) (st' := [.int v1, .ref 66]) (σ' := σ) (by decide +kernel) rfl rfl ?_
    refine g_callV (rest := []) [.int v1] hx hc mk_m_see ln_10_83 rfl (by decide +kernel) (by decide) (Nat.le_of_ble_eq_true rfl) (s_m_see (ok_b h)) (fun r1 s1 h => ?_)
    refine g_run hx [(.bipush 32, 32, 0)] (pc' := 12) (lo' := [some (.ref 66), some (.int v1), none, none]) (st' := [.int 32, .int r1]) (σ' := s1) (by decide +kernel) rfl rfl ?_
    refine g_ic_ne hx (off := 9) (tgt := 21) (by decide +kernel) (by decide) (fun c12 => ?_) (fun c12 => ?_)
    · have h := ok_f h c12
      exact hk21 _ _ h
    · have h := ok_t h c12
      refine g_run hx [(.iinc 1 1, 1, 0)] (pc' := 18) (lo' := [some (.ref 66), some (.int (v1 + 1)), none, none]) (st' := []) (σ' := s1) (by decide +kernel) rfl rfl ?_
      refine g_goto hx (off := (-13)) (tgt := 5) (by decide +kernel) (by decide) ?_
      exact ih _ _ _ hk21 h
set_option maxRecDepth 100000 in
theorem s_m_next_L152 {y : EX} {N : Nat} {x : CX} {P : Unit × Sg → Prop} (hx : Cx 10 prog_12_method_14_code x) (hc : Cc y 4 1 x) (hr : Cr M_m_next rvN P x) : ∀ (n : Nat) (v1 : Int32) (v3 : Int32) (σ : Sg), ok (f_m_next_L152 N n v1 v3 σ) P → G x 152 [some (.ref 66), some (.int v1), none, some (.int v3)] [] σ := by
  intro n
  induction n with
  | zero => intro v1 v3 σ h; exact ok_none h
  | succ n ih =>
    intro v1 v3 σ h
    rw [f_m_next_L152] at h
    refine g_run hx [(.aload_n 0, 0, 0), (.iload_n 1, 0, 0)] (pc' := 154) (lo' := [some (.ref 66), some (.int v1), none, some (.int v3)]) (st' := [.int v1, .ref 66]) (σ' := σ) (by decide +kernel) rfl rfl ?_
    refine g_callV (rest := []) [.int v1] hx hc mk_m_see ln_10_83 rfl (by decide +kernel) (by decide) (Nat.le_of_ble_eq_true rfl) (s_m_see (ok_b h)) (fun r6 s6 h => ?_)
    refine g_callS (rest := []) [.int r6] hx hc mk_m_isDigit ln_10_103 (by decide +kernel) (by decide) (Nat.le_of_ble_eq_true rfl) (s_m_isDigit (ok_b h)) (fun r7 s7 h => ?_)
    refine g_ifb_eq hx (off := 37) (tgt := 197) (by decide +kernel) (by decide) (fun c160 => ?_) (fun c160 => ?_)
    · have h := ok_f h c160
      refine g_run hx [(.aload_n 0, 0, 0), (.iload_n 1, 0, 0), (.putfield 80, 0, 0), (.aload_n 0, 0, 0), (.iload_n 3, 0, 0), (.iconst 3, 3, 0)] (pc' := 205) (lo' := [some (.ref 66), some (.int v1), none, some (.int v3)]) (st' := [.int 3, .int v3, .ref 66]) (σ' := sI s7 66 5 v1) (by decide +kernel) rfl rfl ?_
      refine g_ic_le hx (off := 7) (tgt := 212) (by decide +kernel) (by decide) (fun c205 => ?_) (fun c205 => ?_)
      · have h := ok_t h c205
        refine g_run hx [(.iconst 3, 3, 0), (.putfield 96, 0, 0)] (pc' := 216) (lo' := [some (.ref 66), some (.int v1), none, some (.int v3)]) (st' := []) (σ' := sI (sI s7 66 5 v1) 66 6 3) (by decide +kernel) rfl rfl ?_
        refine g_goto hx (off := 25) (tgt := 241) (by decide +kernel) (by decide) ?_
        exact g_vret hx hr rfl () rfl (by decide +kernel) (ok_some h)
      · have h := ok_f h c205
        refine g_run hx [(.iconst 1, 1, 0)] (pc' := 209) (lo' := [some (.ref 66), some (.int v1), none, some (.int v3)]) (st' := [.int 1, .ref 66]) (σ' := sI s7 66 5 v1) (by decide +kernel) rfl rfl ?_
        refine g_goto hx (off := 4) (tgt := 213) (by decide +kernel) (by decide) ?_
        refine g_run hx [(.putfield 96, 0, 0)] (pc' := 216) (lo' := [some (.ref 66), some (.int v1), none, some (.int v3)]) (st' := []) (σ' := sI (sI s7 66 5 v1) 66 6 1) (by decide +kernel) rfl rfl ?_
        refine g_goto hx (off := 25) (tgt := 241) (by decide +kernel) (by decide) ?_
        exact g_vret hx hr rfl () rfl (by decide +kernel) (ok_some h)
    · have h := ok_t h c160
      refine g_run hx [(.iload_n 3, 0, 0), (.iconst 3, 3, 0)] (pc' := 165) (lo' := [some (.ref 66), some (.int v1), none, some (.int v3)]) (st' := [.int 3, .int v3]) (σ' := s7) (by decide +kernel) rfl rfl ?_
      refine g_ic_ge hx (off := 23) (tgt := 188) (by decide +kernel) (by decide) (fun c165 => ?_) (fun c165 => ?_)
      · have h := ok_t h c165
        refine g_run hx [(.iinc 3 1, 1, 0), (.iinc 1 1, 1, 0)] (pc' := 194) (lo' := [some (.ref 66), some (.int (v1 + 1)), none, some (.int (v3 + 1))]) (st' := []) (σ' := s7) (by decide +kernel) rfl rfl ?_
        refine g_goto hx (off := (-42)) (tgt := 152) (by decide +kernel) (by decide) ?_
        exact ih _ _ _ h
      · have h := ok_f h c165
        refine g_run hx [(.aload_n 0, 0, 0), (.bipush 10, 10, 0), (.aload_n 0, 0, 0), (.getfield 93, 0, 0), (.imul, 0, 0), (.aload_n 0, 0, 0), (.iload_n 1, 0, 0)] (pc' := 178) (lo' := [some (.ref 66), some (.int v1), none, some (.int v3)]) (st' := [.int v1, .ref 66, .int (10 * (gI s7 66 7)), .ref 66]) (σ' := s7) (by decide +kernel) rfl rfl ?_
        refine g_callV (rest := [.int (10 * (gI s7 66 7)), .ref 66]) [.int v1] hx hc mk_m_see ln_10_83 rfl (by decide +kernel) (by decide) (Nat.le_of_ble_eq_true rfl) (s_m_see (ok_b h)) (fun r8 s8 h => ?_)
        refine g_run hx [(.iadd, 0, 0), (.bipush 48, 48, 0), (.isub, 0, 0), (.putfield 93, 0, 0), (.iinc 3 1, 1, 0), (.iinc 1 1, 1, 0)] (pc' := 194) (lo' := [some (.ref 66), some (.int (v1 + 1)), none, some (.int (v3 + 1))]) (st' := []) (σ' := sI s8 66 7 (((10 * (gI s7 66 7)) + r8) - 48)) (by decide +kernel) rfl rfl ?_
        refine g_goto hx (off := (-42)) (tgt := 152) (by decide +kernel) (by decide) ?_
        exact ih _ _ _ h
set_option maxRecDepth 100000 in
theorem s_m_next_L67 {y : EX} {N : Nat} {x : CX} {P : Unit × Sg → Prop} (hx : Cx 10 prog_12_method_14_code x) (hc : Cc y 4 1 x) (hr : Cr M_m_next rvN P x) : ∀ (n : Nat) (v1 : Int32) (σ : Sg), ok (f_m_next_L67 N n v1 σ) P → G x 67 [some (.ref 66), some (.int v1), none, none] [] σ := by
  intro n
  induction n with
  | zero => intro v1 σ h; exact ok_none h
  | succ n ih =>
    intro v1 σ h
    rw [f_m_next_L67] at h
    refine g_run hx [(.aload_n 0, 0, 0), (.iload_n 1, 0, 0)] (pc' := 69) (lo' := [some (.ref 66), some (.int v1), none, none]) (st' := [.int v1, .ref 66]) (σ' := σ) (by decide +kernel) rfl rfl ?_
    refine g_callV (rest := []) [.int v1] hx hc mk_m_see ln_10_83 rfl (by decide +kernel) (by decide) (Nat.le_of_ble_eq_true rfl) (s_m_see (ok_b h)) (fun r9 s9 h => ?_)
    refine g_callS (rest := []) [.int r9] hx hc mk_m_isSmall ln_10_99 (by decide +kernel) (by decide) (Nat.le_of_ble_eq_true rfl) (s_m_isSmall (ok_b h)) (fun r10 s10 h => ?_)
    refine g_ifb_eq hx (off := 42) (tgt := 117) (by decide +kernel) (by decide) (fun c75 => ?_) (fun c75 => ?_)
    · have h := ok_f h c75
      refine g_run hx [(.aload_n 0, 0, 0), (.iload_n 1, 0, 0), (.putfield 80, 0, 0), (.aload_n 0, 0, 0), (.aload_n 0, 0, 0), (.getfield 90, 0, 0), (.bipush 8, 8, 0)] (pc' := 129) (lo' := [some (.ref 66), some (.int v1), none, none]) (st' := [.int 8, .int (gI (sI s10 66 5 v1) 66 8), .ref 66]) (σ' := sI s10 66 5 v1) (by decide +kernel) rfl rfl ?_
      refine g_ic_le hx (off := 7) (tgt := 136) (by decide +kernel) (by decide) (fun c129 => ?_) (fun c129 => ?_)
      · have h := ok_t h c129
        refine g_run hx [(.iconst 2, 2, 0), (.putfield 96, 0, 0)] (pc' := 140) (lo' := [some (.ref 66), some (.int v1), none, none]) (st' := []) (σ' := sI (sI s10 66 5 v1) 66 6 2) (by decide +kernel) rfl rfl ?_
        refine g_goto hx (off := 101) (tgt := 241) (by decide +kernel) (by decide) ?_
        exact g_vret hx hr rfl () rfl (by decide +kernel) (ok_some h)
      · have h := ok_f h c129
        refine g_run hx [(.iconst 1, 1, 0)] (pc' := 133) (lo' := [some (.ref 66), some (.int v1), none, none]) (st' := [.int 1, .ref 66]) (σ' := sI s10 66 5 v1) (by decide +kernel) rfl rfl ?_
        refine g_goto hx (off := 4) (tgt := 137) (by decide +kernel) (by decide) ?_
        refine g_run hx [(.putfield 96, 0, 0)] (pc' := 140) (lo' := [some (.ref 66), some (.int v1), none, none]) (st' := []) (σ' := sI (sI s10 66 5 v1) 66 6 1) (by decide +kernel) rfl rfl ?_
        refine g_goto hx (off := 101) (tgt := 241) (by decide +kernel) (by decide) ?_
        exact g_vret hx hr rfl () rfl (by decide +kernel) (ok_some h)
    · have h := ok_t h c75
      refine g_run hx [(.aload_n 0, 0, 0), (.getfield 90, 0, 0), (.bipush 8, 8, 0)] (pc' := 84) (lo' := [some (.ref 66), some (.int v1), none, none]) (st' := [.int 8, .int (gI s10 66 8)]) (σ' := s10) (by decide +kernel) rfl rfl ?_
      refine g_ic_ge hx (off := 17) (tgt := 101) (by decide +kernel) (by decide) (fun c84 => ?_) (fun c84 => ?_)
      · have h := ok_t h c84
        refine g_run hx [(.aload_n 0, 0, 0), (.dup, 0, 0), (.getfield 90, 0, 0), (.iconst 1, 1, 0), (.iadd, 0, 0), (.putfield 90, 0, 0), (.iinc 1 1, 1, 0)] (pc' := 114) (lo' := [some (.ref 66), some (.int (v1 + 1)), none, none]) (st' := []) (σ' := sI s10 66 8 ((gI s10 66 8) + 1)) (by decide +kernel) rfl rfl ?_
        refine g_goto hx (off := (-47)) (tgt := 67) (by decide +kernel) (by decide) ?_
        exact ih _ _ h
      · have h := ok_f h c84
        refine g_run hx [(.aload_n 0, 0, 0), (.getfield 17, 0, 0), (.aload_n 0, 0, 0), (.getfield 90, 0, 0), (.aload_n 0, 0, 0), (.iload_n 1, 0, 0)] (pc' := 97) (lo' := [some (.ref 66), some (.int v1), none, none]) (st' := [.int v1, .ref 66, .int (gI s10 66 8), .ref 68]) (σ' := s10) (by decide +kernel) rfl rfl ?_
        refine g_callV (rest := [.int (gI s10 66 8), .ref 68]) [.int v1] hx hc mk_m_see ln_10_83 rfl (by decide +kernel) (by decide) (Nat.le_of_ble_eq_true rfl) (s_m_see (ok_b h)) (fun r11 s11 h => ?_)
        obtain ⟨c100, h⟩ := ok_g h
        refine g_iast hx (by decide +kernel) (i := 68) (n := 8) rfl c100 ?_
        refine g_run hx [(.aload_n 0, 0, 0), (.dup, 0, 0), (.getfield 90, 0, 0), (.iconst 1, 1, 0), (.iadd, 0, 0), (.putfield 90, 0, 0), (.iinc 1 1, 1, 0)] (pc' := 114) (lo' := [some (.ref 66), some (.int (v1 + 1)), none, none]) (st' := []) (σ' := sI (sA s11 68 (gI s10 66 8) r11) 66 8 ((gI (sA s11 68 (gI s10 66 8) r11) 66 8) + 1)) (by decide +kernel) rfl rfl ?_
        refine g_goto hx (off := (-47)) (tgt := 67) (by decide +kernel) (by decide) ?_
        exact ih _ _ h
set_option maxRecDepth 100000 in
theorem s_m_next {y : EX} {N : Nat} {σ : Sg} {P : Unit × Sg → Prop} (h : ok (f_m_next N σ) P) : Ev y M_m_next 1 [.ref 66] σ rvN P := by
  refine Ev.of mk_m_next (Nat.le_of_ble_eq_true rfl) (fun x hx hc hr => ?_)
  have hx : Cx 10 prog_12_method_14_code x := hx
  have hc : Cc y 4 1 x := hc
  show G x 0 [some (.ref 66), none, none, none] [] σ
  unfold f_m_next at h
  refine g_run hx [(.aload_n 0, 0, 0), (.getfield 80, 0, 0), (.istore_n 1, 0, 0)] (pc' := 5) (lo' := [some (.ref 66), some (.int (gI σ 66 5)), none, none]) (st' := []) (σ' := σ) (by decide +kernel) rfl rfl ?_
  refine s_m_next_L5 hx hc hr N _ _ _ (fun w1 t2 h => ?_) h
  refine g_run hx [(.aload_n 0, 0, 0), (.iload_n 1, 0, 0), (.putfield 87, 0, 0), (.aload_n 0, 0, 0), (.iload_n 1, 0, 0)] (pc' := 28) (lo' := [some (.ref 66), some (.int w1), none, none]) (st' := [.int w1, .ref 66]) (σ' := sI t2 66 4 w1) (by decide +kernel) rfl rfl ?_
  refine g_callV (rest := []) [.int w1] hx hc mk_m_see ln_10_83 rfl (by decide +kernel) (by decide) (Nat.le_of_ble_eq_true rfl) (s_m_see (ok_b h)) (fun r3 s3 h => ?_)
  refine g_run hx [(.istore_n 2, 0, 0), (.aload_n 0, 0, 0), (.iconst 0, 0, 0), (.putfield 90, 0, 0), (.aload_n 0, 0, 0), (.iconst 0, 0, 0), (.putfield 93, 0, 0), (.iload_n 2, 0, 0), (.iconst (-1), (-1), 0)] (pc' := 44) (lo' := [some (.ref 66), some (.int w1), some (.int r3), none]) (st' := [.int (-1), .int r3]) (σ' := sI (sI s3 66 8 0) 66 7 0) (by decide +kernel) rfl rfl ?_
  refine g_ic_ne hx (off := 16) (tgt := 60) (by decide +kernel) (by decide) (fun c44 => ?_) (fun c44 => ?_)
  · have h := ok_f h c44
    refine g_run hx [(.iload_n 2, 0, 0)] (pc' := 61) (lo' := [some (.ref 66), some (.int w1), some (.int r3), none]) (st' := [.int r3]) (σ' := sI (sI s3 66 8 0) 66 7 0) (by decide +kernel) rfl rfl ?_
    refine g_callS (rest := []) [.int r3] hx hc mk_m_isSmall ln_10_99 (by decide +kernel) (by decide) (Nat.le_of_ble_eq_true rfl) (s_m_isSmall (ok_b h)) (fun r4 s4 h => ?_)
    refine g_ifb_eq hx (off := 79) (tgt := 143) (by decide +kernel) (by decide) (fun c64 => ?_) (fun c64 => ?_)
    · have h := ok_f h c64
      refine g_run hx [(.iload_n 2, 0, 0)] (pc' := 144) (lo' := [some (.ref 66), some (.int w1), some (.int r3), none]) (st' := [.int r3]) (σ' := s4) (by decide +kernel) rfl rfl ?_
      refine g_callS (rest := []) [.int r3] hx hc mk_m_isDigit ln_10_103 (by decide +kernel) (by decide) (Nat.le_of_ble_eq_true rfl) (s_m_isDigit (ok_b h)) (fun r5 s5 h => ?_)
      refine g_ifb_eq hx (off := 72) (tgt := 219) (by decide +kernel) (by decide) (fun c147 => ?_) (fun c147 => ?_)
      · have h := ok_f h c147
        refine g_run hx [(.aload_n 0, 0, 0), (.iload_n 1, 0, 0), (.iconst 1, 1, 0), (.iadd, 0, 0), (.putfield 80, 0, 0), (.aload_n 0, 0, 0), (.iload_n 2, 0, 0), (.bipush 59, 59, 0)] (pc' := 230) (lo' := [some (.ref 66), some (.int w1), some (.int r3), none]) (st' := [.int 59, .int r3, .ref 66]) (σ' := sI s5 66 5 (w1 + 1)) (by decide +kernel) rfl rfl ?_
        refine g_ic_ne hx (off := 7) (tgt := 237) (by decide +kernel) (by decide) (fun c230 => ?_) (fun c230 => ?_)
        · have h := ok_f h c230
          refine g_run hx [(.iconst 1, 1, 0), (.putfield 96, 0, 0)] (pc' := 241) (lo' := [some (.ref 66), some (.int w1), some (.int r3), none]) (st' := []) (σ' := sI (sI s5 66 5 (w1 + 1)) 66 6 1) (by decide +kernel) rfl rfl ?_
          exact g_vret hx hr rfl () rfl (by decide +kernel) (ok_some h)
        · have h := ok_t h c230
          refine g_run hx [(.iload_n 2, 0, 0)] (pc' := 234) (lo' := [some (.ref 66), some (.int w1), some (.int r3), none]) (st' := [.int r3, .ref 66]) (σ' := sI s5 66 5 (w1 + 1)) (by decide +kernel) rfl rfl ?_
          refine g_goto hx (off := 4) (tgt := 238) (by decide +kernel) (by decide) ?_
          refine g_run hx [(.putfield 96, 0, 0)] (pc' := 241) (lo' := [some (.ref 66), some (.int w1), some (.int r3), none]) (st' := []) (σ' := sI (sI s5 66 5 (w1 + 1)) 66 6 r3) (by decide +kernel) rfl rfl ?_
          exact g_vret hx hr rfl () rfl (by decide +kernel) (ok_some h)
      · have h := ok_t h c147
        refine g_run hx [(.iconst 0, 0, 0), (.istore_n 3, 0, 0)] (pc' := 152) (lo' := [some (.ref 66), some (.int w1), some (.int r3), some (.int 0)]) (st' := []) (σ' := s5) (by decide +kernel) rfl rfl ?_
        refine g_wk (lo' := [some (.ref 66), some (.int w1), none, some (.int 0)]) ⟨rfl, ⟨rfl, ⟨rfl, trivial⟩⟩⟩ ?_
        refine s_m_next_L152 hx hc hr N _ _ _ h
    · have h := ok_t h c64
      refine g_wk (lo' := [some (.ref 66), some (.int w1), none, none]) ⟨rfl, ⟨rfl, trivial⟩⟩ ?_
      refine s_m_next_L67 hx hc hr N _ _ h
  · have h := ok_t h c44
    refine g_run hx [(.aload_n 0, 0, 0), (.iconst 0, 0, 0), (.putfield 96, 0, 0), (.aload_n 0, 0, 0), (.iload_n 1, 0, 0), (.putfield 80, 0, 0)] (pc' := 57) (lo' := [some (.ref 66), some (.int w1), some (.int r3), none]) (st' := []) (σ' := sI (sI (sI (sI s3 66 8 0) 66 7 0) 66 6 0) 66 5 w1) (by decide +kernel) rfl rfl ?_
    refine g_goto hx (off := 184) (tgt := 241) (by decide +kernel) (by decide) ?_
    exact g_vret hx hr rfl () rfl (by decide +kernel) (ok_some h)
def f_js_coder (N : Nat) (w0 : Nat) (σ : Sg) : Option (Int32 × Sg) :=
  some (0, σ)
set_option maxRecDepth 100000 in
theorem s_js_coder {y : EX} {N : Nat} {w0 : Nat} (hw0 : w0 < 20) {σ : Sg} {P : Int32 × Sg → Prop} (h : ok (f_js_coder N w0 σ) P) : Ev y M_js_coder 0 [.ref (100 + w0)] σ rvI P := by
  refine Ev.of mk_js_coder (Nat.le_of_ble_eq_true rfl) (fun x hx hc hr => ?_)
  have hx : Cx 15 prog_21_method_152_code x := hx
  have hc : Cc y 1 0 x := hc
  show G x 0 [some (.ref (100 + w0))] [] σ
  unfold f_js_coder at h
  refine g_scmp hx hc (by decide +kernel) ?_
  refine g_if_eq hx (off := 10) (tgt := 13) (by decide +kernel) (by decide) (fun c => absurd c (by decide)) (fun _ => ?_)
  refine g_run hx [(.aload_n 0, 0, 0)] (pc' := 7) (lo' := [some (.ref (100 + w0))]) (st' := [.ref (100 + w0)]) (σ' := σ) (by decide +kernel) rfl rfl ?_
  refine g_scod hx hc hw0 (by decide +kernel) ?_
  refine g_goto hx (off := 4) (tgt := 14) (by decide +kernel) (by decide) ?_
  exact g_cret hx hr rfl (by decide) _ rfl (by decide +kernel) (ok_some h)
