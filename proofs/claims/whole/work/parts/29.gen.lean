def f_m_tour (N : Nat) (v1 : Int32) (σ : Sg) : Option (Int32 × Sg) :=
  (f_m_anew N σ).bind fun q1 =>
  (f_m_tourWhy N v1 q1.2).bind fun q2 =>
  if q2.1 = 0 then
    (f_m_seekTour N v1 q2.2).bind fun q3 =>
    some ((gI q3.2 66 42), q3.2)
  else
    (f_m_no N q2.1 q2.2).bind fun q4 =>
    some (q4.1, q4.2)
set_option maxRecDepth 100000 in
theorem s_m_tour {y : EX} {N : Nat} {v1 : Int32} {σ : Sg} {P : Int32 × Sg → Prop} (h : ok (f_m_tour N v1 σ) P) : Ev y M_m_tour 4 [.ref 66, .int v1] σ rvI P := by
  refine Ev.of mk_m_tour (Nat.le_of_ble_eq_true rfl) (fun x hx hc hr => ?_)
  have hx : Cx 10 prog_12_method_96_code x := hx
  have hc : Cc y 3 4 x := hc
  show G x 0 [some (.ref 66), some (.int v1), none] [] σ
  unfold f_m_tour at h
  refine g_run hx [(.aload_n 0, 0, 0)] (pc' := 1) (lo' := [some (.ref 66), some (.int v1), none]) (st' := [.ref 66]) (σ' := σ) (by decide +kernel) rfl rfl ?_
  refine g_callV (rest := []) [] hx hc mk_m_anew ln_10_174 rfl (by decide +kernel) (by decide) (Nat.le_of_ble_eq_true rfl) (s_m_anew (ok_b h)) (fun r1 s1 h => ?_)
  refine g_run hx [(.aload_n 0, 0, 0), (.iload_n 1, 0, 0)] (pc' := 6) (lo' := [some (.ref 66), some (.int v1), none]) (st' := [.int v1, .ref 66]) (σ' := s1) (by decide +kernel) rfl rfl ?_
  refine g_callV (rest := []) [.int v1] hx hc mk_m_tourWhy ln_10_378 rfl (by decide +kernel) (by decide) (Nat.le_of_ble_eq_true rfl) (s_m_tourWhy (ok_b h)) (fun r2 s2 h => ?_)
  refine g_run hx [(.istore_n 2, 0, 0), (.iload_n 2, 0, 0)] (pc' := 11) (lo' := [some (.ref 66), some (.int v1), some (.int r2)]) (st' := [.int r2]) (σ' := s2) (by decide +kernel) rfl rfl ?_
  refine g_if_eq hx (off := 9) (tgt := 20) (by decide +kernel) (by decide) (fun c11 => ?_) (fun c11 => ?_)
  · have h := ok_t h c11
    refine g_run hx [(.aload_n 0, 0, 0), (.iload_n 1, 0, 0)] (pc' := 22) (lo' := [some (.ref 66), some (.int v1), some (.int r2)]) (st' := [.int v1, .ref 66]) (σ' := s2) (by decide +kernel) rfl rfl ?_
    refine g_callV (rest := []) [.int v1] hx hc mk_m_seekTour ln_10_381 rfl (by decide +kernel) (by decide) (Nat.le_of_ble_eq_true rfl) (s_m_seekTour (ok_b h)) (fun r3 s3 h => ?_)
    refine g_run hx [(.aload_n 0, 0, 0), (.getfield 372, 0, 0)] (pc' := 29) (lo' := [some (.ref 66), some (.int v1), some (.int r2)]) (st' := [.int (gI s3 66 42)]) (σ' := s3) (by decide +kernel) rfl rfl ?_
    exact g_iret hx hr rfl _ rfl (by decide +kernel) (ok_some h)
  · have h := ok_f h c11
    refine g_run hx [(.aload_n 0, 0, 0), (.iload_n 2, 0, 0)] (pc' := 16) (lo' := [some (.ref 66), some (.int v1), some (.int r2)]) (st' := [.int r2, .ref 66]) (σ' := s2) (by decide +kernel) rfl rfl ?_
    refine g_callV (rest := []) [.int r2] hx hc mk_m_no ln_10_177 rfl (by decide +kernel) (by decide) (Nat.le_of_ble_eq_true rfl) (s_m_no (ok_b h)) (fun r4 s4 h => ?_)
    exact g_iret hx hr rfl _ rfl (by decide +kernel) (ok_some h)
def f_m_tourAt_L52 (N : Nat) : Nat → Int32 → Int32 → Int32 → Int32 → Sg → Option (Int32 × Sg)
  | 0, _, _, _, _, _ => none
  | n + 1, v1, v2, v4, v5, σ =>
    if v2 ≤ v5 then
      some (v4, σ)
    else
      (f_m_hasBit N (gI σ 66 41) ((v1 - 1) - v5) σ).bind fun q4 =>
      if q4.1 = true then
        f_m_tourAt_L52 N n v1 v2 (v4 + (-1)) (v5 + 1) q4.2
      else
        f_m_tourAt_L52 N n v1 v2 (v4 + 1) (v5 + 1) q4.2
def f_m_tourAt (N : Nat) (v1 : Int32) (v2 : Int32) (σ : Sg) : Option (Int32 × Sg) :=
  (f_m_anew N σ).bind fun q1 =>
  (f_m_tourWhy N v1 q1.2).bind fun q2 =>
  if q2.1 = 0 then
    (f_m_in N v2 0 v1 q2.2).bind fun q6 =>
    if q6.1 = true then
      if q2.1 = 0 then
        (f_m_seekTour N v1 q6.2).bind fun q7 =>
        f_m_tourAt_L52 N N v1 v2 (gA q7.2 74 61) 0 q7.2
      else
        (f_m_no N q2.1 q6.2).bind fun q8 =>
        some (q8.1, q8.2)
    else
      (f_m_no N 1 q6.2).bind fun q9 =>
      some (q9.1, q9.2)
  else
    if q2.1 = 0 then
      (f_m_seekTour N v1 q2.2).bind fun q3 =>
      f_m_tourAt_L52 N N v1 v2 (gA q3.2 74 61) 0 q3.2
    else
      (f_m_no N q2.1 q2.2).bind fun q5 =>
      some (q5.1, q5.2)
set_option maxRecDepth 100000 in
theorem s_m_tourAt_L52 {y : EX} {N : Nat} {x : CX} {P : Int32 × Sg → Prop} (hx : Cx 10 prog_12_method_98_code x) (hc : Cc y 6 4 x) (hr : Cr M_m_tourAt rvI P x) : ∀ (n : Nat) (v1 : Int32) (v2 : Int32) (v4 : Int32) (v5 : Int32) (σ : Sg), ok (f_m_tourAt_L52 N n v1 v2 v4 v5 σ) P → G x 52 [some (.ref 66), some (.int v1), some (.int v2), none, some (.int v4), some (.int v5)] [] σ := by
  intro n
  induction n with
  | zero => intro v1 v2 v4 v5 σ h; exact ok_none h
  | succ n ih =>
    intro v1 v2 v4 v5 σ h
    rw [f_m_tourAt_L52] at h
    refine g_run hx [(.iload 5, 0, 0), (.iload_n 2, 0, 0)] (pc' := 55) (lo' := [some (.ref 66), some (.int v1), some (.int v2), none, some (.int v4), some (.int v5)]) (st' := [.int v2, .int v5]) (σ' := σ) (by decide +kernel) rfl rfl ?_
    refine g_ic_ge hx (off := 35) (tgt := 90) (by decide +kernel) (by decide) (fun c55 => ?_) (fun c55 => ?_)
    · have h := ok_t h c55
      refine g_run hx [(.iload 4, 0, 0)] (pc' := 92) (lo' := [some (.ref 66), some (.int v1), some (.int v2), none, some (.int v4), some (.int v5)]) (st' := [.int v4]) (σ' := σ) (by decide +kernel) rfl rfl ?_
      exact g_iret hx hr rfl _ rfl (by decide +kernel) (ok_some h)
    · have h := ok_f h c55
      refine g_run hx [(.iload 4, 0, 0), (.aload_n 0, 0, 0), (.getfield 365, 0, 0), (.iload_n 1, 0, 0), (.iconst 1, 1, 0), (.isub, 0, 0), (.iload 5, 0, 0), (.isub, 0, 0)] (pc' := 70) (lo' := [some (.ref 66), some (.int v1), some (.int v2), none, some (.int v4), some (.int v5)]) (st' := [.int ((v1 - 1) - v5), .int (gI σ 66 41), .int v4]) (σ' := σ) (by decide +kernel) rfl rfl ?_
      refine g_callS (rest := [.int v4]) [.int (gI σ 66 41), .int ((v1 - 1) - v5)] hx hc mk_m_hasBit ln_10_384 (by decide +kernel) (by decide) (Nat.le_of_ble_eq_true rfl) (s_m_hasBit (ok_b h)) (fun r4 s4 h => ?_)
      refine g_ifb_eq hx (off := 7) (tgt := 80) (by decide +kernel) (by decide) (fun c73 => ?_) (fun c73 => ?_)
      · have h := ok_f h c73
        refine g_run hx [(.iconst 1, 1, 0), (.iadd, 0, 0), (.istore 4, 0, 0), (.iinc 5 1, 1, 0)] (pc' := 87) (lo' := [some (.ref 66), some (.int v1), some (.int v2), none, some (.int (v4 + 1)), some (.int (v5 + 1))]) (st' := []) (σ' := s4) (by decide +kernel) rfl rfl ?_
        refine g_goto hx (off := (-35)) (tgt := 52) (by decide +kernel) (by decide) ?_
        exact ih _ _ _ _ _ h
      · have h := ok_t h c73
        refine g_run hx [(.iconst (-1), (-1), 0)] (pc' := 77) (lo' := [some (.ref 66), some (.int v1), some (.int v2), none, some (.int v4), some (.int v5)]) (st' := [.int (-1), .int v4]) (σ' := s4) (by decide +kernel) rfl rfl ?_
        refine g_goto hx (off := 4) (tgt := 81) (by decide +kernel) (by decide) ?_
        refine g_run hx [(.iadd, 0, 0), (.istore 4, 0, 0), (.iinc 5 1, 1, 0)] (pc' := 87) (lo' := [some (.ref 66), some (.int v1), some (.int v2), none, some (.int (v4 + (-1))), some (.int (v5 + 1))]) (st' := []) (σ' := s4) (by decide +kernel) rfl rfl ?_
        refine g_goto hx (off := (-35)) (tgt := 52) (by decide +kernel) (by decide) ?_
        exact ih _ _ _ _ _ h
set_option maxRecDepth 100000 in
theorem s_m_tourAt {y : EX} {N : Nat} {v1 : Int32} {v2 : Int32} {σ : Sg} {P : Int32 × Sg → Prop} (h : ok (f_m_tourAt N v1 v2 σ) P) : Ev y M_m_tourAt 4 [.ref 66, .int v1, .int v2] σ rvI P := by
  refine Ev.of mk_m_tourAt (Nat.le_of_ble_eq_true rfl) (fun x hx hc hr => ?_)
  have hx : Cx 10 prog_12_method_98_code x := hx
  have hc : Cc y 6 4 x := hc
  show G x 0 [some (.ref 66), some (.int v1), some (.int v2), none, none, none] [] σ
  unfold f_m_tourAt at h
  refine g_run hx [(.aload_n 0, 0, 0)] (pc' := 1) (lo' := [some (.ref 66), some (.int v1), some (.int v2), none, none, none]) (st' := [.ref 66]) (σ' := σ) (by decide +kernel) rfl rfl ?_
  refine g_callV (rest := []) [] hx hc mk_m_anew ln_10_174 rfl (by decide +kernel) (by decide) (Nat.le_of_ble_eq_true rfl) (s_m_anew (ok_b h)) (fun r1 s1 h => ?_)
  refine g_run hx [(.aload_n 0, 0, 0), (.iload_n 1, 0, 0)] (pc' := 6) (lo' := [some (.ref 66), some (.int v1), some (.int v2), none, none, none]) (st' := [.int v1, .ref 66]) (σ' := s1) (by decide +kernel) rfl rfl ?_
  refine g_callV (rest := []) [.int v1] hx hc mk_m_tourWhy ln_10_378 rfl (by decide +kernel) (by decide) (Nat.le_of_ble_eq_true rfl) (s_m_tourWhy (ok_b h)) (fun r2 s2 h => ?_)
  refine g_run hx [(.istore_n 3, 0, 0), (.iload_n 3, 0, 0)] (pc' := 11) (lo' := [some (.ref 66), some (.int v1), some (.int v2), some (.int r2), none, none]) (st' := [.int r2]) (σ' := s2) (by decide +kernel) rfl rfl ?_
  refine g_if_ne hx (off := 14) (tgt := 25) (by decide +kernel) (by decide) (fun c11 => ?_) (fun c11 => ?_)
  · have h := ok_f h c11
    refine g_run hx [(.iload_n 3, 0, 0)] (pc' := 26) (lo' := [some (.ref 66), some (.int v1), some (.int v2), some (.int r2), none, none]) (st' := [.int r2]) (σ' := s2) (by decide +kernel) rfl rfl ?_
    refine g_if_eq hx (off := 9) (tgt := 35) (by decide +kernel) (by decide) (fun c26 => ?_) (fun c26 => ?_)
    · have h := ok_t h c26
      refine g_run hx [(.aload_n 0, 0, 0), (.iload_n 1, 0, 0)] (pc' := 37) (lo' := [some (.ref 66), some (.int v1), some (.int v2), some (.int r2), none, none]) (st' := [.int v1, .ref 66]) (σ' := s2) (by decide +kernel) rfl rfl ?_
      refine g_callV (rest := []) [.int v1] hx hc mk_m_seekTour ln_10_381 rfl (by decide +kernel) (by decide) (Nat.le_of_ble_eq_true rfl) (s_m_seekTour (ok_b h)) (fun r3 s3 h => ?_)
      refine g_run hx [(.aload_n 0, 0, 0), (.getfield 35, 0, 0), (.bipush 61, 61, 0), (.iaload, 0, 0), (.istore 4, 0, 0), (.iconst 0, 0, 0), (.istore 5, 0, 0)] (pc' := 52) (lo' := [some (.ref 66), some (.int v1), some (.int v2), some (.int r2), some (.int (gA s3 74 61)), some (.int 0)]) (st' := []) (σ' := s3) (by decide +kernel) rfl rfl ?_
      refine g_wk (lo' := [some (.ref 66), some (.int v1), some (.int v2), none, some (.int (gA s3 74 61)), some (.int 0)]) ⟨rfl, ⟨rfl, ⟨rfl, ⟨rfl, ⟨rfl, trivial⟩⟩⟩⟩⟩ ?_
      refine s_m_tourAt_L52 hx hc hr N _ _ _ _ _ h
    · have h := ok_f h c26
      refine g_run hx [(.aload_n 0, 0, 0), (.iload_n 3, 0, 0)] (pc' := 31) (lo' := [some (.ref 66), some (.int v1), some (.int v2), some (.int r2), none, none]) (st' := [.int r2, .ref 66]) (σ' := s2) (by decide +kernel) rfl rfl ?_
      refine g_callV (rest := []) [.int r2] hx hc mk_m_no ln_10_177 rfl (by decide +kernel) (by decide) (Nat.le_of_ble_eq_true rfl) (s_m_no (ok_b h)) (fun r5 s5 h => ?_)
      exact g_iret hx hr rfl _ rfl (by decide +kernel) (ok_some h)
  · have h := ok_t h c11
    refine g_run hx [(.iload_n 2, 0, 0), (.iconst 0, 0, 0), (.iload_n 1, 0, 0)] (pc' := 17) (lo' := [some (.ref 66), some (.int v1), some (.int v2), some (.int r2), none, none]) (st' := [.int v1, .int 0, .int v2]) (σ' := s2) (by decide +kernel) rfl rfl ?_
    refine g_callS (rest := []) [.int v2, .int 0, .int v1] hx hc mk_m_in ln_10_156 (by decide +kernel) (by decide) (Nat.le_of_ble_eq_true rfl) (s_m_in (ok_b h)) (fun r6 s6 h => ?_)
    refine g_ifb_ne hx (off := 5) (tgt := 25) (by decide +kernel) (by decide) (fun c20 => ?_) (fun c20 => ?_)
    · have h := ok_t h c20
      refine g_run hx [(.iload_n 3, 0, 0)] (pc' := 26) (lo' := [some (.ref 66), some (.int v1), some (.int v2), some (.int r2), none, none]) (st' := [.int r2]) (σ' := s6) (by decide +kernel) rfl rfl ?_
      refine g_if_eq hx (off := 9) (tgt := 35) (by decide +kernel) (by decide) (fun c26 => ?_) (fun c26 => ?_)
      · have h := ok_t h c26
        refine g_run hx [(.aload_n 0, 0, 0), (.iload_n 1, 0, 0)] (pc' := 37) (lo' := [some (.ref 66), some (.int v1), some (.int v2), some (.int r2), none, none]) (st' := [.int v1, .ref 66]) (σ' := s6) (by decide +kernel) rfl rfl ?_
        refine g_callV (rest := []) [.int v1] hx hc mk_m_seekTour ln_10_381 rfl (by decide +kernel) (by decide) (Nat.le_of_ble_eq_true rfl) (s_m_seekTour (ok_b h)) (fun r7 s7 h => ?_)
        refine g_run hx [(.aload_n 0, 0, 0), (.getfield 35, 0, 0), (.bipush 61, 61, 0), (.iaload, 0, 0), (.istore 4, 0, 0), (.iconst 0, 0, 0), (.istore 5, 0, 0)] (pc' := 52) (lo' := [some (.ref 66), some (.int v1), some (.int v2), some (.int r2), some (.int (gA s7 74 61)), some (.int 0)]) (st' := []) (σ' := s7) (by decide +kernel) rfl rfl ?_
        refine g_wk (lo' := [some (.ref 66), some (.int v1), some (.int v2), none, some (.int (gA s7 74 61)), some (.int 0)]) ⟨rfl, ⟨rfl, ⟨rfl, ⟨rfl, ⟨rfl, trivial⟩⟩⟩⟩⟩ ?_
        refine s_m_tourAt_L52 hx hc hr N _ _ _ _ _ h
      · have h := ok_f h c26
        refine g_run hx [(.aload_n 0, 0, 0), (.iload_n 3, 0, 0)] (pc' := 31) (lo' := [some (.ref 66), some (.int v1), some (.int v2), some (.int r2), none, none]) (st' := [.int r2, .ref 66]) (σ' := s6) (by decide +kernel) rfl rfl ?_
        refine g_callV (rest := []) [.int r2] hx hc mk_m_no ln_10_177 rfl (by decide +kernel) (by decide) (Nat.le_of_ble_eq_true rfl) (s_m_no (ok_b h)) (fun r8 s8 h => ?_)
        exact g_iret hx hr rfl _ rfl (by decide +kernel) (ok_some h)
    · have h := ok_f h c20
      refine g_run hx [(.iconst 1, 1, 0), (.istore_n 3, 0, 0), (.iload_n 3, 0, 0)] (pc' := 26) (lo' := [some (.ref 66), some (.int v1), some (.int v2), some (.int 1), none, none]) (st' := [.int 1]) (σ' := s6) (by decide +kernel) rfl rfl ?_
      refine g_if_eq hx (off := 9) (tgt := 35) (by decide +kernel) (by decide) (fun c => absurd c (by decide)) (fun _ => ?_)
      refine g_run hx [(.aload_n 0, 0, 0), (.iload_n 3, 0, 0)] (pc' := 31) (lo' := [some (.ref 66), some (.int v1), some (.int v2), some (.int 1), none, none]) (st' := [.int 1, .ref 66]) (σ' := s6) (by decide +kernel) rfl rfl ?_
      refine g_callV (rest := []) [.int 1] hx hc mk_m_no ln_10_177 rfl (by decide +kernel) (by decide) (Nat.le_of_ble_eq_true rfl) (s_m_no (ok_b h)) (fun r9 s9 h => ?_)
      exact g_iret hx hr rfl _ rfl (by decide +kernel) (ok_some h)
def f_m_tourGone (N : Nat) (v1 : Int32) (σ : Sg) : Option (Int32 × Sg) :=
  (f_m_anew N σ).bind fun q1 =>
  (f_m_tourWhy N v1 q1.2).bind fun q2 =>
  if q2.1 = 0 then
    (f_m_seekTour N v1 q2.2).bind fun q3 =>
    some ((gI q3.2 66 43), q3.2)
  else
    (f_m_no N q2.1 q2.2).bind fun q4 =>
    some (q4.1, q4.2)
set_option maxRecDepth 100000 in
theorem s_m_tourGone {y : EX} {N : Nat} {v1 : Int32} {σ : Sg} {P : Int32 × Sg → Prop} (h : ok (f_m_tourGone N v1 σ) P) : Ev y M_m_tourGone 4 [.ref 66, .int v1] σ rvI P := by
  refine Ev.of mk_m_tourGone (Nat.le_of_ble_eq_true rfl) (fun x hx hc hr => ?_)
  have hx : Cx 10 prog_12_method_97_code x := hx
  have hc : Cc y 3 4 x := hc
  show G x 0 [some (.ref 66), some (.int v1), none] [] σ
  unfold f_m_tourGone at h
  refine g_run hx [(.aload_n 0, 0, 0)] (pc' := 1) (lo' := [some (.ref 66), some (.int v1), none]) (st' := [.ref 66]) (σ' := σ) (by decide +kernel) rfl rfl ?_
  refine g_callV (rest := []) [] hx hc mk_m_anew ln_10_174 rfl (by decide +kernel) (by decide) (Nat.le_of_ble_eq_true rfl) (s_m_anew (ok_b h)) (fun r1 s1 h => ?_)
  refine g_run hx [(.aload_n 0, 0, 0), (.iload_n 1, 0, 0)] (pc' := 6) (lo' := [some (.ref 66), some (.int v1), none]) (st' := [.int v1, .ref 66]) (σ' := s1) (by decide +kernel) rfl rfl ?_
  refine g_callV (rest := []) [.int v1] hx hc mk_m_tourWhy ln_10_378 rfl (by decide +kernel) (by decide) (Nat.le_of_ble_eq_true rfl) (s_m_tourWhy (ok_b h)) (fun r2 s2 h => ?_)
  refine g_run hx [(.istore_n 2, 0, 0), (.iload_n 2, 0, 0)] (pc' := 11) (lo' := [some (.ref 66), some (.int v1), some (.int r2)]) (st' := [.int r2]) (σ' := s2) (by decide +kernel) rfl rfl ?_
  refine g_if_eq hx (off := 9) (tgt := 20) (by decide +kernel) (by decide) (fun c11 => ?_) (fun c11 => ?_)
  · have h := ok_t h c11
    refine g_run hx [(.aload_n 0, 0, 0), (.iload_n 1, 0, 0)] (pc' := 22) (lo' := [some (.ref 66), some (.int v1), some (.int r2)]) (st' := [.int v1, .ref 66]) (σ' := s2) (by decide +kernel) rfl rfl ?_
    refine g_callV (rest := []) [.int v1] hx hc mk_m_seekTour ln_10_381 rfl (by decide +kernel) (by decide) (Nat.le_of_ble_eq_true rfl) (s_m_seekTour (ok_b h)) (fun r3 s3 h => ?_)
    refine g_run hx [(.aload_n 0, 0, 0), (.getfield 375, 0, 0)] (pc' := 29) (lo' := [some (.ref 66), some (.int v1), some (.int r2)]) (st' := [.int (gI s3 66 43)]) (σ' := s3) (by decide +kernel) rfl rfl ?_
    exact g_iret hx hr rfl _ rfl (by decide +kernel) (ok_some h)
  · have h := ok_f h c11
    refine g_run hx [(.aload_n 0, 0, 0), (.iload_n 2, 0, 0)] (pc' := 16) (lo' := [some (.ref 66), some (.int v1), some (.int r2)]) (st' := [.int r2, .ref 66]) (σ' := s2) (by decide +kernel) rfl rfl ?_
    refine g_callV (rest := []) [.int r2] hx hc mk_m_no ln_10_177 rfl (by decide +kernel) (by decide) (Nat.le_of_ble_eq_true rfl) (s_m_no (ok_b h)) (fun r4 s4 h => ?_)
    exact g_iret hx hr rfl _ rfl (by decide +kernel) (ok_some h)
def f_m_trouble (N : Nat) (σ : Sg) : Option (Int32 × Sg) :=
  some ((gI (sI σ 66 0 0) 66 11), sI σ 66 0 0)
set_option maxRecDepth 100000 in
theorem s_m_trouble {y : EX} {N : Nat} {σ : Sg} {P : Int32 × Sg → Prop} (h : ok (f_m_trouble N σ) P) : Ev y M_m_trouble 0 [.ref 66] σ rvI P := by
  refine Ev.of mk_m_trouble (Nat.le_of_ble_eq_true rfl) (fun x hx hc hr => ?_)
  have hx : Cx 10 prog_12_method_130_code x := hx
  have hc : Cc y 1 0 x := hc
  show G x 0 [some (.ref 66)] [] σ
  unfold f_m_trouble at h
  refine g_run hx [(.aload_n 0, 0, 0), (.iconst 0, 0, 0), (.putfield 68, 0, 0), (.aload_n 0, 0, 0), (.getfield 71, 0, 0)] (pc' := 9) (lo' := [some (.ref 66)]) (st' := [.int (gI (sI σ 66 0 0) 66 11)]) (σ' := sI σ 66 0 0) (by decide +kernel) rfl rfl ?_
  exact g_iret hx hr rfl _ rfl (by decide +kernel) (ok_some h)
set_option maxRecDepth 100000 in
theorem s_m_copy_76_74_L3 {y : EX} {N : Nat} {x : CX} {P : Unit × Sg → Prop} (hx : Cx 10 prog_12_method_8_code x) (hc : Cc y 6 0 x) (hr : Cr M_m_copy rvN P x) : ∀ (n : Nat) (v1 : Int32) (v3 : Int32) (v4 : Int32) (v5 : Int32) (σ : Sg), ok (f_m_copy_L3 N 1008 63 74 76 n v1 v3 v4 v5 σ) P → G x 3 [some (.ref 76), some (.int v1), some (.ref 74), some (.int v3), some (.int v4), some (.int v5)] [] σ := by
  intro n
  induction n with
  | zero => intro v1 v3 v4 v5 σ h; exact ok_none h
  | succ n ih =>
    intro v1 v3 v4 v5 σ h
    rw [f_m_copy_L3] at h
    refine g_run hx [(.iload 5, 0, 0), (.iload 4, 0, 0)] (pc' := 7) (lo' := [some (.ref 76), some (.int v1), some (.ref 74), some (.int v3), some (.int v4), some (.int v5)]) (st' := [.int v4, .int v5]) (σ' := σ) (by decide +kernel) rfl rfl ?_
    refine g_ic_ge hx (off := 21) (tgt := 28) (by decide +kernel) (by decide) (fun c7 => ?_) (fun c7 => ?_)
    · have h := ok_t h c7
      exact g_vret hx hr rfl () rfl (by decide +kernel) (ok_some h)
    · have h := ok_f h c7
      refine g_run hx [(.aload_n 2, 0, 0), (.iload_n 3, 0, 0), (.iload 5, 0, 0), (.iadd, 0, 0), (.aload_n 0, 0, 0), (.iload_n 1, 0, 0), (.iload 5, 0, 0), (.iadd, 0, 0)] (pc' := 20) (lo' := [some (.ref 76), some (.int v1), some (.ref 74), some (.int v3), some (.int v4), some (.int v5)]) (st' := [.int (v1 + v5), .ref 76, .int (v3 + v5), .ref 74]) (σ' := σ) (by decide +kernel) rfl rfl ?_
      obtain ⟨c20, h⟩ := ok_g h
      refine g_iald hx (by decide +kernel) (i := 76) (n := 1008) rfl c20 ?_
      obtain ⟨c21, h⟩ := ok_g h
      refine g_iast hx (by decide +kernel) (i := 74) (n := 63) rfl c21 ?_
      refine g_run hx [(.iinc 5 1, 1, 0)] (pc' := 25) (lo' := [some (.ref 76), some (.int v1), some (.ref 74), some (.int v3), some (.int v4), some (.int (v5 + 1))]) (st' := []) (σ' := sA σ 74 (v3 + v5) (gA σ 76 (v1 + v5))) (by decide +kernel) rfl rfl ?_
      refine g_goto hx (off := (-22)) (tgt := 3) (by decide +kernel) (by decide) ?_
      exact ih _ _ _ _ _ h
set_option maxRecDepth 100000 in
theorem s_m_copy_76_74 {y : EX} {N : Nat} {v1 : Int32} {v3 : Int32} {v4 : Int32} {σ : Sg} {P : Unit × Sg → Prop} (h : ok (f_m_copy N 1008 63 74 76 v1 v3 v4 σ) P) : Ev y M_m_copy 0 [.ref 76, .int v1, .ref 74, .int v3, .int v4] σ rvN P := by
  refine Ev.of mk_m_copy (Nat.le_of_ble_eq_true rfl) (fun x hx hc hr => ?_)
  have hx : Cx 10 prog_12_method_8_code x := hx
  have hc : Cc y 6 0 x := hc
  show G x 0 [some (.ref 76), some (.int v1), some (.ref 74), some (.int v3), some (.int v4), none] [] σ
  unfold f_m_copy at h
  refine g_run hx [(.iconst 0, 0, 0), (.istore 5, 0, 0)] (pc' := 3) (lo' := [some (.ref 76), some (.int v1), some (.ref 74), some (.int v3), some (.int v4), some (.int 0)]) (st' := []) (σ' := σ) (by decide +kernel) rfl rfl ?_
  refine s_m_copy_76_74_L3 hx hc hr N _ _ _ _ _ h
def f_m_undo (N : Nat) (σ : Sg) : Option (Bool × Sg) :=
  (f_m_anew N σ).bind fun q1 =>
  if (gI q1.2 66 24) = 0 then
    (f_m_isNot N 6 q1.2).bind fun q3 =>
    some (q3.1, q3.2)
  else
    (f_m_copy N 1008 63 74 76 (63 * (gI (sI q1.2 66 24 ((gI q1.2 66 24) - 1)) 66 24)) 0 63 (sI q1.2 66 24 ((gI q1.2 66 24) - 1))).bind fun q2 =>
    some (true, q2.2)
set_option maxRecDepth 100000 in
theorem s_m_undo {y : EX} {N : Nat} {σ : Sg} {P : Bool × Sg → Prop} (h : ok (f_m_undo N σ) P) : Ev y M_m_undo 1 [.ref 66] σ rvB P := by
  refine Ev.of mk_m_undo (Nat.le_of_ble_eq_true rfl) (fun x hx hc hr => ?_)
  have hx : Cx 10 prog_12_method_125_code x := hx
  have hc : Cc y 1 1 x := hc
  show G x 0 [some (.ref 66)] [] σ
  unfold f_m_undo at h
  refine g_run hx [(.aload_n 0, 0, 0)] (pc' := 1) (lo' := [some (.ref 66)]) (st' := [.ref 66]) (σ' := σ) (by decide +kernel) rfl rfl ?_
  refine g_callV (rest := []) [] hx hc mk_m_anew ln_10_174 rfl (by decide +kernel) (by decide) (Nat.le_of_ble_eq_true rfl) (s_m_anew (ok_b h)) (fun r1 s1 h => ?_)
  refine g_run hx [(.aload_n 0, 0, 0), (.getfield 190, 0, 0)] (pc' := 8) (lo' := [some (.ref 66)]) (st' := [.int (gI s1 66 24)]) (σ' := s1) (by decide +kernel) rfl rfl ?_
  refine g_if_ne hx (off := 10) (tgt := 18) (by decide +kernel) (by decide) (fun c8 => ?_) (fun c8 => ?_)
  · have h := ok_f h c8
    refine g_run hx [(.aload_n 0, 0, 0), (.dup, 0, 0), (.getfield 190, 0, 0), (.iconst 1, 1, 0), (.isub, 0, 0), (.putfield 190, 0, 0), (.aload_n 0, 0, 0), (.getfield 41, 0, 0), (.bipush 63, 63, 0), (.aload_n 0, 0, 0), (.getfield 190, 0, 0), (.imul, 0, 0), (.aload_n 0, 0, 0), (.getfield 35, 0, 0), (.iconst 0, 0, 0), (.bipush 63, 63, 0)] (pc' := 46) (lo' := [some (.ref 66)]) (st' := [.int 63, .int 0, .ref 74, .int (63 * (gI (sI s1 66 24 ((gI s1 66 24) - 1)) 66 24)), .ref 76]) (σ' := sI s1 66 24 ((gI s1 66 24) - 1)) (by decide +kernel) rfl rfl ?_
    refine g_callS (rest := []) [.ref 76, .int (63 * (gI (sI s1 66 24 ((gI s1 66 24) - 1)) 66 24)), .ref 74, .int 0, .int 63] hx hc mk_m_copy ln_10_183 (by decide +kernel) (by decide) (Nat.le_of_ble_eq_true rfl) (s_m_copy_76_74 (ok_b h)) (fun r2 s2 h => ?_)
    refine g_run hx [(.iconst 1, 1, 0)] (pc' := 50) (lo' := [some (.ref 66)]) (st' := [.int 1]) (σ' := s2) (by decide +kernel) rfl rfl ?_
    exact g_zret (b := true) hx hr rfl true rfl (by decide +kernel) (ok_some h)
  · have h := ok_t h c8
    refine g_run hx [(.aload_n 0, 0, 0), (.bipush 6, 6, 0)] (pc' := 14) (lo' := [some (.ref 66)]) (st' := [.int 6, .ref 66]) (σ' := s1) (by decide +kernel) rfl rfl ?_
    refine g_callV (rest := []) [.int 6] hx hc mk_m_isNot ln_10_440 rfl (by decide +kernel) (by decide) (Nat.le_of_ble_eq_true rfl) (s_m_isNot (ok_b h)) (fun r3 s3 h => ?_)
    exact g_zret hx hr rfl _ rfl (by decide +kernel) (ok_some h)
def f_m_where (N : Nat) (σ : Sg) : Option (Int32 × Sg) :=
  if (gI (sI σ 66 0 0) 66 11) = 4 then
    some ((gI (sI σ 66 0 0) 66 10), sI σ 66 0 0)
  else
    some ((-1), sI σ 66 0 0)
set_option maxRecDepth 100000 in
theorem s_m_where {y : EX} {N : Nat} {σ : Sg} {P : Int32 × Sg → Prop} (h : ok (f_m_where N σ) P) : Ev y M_m_where 0 [.ref 66] σ rvI P := by
  refine Ev.of mk_m_where (Nat.le_of_ble_eq_true rfl) (fun x hx hc hr => ?_)
  have hx : Cx 10 prog_12_method_38_code x := hx
  have hc : Cc y 1 0 x := hc
  show G x 0 [some (.ref 66)] [] σ
  unfold f_m_where at h
  refine g_run hx [(.aload_n 0, 0, 0), (.iconst 0, 0, 0), (.putfield 68, 0, 0), (.aload_n 0, 0, 0), (.getfield 71, 0, 0), (.iconst 4, 4, 0)] (pc' := 10) (lo' := [some (.ref 66)]) (st' := [.int 4, .int (gI (sI σ 66 0 0) 66 11)]) (σ' := sI σ 66 0 0) (by decide +kernel) rfl rfl ?_
  refine g_ic_ne hx (off := 10) (tgt := 20) (by decide +kernel) (by decide) (fun c10 => ?_) (fun c10 => ?_)
  · have h := ok_f h c10
    refine g_run hx [(.iconst (-1), (-1), 0)] (pc' := 21) (lo' := [some (.ref 66)]) (st' := [.int (-1)]) (σ' := sI σ 66 0 0) (by decide +kernel) rfl rfl ?_
    exact g_iret hx hr rfl _ rfl (by decide +kernel) (ok_some h)
  · have h := ok_t h c10
    refine g_run hx [(.aload_n 0, 0, 0), (.getfield 13, 0, 0)] (pc' := 17) (lo' := [some (.ref 66)]) (st' := [.int (gI (sI σ 66 0 0) 66 10)]) (σ' := sI σ 66 0 0) (by decide +kernel) rfl rfl ?_
    refine g_goto hx (off := 4) (tgt := 21) (by decide +kernel) (by decide) ?_
    exact g_iret hx hr rfl _ rfl (by decide +kernel) (ok_some h)
def f_m_widest (N : Nat) (σ : Sg) : Option (Int32 × Sg) :=
  (f_m_anew N σ).bind fun q1 =>
  if (gI q1.2 66 14) = 0 then
    (f_m_no N 1 q1.2).bind fun q3 =>
    some (q3.1, q3.2)
  else
    (f_m_seekRuns N 1 q1.2).bind fun q2 =>
    some ((gI q2.2 66 30), q2.2)
set_option maxRecDepth 100000 in
theorem s_m_widest {y : EX} {N : Nat} {σ : Sg} {P : Int32 × Sg → Prop} (h : ok (f_m_widest N σ) P) : Ev y M_m_widest 1 [.ref 66] σ rvI P := by
  refine Ev.of mk_m_widest (Nat.le_of_ble_eq_true rfl) (fun x hx hc hr => ?_)
  have hx : Cx 10 prog_12_method_63_code x := hx
  have hc : Cc y 1 1 x := hc
  show G x 0 [some (.ref 66)] [] σ
  unfold f_m_widest at h
  refine g_run hx [(.aload_n 0, 0, 0)] (pc' := 1) (lo' := [some (.ref 66)]) (st' := [.ref 66]) (σ' := σ) (by decide +kernel) rfl rfl ?_
  refine g_callV (rest := []) [] hx hc mk_m_anew ln_10_174 rfl (by decide +kernel) (by decide) (Nat.le_of_ble_eq_true rfl) (s_m_anew (ok_b h)) (fun r1 s1 h => ?_)
  refine g_run hx [(.aload_n 0, 0, 0), (.getfield 187, 0, 0)] (pc' := 8) (lo' := [some (.ref 66)]) (st' := [.int (gI s1 66 14)]) (σ' := s1) (by decide +kernel) rfl rfl ?_
  refine g_if_ne hx (off := 9) (tgt := 17) (by decide +kernel) (by decide) (fun c8 => ?_) (fun c8 => ?_)
  · have h := ok_f h c8
    refine g_run hx [(.aload_n 0, 0, 0), (.iconst 1, 1, 0)] (pc' := 19) (lo' := [some (.ref 66)]) (st' := [.int 1, .ref 66]) (σ' := s1) (by decide +kernel) rfl rfl ?_
    refine g_callV (rest := []) [.int 1] hx hc mk_m_seekRuns ln_10_306 rfl (by decide +kernel) (by decide) (Nat.le_of_ble_eq_true rfl) (s_m_seekRuns (ok_b h)) (fun r2 s2 h => ?_)
    refine g_run hx [(.aload_n 0, 0, 0), (.getfield 303, 0, 0)] (pc' := 26) (lo' := [some (.ref 66)]) (st' := [.int (gI s2 66 30)]) (σ' := s2) (by decide +kernel) rfl rfl ?_
    exact g_iret hx hr rfl _ rfl (by decide +kernel) (ok_some h)
  · have h := ok_t h c8
    refine g_run hx [(.aload_n 0, 0, 0), (.iconst 1, 1, 0)] (pc' := 13) (lo' := [some (.ref 66)]) (st' := [.int 1, .ref 66]) (σ' := s1) (by decide +kernel) rfl rfl ?_
    refine g_callV (rest := []) [.int 1] hx hc mk_m_no ln_10_177 rfl (by decide +kernel) (by decide) (Nat.le_of_ble_eq_true rfl) (s_m_no (ok_b h)) (fun r3 s3 h => ?_)
    exact g_iret hx hr rfl _ rfl (by decide +kernel) (ok_some h)
set_option maxRecDepth 100000 in
theorem s_m_yearOn_66_74_L9 {y : EX} {N : Nat} {x : CX} {P : Int32 × Sg → Prop} (hx : Cx 10 prog_12_method_47_code x) (hc : Cc y 5 0 x) (hr : Cr M_m_yearOn rvI P x) : ∀ (n : Nat) (v2 : Int32) (v3 : Int32) (σ : Sg) (k34 : Int32 → Sg → Option (Int32 × Sg)) (hk34 : ∀ (w2 : Int32) (t : Sg), ok (k34 w2 t) P → G x 34 [some (.ref 66), some (.ref 74), some (.int w2), none, none] [] t), ok (f_m_yearOn_L9 N 69 63 60 78 74 189 66 n v2 v3 σ k34) P → G x 9 [some (.ref 66), some (.ref 74), some (.int v2), some (.int v3), none] [] σ := by
  intro n
  induction n with
  | zero => intro v2 v3 σ k34 hk34 h; exact ok_none h
  | succ n ih =>
    intro v2 v3 σ k34 hk34 h
    rw [f_m_yearOn_L9] at h
    refine g_run hx [(.iload_n 3, 0, 0), (.aload_n 0, 0, 0), (.getfield 20, 0, 0), (.iconst 0, 0, 0), (.iaload, 0, 0)] (pc' := 16) (lo' := [some (.ref 66), some (.ref 74), some (.int v2), some (.int v3), none]) (st' := [.int (gA σ 69 0), .int v3]) (σ' := σ) (by decide +kernel) rfl rfl ?_
    refine g_ic_ge hx (off := 18) (tgt := 34) (by decide +kernel) (by decide) (fun c16 => ?_) (fun c16 => ?_)
    · have h := ok_t h c16
      refine g_wk (lo' := [some (.ref 66), some (.ref 74), some (.int v2), none, none]) ⟨rfl, ⟨rfl, ⟨rfl, trivial⟩⟩⟩ ?_
      exact hk34 _ _ h
    · have h := ok_f h c16
      refine g_run hx [(.aload_n 0, 0, 0), (.getfield 47, 0, 0), (.iload_n 3, 0, 0), (.aload_n 1, 0, 0), (.iload_n 3, 0, 0)] (pc' := 26) (lo' := [some (.ref 66), some (.ref 74), some (.int v2), some (.int v3), none]) (st' := [.int v3, .ref 74, .int v3, .ref 78]) (σ' := σ) (by decide +kernel) rfl rfl ?_
      obtain ⟨c26, h⟩ := ok_g h
      refine g_iald hx (by decide +kernel) (i := 74) (n := 63) rfl c26 ?_
      obtain ⟨c27, h⟩ := ok_g h
      refine g_iast hx (by decide +kernel) (i := 78) (n := 60) rfl c27 ?_
      refine g_run hx [(.iinc 3 1, 1, 0)] (pc' := 31) (lo' := [some (.ref 66), some (.ref 74), some (.int v2), some (.int (v3 + 1)), none]) (st' := []) (σ' := sA σ 78 v3 (gA σ 74 v3)) (by decide +kernel) rfl rfl ?_
      refine g_goto hx (off := (-22)) (tgt := 9) (by decide +kernel) (by decide) ?_
      exact ih _ _ _ _ hk34 h
set_option maxRecDepth 100000 in
theorem s_m_yearOn_66_74_L36 {y : EX} {N : Nat} {x : CX} {P : Int32 × Sg → Prop} (hx : Cx 10 prog_12_method_47_code x) (hc : Cc y 5 0 x) (hr : Cr M_m_yearOn rvI P x) : ∀ (n : Nat) (v2 : Int32) (v3 : Int32) (σ : Sg), ok (f_m_yearOn_L36 N 69 63 60 78 74 189 66 n v2 v3 σ) P → G x 36 [some (.ref 66), some (.ref 74), some (.int v2), some (.int v3), none] [] σ := by
  intro n
  induction n with
  | zero => intro v2 v3 σ h; exact ok_none h
  | succ n ih =>
    intro v2 v3 σ h
    rw [f_m_yearOn_L36] at h
    refine g_run hx [(.iload_n 3, 0, 0), (.aload_n 0, 0, 0), (.getfield 20, 0, 0), (.iconst 0, 0, 0), (.iaload, 0, 0)] (pc' := 43) (lo' := [some (.ref 66), some (.ref 74), some (.int v2), some (.int v3), none]) (st' := [.int (gA σ 69 0), .int v3]) (σ' := σ) (by decide +kernel) rfl rfl ?_
    refine g_ic_ge hx (off := 111) (tgt := 154) (by decide +kernel) (by decide) (fun c43 => ?_) (fun c43 => ?_)
    · have h := ok_t h c43
      refine g_run hx [(.aload_n 1, 0, 0), (.bipush 62, 62, 0), (.dup2, 0, 0), (.iaload, 0, 0), (.iconst 1, 1, 0), (.iadd, 0, 0), (.iastore, 0, 0), (.iload_n 2, 0, 0)] (pc' := 163) (lo' := [some (.ref 66), some (.ref 74), some (.int v2), some (.int v3), none]) (st' := [.int v2]) (σ' := sA σ 74 62 ((gA σ 74 62) + 1)) (by decide +kernel) rfl rfl ?_
      exact g_iret hx hr rfl _ rfl (by decide +kernel) (ok_some h)
    · have h := ok_f h c43
      refine g_run hx [(.iload_n 3, 0, 0)] (pc' := 47) (lo' := [some (.ref 66), some (.ref 74), some (.int v2), some (.int v3), none]) (st' := [.int v3]) (σ' := σ) (by decide +kernel) rfl rfl ?_
      refine g_if_le hx (off := 14) (tgt := 61) (by decide +kernel) (by decide) (fun c47 => ?_) (fun c47 => ?_)
      · have h := ok_t h c47
        refine g_run hx [(.iload_n 3, 0, 0), (.iconst 1, 1, 0), (.iadd, 0, 0), (.aload_n 0, 0, 0), (.getfield 20, 0, 0), (.iconst 0, 0, 0), (.iaload, 0, 0)] (pc' := 70) (lo' := [some (.ref 66), some (.ref 74), some (.int v2), some (.int v3), none]) (st' := [.int (gA σ 69 0), .int (v3 + 1)]) (σ' := σ) (by decide +kernel) rfl rfl ?_
        refine g_ic_ge hx (off := 18) (tgt := 88) (by decide +kernel) (by decide) (fun c70 => ?_) (fun c70 => ?_)
        · have h := ok_t h c70
          refine g_run hx [(.iconst 0, 0, 0), (.istore 4, 0, 0), (.aload_n 0, 0, 0), (.getfield 47, 0, 0), (.iload_n 3, 0, 0)] (pc' := 96) (lo' := [some (.ref 66), some (.ref 74), some (.int v2), some (.int v3), some (.int 0)]) (st' := [.int v3, .ref 78]) (σ' := σ) (by decide +kernel) rfl rfl ?_
          obtain ⟨c96, h⟩ := ok_g h
          refine g_iald hx (by decide +kernel) (i := 78) (n := 60) rfl c96 ?_
          refine g_if_eq hx (off := 51) (tgt := 148) (by decide +kernel) (by decide) (fun c97 => ?_) (fun c97 => ?_)
          · have h := ok_t h c97
            refine g_run hx [(.iinc 3 1, 1, 0)] (pc' := 151) (lo' := [some (.ref 66), some (.ref 74), some (.int v2), some (.int (v3 + 1)), some (.int 0)]) (st' := []) (σ' := σ) (by decide +kernel) rfl rfl ?_
            refine g_goto hx (off := (-115)) (tgt := 36) (by decide +kernel) (by decide) ?_
            refine g_wk (lo' := [some (.ref 66), some (.ref 74), some (.int v2), some (.int (v3 + 1)), none]) ⟨rfl, ⟨rfl, ⟨rfl, ⟨rfl, trivial⟩⟩⟩⟩ ?_
            exact ih _ _ _ h
          · have h := ok_f h c97
            refine g_run hx [(.iload 4, 0, 0)] (pc' := 102) (lo' := [some (.ref 66), some (.ref 74), some (.int v2), some (.int v3), some (.int 0)]) (st' := [.int 0]) (σ' := σ) (by decide +kernel) rfl rfl ?_
            refine g_if_eq hx (off := 46) (tgt := 148) (by decide +kernel) (by decide) (fun _ => ?_) (fun c => absurd c (by decide))
            refine g_run hx [(.iinc 3 1, 1, 0)] (pc' := 151) (lo' := [some (.ref 66), some (.ref 74), some (.int v2), some (.int (v3 + 1)), some (.int 0)]) (st' := []) (σ' := σ) (by decide +kernel) rfl rfl ?_
            refine g_goto hx (off := (-115)) (tgt := 36) (by decide +kernel) (by decide) ?_
            refine g_wk (lo' := [some (.ref 66), some (.ref 74), some (.int v2), some (.int (v3 + 1)), none]) ⟨rfl, ⟨rfl, ⟨rfl, ⟨rfl, trivial⟩⟩⟩⟩ ?_
            exact ih _ _ _ h
        · have h := ok_f h c70
          refine g_run hx [(.aload_n 0, 0, 0), (.getfield 47, 0, 0), (.iload_n 3, 0, 0), (.iconst 1, 1, 0), (.iadd, 0, 0)] (pc' := 80) (lo' := [some (.ref 66), some (.ref 74), some (.int v2), some (.int v3), none]) (st' := [.int (v3 + 1), .ref 78]) (σ' := σ) (by decide +kernel) rfl rfl ?_
          obtain ⟨c80, h⟩ := ok_g h
          refine g_iald hx (by decide +kernel) (i := 78) (n := 60) rfl c80 ?_
          refine g_if_ne hx (off := 7) (tgt := 88) (by decide +kernel) (by decide) (fun c81 => ?_) (fun c81 => ?_)
          · have h := ok_f h c81
            refine g_run hx [(.iconst 0, 0, 0), (.istore 4, 0, 0), (.aload_n 0, 0, 0), (.getfield 47, 0, 0), (.iload_n 3, 0, 0)] (pc' := 96) (lo' := [some (.ref 66), some (.ref 74), some (.int v2), some (.int v3), some (.int 0)]) (st' := [.int v3, .ref 78]) (σ' := σ) (by decide +kernel) rfl rfl ?_
            obtain ⟨c96, h⟩ := ok_g h
            refine g_iald hx (by decide +kernel) (i := 78) (n := 60) rfl c96 ?_
            refine g_if_eq hx (off := 51) (tgt := 148) (by decide +kernel) (by decide) (fun c97 => ?_) (fun c97 => ?_)
            · have h := ok_t h c97
              refine g_run hx [(.iinc 3 1, 1, 0)] (pc' := 151) (lo' := [some (.ref 66), some (.ref 74), some (.int v2), some (.int (v3 + 1)), some (.int 0)]) (st' := []) (σ' := σ) (by decide +kernel) rfl rfl ?_
              refine g_goto hx (off := (-115)) (tgt := 36) (by decide +kernel) (by decide) ?_
              refine g_wk (lo' := [some (.ref 66), some (.ref 74), some (.int v2), some (.int (v3 + 1)), none]) ⟨rfl, ⟨rfl, ⟨rfl, ⟨rfl, trivial⟩⟩⟩⟩ ?_
              exact ih _ _ _ h
            · have h := ok_f h c97
              refine g_run hx [(.iload 4, 0, 0)] (pc' := 102) (lo' := [some (.ref 66), some (.ref 74), some (.int v2), some (.int v3), some (.int 0)]) (st' := [.int 0]) (σ' := σ) (by decide +kernel) rfl rfl ?_
              refine g_if_eq hx (off := 46) (tgt := 148) (by decide +kernel) (by decide) (fun _ => ?_) (fun c => absurd c (by decide))
              refine g_run hx [(.iinc 3 1, 1, 0)] (pc' := 151) (lo' := [some (.ref 66), some (.ref 74), some (.int v2), some (.int (v3 + 1)), some (.int 0)]) (st' := []) (σ' := σ) (by decide +kernel) rfl rfl ?_
              refine g_goto hx (off := (-115)) (tgt := 36) (by decide +kernel) (by decide) ?_
              refine g_wk (lo' := [some (.ref 66), some (.ref 74), some (.int v2), some (.int (v3 + 1)), none]) ⟨rfl, ⟨rfl, ⟨rfl, ⟨rfl, trivial⟩⟩⟩⟩ ?_
              exact ih _ _ _ h
          · have h := ok_t h c81
            refine g_run hx [(.iconst 1, 1, 0)] (pc' := 85) (lo' := [some (.ref 66), some (.ref 74), some (.int v2), some (.int v3), none]) (st' := [.int 1]) (σ' := σ) (by decide +kernel) rfl rfl ?_
            refine g_goto hx (off := 4) (tgt := 89) (by decide +kernel) (by decide) ?_
            refine g_run hx [(.istore 4, 0, 0), (.aload_n 0, 0, 0), (.getfield 47, 0, 0), (.iload_n 3, 0, 0)] (pc' := 96) (lo' := [some (.ref 66), some (.ref 74), some (.int v2), some (.int v3), some (.int 1)]) (st' := [.int v3, .ref 78]) (σ' := σ) (by decide +kernel) rfl rfl ?_
            obtain ⟨c96, h⟩ := ok_g h
            refine g_iald hx (by decide +kernel) (i := 78) (n := 60) rfl c96 ?_
            refine g_if_eq hx (off := 51) (tgt := 148) (by decide +kernel) (by decide) (fun c97 => ?_) (fun c97 => ?_)
            · have h := ok_t h c97
              refine g_run hx [(.iinc 3 1, 1, 0)] (pc' := 151) (lo' := [some (.ref 66), some (.ref 74), some (.int v2), some (.int (v3 + 1)), some (.int 1)]) (st' := []) (σ' := σ) (by decide +kernel) rfl rfl ?_
              refine g_goto hx (off := (-115)) (tgt := 36) (by decide +kernel) (by decide) ?_
              refine g_wk (lo' := [some (.ref 66), some (.ref 74), some (.int v2), some (.int (v3 + 1)), none]) ⟨rfl, ⟨rfl, ⟨rfl, ⟨rfl, trivial⟩⟩⟩⟩ ?_
              exact ih _ _ _ h
            · have h := ok_f h c97
              refine g_run hx [(.iload 4, 0, 0)] (pc' := 102) (lo' := [some (.ref 66), some (.ref 74), some (.int v2), some (.int v3), some (.int 1)]) (st' := [.int 1]) (σ' := σ) (by decide +kernel) rfl rfl ?_
              refine g_if_eq hx (off := 46) (tgt := 148) (by decide +kernel) (by decide) (fun c => absurd c (by decide)) (fun _ => ?_)
              refine g_run hx [(.aload_n 0, 0, 0), (.getfield 20, 0, 0), (.sipush 129, 129, 0), (.iload_n 3, 0, 0), (.iadd, 0, 0)] (pc' := 114) (lo' := [some (.ref 66), some (.ref 74), some (.int v2), some (.int v3), some (.int 1)]) (st' := [.int (129 + v3), .ref 69]) (σ' := σ) (by decide +kernel) rfl rfl ?_
              obtain ⟨c114, h⟩ := ok_g h
              refine g_iald hx (by decide +kernel) (i := 69) (n := 189) rfl c114 ?_
              refine g_run hx [(.iconst 1, 1, 0)] (pc' := 116) (lo' := [some (.ref 66), some (.ref 74), some (.int v2), some (.int v3), some (.int 1)]) (st' := [.int 1, .int (gA σ 69 (129 + v3))]) (σ' := σ) (by decide +kernel) rfl rfl ?_
              refine g_ic_ne hx (off := 6) (tgt := 122) (by decide +kernel) (by decide) (fun c116 => ?_) (fun c116 => ?_)
              · have h := ok_f h c116
                refine g_run hx [(.aload_n 1, 0, 0), (.iload_n 3, 0, 0), (.dup2, 0, 0)] (pc' := 125) (lo' := [some (.ref 66), some (.ref 74), some (.int v2), some (.int v3), some (.int 1)]) (st' := [.int v3, .ref 74, .int v3, .ref 74]) (σ' := σ) (by decide +kernel) rfl rfl ?_
                obtain ⟨c125, h⟩ := ok_g h
                refine g_iald hx (by decide +kernel) (i := 74) (n := 63) rfl c125 ?_
                refine g_run hx [(.iconst 1, 1, 0), (.isub, 0, 0)] (pc' := 128) (lo' := [some (.ref 66), some (.ref 74), some (.int v2), some (.int v3), some (.int 1)]) (st' := [.int ((gA σ 74 v3) - 1), .int v3, .ref 74]) (σ' := σ) (by decide +kernel) rfl rfl ?_
                obtain ⟨c128, h⟩ := ok_g h
                refine g_iast hx (by decide +kernel) (i := 74) (n := 63) rfl c128 ?_
                refine g_run hx [(.aload_n 0, 0, 0), (.iconst 1, 1, 0), (.putfield 269, 0, 0), (.iload_n 2, 0, 0), (.aload_n 1, 0, 0), (.iload_n 3, 0, 0)] (pc' := 137) (lo' := [some (.ref 66), some (.ref 74), some (.int v2), some (.int v3), some (.int 1)]) (st' := [.int v3, .ref 74, .int v2]) (σ' := sI (sA σ 74 v3 ((gA σ 74 v3) - 1)) 66 27 1) (by decide +kernel) rfl rfl ?_
                obtain ⟨c137, h⟩ := ok_g h
                refine g_iald hx (by decide +kernel) (i := 74) (n := 63) rfl c137 ?_
                refine g_if_ne hx (off := 7) (tgt := 145) (by decide +kernel) (by decide) (fun c138 => ?_) (fun c138 => ?_)
                · have h := ok_f h c138
                  refine g_run hx [(.iconst 0, 0, 0), (.iadd, 0, 0), (.istore_n 2, 0, 0), (.iinc 3 1, 1, 0)] (pc' := 151) (lo' := [some (.ref 66), some (.ref 74), some (.int (v2 + 0)), some (.int (v3 + 1)), some (.int 1)]) (st' := []) (σ' := sI (sA σ 74 v3 ((gA σ 74 v3) - 1)) 66 27 1) (by decide +kernel) rfl rfl ?_
                  refine g_goto hx (off := (-115)) (tgt := 36) (by decide +kernel) (by decide) ?_
                  refine g_wk (lo' := [some (.ref 66), some (.ref 74), some (.int (v2 + 0)), some (.int (v3 + 1)), none]) ⟨rfl, ⟨rfl, ⟨rfl, ⟨rfl, trivial⟩⟩⟩⟩ ?_
                  exact ih _ _ _ h
                · have h := ok_t h c138
                  refine g_run hx [(.iconst 1, 1, 0)] (pc' := 142) (lo' := [some (.ref 66), some (.ref 74), some (.int v2), some (.int v3), some (.int 1)]) (st' := [.int 1, .int v2]) (σ' := sI (sA σ 74 v3 ((gA σ 74 v3) - 1)) 66 27 1) (by decide +kernel) rfl rfl ?_
                  refine g_goto hx (off := 4) (tgt := 146) (by decide +kernel) (by decide) ?_
                  refine g_run hx [(.iadd, 0, 0), (.istore_n 2, 0, 0), (.iinc 3 1, 1, 0)] (pc' := 151) (lo' := [some (.ref 66), some (.ref 74), some (.int (v2 + 1)), some (.int (v3 + 1)), some (.int 1)]) (st' := []) (σ' := sI (sA σ 74 v3 ((gA σ 74 v3) - 1)) 66 27 1) (by decide +kernel) rfl rfl ?_
                  refine g_goto hx (off := (-115)) (tgt := 36) (by decide +kernel) (by decide) ?_
                  refine g_wk (lo' := [some (.ref 66), some (.ref 74), some (.int (v2 + 1)), some (.int (v3 + 1)), none]) ⟨rfl, ⟨rfl, ⟨rfl, ⟨rfl, trivial⟩⟩⟩⟩ ?_
                  exact ih _ _ _ h
              · have h := ok_t h c116
                refine g_goto hx (off := 29) (tgt := 148) (by decide +kernel) (by decide) ?_
                refine g_run hx [(.iinc 3 1, 1, 0)] (pc' := 151) (lo' := [some (.ref 66), some (.ref 74), some (.int v2), some (.int (v3 + 1)), some (.int 1)]) (st' := []) (σ' := σ) (by decide +kernel) rfl rfl ?_
                refine g_goto hx (off := (-115)) (tgt := 36) (by decide +kernel) (by decide) ?_
                refine g_wk (lo' := [some (.ref 66), some (.ref 74), some (.int v2), some (.int (v3 + 1)), none]) ⟨rfl, ⟨rfl, ⟨rfl, ⟨rfl, trivial⟩⟩⟩⟩ ?_
                exact ih _ _ _ h
      · have h := ok_f h c47
        refine g_run hx [(.aload_n 0, 0, 0), (.getfield 47, 0, 0), (.iload_n 3, 0, 0), (.iconst 1, 1, 0), (.isub, 0, 0)] (pc' := 57) (lo' := [some (.ref 66), some (.ref 74), some (.int v2), some (.int v3), none]) (st' := [.int (v3 - 1), .ref 78]) (σ' := σ) (by decide +kernel) rfl rfl ?_
        obtain ⟨c57, h⟩ := ok_g h
        refine g_iald hx (by decide +kernel) (i := 78) (n := 60) rfl c57 ?_
        refine g_if_eq hx (off := 26) (tgt := 84) (by decide +kernel) (by decide) (fun c58 => ?_) (fun c58 => ?_)
        · have h := ok_t h c58
          refine g_run hx [(.iconst 1, 1, 0)] (pc' := 85) (lo' := [some (.ref 66), some (.ref 74), some (.int v2), some (.int v3), none]) (st' := [.int 1]) (σ' := σ) (by decide +kernel) rfl rfl ?_
          refine g_goto hx (off := 4) (tgt := 89) (by decide +kernel) (by decide) ?_
          refine g_run hx [(.istore 4, 0, 0), (.aload_n 0, 0, 0), (.getfield 47, 0, 0), (.iload_n 3, 0, 0)] (pc' := 96) (lo' := [some (.ref 66), some (.ref 74), some (.int v2), some (.int v3), some (.int 1)]) (st' := [.int v3, .ref 78]) (σ' := σ) (by decide +kernel) rfl rfl ?_
          obtain ⟨c96, h⟩ := ok_g h
          refine g_iald hx (by decide +kernel) (i := 78) (n := 60) rfl c96 ?_
          refine g_if_eq hx (off := 51) (tgt := 148) (by decide +kernel) (by decide) (fun c97 => ?_) (fun c97 => ?_)
          · have h := ok_t h c97
            refine g_run hx [(.iinc 3 1, 1, 0)] (pc' := 151) (lo' := [some (.ref 66), some (.ref 74), some (.int v2), some (.int (v3 + 1)), some (.int 1)]) (st' := []) (σ' := σ) (by decide +kernel) rfl rfl ?_
            refine g_goto hx (off := (-115)) (tgt := 36) (by decide +kernel) (by decide) ?_
            refine g_wk (lo' := [some (.ref 66), some (.ref 74), some (.int v2), some (.int (v3 + 1)), none]) ⟨rfl, ⟨rfl, ⟨rfl, ⟨rfl, trivial⟩⟩⟩⟩ ?_
            exact ih _ _ _ h
          · have h := ok_f h c97
            refine g_run hx [(.iload 4, 0, 0)] (pc' := 102) (lo' := [some (.ref 66), some (.ref 74), some (.int v2), some (.int v3), some (.int 1)]) (st' := [.int 1]) (σ' := σ) (by decide +kernel) rfl rfl ?_
            refine g_if_eq hx (off := 46) (tgt := 148) (by decide +kernel) (by decide) (fun c => absurd c (by decide)) (fun _ => ?_)
            refine g_run hx [(.aload_n 0, 0, 0), (.getfield 20, 0, 0), (.sipush 129, 129, 0), (.iload_n 3, 0, 0), (.iadd, 0, 0)] (pc' := 114) (lo' := [some (.ref 66), some (.ref 74), some (.int v2), some (.int v3), some (.int 1)]) (st' := [.int (129 + v3), .ref 69]) (σ' := σ) (by decide +kernel) rfl rfl ?_
            obtain ⟨c114, h⟩ := ok_g h
            refine g_iald hx (by decide +kernel) (i := 69) (n := 189) rfl c114 ?_
            refine g_run hx [(.iconst 1, 1, 0)] (pc' := 116) (lo' := [some (.ref 66), some (.ref 74), some (.int v2), some (.int v3), some (.int 1)]) (st' := [.int 1, .int (gA σ 69 (129 + v3))]) (σ' := σ) (by decide +kernel) rfl rfl ?_
            refine g_ic_ne hx (off := 6) (tgt := 122) (by decide +kernel) (by decide) (fun c116 => ?_) (fun c116 => ?_)
            · have h := ok_f h c116
              refine g_run hx [(.aload_n 1, 0, 0), (.iload_n 3, 0, 0), (.dup2, 0, 0)] (pc' := 125) (lo' := [some (.ref 66), some (.ref 74), some (.int v2), some (.int v3), some (.int 1)]) (st' := [.int v3, .ref 74, .int v3, .ref 74]) (σ' := σ) (by decide +kernel) rfl rfl ?_
              obtain ⟨c125, h⟩ := ok_g h
              refine g_iald hx (by decide +kernel) (i := 74) (n := 63) rfl c125 ?_
              refine g_run hx [(.iconst 1, 1, 0), (.isub, 0, 0)] (pc' := 128) (lo' := [some (.ref 66), some (.ref 74), some (.int v2), some (.int v3), some (.int 1)]) (st' := [.int ((gA σ 74 v3) - 1), .int v3, .ref 74]) (σ' := σ) (by decide +kernel) rfl rfl ?_
              obtain ⟨c128, h⟩ := ok_g h
              refine g_iast hx (by decide +kernel) (i := 74) (n := 63) rfl c128 ?_
              refine g_run hx [(.aload_n 0, 0, 0), (.iconst 1, 1, 0), (.putfield 269, 0, 0), (.iload_n 2, 0, 0), (.aload_n 1, 0, 0), (.iload_n 3, 0, 0)] (pc' := 137) (lo' := [some (.ref 66), some (.ref 74), some (.int v2), some (.int v3), some (.int 1)]) (st' := [.int v3, .ref 74, .int v2]) (σ' := sI (sA σ 74 v3 ((gA σ 74 v3) - 1)) 66 27 1) (by decide +kernel) rfl rfl ?_
              obtain ⟨c137, h⟩ := ok_g h
              refine g_iald hx (by decide +kernel) (i := 74) (n := 63) rfl c137 ?_
              refine g_if_ne hx (off := 7) (tgt := 145) (by decide +kernel) (by decide) (fun c138 => ?_) (fun c138 => ?_)
              · have h := ok_f h c138
                refine g_run hx [(.iconst 0, 0, 0), (.iadd, 0, 0), (.istore_n 2, 0, 0), (.iinc 3 1, 1, 0)] (pc' := 151) (lo' := [some (.ref 66), some (.ref 74), some (.int (v2 + 0)), some (.int (v3 + 1)), some (.int 1)]) (st' := []) (σ' := sI (sA σ 74 v3 ((gA σ 74 v3) - 1)) 66 27 1) (by decide +kernel) rfl rfl ?_
                refine g_goto hx (off := (-115)) (tgt := 36) (by decide +kernel) (by decide) ?_
                refine g_wk (lo' := [some (.ref 66), some (.ref 74), some (.int (v2 + 0)), some (.int (v3 + 1)), none]) ⟨rfl, ⟨rfl, ⟨rfl, ⟨rfl, trivial⟩⟩⟩⟩ ?_
                exact ih _ _ _ h
              · have h := ok_t h c138
                refine g_run hx [(.iconst 1, 1, 0)] (pc' := 142) (lo' := [some (.ref 66), some (.ref 74), some (.int v2), some (.int v3), some (.int 1)]) (st' := [.int 1, .int v2]) (σ' := sI (sA σ 74 v3 ((gA σ 74 v3) - 1)) 66 27 1) (by decide +kernel) rfl rfl ?_
                refine g_goto hx (off := 4) (tgt := 146) (by decide +kernel) (by decide) ?_
                refine g_run hx [(.iadd, 0, 0), (.istore_n 2, 0, 0), (.iinc 3 1, 1, 0)] (pc' := 151) (lo' := [some (.ref 66), some (.ref 74), some (.int (v2 + 1)), some (.int (v3 + 1)), some (.int 1)]) (st' := []) (σ' := sI (sA σ 74 v3 ((gA σ 74 v3) - 1)) 66 27 1) (by decide +kernel) rfl rfl ?_
                refine g_goto hx (off := (-115)) (tgt := 36) (by decide +kernel) (by decide) ?_
                refine g_wk (lo' := [some (.ref 66), some (.ref 74), some (.int (v2 + 1)), some (.int (v3 + 1)), none]) ⟨rfl, ⟨rfl, ⟨rfl, ⟨rfl, trivial⟩⟩⟩⟩ ?_
                exact ih _ _ _ h
            · have h := ok_t h c116
              refine g_goto hx (off := 29) (tgt := 148) (by decide +kernel) (by decide) ?_
              refine g_run hx [(.iinc 3 1, 1, 0)] (pc' := 151) (lo' := [some (.ref 66), some (.ref 74), some (.int v2), some (.int (v3 + 1)), some (.int 1)]) (st' := []) (σ' := σ) (by decide +kernel) rfl rfl ?_
              refine g_goto hx (off := (-115)) (tgt := 36) (by decide +kernel) (by decide) ?_
              refine g_wk (lo' := [some (.ref 66), some (.ref 74), some (.int v2), some (.int (v3 + 1)), none]) ⟨rfl, ⟨rfl, ⟨rfl, ⟨rfl, trivial⟩⟩⟩⟩ ?_
              exact ih _ _ _ h
        · have h := ok_f h c58
          refine g_run hx [(.iload_n 3, 0, 0), (.iconst 1, 1, 0), (.iadd, 0, 0), (.aload_n 0, 0, 0), (.getfield 20, 0, 0), (.iconst 0, 0, 0), (.iaload, 0, 0)] (pc' := 70) (lo' := [some (.ref 66), some (.ref 74), some (.int v2), some (.int v3), none]) (st' := [.int (gA σ 69 0), .int (v3 + 1)]) (σ' := σ) (by decide +kernel) rfl rfl ?_
          refine g_ic_ge hx (off := 18) (tgt := 88) (by decide +kernel) (by decide) (fun c70 => ?_) (fun c70 => ?_)
          · have h := ok_t h c70
            refine g_run hx [(.iconst 0, 0, 0), (.istore 4, 0, 0), (.aload_n 0, 0, 0), (.getfield 47, 0, 0), (.iload_n 3, 0, 0)] (pc' := 96) (lo' := [some (.ref 66), some (.ref 74), some (.int v2), some (.int v3), some (.int 0)]) (st' := [.int v3, .ref 78]) (σ' := σ) (by decide +kernel) rfl rfl ?_
            obtain ⟨c96, h⟩ := ok_g h
            refine g_iald hx (by decide +kernel) (i := 78) (n := 60) rfl c96 ?_
            refine g_if_eq hx (off := 51) (tgt := 148) (by decide +kernel) (by decide) (fun c97 => ?_) (fun c97 => ?_)
            · have h := ok_t h c97
              refine g_run hx [(.iinc 3 1, 1, 0)] (pc' := 151) (lo' := [some (.ref 66), some (.ref 74), some (.int v2), some (.int (v3 + 1)), some (.int 0)]) (st' := []) (σ' := σ) (by decide +kernel) rfl rfl ?_
              refine g_goto hx (off := (-115)) (tgt := 36) (by decide +kernel) (by decide) ?_
              refine g_wk (lo' := [some (.ref 66), some (.ref 74), some (.int v2), some (.int (v3 + 1)), none]) ⟨rfl, ⟨rfl, ⟨rfl, ⟨rfl, trivial⟩⟩⟩⟩ ?_
              exact ih _ _ _ h
            · have h := ok_f h c97
              refine g_run hx [(.iload 4, 0, 0)] (pc' := 102) (lo' := [some (.ref 66), some (.ref 74), some (.int v2), some (.int v3), some (.int 0)]) (st' := [.int 0]) (σ' := σ) (by decide +kernel) rfl rfl ?_
              refine g_if_eq hx (off := 46) (tgt := 148) (by decide +kernel) (by decide) (fun _ => ?_) (fun c => absurd c (by decide))
              refine g_run hx [(.iinc 3 1, 1, 0)] (pc' := 151) (lo' := [some (.ref 66), some (.ref 74), some (.int v2), some (.int (v3 + 1)), some (.int 0)]) (st' := []) (σ' := σ) (by decide +kernel) rfl rfl ?_
              refine g_goto hx (off := (-115)) (tgt := 36) (by decide +kernel) (by decide) ?_
              refine g_wk (lo' := [some (.ref 66), some (.ref 74), some (.int v2), some (.int (v3 + 1)), none]) ⟨rfl, ⟨rfl, ⟨rfl, ⟨rfl, trivial⟩⟩⟩⟩ ?_
              exact ih _ _ _ h
          · have h := ok_f h c70
            refine g_run hx [(.aload_n 0, 0, 0), (.getfield 47, 0, 0), (.iload_n 3, 0, 0), (.iconst 1, 1, 0), (.iadd, 0, 0)] (pc' := 80) (lo' := [some (.ref 66), some (.ref 74), some (.int v2), some (.int v3), none]) (st' := [.int (v3 + 1), .ref 78]) (σ' := σ) (by decide +kernel) rfl rfl ?_
            obtain ⟨c80, h⟩ := ok_g h
            refine g_iald hx (by decide +kernel) (i := 78) (n := 60) rfl c80 ?_
            refine g_if_ne hx (off := 7) (tgt := 88) (by decide +kernel) (by decide) (fun c81 => ?_) (fun c81 => ?_)
            · have h := ok_f h c81
              refine g_run hx [(.iconst 0, 0, 0), (.istore 4, 0, 0), (.aload_n 0, 0, 0), (.getfield 47, 0, 0), (.iload_n 3, 0, 0)] (pc' := 96) (lo' := [some (.ref 66), some (.ref 74), some (.int v2), some (.int v3), some (.int 0)]) (st' := [.int v3, .ref 78]) (σ' := σ) (by decide +kernel) rfl rfl ?_
              obtain ⟨c96, h⟩ := ok_g h
              refine g_iald hx (by decide +kernel) (i := 78) (n := 60) rfl c96 ?_
              refine g_if_eq hx (off := 51) (tgt := 148) (by decide +kernel) (by decide) (fun c97 => ?_) (fun c97 => ?_)
              · have h := ok_t h c97
                refine g_run hx [(.iinc 3 1, 1, 0)] (pc' := 151) (lo' := [some (.ref 66), some (.ref 74), some (.int v2), some (.int (v3 + 1)), some (.int 0)]) (st' := []) (σ' := σ) (by decide +kernel) rfl rfl ?_
                refine g_goto hx (off := (-115)) (tgt := 36) (by decide +kernel) (by decide) ?_
                refine g_wk (lo' := [some (.ref 66), some (.ref 74), some (.int v2), some (.int (v3 + 1)), none]) ⟨rfl, ⟨rfl, ⟨rfl, ⟨rfl, trivial⟩⟩⟩⟩ ?_
                exact ih _ _ _ h
              · have h := ok_f h c97
                refine g_run hx [(.iload 4, 0, 0)] (pc' := 102) (lo' := [some (.ref 66), some (.ref 74), some (.int v2), some (.int v3), some (.int 0)]) (st' := [.int 0]) (σ' := σ) (by decide +kernel) rfl rfl ?_
                refine g_if_eq hx (off := 46) (tgt := 148) (by decide +kernel) (by decide) (fun _ => ?_) (fun c => absurd c (by decide))
                refine g_run hx [(.iinc 3 1, 1, 0)] (pc' := 151) (lo' := [some (.ref 66), some (.ref 74), some (.int v2), some (.int (v3 + 1)), some (.int 0)]) (st' := []) (σ' := σ) (by decide +kernel) rfl rfl ?_
                refine g_goto hx (off := (-115)) (tgt := 36) (by decide +kernel) (by decide) ?_
                refine g_wk (lo' := [some (.ref 66), some (.ref 74), some (.int v2), some (.int (v3 + 1)), none]) ⟨rfl, ⟨rfl, ⟨rfl, ⟨rfl, trivial⟩⟩⟩⟩ ?_
                exact ih _ _ _ h
            · have h := ok_t h c81
              refine g_run hx [(.iconst 1, 1, 0)] (pc' := 85) (lo' := [some (.ref 66), some (.ref 74), some (.int v2), some (.int v3), none]) (st' := [.int 1]) (σ' := σ) (by decide +kernel) rfl rfl ?_
              refine g_goto hx (off := 4) (tgt := 89) (by decide +kernel) (by decide) ?_
              refine g_run hx [(.istore 4, 0, 0), (.aload_n 0, 0, 0), (.getfield 47, 0, 0), (.iload_n 3, 0, 0)] (pc' := 96) (lo' := [some (.ref 66), some (.ref 74), some (.int v2), some (.int v3), some (.int 1)]) (st' := [.int v3, .ref 78]) (σ' := σ) (by decide +kernel) rfl rfl ?_
              obtain ⟨c96, h⟩ := ok_g h
              refine g_iald hx (by decide +kernel) (i := 78) (n := 60) rfl c96 ?_
              refine g_if_eq hx (off := 51) (tgt := 148) (by decide +kernel) (by decide) (fun c97 => ?_) (fun c97 => ?_)
              · have h := ok_t h c97
                refine g_run hx [(.iinc 3 1, 1, 0)] (pc' := 151) (lo' := [some (.ref 66), some (.ref 74), some (.int v2), some (.int (v3 + 1)), some (.int 1)]) (st' := []) (σ' := σ) (by decide +kernel) rfl rfl ?_
                refine g_goto hx (off := (-115)) (tgt := 36) (by decide +kernel) (by decide) ?_
                refine g_wk (lo' := [some (.ref 66), some (.ref 74), some (.int v2), some (.int (v3 + 1)), none]) ⟨rfl, ⟨rfl, ⟨rfl, ⟨rfl, trivial⟩⟩⟩⟩ ?_
                exact ih _ _ _ h
              · have h := ok_f h c97
                refine g_run hx [(.iload 4, 0, 0)] (pc' := 102) (lo' := [some (.ref 66), some (.ref 74), some (.int v2), some (.int v3), some (.int 1)]) (st' := [.int 1]) (σ' := σ) (by decide +kernel) rfl rfl ?_
                refine g_if_eq hx (off := 46) (tgt := 148) (by decide +kernel) (by decide) (fun c => absurd c (by decide)) (fun _ => ?_)
                refine g_run hx [(.aload_n 0, 0, 0), (.getfield 20, 0, 0), (.sipush 129, 129, 0), (.iload_n 3, 0, 0), (.iadd, 0, 0)] (pc' := 114) (lo' := [some (.ref 66), some (.ref 74), some (.int v2), some (.int v3), some (.int 1)]) (st' := [.int (129 + v3), .ref 69]) (σ' := σ) (by decide +kernel) rfl rfl ?_
                obtain ⟨c114, h⟩ := ok_g h
                refine g_iald hx (by decide +kernel) (i := 69) (n := 189) rfl c114 ?_
                refine g_run hx [(.iconst 1, 1, 0)] (pc' := 116) (lo' := [some (.ref 66), some (.ref 74), some (.int v2), some (.int v3), some (.int 1)]) (st' := [.int 1, .int (gA σ 69 (129 + v3))]) (σ' := σ) (by decide +kernel) rfl rfl ?_
                refine g_ic_ne hx (off := 6) (tgt := 122) (by decide +kernel) (by decide) (fun c116 => ?_) (fun c116 => ?_)
                · have h := ok_f h c116
                  refine g_run hx [(.aload_n 1, 0, 0), (.iload_n 3, 0, 0), (.dup2, 0, 0)] (pc' := 125) (lo' := [some (.ref 66), some (.ref 74), some (.int v2), some (.int v3), some (.int 1)]) (st' := [.int v3, .ref 74, .int v3, .ref 74]) (σ' := σ) (by decide +kernel) rfl rfl ?_
                  obtain ⟨c125, h⟩ := ok_g h
                  refine g_iald hx (by decide +kernel) (i := 74) (n := 63) rfl c125 ?_
                  refine g_run hx [(.iconst 1, 1, 0), (.isub, 0, 0)] (pc' := 128) (lo' := [some (.ref 66), some (.ref 74), some (.int v2), some (.int v3), some (.int 1)]) (st' := [.int ((gA σ 74 v3) - 1), .int v3, .ref 74]) (σ' := σ) (by decide +kernel) rfl rfl ?_
                  obtain ⟨c128, h⟩ := ok_g h
                  refine g_iast hx (by decide +kernel) (i := 74) (n := 63) rfl c128 ?_
                  refine g_run hx [(.aload_n 0, 0, 0), (.iconst 1, 1, 0), (.putfield 269, 0, 0), (.iload_n 2, 0, 0), (.aload_n 1, 0, 0), (.iload_n 3, 0, 0)] (pc' := 137) (lo' := [some (.ref 66), some (.ref 74), some (.int v2), some (.int v3), some (.int 1)]) (st' := [.int v3, .ref 74, .int v2]) (σ' := sI (sA σ 74 v3 ((gA σ 74 v3) - 1)) 66 27 1) (by decide +kernel) rfl rfl ?_
                  obtain ⟨c137, h⟩ := ok_g h
                  refine g_iald hx (by decide +kernel) (i := 74) (n := 63) rfl c137 ?_
                  refine g_if_ne hx (off := 7) (tgt := 145) (by decide +kernel) (by decide) (fun c138 => ?_) (fun c138 => ?_)
                  · have h := ok_f h c138
                    refine g_run hx [(.iconst 0, 0, 0), (.iadd, 0, 0), (.istore_n 2, 0, 0), (.iinc 3 1, 1, 0)] (pc' := 151) (lo' := [some (.ref 66), some (.ref 74), some (.int (v2 + 0)), some (.int (v3 + 1)), some (.int 1)]) (st' := []) (σ' := sI (sA σ 74 v3 ((gA σ 74 v3) - 1)) 66 27 1) (by decide +kernel) rfl rfl ?_
                    refine g_goto hx (off := (-115)) (tgt := 36) (by decide +kernel) (by decide) ?_
                    refine g_wk (lo' := [some (.ref 66), some (.ref 74), some (.int (v2 + 0)), some (.int (v3 + 1)), none]) ⟨rfl, ⟨rfl, ⟨rfl, ⟨rfl, trivial⟩⟩⟩⟩ ?_
                    exact ih _ _ _ h
                  · have h := ok_t h c138
                    refine g_run hx [(.iconst 1, 1, 0)] (pc' := 142) (lo' := [some (.ref 66), some (.ref 74), some (.int v2), some (.int v3), some (.int 1)]) (st' := [.int 1, .int v2]) (σ' := sI (sA σ 74 v3 ((gA σ 74 v3) - 1)) 66 27 1) (by decide +kernel) rfl rfl ?_
                    refine g_goto hx (off := 4) (tgt := 146) (by decide +kernel) (by decide) ?_
                    refine g_run hx [(.iadd, 0, 0), (.istore_n 2, 0, 0), (.iinc 3 1, 1, 0)] (pc' := 151) (lo' := [some (.ref 66), some (.ref 74), some (.int (v2 + 1)), some (.int (v3 + 1)), some (.int 1)]) (st' := []) (σ' := sI (sA σ 74 v3 ((gA σ 74 v3) - 1)) 66 27 1) (by decide +kernel) rfl rfl ?_
                    refine g_goto hx (off := (-115)) (tgt := 36) (by decide +kernel) (by decide) ?_
                    refine g_wk (lo' := [some (.ref 66), some (.ref 74), some (.int (v2 + 1)), some (.int (v3 + 1)), none]) ⟨rfl, ⟨rfl, ⟨rfl, ⟨rfl, trivial⟩⟩⟩⟩ ?_
                    exact ih _ _ _ h
                · have h := ok_t h c116
                  refine g_goto hx (off := 29) (tgt := 148) (by decide +kernel) (by decide) ?_
                  refine g_run hx [(.iinc 3 1, 1, 0)] (pc' := 151) (lo' := [some (.ref 66), some (.ref 74), some (.int v2), some (.int (v3 + 1)), some (.int 1)]) (st' := []) (σ' := σ) (by decide +kernel) rfl rfl ?_
                  refine g_goto hx (off := (-115)) (tgt := 36) (by decide +kernel) (by decide) ?_
                  refine g_wk (lo' := [some (.ref 66), some (.ref 74), some (.int v2), some (.int (v3 + 1)), none]) ⟨rfl, ⟨rfl, ⟨rfl, ⟨rfl, trivial⟩⟩⟩⟩ ?_
                  exact ih _ _ _ h
set_option maxRecDepth 100000 in
theorem s_m_yearOn_66_74 {y : EX} {N : Nat} {σ : Sg} {P : Int32 × Sg → Prop} (h : ok (f_m_yearOn N 69 63 60 78 74 189 66 σ) P) : Ev y M_m_yearOn 0 [.ref 66, .ref 74] σ rvI P := by
  refine Ev.of mk_m_yearOn (Nat.le_of_ble_eq_true rfl) (fun x hx hc hr => ?_)
  have hx : Cx 10 prog_12_method_47_code x := hx
  have hc : Cc y 5 0 x := hc
  show G x 0 [some (.ref 66), some (.ref 74), none, none, none] [] σ
  unfold f_m_yearOn at h
  refine g_run hx [(.iconst 0, 0, 0), (.istore_n 2, 0, 0), (.aload_n 0, 0, 0), (.iconst 0, 0, 0), (.putfield 269, 0, 0), (.iconst 0, 0, 0), (.istore_n 3, 0, 0)] (pc' := 9) (lo' := [some (.ref 66), some (.ref 74), some (.int 0), some (.int 0), none]) (st' := []) (σ' := sI σ 66 27 0) (by decide +kernel) rfl rfl ?_
  refine s_m_yearOn_66_74_L9 hx hc hr N _ _ _ _ (fun w2 t1 h => ?_) h
  refine g_run hx [(.iconst 0, 0, 0), (.istore_n 3, 0, 0)] (pc' := 36) (lo' := [some (.ref 66), some (.ref 74), some (.int w2), some (.int 0), none]) (st' := []) (σ' := t1) (by decide +kernel) rfl rfl ?_
  refine s_m_yearOn_66_74_L36 hx hc hr N _ _ _ h
def f_m_year (N : Nat) (σ : Sg) : Option (Int32 × Sg) :=
  (f_m_anew N σ).bind fun q1 =>
  if (gI q1.2 66 14) = 0 then
    (f_m_no N 1 q1.2).bind fun q5 =>
    some (q5.1, q5.2)
  else
    if (gA q1.2 74 62) = 999 then
      (f_m_no N 3 q1.2).bind fun q4 =>
      some (q4.1, q4.2)
    else
      (f_m_note N q1.2).bind fun q2 =>
      (f_m_yearOn N 69 63 60 78 74 189 66 q2.2).bind fun q3 =>
      some (q3.1, q3.2)
set_option maxRecDepth 100000 in
theorem s_m_year {y : EX} {N : Nat} {σ : Sg} {P : Int32 × Sg → Prop} (h : ok (f_m_year N σ) P) : Ev y M_m_year 2 [.ref 66] σ rvI P := by
  refine Ev.of mk_m_year (Nat.le_of_ble_eq_true rfl) (fun x hx hc hr => ?_)
  have hx : Cx 10 prog_12_method_123_code x := hx
  have hc : Cc y 1 2 x := hc
  show G x 0 [some (.ref 66)] [] σ
  unfold f_m_year at h
  refine g_run hx [(.aload_n 0, 0, 0)] (pc' := 1) (lo' := [some (.ref 66)]) (st' := [.ref 66]) (σ' := σ) (by decide +kernel) rfl rfl ?_
  refine g_callV (rest := []) [] hx hc mk_m_anew ln_10_174 rfl (by decide +kernel) (by decide) (Nat.le_of_ble_eq_true rfl) (s_m_anew (ok_b h)) (fun r1 s1 h => ?_)
  refine g_run hx [(.aload_n 0, 0, 0), (.getfield 187, 0, 0)] (pc' := 8) (lo' := [some (.ref 66)]) (st' := [.int (gI s1 66 14)]) (σ' := s1) (by decide +kernel) rfl rfl ?_
  refine g_if_ne hx (off := 9) (tgt := 17) (by decide +kernel) (by decide) (fun c8 => ?_) (fun c8 => ?_)
  · have h := ok_f h c8
    refine g_run hx [(.aload_n 0, 0, 0), (.getfield 35, 0, 0), (.bipush 62, 62, 0), (.iaload, 0, 0), (.sipush 999, 999, 0)] (pc' := 27) (lo' := [some (.ref 66)]) (st' := [.int 999, .int (gA s1 74 62)]) (σ' := s1) (by decide +kernel) rfl rfl ?_
    refine g_ic_ne hx (off := 9) (tgt := 36) (by decide +kernel) (by decide) (fun c27 => ?_) (fun c27 => ?_)
    · have h := ok_f h c27
      refine g_run hx [(.aload_n 0, 0, 0)] (pc' := 37) (lo' := [some (.ref 66)]) (st' := [.ref 66]) (σ' := s1) (by decide +kernel) rfl rfl ?_
      refine g_callV (rest := []) [] hx hc mk_m_note ln_10_437 rfl (by decide +kernel) (by decide) (Nat.le_of_ble_eq_true rfl) (s_m_note (ok_b h)) (fun r2 s2 h => ?_)
      refine g_run hx [(.aload_n 0, 0, 0), (.aload_n 0, 0, 0), (.getfield 35, 0, 0)] (pc' := 45) (lo' := [some (.ref 66)]) (st' := [.ref 74, .ref 66]) (σ' := s2) (by decide +kernel) rfl rfl ?_
      refine g_callV (rest := []) [.ref 74] hx hc mk_m_yearOn ln_10_275 rfl (by decide +kernel) (by decide) (Nat.le_of_ble_eq_true rfl) (s_m_yearOn_66_74 (ok_b h)) (fun r3 s3 h => ?_)
      exact g_iret hx hr rfl _ rfl (by decide +kernel) (ok_some h)
    · have h := ok_t h c27
      refine g_run hx [(.aload_n 0, 0, 0), (.iconst 3, 3, 0)] (pc' := 32) (lo' := [some (.ref 66)]) (st' := [.int 3, .ref 66]) (σ' := s1) (by decide +kernel) rfl rfl ?_
      refine g_callV (rest := []) [.int 3] hx hc mk_m_no ln_10_177 rfl (by decide +kernel) (by decide) (Nat.le_of_ble_eq_true rfl) (s_m_no (ok_b h)) (fun r4 s4 h => ?_)
      exact g_iret hx hr rfl _ rfl (by decide +kernel) (ok_some h)
  · have h := ok_t h c8
    refine g_run hx [(.aload_n 0, 0, 0), (.iconst 1, 1, 0)] (pc' := 13) (lo' := [some (.ref 66)]) (st' := [.int 1, .ref 66]) (σ' := s1) (by decide +kernel) rfl rfl ?_
    refine g_callV (rest := []) [.int 1] hx hc mk_m_no ln_10_177 rfl (by decide +kernel) (by decide) (Nat.le_of_ble_eq_true rfl) (s_m_no (ok_b h)) (fun r5 s5 h => ?_)
    exact g_iret hx hr rfl _ rfl (by decide +kernel) (ok_some h)
def f_country_clear (N : Nat) (σ : Sg) : Option (Unit × Sg) :=
  some ((), sL (sI (sI (sI (sI (sI (sI (sI (sI (sL (sL (sI (sI (sI (sI σ 25 0 0) 25 1 0) 25 2 0) 25 3 0) 25 4 0) 25 5 0) 26 1 0) 28 1 0) 30 1 0) 32 1 0) 34 1 0) 36 1 0) 38 1 0) 25 13 0) 25 14 0)
set_option maxRecDepth 100000 in
theorem s_country_clear {y : EX} {N : Nat} {σ : Sg} {P : Unit × Sg → Prop} (h : ok (f_country_clear N σ) P) : Ev y M_country_clear 0 [.ref 25] σ rvN P := by
  refine Ev.of mk_country_clear (Nat.le_of_ble_eq_true rfl) (fun x hx hc hr => ?_)
  have hx : Cx 1 prog_3_method_2_code x := hx
  have hc : Cc y 1 0 x := hc
  show G x 0 [some (.ref 25)] [] σ
  unfold f_country_clear at h
  refine g_run hx [(.aload_n 0, 0, 0), (.iconst 0, 0, 0), (.putfield 9, 0, 0), (.aload_n 0, 0, 0), (.iconst 0, 0, 0), (.putfield 15, 0, 0), (.aload_n 0, 0, 0), (.iconst 0, 0, 0), (.putfield 18, 0, 0), (.aload_n 0, 0, 0), (.iconst 0, 0, 0), (.putfield 21, 0, 0), (.aload_n 0, 0, 0), (.lconst 0, 0, 0), (.putfield 24, 0, 0), (.aload_n 0, 0, 0), (.lconst 0, 0, 0), (.putfield 28, 0, 0), (.aload_n 0, 0, 0), (.getfield 36, 0, 0), (.iconst 0, 0, 0), (.putfield 64, 0, 0), (.aload_n 0, 0, 0), (.getfield 40, 0, 0), (.iconst 0, 0, 0), (.putfield 64, 0, 0), (.aload_n 0, 0, 0), (.getfield 43, 0, 0), (.iconst 0, 0, 0), (.putfield 64, 0, 0), (.aload_n 0, 0, 0), (.getfield 46, 0, 0), (.iconst 0, 0, 0), (.putfield 64, 0, 0), (.aload_n 0, 0, 0), (.getfield 49, 0, 0), (.iconst 0, 0, 0), (.putfield 64, 0, 0), (.aload_n 0, 0, 0), (.getfield 52, 0, 0), (.iconst 0, 0, 0), (.putfield 64, 0, 0), (.aload_n 0, 0, 0), (.getfield 55, 0, 0), (.iconst 0, 0, 0), (.putfield 64, 0, 0), (.aload_n 0, 0, 0), (.iconst 0, 0, 0), (.putfield 58, 0, 0), (.aload_n 0, 0, 0), (.lconst 0, 0, 0), (.putfield 61, 0, 0)] (pc' := 96) (lo' := [some (.ref 25)]) (st' := []) (σ' := sL (sI (sI (sI (sI (sI (sI (sI (sI (sL (sL (sI (sI (sI (sI σ 25 0 0) 25 1 0) 25 2 0) 25 3 0) 25 4 0) 25 5 0) 26 1 0) 28 1 0) 30 1 0) 32 1 0) 34 1 0) 36 1 0) 38 1 0) 25 13 0) 25 14 0) (by decide +kernel) rfl rfl ?_
  exact g_vret hx hr rfl () rfl (by decide +kernel) (ok_some h)
def f_reader_begin_L41 (N : Nat) : Nat → Int32 → Sg → Option (Unit × Sg)
  | 0, _, _ => none
  | n + 1, v2, σ =>
    if (nI 7) ≤ v2 then
      some ((), sI (sI (sI σ 4 1 0) 6 1 0) 8 1 0)
    else
      if vin v2 7 then
      f_reader_begin_L41 N n (v2 + 1) (sA σ 3 v2 0)
      else none
def f_reader_begin (N : Nat) (v1 : Int32) (σ : Sg) : Option (Unit × Sg) :=
  (f_country_clear N (sI (sI (sI (sI (sI σ 1 2 (jmin v1 (gI σ 1 1))) 1 1 0) 1 5 0) 1 12 0) 1 13 0)).bind fun q1 =>
  f_reader_begin_L41 N N 0 q1.2
set_option maxRecDepth 100000 in
theorem s_reader_begin_L41 {y : EX} {N : Nat} {x : CX} {P : Unit × Sg → Prop} (hx : Cx 5 prog_7_method_4_code x) (hc : Cc y 3 1 x) (hr : Cr M_reader_begin rvN P x) : ∀ (n : Nat) (v2 : Int32) (σ : Sg), ok (f_reader_begin_L41 N n v2 σ) P → G x 41 [some (.ref 1), none, some (.int v2)] [] σ := by
  intro n
  induction n with
  | zero => intro v2 σ h; exact ok_none h
  | succ n ih =>
    intro v2 σ h
    rw [f_reader_begin_L41] at h
    refine g_run hx [(.iload_n 2, 0, 0), (.aload_n 0, 0, 0), (.getfield 41, 0, 0), (.arraylength, 0, 0)] (pc' := 47) (lo' := [some (.ref 1), none, some (.int v2)]) (st' := [.int (nI 7), .int v2]) (σ' := σ) (by decide +kernel) rfl rfl ?_
    refine g_ic_ge hx (off := 16) (tgt := 63) (by decide +kernel) (by decide) (fun c47 => ?_) (fun c47 => ?_)
    · have h := ok_t h c47
      refine g_run hx [(.aload_n 0, 0, 0), (.getfield 50, 0, 0), (.iconst 0, 0, 0), (.putfield 88, 0, 0), (.aload_n 0, 0, 0), (.getfield 54, 0, 0), (.iconst 0, 0, 0), (.putfield 88, 0, 0), (.aload_n 0, 0, 0), (.getfield 57, 0, 0), (.iconst 0, 0, 0), (.putfield 88, 0, 0)] (pc' := 87) (lo' := [some (.ref 1), none, some (.int v2)]) (st' := []) (σ' := sI (sI (sI σ 4 1 0) 6 1 0) 8 1 0) (by decide +kernel) rfl rfl ?_
      exact g_vret hx hr rfl () rfl (by decide +kernel) (ok_some h)
    · have h := ok_f h c47
      refine g_run hx [(.aload_n 0, 0, 0), (.getfield 41, 0, 0), (.iload_n 2, 0, 0), (.iconst 0, 0, 0)] (pc' := 56) (lo' := [some (.ref 1), none, some (.int v2)]) (st' := [.int 0, .int v2, .ref 3]) (σ' := σ) (by decide +kernel) rfl rfl ?_
      obtain ⟨c56, h⟩ := ok_g h
      refine g_iast hx (by decide +kernel) (i := 3) (n := 7) rfl c56 ?_
      refine g_run hx [(.iinc 2 1, 1, 0)] (pc' := 60) (lo' := [some (.ref 1), none, some (.int (v2 + 1))]) (st' := []) (σ' := sA σ 3 v2 0) (by decide +kernel) rfl rfl ?_
      refine g_goto hx (off := (-19)) (tgt := 41) (by decide +kernel) (by decide) ?_
      exact ih _ _ h
set_option maxRecDepth 100000 in
theorem s_reader_begin {y : EX} {N : Nat} {v1 : Int32} {σ : Sg} {P : Unit × Sg → Prop} (h : ok (f_reader_begin N v1 σ) P) : Ev y M_reader_begin 1 [.ref 1, .int v1] σ rvN P := by
  refine Ev.of mk_reader_begin (Nat.le_of_ble_eq_true rfl) (fun x hx hc hr => ?_)
  have hx : Cx 5 prog_7_method_4_code x := hx
  have hc : Cc y 3 1 x := hc
  show G x 0 [some (.ref 1), some (.int v1), none] [] σ
  unfold f_reader_begin at h
  refine g_run hx [(.aload_n 0, 0, 0), (.iload_n 1, 0, 0), (.aload_n 0, 0, 0), (.getfield 15, 0, 0)] (pc' := 6) (lo' := [some (.ref 1), some (.int v1), none]) (st' := [.int (gI σ 1 1), .int v1, .ref 1]) (σ' := σ) (by decide +kernel) rfl rfl ?_
  refine g_mmin hx hc (by decide) ln_5_79 (by decide +kernel) (Nat.le_of_ble_eq_true rfl) ?_
  refine g_run hx [(.putfield 19, 0, 0), (.aload_n 0, 0, 0), (.iconst 0, 0, 0), (.putfield 15, 0, 0), (.aload_n 0, 0, 0), (.iconst 0, 0, 0), (.putfield 28, 0, 0), (.aload_n 0, 0, 0), (.iconst 0, 0, 0), (.putfield 60, 0, 0), (.aload_n 0, 0, 0), (.iconst 0, 0, 0), (.putfield 63, 0, 0), (.aload_n 0, 0, 0), (.getfield 37, 0, 0)] (pc' := 36) (lo' := [some (.ref 1), some (.int v1), none]) (st' := [.ref 25]) (σ' := sI (sI (sI (sI (sI σ 1 2 (jmin v1 (gI σ 1 1))) 1 1 0) 1 5 0) 1 12 0) 1 13 0) (by decide +kernel) rfl rfl ?_
  refine g_callV (rest := []) [] hx hc mk_country_clear ln_5_85 rfl (by decide +kernel) (by decide) (Nat.le_of_ble_eq_true rfl) (s_country_clear (ok_b h)) (fun r1 s1 h => ?_)
  refine g_run hx [(.iconst 0, 0, 0), (.istore_n 2, 0, 0)] (pc' := 41) (lo' := [some (.ref 1), some (.int v1), some (.int 0)]) (st' := []) (σ' := s1) (by decide +kernel) rfl rfl ?_
  refine g_wk (lo' := [some (.ref 1), none, some (.int 0)]) ⟨rfl, ⟨rfl, trivial⟩⟩ ?_
  refine s_reader_begin_L41 hx hc hr N _ _ h
def f_reader_byteAt (N : Nat) (v1 : Int32) (σ : Sg) : Option (Int32 × Sg) :=
  if v1 < 0 then
    some ((-1), σ)
  else
    if (gI σ 1 2) ≤ v1 then
      some ((-1), σ)
    else
      if (nI 900) ≤ v1 then
        some ((-1), σ)
      else
        if vin v1 900 then
        some ((gA σ 2 v1), σ)
        else none
set_option maxRecDepth 100000 in
theorem s_reader_byteAt {y : EX} {N : Nat} {v1 : Int32} {σ : Sg} {P : Int32 × Sg → Prop} (h : ok (f_reader_byteAt N v1 σ) P) : Ev y M_reader_byteAt 0 [.ref 1, .int v1] σ rvI P := by
  refine Ev.of mk_reader_byteAt (Nat.le_of_ble_eq_true rfl) (fun x hx hc hr => ?_)
  have hx : Cx 5 prog_7_method_27_code x := hx
  have hc : Cc y 2 0 x := hc
  show G x 0 [some (.ref 1), some (.int v1)] [] σ
  unfold f_reader_byteAt at h
  refine g_run hx [(.iload_n 1, 0, 0)] (pc' := 1) (lo' := [some (.ref 1), some (.int v1)]) (st' := [.int v1]) (σ' := σ) (by decide +kernel) rfl rfl ?_
  refine g_if_lt hx (off := 29) (tgt := 30) (by decide +kernel) (by decide) (fun c1 => ?_) (fun c1 => ?_)
  · have h := ok_t h c1
    refine g_run hx [(.iconst (-1), (-1), 0)] (pc' := 31) (lo' := [some (.ref 1), some (.int v1)]) (st' := [.int (-1)]) (σ' := σ) (by decide +kernel) rfl rfl ?_
    exact g_iret hx hr rfl _ rfl (by decide +kernel) (ok_some h)
  · have h := ok_f h c1
    refine g_run hx [(.iload_n 1, 0, 0), (.aload_n 0, 0, 0), (.getfield 19, 0, 0)] (pc' := 9) (lo' := [some (.ref 1), some (.int v1)]) (st' := [.int (gI σ 1 2), .int v1]) (σ' := σ) (by decide +kernel) rfl rfl ?_
    refine g_ic_ge hx (off := 21) (tgt := 30) (by decide +kernel) (by decide) (fun c9 => ?_) (fun c9 => ?_)
    · have h := ok_t h c9
      refine g_run hx [(.iconst (-1), (-1), 0)] (pc' := 31) (lo' := [some (.ref 1), some (.int v1)]) (st' := [.int (-1)]) (σ' := σ) (by decide +kernel) rfl rfl ?_
      exact g_iret hx hr rfl _ rfl (by decide +kernel) (ok_some h)
    · have h := ok_f h c9
      refine g_run hx [(.iload_n 1, 0, 0), (.aload_n 0, 0, 0), (.getfield 9, 0, 0), (.arraylength, 0, 0)] (pc' := 18) (lo' := [some (.ref 1), some (.int v1)]) (st' := [.int (nI 900), .int v1]) (σ' := σ) (by decide +kernel) rfl rfl ?_
      refine g_ic_ge hx (off := 12) (tgt := 30) (by decide +kernel) (by decide) (fun c18 => ?_) (fun c18 => ?_)
      · have h := ok_t h c18
        refine g_run hx [(.iconst (-1), (-1), 0)] (pc' := 31) (lo' := [some (.ref 1), some (.int v1)]) (st' := [.int (-1)]) (σ' := σ) (by decide +kernel) rfl rfl ?_
        exact g_iret hx hr rfl _ rfl (by decide +kernel) (ok_some h)
      · have h := ok_f h c18
        refine g_run hx [(.aload_n 0, 0, 0), (.getfield 9, 0, 0), (.iload_n 1, 0, 0)] (pc' := 26) (lo' := [some (.ref 1), some (.int v1)]) (st' := [.int v1, .ref 2]) (σ' := σ) (by decide +kernel) rfl rfl ?_
        obtain ⟨c26, h⟩ := ok_g h
        refine g_bald hx (by decide +kernel) (i := 2) (n := 900) rfl c26 ?_
        refine g_goto hx (off := 4) (tgt := 31) (by decide +kernel) (by decide) ?_
        exact g_iret hx hr rfl _ rfl (by decide +kernel) (ok_some h)
def f_reader_isLetter (N : Nat) (v0 : Int32) (σ : Sg) : Option (Bool × Sg) :=
  if v0 < 97 then
    some (false, σ)
  else
    if 122 < v0 then
      some (false, σ)
    else
      some (true, σ)
set_option maxRecDepth 100000 in
theorem s_reader_isLetter {y : EX} {N : Nat} {v0 : Int32} {σ : Sg} {P : Bool × Sg → Prop} (h : ok (f_reader_isLetter N v0 σ) P) : Ev y M_reader_isLetter 0 [.int v0] σ rvB P := by
  refine Ev.of mk_reader_isLetter (Nat.le_of_ble_eq_true rfl) (fun x hx hc hr => ?_)
  have hx : Cx 5 prog_7_method_25_code x := hx
  have hc : Cc y 1 0 x := hc
  show G x 0 [some (.int v0)] [] σ
  unfold f_reader_isLetter at h
  refine g_run hx [(.iload_n 0, 0, 0), (.bipush 97, 97, 0)] (pc' := 3) (lo' := [some (.int v0)]) (st' := [.int 97, .int v0]) (σ' := σ) (by decide +kernel) rfl rfl ?_
  refine g_ic_lt hx (off := 13) (tgt := 16) (by decide +kernel) (by decide) (fun c3 => ?_) (fun c3 => ?_)
  · have h := ok_t h c3
    refine g_run hx [(.iconst 0, 0, 0)] (pc' := 17) (lo' := [some (.int v0)]) (st' := [.int 0]) (σ' := σ) (by decide +kernel) rfl rfl ?_
    exact g_zret (b := false) hx hr rfl false rfl (by decide +kernel) (ok_some h)
  · have h := ok_f h c3
    refine g_run hx [(.iload_n 0, 0, 0), (.bipush 122, 122, 0)] (pc' := 9) (lo' := [some (.int v0)]) (st' := [.int 122, .int v0]) (σ' := σ) (by decide +kernel) rfl rfl ?_
    refine g_ic_gt hx (off := 7) (tgt := 16) (by decide +kernel) (by decide) (fun c9 => ?_) (fun c9 => ?_)
    · have h := ok_t h c9
      refine g_run hx [(.iconst 0, 0, 0)] (pc' := 17) (lo' := [some (.int v0)]) (st' := [.int 0]) (σ' := σ) (by decide +kernel) rfl rfl ?_
      exact g_zret (b := false) hx hr rfl false rfl (by decide +kernel) (ok_some h)
    · have h := ok_f h c9
      refine g_run hx [(.iconst 1, 1, 0)] (pc' := 13) (lo' := [some (.int v0)]) (st' := [.int 1]) (σ' := σ) (by decide +kernel) rfl rfl ?_
      refine g_goto hx (off := 4) (tgt := 17) (by decide +kernel) (by decide) ?_
      exact g_zret (b := true) hx hr rfl true rfl (by decide +kernel) (ok_some h)
def f_reader_isDigit (N : Nat) (v0 : Int32) (σ : Sg) : Option (Bool × Sg) :=
  if v0 < 48 then
    some (false, σ)
  else
    if 57 < v0 then
      some (false, σ)
    else
      some (true, σ)
set_option maxRecDepth 100000 in
theorem s_reader_isDigit {y : EX} {N : Nat} {v0 : Int32} {σ : Sg} {P : Bool × Sg → Prop} (h : ok (f_reader_isDigit N v0 σ) P) : Ev y M_reader_isDigit 0 [.int v0] σ rvB P := by
  refine Ev.of mk_reader_isDigit (Nat.le_of_ble_eq_true rfl) (fun x hx hc hr => ?_)
  have hx : Cx 5 prog_7_method_26_code x := hx
  have hc : Cc y 1 0 x := hc
  show G x 0 [some (.int v0)] [] σ
  unfold f_reader_isDigit at h
  refine g_run hx [(.iload_n 0, 0, 0), (.bipush 48, 48, 0)] (pc' := 3) (lo' := [some (.int v0)]) (st' := [.int 48, .int v0]) (σ' := σ) (by decide +kernel) rfl rfl ?_
  refine g_ic_lt hx (off := 13) (tgt := 16) (by decide +kernel) (by decide) (fun c3 => ?_) (fun c3 => ?_)
  · have h := ok_t h c3
    refine g_run hx [(.iconst 0, 0, 0)] (pc' := 17) (lo' := [some (.int v0)]) (st' := [.int 0]) (σ' := σ) (by decide +kernel) rfl rfl ?_
    exact g_zret (b := false) hx hr rfl false rfl (by decide +kernel) (ok_some h)
  · have h := ok_f h c3
    refine g_run hx [(.iload_n 0, 0, 0), (.bipush 57, 57, 0)] (pc' := 9) (lo' := [some (.int v0)]) (st' := [.int 57, .int v0]) (σ' := σ) (by decide +kernel) rfl rfl ?_
    refine g_ic_gt hx (off := 7) (tgt := 16) (by decide +kernel) (by decide) (fun c9 => ?_) (fun c9 => ?_)
    · have h := ok_t h c9
      refine g_run hx [(.iconst 0, 0, 0)] (pc' := 17) (lo' := [some (.int v0)]) (st' := [.int 0]) (σ' := σ) (by decide +kernel) rfl rfl ?_
      exact g_zret (b := false) hx hr rfl false rfl (by decide +kernel) (ok_some h)
    · have h := ok_f h c9
      refine g_run hx [(.iconst 1, 1, 0)] (pc' := 13) (lo' := [some (.int v0)]) (st' := [.int 1]) (σ' := σ) (by decide +kernel) rfl rfl ?_
      refine g_goto hx (off := 4) (tgt := 17) (by decide +kernel) (by decide) ?_
      exact g_zret (b := true) hx hr rfl true rfl (by decide +kernel) (ok_some h)
def f_reader_nextToken_L8 (N : Nat) : Nat → Sg → (Sg → Option (Unit × Sg)) → Option (Unit × Sg)
  | 0, _, _ => none
  | n + 1, σ, k45 =>
    if (gI σ 1 2) ≤ (gI σ 1 4) then
      k45 σ
    else
      (f_reader_byteAt N (gI σ 1 4) σ).bind fun q1 =>
      if q1.1 = 32 then
        f_reader_nextToken_L8 N n (sI q1.2 1 4 ((gI q1.2 1 4) + 1)) k45
      else
        k45 q1.2
def f_reader_nextToken_L169 (N : Nat) : Nat → Sg → Option (Unit × Sg)
  | 0, _ => none
  | n + 1, σ =>
    if (gI σ 1 2) ≤ (gI σ 1 5) then
      if 3 < ((gI σ 1 5) - (gI σ 1 4)) then
        some ((), sI σ 1 3 4)
      else
        some ((), sI σ 1 3 2)
    else
      (f_reader_byteAt N (gI σ 1 5) σ).bind fun q8 =>
      (f_reader_isDigit N q8.1 q8.2).bind fun q9 =>
      if q9.1 = true then
        if 3 ≤ ((gI q9.2 1 5) - (gI q9.2 1 4)) then
          f_reader_nextToken_L169 N n (sI (sI q9.2 1 6 (gI q9.2 1 6)) 1 5 ((gI (sI q9.2 1 6 (gI q9.2 1 6)) 1 5) + 1))
        else
          (f_reader_byteAt N (gI q9.2 1 5) q9.2).bind fun q10 =>
          f_reader_nextToken_L169 N n (sI (sI q10.2 1 6 ((((gI q9.2 1 6) * 10) + q10.1) - 48)) 1 5 ((gI (sI q10.2 1 6 ((((gI q9.2 1 6) * 10) + q10.1) - 48)) 1 5) + 1))
      else
        if 3 < ((gI q9.2 1 5) - (gI q9.2 1 4)) then
          some ((), sI q9.2 1 3 4)
        else
          some ((), sI q9.2 1 3 2)
def f_reader_nextToken_L86 (N : Nat) : Nat → Sg → Option (Unit × Sg)
  | 0, _ => none
  | n + 1, σ =>
    if (gI σ 1 2) ≤ (gI σ 1 5) then
      if 8 < ((gI σ 1 5) - (gI σ 1 4)) then
        some ((), sI σ 1 3 4)
      else
        some ((), sI σ 1 3 1)
    else
      (f_reader_byteAt N (gI σ 1 5) σ).bind fun q11 =>
      (f_reader_isLetter N q11.1 q11.2).bind fun q12 =>
      if q12.1 = true then
        f_reader_nextToken_L86 N n (sI q12.2 1 5 ((gI q12.2 1 5) + 1))
      else
        if 8 < ((gI q12.2 1 5) - (gI q12.2 1 4)) then
          some ((), sI q12.2 1 3 4)
        else
          some ((), sI q12.2 1 3 1)
def f_reader_nextToken (N : Nat) (σ : Sg) : Option (Unit × Sg) :=
  f_reader_nextToken_L8 N N (sI σ 1 4 (gI σ 1 5))
    (fun (t2 : Sg) =>
      if (gI (sI t2 1 5 (gI t2 1 4)) 1 4) < (gI (sI t2 1 5 (gI t2 1 4)) 1 2) then
        (f_reader_byteAt N (gI (sI t2 1 5 (gI t2 1 4)) 1 4) (sI t2 1 5 (gI t2 1 4))).bind fun q3 =>
        (f_reader_isLetter N q3.1 q3.2).bind fun q4 =>
        if q4.1 = true then
          f_reader_nextToken_L86 N N q4.2
        else
          (f_reader_byteAt N (gI q4.2 1 4) q4.2).bind fun q5 =>
          (f_reader_isDigit N q5.1 q5.2).bind fun q6 =>
          if q6.1 = true then
            f_reader_nextToken_L169 N N (sI q6.2 1 6 0)
          else
            (f_reader_byteAt N (gI q6.2 1 4) q6.2).bind fun q7 =>
            if q7.1 = 59 then
              some ((), sI (sI q7.2 1 3 3) 1 5 ((gI (sI q7.2 1 3 3) 1 5) + 1))
            else
              some ((), sI (sI q7.2 1 3 4) 1 5 ((gI (sI q7.2 1 3 4) 1 5) + 1))
      else
        some ((), sI (sI t2 1 5 (gI t2 1 4)) 1 3 0))
set_option maxRecDepth 100000 in
theorem s_reader_nextToken_L8 {y : EX} {N : Nat} {x : CX} {P : Unit × Sg → Prop} (hx : Cx 5 prog_7_method_24_code x) (hc : Cc y 1 1 x) (hr : Cr M_reader_nextToken rvN P x) : ∀ (n : Nat) (σ : Sg) (k45 : Sg → Option (Unit × Sg)) (hk45 : ∀ (t : Sg), ok (k45 t) P → G x 45 [some (.ref 1)] [] t), ok (f_reader_nextToken_L8 N n σ k45) P → G x 8 [some (.ref 1)] [] σ := by
  intro n
  induction n with
  | zero => intro σ k45 hk45 h; exact ok_none h
  | succ n ih =>
    intro σ k45 hk45 h
    rw [f_reader_nextToken_L8] at h
    refine g_run hx [(.aload_n 0, 0, 0), (.getfield 25, 0, 0), (.aload_n 0, 0, 0), (.getfield 19, 0, 0)] (pc' := 16) (lo' := [some (.ref 1)]) (st' := [.int (gI σ 1 2), .int (gI σ 1 4)]) (σ' := σ) (by decide +kernel) rfl rfl ?_
    refine g_ic_ge hx (off := 29) (tgt := 45) (by decide +kernel) (by decide) (fun c16 => ?_) (fun c16 => ?_)
    · have h := ok_t h c16
      exact hk45 _ h
    · have h := ok_f h c16
      refine g_run hx [(.aload_n 0, 0, 0), (.aload_n 0, 0, 0), (.getfield 25, 0, 0)] (pc' := 24) (lo' := [some (.ref 1)]) (st' := [.int (gI σ 1 4), .ref 1]) (σ' := σ) (by decide +kernel) rfl rfl ?_
      refine g_callV (rest := []) [.int (gI σ 1 4)] hx hc mk_reader_byteAt ln_5_242 rfl (by decide +kernel) (by decide) (Nat.le_of_ble_eq_true rfl) (s_reader_byteAt (ok_b h)) (fun r1 s1 h => ?_)
      refine g_run hx [(.bipush 32, 32, 0)] (pc' := 29) (lo' := [some (.ref 1)]) (st' := [.int 32, .int r1]) (σ' := s1) (by decide +kernel) rfl rfl ?_
      refine g_ic_ne hx (off := 16) (tgt := 45) (by decide +kernel) (by decide) (fun c29 => ?_) (fun c29 => ?_)
      · have h := ok_f h c29
        exact hk45 _ h
      · have h := ok_t h c29
        refine g_run hx [(.aload_n 0, 0, 0), (.dup, 0, 0), (.getfield 25, 0, 0), (.iconst 1, 1, 0), (.iadd, 0, 0), (.putfield 25, 0, 0)] (pc' := 42) (lo' := [some (.ref 1)]) (st' := []) (σ' := sI s1 1 4 ((gI s1 1 4) + 1)) (by decide +kernel) rfl rfl ?_
        refine g_goto hx (off := (-34)) (tgt := 8) (by decide +kernel) (by decide) ?_
        exact ih _ _ hk45 h
set_option maxRecDepth 100000 in
theorem s_reader_nextToken_L169 {y : EX} {N : Nat} {x : CX} {P : Unit × Sg → Prop} (hx : Cx 5 prog_7_method_24_code x) (hc : Cc y 1 1 x) (hr : Cr M_reader_nextToken rvN P x) : ∀ (n : Nat) (σ : Sg), ok (f_reader_nextToken_L169 N n σ) P → G x 169 [some (.ref 1)] [] σ := by
  intro n
  induction n with
  | zero => intro σ h; exact ok_none h
  | succ n ih =>
    intro σ h
    rw [f_reader_nextToken_L169] at h
    refine g_run hx [(.aload_n 0, 0, 0), (.getfield 28, 0, 0), (.aload_n 0, 0, 0), (.getfield 19, 0, 0)] (pc' := 177) (lo' := [some (.ref 1)]) (st' := [.int (gI σ 1 2), .int (gI σ 1 5)]) (σ' := σ) (by decide +kernel) rfl rfl ?_
    refine g_ic_ge hx (off := 73) (tgt := 250) (by decide +kernel) (by decide) (fun c177 => ?_) (fun c177 => ?_)
    · have h := ok_t h c177
      refine g_run hx [(.aload_n 0, 0, 0), (.aload_n 0, 0, 0), (.getfield 28, 0, 0), (.aload_n 0, 0, 0), (.getfield 25, 0, 0), (.isub, 0, 0), (.iconst 3, 3, 0)] (pc' := 261) (lo' := [some (.ref 1)]) (st' := [.int 3, .int ((gI σ 1 5) - (gI σ 1 4)), .ref 1]) (σ' := σ) (by decide +kernel) rfl rfl ?_
      refine g_ic_gt hx (off := 7) (tgt := 268) (by decide +kernel) (by decide) (fun c261 => ?_) (fun c261 => ?_)
      · have h := ok_t h c261
        refine g_run hx [(.iconst 4, 4, 0), (.putfield 22, 0, 0)] (pc' := 272) (lo' := [some (.ref 1)]) (st' := []) (σ' := sI σ 1 3 4) (by decide +kernel) rfl rfl ?_
        refine g_goto hx (off := 35) (tgt := 307) (by decide +kernel) (by decide) ?_
        exact g_vret hx hr rfl () rfl (by decide +kernel) (ok_some h)
      · have h := ok_f h c261
        refine g_run hx [(.iconst 2, 2, 0)] (pc' := 265) (lo' := [some (.ref 1)]) (st' := [.int 2, .ref 1]) (σ' := σ) (by decide +kernel) rfl rfl ?_
        refine g_goto hx (off := 4) (tgt := 269) (by decide +kernel) (by decide) ?_
        refine g_run hx [(.putfield 22, 0, 0)] (pc' := 272) (lo' := [some (.ref 1)]) (st' := []) (σ' := sI σ 1 3 2) (by decide +kernel) rfl rfl ?_
        refine g_goto hx (off := 35) (tgt := 307) (by decide +kernel) (by decide) ?_
        exact g_vret hx hr rfl () rfl (by decide +kernel) (ok_some h)
    · have h := ok_f h c177
      refine g_run hx [(.aload_n 0, 0, 0), (.aload_n 0, 0, 0), (.getfield 28, 0, 0)] (pc' := 185) (lo' := [some (.ref 1)]) (st' := [.int (gI σ 1 5), .ref 1]) (σ' := σ) (by decide +kernel) rfl rfl ?_
      refine g_callV (rest := []) [.int (gI σ 1 5)] hx hc mk_reader_byteAt ln_5_242 rfl (by decide +kernel) (by decide) (Nat.le_of_ble_eq_true rfl) (s_reader_byteAt (ok_b h)) (fun r8 s8 h => ?_)
      refine g_callS (rest := []) [.int r8] hx hc mk_reader_isDigit ln_5_269 (by decide +kernel) (by decide) (Nat.le_of_ble_eq_true rfl) (s_reader_isDigit (ok_b h)) (fun r9 s9 h => ?_)
      refine g_ifb_eq hx (off := 59) (tgt := 250) (by decide +kernel) (by decide) (fun c191 => ?_) (fun c191 => ?_)
      · have h := ok_f h c191
        refine g_run hx [(.aload_n 0, 0, 0), (.aload_n 0, 0, 0), (.getfield 28, 0, 0), (.aload_n 0, 0, 0), (.getfield 25, 0, 0), (.isub, 0, 0), (.iconst 3, 3, 0)] (pc' := 261) (lo' := [some (.ref 1)]) (st' := [.int 3, .int ((gI s9 1 5) - (gI s9 1 4)), .ref 1]) (σ' := s9) (by decide +kernel) rfl rfl ?_
        refine g_ic_gt hx (off := 7) (tgt := 268) (by decide +kernel) (by decide) (fun c261 => ?_) (fun c261 => ?_)
        · have h := ok_t h c261
          refine g_run hx [(.iconst 4, 4, 0), (.putfield 22, 0, 0)] (pc' := 272) (lo' := [some (.ref 1)]) (st' := []) (σ' := sI s9 1 3 4) (by decide +kernel) rfl rfl ?_
          refine g_goto hx (off := 35) (tgt := 307) (by decide +kernel) (by decide) ?_
          exact g_vret hx hr rfl () rfl (by decide +kernel) (ok_some h)
        · have h := ok_f h c261
          refine g_run hx [(.iconst 2, 2, 0)] (pc' := 265) (lo' := [some (.ref 1)]) (st' := [.int 2, .ref 1]) (σ' := s9) (by decide +kernel) rfl rfl ?_
          refine g_goto hx (off := 4) (tgt := 269) (by decide +kernel) (by decide) ?_
          refine g_run hx [(.putfield 22, 0, 0)] (pc' := 272) (lo' := [some (.ref 1)]) (st' := []) (σ' := sI s9 1 3 2) (by decide +kernel) rfl rfl ?_
          refine g_goto hx (off := 35) (tgt := 307) (by decide +kernel) (by decide) ?_
          exact g_vret hx hr rfl () rfl (by decide +kernel) (ok_some h)
      · have h := ok_t h c191
        refine g_run hx [(.aload_n 0, 0, 0), (.aload_n 0, 0, 0), (.getfield 28, 0, 0), (.aload_n 0, 0, 0), (.getfield 25, 0, 0), (.isub, 0, 0), (.iconst 3, 3, 0)] (pc' := 205) (lo' := [some (.ref 1)]) (st' := [.int 3, .int ((gI s9 1 5) - (gI s9 1 4)), .ref 1]) (σ' := s9) (by decide +kernel) rfl rfl ?_
        refine g_ic_ge hx (off := 25) (tgt := 230) (by decide +kernel) (by decide) (fun c205 => ?_) (fun c205 => ?_)
        · have h := ok_t h c205
          refine g_run hx [(.aload_n 0, 0, 0), (.getfield 31, 0, 0), (.putfield 31, 0, 0), (.aload_n 0, 0, 0), (.dup, 0, 0), (.getfield 28, 0, 0), (.iconst 1, 1, 0), (.iadd, 0, 0), (.putfield 28, 0, 0)] (pc' := 247) (lo' := [some (.ref 1)]) (st' := []) (σ' := sI (sI s9 1 6 (gI s9 1 6)) 1 5 ((gI (sI s9 1 6 (gI s9 1 6)) 1 5) + 1)) (by decide +kernel) rfl rfl ?_
          refine g_goto hx (off := (-78)) (tgt := 169) (by decide +kernel) (by decide) ?_
          exact ih _ h
        · have h := ok_f h c205
          refine g_run hx [(.aload_n 0, 0, 0), (.getfield 31, 0, 0), (.bipush 10, 10, 0), (.imul, 0, 0), (.aload_n 0, 0, 0), (.aload_n 0, 0, 0), (.getfield 28, 0, 0)] (pc' := 220) (lo' := [some (.ref 1)]) (st' := [.int (gI s9 1 5), .ref 1, .int ((gI s9 1 6) * 10), .ref 1]) (σ' := s9) (by decide +kernel) rfl rfl ?_
          refine g_callV (rest := [.int ((gI s9 1 6) * 10), .ref 1]) [.int (gI s9 1 5)] hx hc mk_reader_byteAt ln_5_242 rfl (by decide +kernel) (by decide) (Nat.le_of_ble_eq_true rfl) (s_reader_byteAt (ok_b h)) (fun r10 s10 h => ?_)
          refine g_run hx [(.iadd, 0, 0), (.bipush 48, 48, 0), (.isub, 0, 0)] (pc' := 227) (lo' := [some (.ref 1)]) (st' := [.int ((((gI s9 1 6) * 10) + r10) - 48), .ref 1]) (σ' := s10) (by decide +kernel) rfl rfl ?_
          refine g_goto hx (off := 7) (tgt := 234) (by decide +kernel) (by decide) ?_
          refine g_run hx [(.putfield 31, 0, 0), (.aload_n 0, 0, 0), (.dup, 0, 0), (.getfield 28, 0, 0), (.iconst 1, 1, 0), (.iadd, 0, 0), (.putfield 28, 0, 0)] (pc' := 247) (lo' := [some (.ref 1)]) (st' := []) (σ' := sI (sI s10 1 6 ((((gI s9 1 6) * 10) + r10) - 48)) 1 5 ((gI (sI s10 1 6 ((((gI s9 1 6) * 10) + r10) - 48)) 1 5) + 1)) (by decide +kernel) rfl rfl ?_
          refine g_goto hx (off := (-78)) (tgt := 169) (by decide +kernel) (by decide) ?_
          exact ih _ h
set_option maxRecDepth 100000 in
theorem s_reader_nextToken_L86 {y : EX} {N : Nat} {x : CX} {P : Unit × Sg → Prop} (hx : Cx 5 prog_7_method_24_code x) (hc : Cc y 1 1 x) (hr : Cr M_reader_nextToken rvN P x) : ∀ (n : Nat) (σ : Sg), ok (f_reader_nextToken_L86 N n σ) P → G x 86 [some (.ref 1)] [] σ := by
  intro n
  induction n with
  | zero => intro σ h; exact ok_none h
  | succ n ih =>
    intro σ h
    rw [f_reader_nextToken_L86] at h
    refine g_run hx [(.aload_n 0, 0, 0), (.getfield 28, 0, 0), (.aload_n 0, 0, 0), (.getfield 19, 0, 0)] (pc' := 94) (lo' := [some (.ref 1)]) (st' := [.int (gI σ 1 2), .int (gI σ 1 5)]) (σ' := σ) (by decide +kernel) rfl rfl ?_
    refine g_ic_ge hx (off := 30) (tgt := 124) (by decide +kernel) (by decide) (fun c94 => ?_) (fun c94 => ?_)
    · have h := ok_t h c94
      refine g_run hx [(.aload_n 0, 0, 0), (.aload_n 0, 0, 0), (.getfield 28, 0, 0), (.aload_n 0, 0, 0), (.getfield 25, 0, 0), (.isub, 0, 0), (.bipush 8, 8, 0)] (pc' := 136) (lo' := [some (.ref 1)]) (st' := [.int 8, .int ((gI σ 1 5) - (gI σ 1 4)), .ref 1]) (σ' := σ) (by decide +kernel) rfl rfl ?_
      refine g_ic_gt hx (off := 7) (tgt := 143) (by decide +kernel) (by decide) (fun c136 => ?_) (fun c136 => ?_)
      · have h := ok_t h c136
        refine g_run hx [(.iconst 4, 4, 0), (.putfield 22, 0, 0)] (pc' := 147) (lo' := [some (.ref 1)]) (st' := []) (σ' := sI σ 1 3 4) (by decide +kernel) rfl rfl ?_
        refine g_goto hx (off := 160) (tgt := 307) (by decide +kernel) (by decide) ?_
        exact g_vret hx hr rfl () rfl (by decide +kernel) (ok_some h)
      · have h := ok_f h c136
        refine g_run hx [(.iconst 1, 1, 0)] (pc' := 140) (lo' := [some (.ref 1)]) (st' := [.int 1, .ref 1]) (σ' := σ) (by decide +kernel) rfl rfl ?_
        refine g_goto hx (off := 4) (tgt := 144) (by decide +kernel) (by decide) ?_
        refine g_run hx [(.putfield 22, 0, 0)] (pc' := 147) (lo' := [some (.ref 1)]) (st' := []) (σ' := sI σ 1 3 1) (by decide +kernel) rfl rfl ?_
        refine g_goto hx (off := 160) (tgt := 307) (by decide +kernel) (by decide) ?_
        exact g_vret hx hr rfl () rfl (by decide +kernel) (ok_some h)
    · have h := ok_f h c94
      refine g_run hx [(.aload_n 0, 0, 0), (.aload_n 0, 0, 0), (.getfield 28, 0, 0)] (pc' := 102) (lo' := [some (.ref 1)]) (st' := [.int (gI σ 1 5), .ref 1]) (σ' := σ) (by decide +kernel) rfl rfl ?_
      refine g_callV (rest := []) [.int (gI σ 1 5)] hx hc mk_reader_byteAt ln_5_242 rfl (by decide +kernel) (by decide) (Nat.le_of_ble_eq_true rfl) (s_reader_byteAt (ok_b h)) (fun r11 s11 h => ?_)
      refine g_callS (rest := []) [.int r11] hx hc mk_reader_isLetter ln_5_266 (by decide +kernel) (by decide) (Nat.le_of_ble_eq_true rfl) (s_reader_isLetter (ok_b h)) (fun r12 s12 h => ?_)
      refine g_ifb_eq hx (off := 16) (tgt := 124) (by decide +kernel) (by decide) (fun c108 => ?_) (fun c108 => ?_)
      · have h := ok_f h c108
        refine g_run hx [(.aload_n 0, 0, 0), (.aload_n 0, 0, 0), (.getfield 28, 0, 0), (.aload_n 0, 0, 0), (.getfield 25, 0, 0), (.isub, 0, 0), (.bipush 8, 8, 0)] (pc' := 136) (lo' := [some (.ref 1)]) (st' := [.int 8, .int ((gI s12 1 5) - (gI s12 1 4)), .ref 1]) (σ' := s12) (by decide +kernel) rfl rfl ?_
        refine g_ic_gt hx (off := 7) (tgt := 143) (by decide +kernel) (by decide) (fun c136 => ?_) (fun c136 => ?_)
        · have h := ok_t h c136
          refine g_run hx [(.iconst 4, 4, 0), (.putfield 22, 0, 0)] (pc' := 147) (lo' := [some (.ref 1)]) (st' := []) (σ' := sI s12 1 3 4) (by decide +kernel) rfl rfl ?_
          refine g_goto hx (off := 160) (tgt := 307) (by decide +kernel) (by decide) ?_
          exact g_vret hx hr rfl () rfl (by decide +kernel) (ok_some h)
        · have h := ok_f h c136
          refine g_run hx [(.iconst 1, 1, 0)] (pc' := 140) (lo' := [some (.ref 1)]) (st' := [.int 1, .ref 1]) (σ' := s12) (by decide +kernel) rfl rfl ?_
          refine g_goto hx (off := 4) (tgt := 144) (by decide +kernel) (by decide) ?_
          refine g_run hx [(.putfield 22, 0, 0)] (pc' := 147) (lo' := [some (.ref 1)]) (st' := []) (σ' := sI s12 1 3 1) (by decide +kernel) rfl rfl ?_
          refine g_goto hx (off := 160) (tgt := 307) (by decide +kernel) (by decide) ?_
          exact g_vret hx hr rfl () rfl (by decide +kernel) (ok_some h)
      · have h := ok_t h c108
        refine g_run hx [(.aload_n 0, 0, 0), (.dup, 0, 0), (.getfield 28, 0, 0), (.iconst 1, 1, 0), (.iadd, 0, 0), (.putfield 28, 0, 0)] (pc' := 121) (lo' := [some (.ref 1)]) (st' := []) (σ' := sI s12 1 5 ((gI s12 1 5) + 1)) (by decide +kernel) rfl rfl ?_
        refine g_goto hx (off := (-35)) (tgt := 86) (by decide +kernel) (by decide) ?_
        exact ih _ h
set_option maxRecDepth 100000 in
theorem s_reader_nextToken {y : EX} {N : Nat} {σ : Sg} {P : Unit × Sg → Prop} (h : ok (f_reader_nextToken N σ) P) : Ev y M_reader_nextToken 1 [.ref 1] σ rvN P := by
  refine Ev.of mk_reader_nextToken (Nat.le_of_ble_eq_true rfl) (fun x hx hc hr => ?_)
  have hx : Cx 5 prog_7_method_24_code x := hx
  have hc : Cc y 1 1 x := hc
  show G x 0 [some (.ref 1)] [] σ
  unfold f_reader_nextToken at h
  refine g_run hx [(.aload_n 0, 0, 0), (.aload_n 0, 0, 0), (.getfield 28, 0, 0), (.putfield 25, 0, 0)] (pc' := 8) (lo' := [some (.ref 1)]) (st' := []) (σ' := sI σ 1 4 (gI σ 1 5)) (by decide +kernel) rfl rfl ?_
  refine s_reader_nextToken_L8 hx hc hr N _ _ (fun t2 h => ?_) h
  refine g_run hx [(.aload_n 0, 0, 0), (.aload_n 0, 0, 0), (.getfield 25, 0, 0), (.putfield 28, 0, 0), (.aload_n 0, 0, 0), (.getfield 25, 0, 0), (.aload_n 0, 0, 0), (.getfield 19, 0, 0)] (pc' := 61) (lo' := [some (.ref 1)]) (st' := [.int (gI (sI t2 1 5 (gI t2 1 4)) 1 2), .int (gI (sI t2 1 5 (gI t2 1 4)) 1 4)]) (σ' := sI t2 1 5 (gI t2 1 4)) (by decide +kernel) rfl rfl ?_
  refine g_ic_lt hx (off := 11) (tgt := 72) (by decide +kernel) (by decide) (fun c61 => ?_) (fun c61 => ?_)
  · have h := ok_t h c61
    refine g_run hx [(.aload_n 0, 0, 0), (.aload_n 0, 0, 0), (.getfield 25, 0, 0)] (pc' := 77) (lo' := [some (.ref 1)]) (st' := [.int (gI (sI t2 1 5 (gI t2 1 4)) 1 4), .ref 1]) (σ' := sI t2 1 5 (gI t2 1 4)) (by decide +kernel) rfl rfl ?_
    refine g_callV (rest := []) [.int (gI (sI t2 1 5 (gI t2 1 4)) 1 4)] hx hc mk_reader_byteAt ln_5_242 rfl (by decide +kernel) (by decide) (Nat.le_of_ble_eq_true rfl) (s_reader_byteAt (ok_b h)) (fun r3 s3 h => ?_)
    refine g_callS (rest := []) [.int r3] hx hc mk_reader_isLetter ln_5_266 (by decide +kernel) (by decide) (Nat.le_of_ble_eq_true rfl) (s_reader_isLetter (ok_b h)) (fun r4 s4 h => ?_)
    refine g_ifb_eq hx (off := 67) (tgt := 150) (by decide +kernel) (by decide) (fun c83 => ?_) (fun c83 => ?_)
    · have h := ok_f h c83
      refine g_run hx [(.aload_n 0, 0, 0), (.aload_n 0, 0, 0), (.getfield 25, 0, 0)] (pc' := 155) (lo' := [some (.ref 1)]) (st' := [.int (gI s4 1 4), .ref 1]) (σ' := s4) (by decide +kernel) rfl rfl ?_
      refine g_callV (rest := []) [.int (gI s4 1 4)] hx hc mk_reader_byteAt ln_5_242 rfl (by decide +kernel) (by decide) (Nat.le_of_ble_eq_true rfl) (s_reader_byteAt (ok_b h)) (fun r5 s5 h => ?_)
      refine g_callS (rest := []) [.int r5] hx hc mk_reader_isDigit ln_5_269 (by decide +kernel) (by decide) (Nat.le_of_ble_eq_true rfl) (s_reader_isDigit (ok_b h)) (fun r6 s6 h => ?_)
      refine g_ifb_eq hx (off := 114) (tgt := 275) (by decide +kernel) (by decide) (fun c161 => ?_) (fun c161 => ?_)
      · have h := ok_f h c161
        refine g_run hx [(.aload_n 0, 0, 0), (.aload_n 0, 0, 0), (.aload_n 0, 0, 0), (.getfield 25, 0, 0)] (pc' := 281) (lo' := [some (.ref 1)]) (st' := [.int (gI s6 1 4), .ref 1, .ref 1]) (σ' := s6) (by decide +kernel) rfl rfl ?_
        refine g_callV (rest := [.ref 1]) [.int (gI s6 1 4)] hx hc mk_reader_byteAt ln_5_242 rfl (by decide +kernel) (by decide) (Nat.le_of_ble_eq_true rfl) (s_reader_byteAt (ok_b h)) (fun r7 s7 h => ?_)
        refine g_run hx [(.bipush 59, 59, 0)] (pc' := 286) (lo' := [some (.ref 1)]) (st' := [.int 59, .int r7, .ref 1]) (σ' := s7) (by decide +kernel) rfl rfl ?_
        refine g_ic_ne hx (off := 7) (tgt := 293) (by decide +kernel) (by decide) (fun c286 => ?_) (fun c286 => ?_)
        · have h := ok_f h c286
          refine g_run hx [(.iconst 4, 4, 0), (.putfield 22, 0, 0), (.aload_n 0, 0, 0), (.dup, 0, 0), (.getfield 28, 0, 0), (.iconst 1, 1, 0), (.iadd, 0, 0), (.putfield 28, 0, 0)] (pc' := 307) (lo' := [some (.ref 1)]) (st' := []) (σ' := sI (sI s7 1 3 4) 1 5 ((gI (sI s7 1 3 4) 1 5) + 1)) (by decide +kernel) rfl rfl ?_
          exact g_vret hx hr rfl () rfl (by decide +kernel) (ok_some h)
        · have h := ok_t h c286
          refine g_run hx [(.iconst 3, 3, 0)] (pc' := 290) (lo' := [some (.ref 1)]) (st' := [.int 3, .ref 1]) (σ' := s7) (by decide +kernel) rfl rfl ?_
          refine g_goto hx (off := 4) (tgt := 294) (by decide +kernel) (by decide) ?_
          refine g_run hx [(.putfield 22, 0, 0), (.aload_n 0, 0, 0), (.dup, 0, 0), (.getfield 28, 0, 0), (.iconst 1, 1, 0), (.iadd, 0, 0), (.putfield 28, 0, 0)] (pc' := 307) (lo' := [some (.ref 1)]) (st' := []) (σ' := sI (sI s7 1 3 3) 1 5 ((gI (sI s7 1 3 3) 1 5) + 1)) (by decide +kernel) rfl rfl ?_
          exact g_vret hx hr rfl () rfl (by decide +kernel) (ok_some h)
      · have h := ok_t h c161
        refine g_run hx [(.aload_n 0, 0, 0), (.iconst 0, 0, 0), (.putfield 31, 0, 0)] (pc' := 169) (lo' := [some (.ref 1)]) (st' := []) (σ' := sI s6 1 6 0) (by decide +kernel) rfl rfl ?_
        refine s_reader_nextToken_L169 hx hc hr N _ h
    · have h := ok_t h c83
      refine s_reader_nextToken_L86 hx hc hr N _ h
  · have h := ok_f h c61
    refine g_run hx [(.aload_n 0, 0, 0), (.iconst 0, 0, 0), (.putfield 22, 0, 0)] (pc' := 69) (lo' := [some (.ref 1)]) (st' := []) (σ' := sI (sI t2 1 5 (gI t2 1 4)) 1 3 0) (by decide +kernel) rfl rfl ?_
    refine g_goto hx (off := 238) (tgt := 307) (by decide +kernel) (by decide) ?_
    exact g_vret hx hr rfl () rfl (by decide +kernel) (ok_some h)
