def f_m_odds (N : Nat) (v1 : Int32) (v2 : Int32) (v3 : Int32) (v4 : Int32) (σ : Sg) : Option (Int64 × Sg) :=
  (f_m_anew N σ).bind fun q1 =>
  (f_m_isCell N v1 q1.2).bind fun q2 =>
  (f_m_rowWhy N (b2i q2.1) v2 v3 q2.2).bind fun q3 =>
  if q3.1 = 0 then
    (f_m_tryGout N v3 v1 q3.2).bind fun q4 =>
    (f_m_lowest N (gL q4.2 66 50) (gL q4.2 66 49) v4 q4.2).bind fun q5 =>
    some (q5.1, q5.2)
  else
    (f_m_no N q3.1 q3.2).bind fun q6 =>
    some (Int32.toInt64 q6.1, q6.2)
set_option maxRecDepth 100000 in
theorem s_m_odds {y : EX} {N : Nat} {v1 : Int32} {v2 : Int32} {v3 : Int32} {v4 : Int32} {σ : Sg} {P : Int64 × Sg → Prop} (h : ok (f_m_odds N v1 v2 v3 v4 σ) P) : Ev y M_m_odds 5 [.ref 66, .int v1, .int v2, .int v3, .int v4] σ rvL P := by
  refine Ev.of mk_m_odds (Nat.le_of_ble_eq_true rfl) (fun x hx hc hr => ?_)
  have hx : Cx 10 prog_12_method_117_code x := hx
  have hc : Cc y 6 5 x := hc
  show G x 0 [some (.ref 66), some (.int v1), some (.int v2), some (.int v3), some (.int v4), none] [] σ
  unfold f_m_odds at h
  refine g_run hx [(.aload_n 0, 0, 0)] (pc' := 1) (lo' := [some (.ref 66), some (.int v1), some (.int v2), some (.int v3), some (.int v4), none]) (st' := [.ref 66]) (σ' := σ) (by decide +kernel) rfl rfl ?_
  refine g_callV (rest := []) [] hx hc mk_m_anew ln_10_174 rfl (by decide +kernel) (by decide) (Nat.le_of_ble_eq_true rfl) (s_m_anew (ok_b h)) (fun r1 s1 h => ?_)
  refine g_run hx [(.aload_n 0, 0, 0), (.aload_n 0, 0, 0), (.iload_n 1, 0, 0)] (pc' := 7) (lo' := [some (.ref 66), some (.int v1), some (.int v2), some (.int v3), some (.int v4), none]) (st' := [.int v1, .ref 66, .ref 66]) (σ' := s1) (by decide +kernel) rfl rfl ?_
  refine g_callV (rest := [.ref 66]) [.int v1] hx hc mk_m_isCell ln_10_279 rfl (by decide +kernel) (by decide) (Nat.le_of_ble_eq_true rfl) (s_m_isCell (ok_b h)) (fun r2 s2 h => ?_)
  refine g_run hx [(.iload_n 2, 0, 0), (.iload_n 3, 0, 0)] (pc' := 12) (lo' := [some (.ref 66), some (.int v1), some (.int v2), some (.int v3), some (.int v4), none]) (st' := [.int v3, .int v2, .int (b2i r2), .ref 66]) (σ' := s2) (by decide +kernel) rfl rfl ?_
  refine g_callV (rest := []) [.int (b2i r2), .int v2, .int v3] hx hc mk_m_rowWhy ln_10_328 rfl (by decide +kernel) (by decide) (Nat.le_of_ble_eq_true rfl) (s_m_rowWhy (ok_b h)) (fun r3 s3 h => ?_)
  refine g_run hx [(.istore 5, 0, 0), (.iload 5, 0, 0)] (pc' := 19) (lo' := [some (.ref 66), some (.int v1), some (.int v2), some (.int v3), some (.int v4), some (.int r3)]) (st' := [.int r3]) (σ' := s3) (by decide +kernel) rfl rfl ?_
  refine g_if_eq hx (off := 11) (tgt := 30) (by decide +kernel) (by decide) (fun c19 => ?_) (fun c19 => ?_)
  · have h := ok_t h c19
    refine g_run hx [(.aload_n 0, 0, 0), (.iload_n 3, 0, 0), (.iload_n 1, 0, 0)] (pc' := 33) (lo' := [some (.ref 66), some (.int v1), some (.int v2), some (.int v3), some (.int v4), some (.int r3)]) (st' := [.int v1, .int v3, .ref 66]) (σ' := s3) (by decide +kernel) rfl rfl ?_
    refine g_callV (rest := []) [.int v3, .int v1] hx hc mk_m_tryGout ln_10_428 rfl (by decide +kernel) (by decide) (Nat.le_of_ble_eq_true rfl) (s_m_tryGout (ok_b h)) (fun r4 s4 h => ?_)
    refine g_run hx [(.aload_n 0, 0, 0), (.getfield 422, 0, 0), (.aload_n 0, 0, 0), (.getfield 418, 0, 0), (.iload 4, 0, 0)] (pc' := 46) (lo' := [some (.ref 66), some (.int v1), some (.int v2), some (.int v3), some (.int v4), some (.int r3)]) (st' := [.int v4, .long (gL s4 66 49), .long (gL s4 66 50)]) (σ' := s4) (by decide +kernel) rfl rfl ?_
    refine g_callS (rest := []) [.long (gL s4 66 50), .long (gL s4 66 49), .int v4] hx hc mk_m_lowest ln_10_431 (by decide +kernel) (by decide) (Nat.le_of_ble_eq_true rfl) (s_m_lowest (ok_b h)) (fun r5 s5 h => ?_)
    exact g_lret hx hr rfl _ rfl (by decide +kernel) (ok_some h)
  · have h := ok_f h c19
    refine g_run hx [(.aload_n 0, 0, 0), (.iload 5, 0, 0)] (pc' := 25) (lo' := [some (.ref 66), some (.int v1), some (.int v2), some (.int v3), some (.int v4), some (.int r3)]) (st' := [.int r3, .ref 66]) (σ' := s3) (by decide +kernel) rfl rfl ?_
    refine g_callV (rest := []) [.int r3] hx hc mk_m_no ln_10_177 rfl (by decide +kernel) (by decide) (Nat.le_of_ble_eq_true rfl) (s_m_no (ok_b h)) (fun r6 s6 h => ?_)
    refine g_run hx [(.i2l, 0, 0)] (pc' := 29) (lo' := [some (.ref 66), some (.int v1), some (.int v2), some (.int v3), some (.int v4), some (.int r3)]) (st' := [.long (Int32.toInt64 r6)]) (σ' := s6) (by decide +kernel) rfl rfl ?_
    exact g_lret hx hr rfl _ rfl (by decide +kernel) (ok_some h)
def f_m_over_L34 (N : Nat) : Nat → Int32 → Int32 → Int32 → Int32 → Int32 → Sg → (Int32 → Int32 → Int32 → Int32 → Sg → Option (Int32 × Sg)) → Option (Int32 × Sg)
  | 0, _, _, _, _, _, _, _ => none
  | n + 1, v1, v2, v3, v4, v5, σ, k78 =>
    if (gA σ 69 2) ≤ v5 then
      k78 v1 v2 v3 v4 σ
    else
      if v4 = 0 then
        f_m_over_L34 N n v1 v2 v3 0 (v5 + 1) σ k78
      else
        if vin (9 + v5) 189 then
        if v3 = 0 then none else
        if ((gA σ 69 (9 + v5)) - (gA σ 69 (9 + v5)) / v3 * v3) = 0 then
          f_m_over_L34 N n v1 v2 v3 1 (v5 + 1) σ k78
        else
          f_m_over_L34 N n v1 v2 v3 0 (v5 + 1) σ k78
        else none
def f_m_over_L22 (N : Nat) : Nat → Int32 → Int32 → Int32 → Sg → (Int32 → Int32 → Sg → Option (Int32 × Sg)) → Option (Int32 × Sg)
  | 0, _, _, _, _, _ => none
  | n + 1, v1, v2, v3, σ, k95 =>
    if 10 ≤ v3 then
      k95 v1 v2 σ
    else
      f_m_over_L34 N N v1 v2 v3 1 0 σ
        (fun (w1 : Int32) (w2 : Int32) (w3 : Int32) (w4 : Int32) (t3 : Sg) =>
          if w4 = 0 then
            f_m_over_L22 N n w1 w2 (w3 + 1) t3 k95
          else
            f_m_over_L22 N n w1 w3 (w3 + 1) t3 k95)
def f_m_over (N : Nat) (v1 : Int32) (σ : Sg) : Option (Int32 × Sg) :=
  (f_m_anew N σ).bind fun q1 =>
  (f_m_isCell N v1 q1.2).bind fun q2 =>
  if q2.1 = true then
    f_m_over_L22 N N v1 1 2 q2.2
      (fun (w1 : Int32) (w2 : Int32) (t4 : Sg) =>
        if (gA t4 74 60) ≤ w1 then
          if w2 = 0 then none else
          some (((w1 - (gA t4 74 60)) - (w1 - (gA t4 74 60)) / w2 * w2), t4)
        else
          if w2 = 0 then none else
          some ((((gA t4 74 60) - w1) - ((gA t4 74 60) - w1) / w2 * w2), t4))
  else
    (f_m_no N 1 q2.2).bind fun q5 =>
    some (q5.1, q5.2)
set_option maxRecDepth 100000 in
theorem s_m_over_L34 {y : EX} {N : Nat} {x : CX} {P : Int32 × Sg → Prop} (hx : Cx 10 prog_12_method_91_code x) (hc : Cc y 6 2 x) (hr : Cr M_m_over rvI P x) : ∀ (n : Nat) (v1 : Int32) (v2 : Int32) (v3 : Int32) (v4 : Int32) (v5 : Int32) (σ : Sg) (k78 : Int32 → Int32 → Int32 → Int32 → Sg → Option (Int32 × Sg)) (hk78 : ∀ (w1 : Int32) (w2 : Int32) (w3 : Int32) (w4 : Int32) (t : Sg), ok (k78 w1 w2 w3 w4 t) P → G x 78 [some (.ref 66), some (.int w1), some (.int w2), some (.int w3), some (.int w4), none] [] t), ok (f_m_over_L34 N n v1 v2 v3 v4 v5 σ k78) P → G x 34 [some (.ref 66), some (.int v1), some (.int v2), some (.int v3), some (.int v4), some (.int v5)] [] σ := by
  intro n
  induction n with
  | zero => intro v1 v2 v3 v4 v5 σ k78 hk78 h; exact ok_none h
  | succ n ih =>
    intro v1 v2 v3 v4 v5 σ k78 hk78 h
    rw [f_m_over_L34] at h
    refine g_run hx [(.iload 5, 0, 0), (.aload_n 0, 0, 0), (.getfield 20, 0, 0), (.iconst 2, 2, 0), (.iaload, 0, 0)] (pc' := 42) (lo' := [some (.ref 66), some (.int v1), some (.int v2), some (.int v3), some (.int v4), some (.int v5)]) (st' := [.int (gA σ 69 2), .int v5]) (σ' := σ) (by decide +kernel) rfl rfl ?_
    refine g_ic_ge hx (off := 36) (tgt := 78) (by decide +kernel) (by decide) (fun c42 => ?_) (fun c42 => ?_)
    · have h := ok_t h c42
      refine g_wk (lo' := [some (.ref 66), some (.int v1), some (.int v2), some (.int v3), some (.int v4), none]) ⟨rfl, ⟨rfl, ⟨rfl, ⟨rfl, ⟨rfl, trivial⟩⟩⟩⟩⟩ ?_
      exact hk78 _ _ _ _ _ h
    · have h := ok_f h c42
      refine g_run hx [(.iload 4, 0, 0)] (pc' := 47) (lo' := [some (.ref 66), some (.int v1), some (.int v2), some (.int v3), some (.int v4), some (.int v5)]) (st' := [.int v4]) (σ' := σ) (by decide +kernel) rfl rfl ?_
      refine g_if_eq hx (off := 22) (tgt := 69) (by decide +kernel) (by decide) (fun c47 => ?_) (fun c47 => ?_)
      · have h := ok_t h c47
        refine g_run hx [(.iconst 0, 0, 0), (.istore 4, 0, 0), (.iinc 5 1, 1, 0)] (pc' := 75) (lo' := [some (.ref 66), some (.int v1), some (.int v2), some (.int v3), some (.int 0), some (.int (v5 + 1))]) (st' := []) (σ' := σ) (by decide +kernel) rfl rfl ?_
        refine g_goto hx (off := (-41)) (tgt := 34) (by decide +kernel) (by decide) ?_
        exact ih _ _ _ _ _ _ _ hk78 h
      · have h := ok_f h c47
        refine g_run hx [(.aload_n 0, 0, 0), (.getfield 20, 0, 0), (.bipush 9, 9, 0), (.iload 5, 0, 0), (.iadd, 0, 0)] (pc' := 59) (lo' := [some (.ref 66), some (.int v1), some (.int v2), some (.int v3), some (.int v4), some (.int v5)]) (st' := [.int (9 + v5), .ref 69]) (σ' := σ) (by decide +kernel) rfl rfl ?_
        obtain ⟨c59, h⟩ := ok_g h
        refine g_iald hx (by decide +kernel) (i := 69) (n := 189) rfl c59 ?_
        refine g_run hx [(.iload_n 3, 0, 0)] (pc' := 61) (lo' := [some (.ref 66), some (.int v1), some (.int v2), some (.int v3), some (.int v4), some (.int v5)]) (st' := [.int v3, .int (gA σ 69 (9 + v5))]) (σ' := σ) (by decide +kernel) rfl rfl ?_
        obtain ⟨c61, h⟩ := ok_n h
        refine g_irem hx (by decide +kernel) c61 ?_
        refine g_if_ne hx (off := 7) (tgt := 69) (by decide +kernel) (by decide) (fun c62 => ?_) (fun c62 => ?_)
        · have h := ok_f h c62
          refine g_run hx [(.iconst 0, 0, 0), (.istore 4, 0, 0), (.iinc 5 1, 1, 0)] (pc' := 75) (lo' := [some (.ref 66), some (.int v1), some (.int v2), some (.int v3), some (.int 0), some (.int (v5 + 1))]) (st' := []) (σ' := σ) (by decide +kernel) rfl rfl ?_
          refine g_goto hx (off := (-41)) (tgt := 34) (by decide +kernel) (by decide) ?_
          exact ih _ _ _ _ _ _ _ hk78 h
        · have h := ok_t h c62
          refine g_run hx [(.iconst 1, 1, 0)] (pc' := 66) (lo' := [some (.ref 66), some (.int v1), some (.int v2), some (.int v3), some (.int v4), some (.int v5)]) (st' := [.int 1]) (σ' := σ) (by decide +kernel) rfl rfl ?_
          refine g_goto hx (off := 4) (tgt := 70) (by decide +kernel) (by decide) ?_
          refine g_run hx [(.istore 4, 0, 0), (.iinc 5 1, 1, 0)] (pc' := 75) (lo' := [some (.ref 66), some (.int v1), some (.int v2), some (.int v3), some (.int 1), some (.int (v5 + 1))]) (st' := []) (σ' := σ) (by decide +kernel) rfl rfl ?_
          refine g_goto hx (off := (-41)) (tgt := 34) (by decide +kernel) (by decide) ?_
          exact ih _ _ _ _ _ _ _ hk78 h
set_option maxRecDepth 100000 in
theorem s_m_over_L22 {y : EX} {N : Nat} {x : CX} {P : Int32 × Sg → Prop} (hx : Cx 10 prog_12_method_91_code x) (hc : Cc y 6 2 x) (hr : Cr M_m_over rvI P x) : ∀ (n : Nat) (v1 : Int32) (v2 : Int32) (v3 : Int32) (σ : Sg) (k95 : Int32 → Int32 → Sg → Option (Int32 × Sg)) (hk95 : ∀ (w1 : Int32) (w2 : Int32) (t : Sg), ok (k95 w1 w2 t) P → G x 95 [some (.ref 66), some (.int w1), some (.int w2), none, none, none] [] t), ok (f_m_over_L22 N n v1 v2 v3 σ k95) P → G x 22 [some (.ref 66), some (.int v1), some (.int v2), some (.int v3), none, none] [] σ := by
  intro n
  induction n with
  | zero => intro v1 v2 v3 σ k95 hk95 h; exact ok_none h
  | succ n ih =>
    intro v1 v2 v3 σ k95 hk95 h
    rw [f_m_over_L22] at h
    refine g_run hx [(.iload_n 3, 0, 0), (.bipush 10, 10, 0)] (pc' := 25) (lo' := [some (.ref 66), some (.int v1), some (.int v2), some (.int v3), none, none]) (st' := [.int 10, .int v3]) (σ' := σ) (by decide +kernel) rfl rfl ?_
    refine g_ic_ge hx (off := 70) (tgt := 95) (by decide +kernel) (by decide) (fun c25 => ?_) (fun c25 => ?_)
    · have h := ok_t h c25
      refine g_wk (lo' := [some (.ref 66), some (.int v1), some (.int v2), none, none, none]) ⟨rfl, ⟨rfl, ⟨rfl, trivial⟩⟩⟩ ?_
      exact hk95 _ _ _ h
    · have h := ok_f h c25
      refine g_run hx [(.iconst 1, 1, 0), (.istore 4, 0, 0), (.iconst 0, 0, 0), (.istore 5, 0, 0)] (pc' := 34) (lo' := [some (.ref 66), some (.int v1), some (.int v2), some (.int v3), some (.int 1), some (.int 0)]) (st' := []) (σ' := σ) (by decide +kernel) rfl rfl ?_
      refine s_m_over_L34 hx hc hr N _ _ _ _ _ _ _ (fun w1 w2 w3 w4 t3 h => ?_) h
      refine g_run hx [(.iload 4, 0, 0)] (pc' := 80) (lo' := [some (.ref 66), some (.int w1), some (.int w2), some (.int w3), some (.int w4), none]) (st' := [.int w4]) (σ' := t3) (by decide +kernel) rfl rfl ?_
      refine g_if_eq hx (off := 7) (tgt := 87) (by decide +kernel) (by decide) (fun c80 => ?_) (fun c80 => ?_)
      · have h := ok_t h c80
        refine g_run hx [(.iload_n 2, 0, 0), (.istore_n 2, 0, 0), (.iinc 3 1, 1, 0)] (pc' := 92) (lo' := [some (.ref 66), some (.int w1), some (.int w2), some (.int (w3 + 1)), some (.int w4), none]) (st' := []) (σ' := t3) (by decide +kernel) rfl rfl ?_
        refine g_goto hx (off := (-70)) (tgt := 22) (by decide +kernel) (by decide) ?_
        refine g_wk (lo' := [some (.ref 66), some (.int w1), some (.int w2), some (.int (w3 + 1)), none, none]) ⟨rfl, ⟨rfl, ⟨rfl, ⟨rfl, trivial⟩⟩⟩⟩ ?_
        exact ih _ _ _ _ _ hk95 h
      · have h := ok_f h c80
        refine g_run hx [(.iload_n 3, 0, 0)] (pc' := 84) (lo' := [some (.ref 66), some (.int w1), some (.int w2), some (.int w3), some (.int w4), none]) (st' := [.int w3]) (σ' := t3) (by decide +kernel) rfl rfl ?_
        refine g_goto hx (off := 4) (tgt := 88) (by decide +kernel) (by decide) ?_
        refine g_run hx [(.istore_n 2, 0, 0), (.iinc 3 1, 1, 0)] (pc' := 92) (lo' := [some (.ref 66), some (.int w1), some (.int w3), some (.int (w3 + 1)), some (.int w4), none]) (st' := []) (σ' := t3) (by decide +kernel) rfl rfl ?_
        refine g_goto hx (off := (-70)) (tgt := 22) (by decide +kernel) (by decide) ?_
        refine g_wk (lo' := [some (.ref 66), some (.int w1), some (.int w3), some (.int (w3 + 1)), none, none]) ⟨rfl, ⟨rfl, ⟨rfl, ⟨rfl, trivial⟩⟩⟩⟩ ?_
        exact ih _ _ _ _ _ hk95 h
set_option maxRecDepth 100000 in
theorem s_m_over {y : EX} {N : Nat} {v1 : Int32} {σ : Sg} {P : Int32 × Sg → Prop} (h : ok (f_m_over N v1 σ) P) : Ev y M_m_over 2 [.ref 66, .int v1] σ rvI P := by
  refine Ev.of mk_m_over (Nat.le_of_ble_eq_true rfl) (fun x hx hc hr => ?_)
  have hx : Cx 10 prog_12_method_91_code x := hx
  have hc : Cc y 6 2 x := hc
  show G x 0 [some (.ref 66), some (.int v1), none, none, none, none] [] σ
  unfold f_m_over at h
  refine g_run hx [(.aload_n 0, 0, 0)] (pc' := 1) (lo' := [some (.ref 66), some (.int v1), none, none, none, none]) (st' := [.ref 66]) (σ' := σ) (by decide +kernel) rfl rfl ?_
  refine g_callV (rest := []) [] hx hc mk_m_anew ln_10_174 rfl (by decide +kernel) (by decide) (Nat.le_of_ble_eq_true rfl) (s_m_anew (ok_b h)) (fun r1 s1 h => ?_)
  refine g_run hx [(.aload_n 0, 0, 0), (.iload_n 1, 0, 0)] (pc' := 6) (lo' := [some (.ref 66), some (.int v1), none, none, none, none]) (st' := [.int v1, .ref 66]) (σ' := s1) (by decide +kernel) rfl rfl ?_
  refine g_callV (rest := []) [.int v1] hx hc mk_m_isCell ln_10_279 rfl (by decide +kernel) (by decide) (Nat.le_of_ble_eq_true rfl) (s_m_isCell (ok_b h)) (fun r2 s2 h => ?_)
  refine g_ifb_ne hx (off := 9) (tgt := 18) (by decide +kernel) (by decide) (fun c9 => ?_) (fun c9 => ?_)
  · have h := ok_t h c9
    refine g_run hx [(.iconst 1, 1, 0), (.istore_n 2, 0, 0), (.iconst 2, 2, 0), (.istore_n 3, 0, 0)] (pc' := 22) (lo' := [some (.ref 66), some (.int v1), some (.int 1), some (.int 2), none, none]) (st' := []) (σ' := s2) (by decide +kernel) rfl rfl ?_
    refine s_m_over_L22 hx hc hr N _ _ _ _ _ (fun w1 w2 t4 h => ?_) h
    refine g_run hx [(.iload_n 1, 0, 0), (.aload_n 0, 0, 0), (.getfield 35, 0, 0), (.bipush 60, 60, 0), (.iaload, 0, 0)] (pc' := 103) (lo' := [some (.ref 66), some (.int w1), some (.int w2), none, none, none]) (st' := [.int (gA t4 74 60), .int w1]) (σ' := t4) (by decide +kernel) rfl rfl ?_
    refine g_ic_ge hx (off := 15) (tgt := 118) (by decide +kernel) (by decide) (fun c103 => ?_) (fun c103 => ?_)
    · have h := ok_t h c103
      refine g_run hx [(.iload_n 1, 0, 0), (.aload_n 0, 0, 0), (.getfield 35, 0, 0), (.bipush 60, 60, 0), (.iaload, 0, 0), (.isub, 0, 0), (.iload_n 2, 0, 0)] (pc' := 128) (lo' := [some (.ref 66), some (.int w1), some (.int w2), none, none, none]) (st' := [.int w2, .int (w1 - (gA t4 74 60))]) (σ' := t4) (by decide +kernel) rfl rfl ?_
      obtain ⟨c128, h⟩ := ok_n h
      refine g_irem hx (by decide +kernel) c128 ?_
      exact g_iret hx hr rfl _ rfl (by decide +kernel) (ok_some h)
    · have h := ok_f h c103
      refine g_run hx [(.aload_n 0, 0, 0), (.getfield 35, 0, 0), (.bipush 60, 60, 0), (.iaload, 0, 0), (.iload_n 1, 0, 0), (.isub, 0, 0)] (pc' := 115) (lo' := [some (.ref 66), some (.int w1), some (.int w2), none, none, none]) (st' := [.int ((gA t4 74 60) - w1)]) (σ' := t4) (by decide +kernel) rfl rfl ?_
      refine g_goto hx (off := 12) (tgt := 127) (by decide +kernel) (by decide) ?_
      refine g_run hx [(.iload_n 2, 0, 0)] (pc' := 128) (lo' := [some (.ref 66), some (.int w1), some (.int w2), none, none, none]) (st' := [.int w2, .int ((gA t4 74 60) - w1)]) (σ' := t4) (by decide +kernel) rfl rfl ?_
      obtain ⟨c128, h⟩ := ok_n h
      refine g_irem hx (by decide +kernel) c128 ?_
      exact g_iret hx hr rfl _ rfl (by decide +kernel) (ok_some h)
  · have h := ok_f h c9
    refine g_run hx [(.aload_n 0, 0, 0), (.iconst 1, 1, 0)] (pc' := 14) (lo' := [some (.ref 66), some (.int v1), none, none, none, none]) (st' := [.int 1, .ref 66]) (σ' := s2) (by decide +kernel) rfl rfl ?_
    refine g_callV (rest := []) [.int 1] hx hc mk_m_no ln_10_177 rfl (by decide +kernel) (by decide) (Nat.le_of_ble_eq_true rfl) (s_m_no (ok_b h)) (fun r5 s5 h => ?_)
    exact g_iret hx hr rfl _ rfl (by decide +kernel) (ok_some h)
def f_m_passes (N : Nat) (v1 : Int32) (v2 : Int32) (σ : Sg) : Option (Int32 × Sg) :=
  (f_m_anew N σ).bind fun q1 =>
  (f_m_wayWhy N v1 v2 q1.2).bind fun q2 =>
  if q2.1 = 0 then
    (f_m_begin N q2.2).bind fun q3 =>
    (f_m_strideOn N 75 63 189 69 v1 v2 q3.2).bind fun q4 =>
    if q4.1 = true then
      (f_m_goneOn N 69 63 75 q4.2).bind fun q5 =>
      (f_m_goneOn N 69 63 74 q5.2).bind fun q6 =>
      some ((q5.1 - q6.1), q6.2)
    else
      some ((-2), q4.2)
  else
    (f_m_no N q2.1 q2.2).bind fun q7 =>
    some (q7.1, q7.2)
set_option maxRecDepth 100000 in
theorem s_m_passes {y : EX} {N : Nat} {v1 : Int32} {v2 : Int32} {σ : Sg} {P : Int32 × Sg → Prop} (h : ok (f_m_passes N v1 v2 σ) P) : Ev y M_m_passes 3 [.ref 66, .int v1, .int v2] σ rvI P := by
  refine Ev.of mk_m_passes (Nat.le_of_ble_eq_true rfl) (fun x hx hc hr => ?_)
  have hx : Cx 10 prog_12_method_74_code x := hx
  have hc : Cc y 4 3 x := hc
  show G x 0 [some (.ref 66), some (.int v1), some (.int v2), none] [] σ
  unfold f_m_passes at h
  refine g_run hx [(.aload_n 0, 0, 0)] (pc' := 1) (lo' := [some (.ref 66), some (.int v1), some (.int v2), none]) (st' := [.ref 66]) (σ' := σ) (by decide +kernel) rfl rfl ?_
  refine g_callV (rest := []) [] hx hc mk_m_anew ln_10_174 rfl (by decide +kernel) (by decide) (Nat.le_of_ble_eq_true rfl) (s_m_anew (ok_b h)) (fun r1 s1 h => ?_)
  refine g_run hx [(.aload_n 0, 0, 0), (.iload_n 1, 0, 0), (.iload_n 2, 0, 0)] (pc' := 7) (lo' := [some (.ref 66), some (.int v1), some (.int v2), none]) (st' := [.int v2, .int v1, .ref 66]) (σ' := s1) (by decide +kernel) rfl rfl ?_
  refine g_callV (rest := []) [.int v1, .int v2] hx hc mk_m_wayWhy ln_10_321 rfl (by decide +kernel) (by decide) (Nat.le_of_ble_eq_true rfl) (s_m_wayWhy (ok_b h)) (fun r2 s2 h => ?_)
  refine g_run hx [(.istore_n 3, 0, 0), (.iload_n 3, 0, 0)] (pc' := 12) (lo' := [some (.ref 66), some (.int v1), some (.int v2), some (.int r2)]) (st' := [.int r2]) (σ' := s2) (by decide +kernel) rfl rfl ?_
  refine g_if_eq hx (off := 9) (tgt := 21) (by decide +kernel) (by decide) (fun c12 => ?_) (fun c12 => ?_)
  · have h := ok_t h c12
    refine g_run hx [(.aload_n 0, 0, 0)] (pc' := 22) (lo' := [some (.ref 66), some (.int v1), some (.int v2), some (.int r2)]) (st' := [.ref 66]) (σ' := s2) (by decide +kernel) rfl rfl ?_
    refine g_callV (rest := []) [] hx hc mk_m_begin ln_10_272 rfl (by decide +kernel) (by decide) (Nat.le_of_ble_eq_true rfl) (s_m_begin (ok_b h)) (fun r3 s3 h => ?_)
    refine g_run hx [(.aload_n 0, 0, 0), (.getfield 20, 0, 0), (.aload_n 0, 0, 0), (.getfield 38, 0, 0), (.iload_n 1, 0, 0), (.iload_n 2, 0, 0)] (pc' := 35) (lo' := [some (.ref 66), some (.int v1), some (.int v2), some (.int r2)]) (st' := [.int v2, .int v1, .ref 75, .ref 69]) (σ' := s3) (by decide +kernel) rfl rfl ?_
    refine g_callS (rest := []) [.ref 69, .ref 75, .int v1, .int v2] hx hc mk_m_strideOn ln_10_253 (by decide +kernel) (by decide) (Nat.le_of_ble_eq_true rfl) (s_m_strideOn_69_75 (ok_b h)) (fun r4 s4 h => ?_)
    refine g_ifb_eq hx (off := 23) (tgt := 61) (by decide +kernel) (by decide) (fun c38 => ?_) (fun c38 => ?_)
    · have h := ok_f h c38
      refine g_run hx [(.bipush (-2), (-2), 0)] (pc' := 63) (lo' := [some (.ref 66), some (.int v1), some (.int v2), some (.int r2)]) (st' := [.int (-2)]) (σ' := s4) (by decide +kernel) rfl rfl ?_
      exact g_iret hx hr rfl _ rfl (by decide +kernel) (ok_some h)
    · have h := ok_t h c38
      refine g_run hx [(.aload_n 0, 0, 0), (.aload_n 0, 0, 0), (.getfield 38, 0, 0)] (pc' := 46) (lo' := [some (.ref 66), some (.int v1), some (.int v2), some (.int r2)]) (st' := [.ref 75, .ref 66]) (σ' := s4) (by decide +kernel) rfl rfl ?_
      refine g_callV (rest := []) [.ref 75] hx hc mk_m_goneOn ln_10_291 rfl (by decide +kernel) (by decide) (Nat.le_of_ble_eq_true rfl) (s_m_goneOn_66_75 (ok_b h)) (fun r5 s5 h => ?_)
      refine g_run hx [(.aload_n 0, 0, 0), (.aload_n 0, 0, 0), (.getfield 35, 0, 0)] (pc' := 54) (lo' := [some (.ref 66), some (.int v1), some (.int v2), some (.int r2)]) (st' := [.ref 74, .ref 66, .int r5]) (σ' := s5) (by decide +kernel) rfl rfl ?_
      refine g_callV (rest := [.int r5]) [.ref 74] hx hc mk_m_goneOn ln_10_291 rfl (by decide +kernel) (by decide) (Nat.le_of_ble_eq_true rfl) (s_m_goneOn_66_74 (ok_b h)) (fun r6 s6 h => ?_)
      refine g_run hx [(.isub, 0, 0)] (pc' := 58) (lo' := [some (.ref 66), some (.int v1), some (.int v2), some (.int r2)]) (st' := [.int (r5 - r6)]) (σ' := s6) (by decide +kernel) rfl rfl ?_
      refine g_goto hx (off := 5) (tgt := 63) (by decide +kernel) (by decide) ?_
      exact g_iret hx hr rfl _ rfl (by decide +kernel) (ok_some h)
  · have h := ok_f h c12
    refine g_run hx [(.aload_n 0, 0, 0), (.iload_n 3, 0, 0)] (pc' := 17) (lo' := [some (.ref 66), some (.int v1), some (.int v2), some (.int r2)]) (st' := [.int r2, .ref 66]) (σ' := s2) (by decide +kernel) rfl rfl ?_
    refine g_callV (rest := []) [.int r2] hx hc mk_m_no ln_10_177 rfl (by decide +kernel) (by decide) (Nat.le_of_ble_eq_true rfl) (s_m_no (ok_b h)) (fun r7 s7 h => ?_)
    exact g_iret hx hr rfl _ rfl (by decide +kernel) (ok_some h)
def f_m_isPlace (N : Nat) (v1 : Int32) (σ : Sg) : Option (Bool × Sg) :=
  if (gI σ 66 14) = 0 then
    some (false, σ)
  else
    (f_m_in N v1 0 ((gA σ 69 3) - 1) σ).bind fun q1 =>
    if q1.1 = true then
      some (true, q1.2)
    else
      some (false, q1.2)
set_option maxRecDepth 100000 in
theorem s_m_isPlace {y : EX} {N : Nat} {v1 : Int32} {σ : Sg} {P : Bool × Sg → Prop} (h : ok (f_m_isPlace N v1 σ) P) : Ev y M_m_isPlace 1 [.ref 66, .int v1] σ rvB P := by
  refine Ev.of mk_m_isPlace (Nat.le_of_ble_eq_true rfl) (fun x hx hc hr => ?_)
  have hx : Cx 10 prog_12_method_40_code x := hx
  have hc : Cc y 2 1 x := hc
  show G x 0 [some (.ref 66), some (.int v1)] [] σ
  unfold f_m_isPlace at h
  refine g_run hx [(.aload_n 0, 0, 0), (.getfield 187, 0, 0)] (pc' := 4) (lo' := [some (.ref 66), some (.int v1)]) (st' := [.int (gI σ 66 14)]) (σ' := σ) (by decide +kernel) rfl rfl ?_
  refine g_if_eq hx (off := 23) (tgt := 27) (by decide +kernel) (by decide) (fun c4 => ?_) (fun c4 => ?_)
  · have h := ok_t h c4
    refine g_run hx [(.iconst 0, 0, 0)] (pc' := 28) (lo' := [some (.ref 66), some (.int v1)]) (st' := [.int 0]) (σ' := σ) (by decide +kernel) rfl rfl ?_
    exact g_zret (b := false) hx hr rfl false rfl (by decide +kernel) (ok_some h)
  · have h := ok_f h c4
    refine g_run hx [(.iload_n 1, 0, 0), (.iconst 0, 0, 0), (.aload_n 0, 0, 0), (.getfield 20, 0, 0), (.iconst 3, 3, 0), (.iaload, 0, 0), (.iconst 1, 1, 0), (.isub, 0, 0)] (pc' := 17) (lo' := [some (.ref 66), some (.int v1)]) (st' := [.int ((gA σ 69 3) - 1), .int 0, .int v1]) (σ' := σ) (by decide +kernel) rfl rfl ?_
    refine g_callS (rest := []) [.int v1, .int 0, .int ((gA σ 69 3) - 1)] hx hc mk_m_in ln_10_156 (by decide +kernel) (by decide) (Nat.le_of_ble_eq_true rfl) (s_m_in (ok_b h)) (fun r1 s1 h => ?_)
    refine g_ifb_eq hx (off := 7) (tgt := 27) (by decide +kernel) (by decide) (fun c20 => ?_) (fun c20 => ?_)
    · have h := ok_f h c20
      refine g_run hx [(.iconst 0, 0, 0)] (pc' := 28) (lo' := [some (.ref 66), some (.int v1)]) (st' := [.int 0]) (σ' := s1) (by decide +kernel) rfl rfl ?_
      exact g_zret (b := false) hx hr rfl false rfl (by decide +kernel) (ok_some h)
    · have h := ok_t h c20
      refine g_run hx [(.iconst 1, 1, 0)] (pc' := 24) (lo' := [some (.ref 66), some (.int v1)]) (st' := [.int 1]) (σ' := s1) (by decide +kernel) rfl rfl ?_
      refine g_goto hx (off := 4) (tgt := 28) (by decide +kernel) (by decide) ?_
      exact g_zret (b := true) hx hr rfl true rfl (by decide +kernel) (ok_some h)
def f_m_place (N : Nat) (v1 : Int32) (v2 : Int32) (σ : Sg) : Option (Int32 × Sg) :=
  (f_m_anew N σ).bind fun q1 =>
  (f_m_isPlace N v1 q1.2).bind fun q2 =>
  if q2.1 = true then
    (f_m_in N v2 0 2 q2.2).bind fun q4 =>
    if q4.1 = true then
      if 2 ≤ v2 then
        if vin (12 + (2 * v1)) 189 then
        if vin (gA q4.2 69 (12 + (2 * v1))) 63 then
        if (gA q4.2 74 (gA q4.2 69 (12 + (2 * v1)))) ≤ 0 then
          some (0, q4.2)
        else
          some (1, q4.2)
        else none
        else none
      else
        if vin ((12 + (2 * v1)) + v2) 189 then
        some ((gA q4.2 69 ((12 + (2 * v1)) + v2)), q4.2)
        else none
    else
      (f_m_no N 1 q4.2).bind fun q5 =>
      some (q5.1, q5.2)
  else
    (f_m_no N 1 q2.2).bind fun q3 =>
    some (q3.1, q3.2)
set_option maxRecDepth 100000 in
theorem s_m_place {y : EX} {N : Nat} {v1 : Int32} {v2 : Int32} {σ : Sg} {P : Int32 × Sg → Prop} (h : ok (f_m_place N v1 v2 σ) P) : Ev y M_m_place 2 [.ref 66, .int v1, .int v2] σ rvI P := by
  refine Ev.of mk_m_place (Nat.le_of_ble_eq_true rfl) (fun x hx hc hr => ?_)
  have hx : Cx 10 prog_12_method_54_code x := hx
  have hc : Cc y 3 2 x := hc
  show G x 0 [some (.ref 66), some (.int v1), some (.int v2)] [] σ
  unfold f_m_place at h
  refine g_run hx [(.aload_n 0, 0, 0)] (pc' := 1) (lo' := [some (.ref 66), some (.int v1), some (.int v2)]) (st' := [.ref 66]) (σ' := σ) (by decide +kernel) rfl rfl ?_
  refine g_callV (rest := []) [] hx hc mk_m_anew ln_10_174 rfl (by decide +kernel) (by decide) (Nat.le_of_ble_eq_true rfl) (s_m_anew (ok_b h)) (fun r1 s1 h => ?_)
  refine g_run hx [(.aload_n 0, 0, 0), (.iload_n 1, 0, 0)] (pc' := 6) (lo' := [some (.ref 66), some (.int v1), some (.int v2)]) (st' := [.int v1, .ref 66]) (σ' := s1) (by decide +kernel) rfl rfl ?_
  refine g_callV (rest := []) [.int v1] hx hc mk_m_isPlace ln_10_285 rfl (by decide +kernel) (by decide) (Nat.le_of_ble_eq_true rfl) (s_m_isPlace (ok_b h)) (fun r2 s2 h => ?_)
  refine g_ifb_eq hx (off := 12) (tgt := 21) (by decide +kernel) (by decide) (fun c9 => ?_) (fun c9 => ?_)
  · have h := ok_f h c9
    refine g_run hx [(.aload_n 0, 0, 0), (.iconst 1, 1, 0)] (pc' := 23) (lo' := [some (.ref 66), some (.int v1), some (.int v2)]) (st' := [.int 1, .ref 66]) (σ' := s2) (by decide +kernel) rfl rfl ?_
    refine g_callV (rest := []) [.int 1] hx hc mk_m_no ln_10_177 rfl (by decide +kernel) (by decide) (Nat.le_of_ble_eq_true rfl) (s_m_no (ok_b h)) (fun r3 s3 h => ?_)
    exact g_iret hx hr rfl _ rfl (by decide +kernel) (ok_some h)
  · have h := ok_t h c9
    refine g_run hx [(.iload_n 2, 0, 0), (.iconst 0, 0, 0), (.iconst 2, 2, 0)] (pc' := 15) (lo' := [some (.ref 66), some (.int v1), some (.int v2)]) (st' := [.int 2, .int 0, .int v2]) (σ' := s2) (by decide +kernel) rfl rfl ?_
    refine g_callS (rest := []) [.int v2, .int 0, .int 2] hx hc mk_m_in ln_10_156 (by decide +kernel) (by decide) (Nat.le_of_ble_eq_true rfl) (s_m_in (ok_b h)) (fun r4 s4 h => ?_)
    refine g_ifb_ne hx (off := 9) (tgt := 27) (by decide +kernel) (by decide) (fun c18 => ?_) (fun c18 => ?_)
    · have h := ok_t h c18
      refine g_run hx [(.iload_n 2, 0, 0), (.iconst 2, 2, 0)] (pc' := 29) (lo' := [some (.ref 66), some (.int v1), some (.int v2)]) (st' := [.int 2, .int v2]) (σ' := s4) (by decide +kernel) rfl rfl ?_
      refine g_ic_ge hx (off := 19) (tgt := 48) (by decide +kernel) (by decide) (fun c29 => ?_) (fun c29 => ?_)
      · have h := ok_t h c29
        refine g_run hx [(.aload_n 0, 0, 0), (.getfield 35, 0, 0), (.aload_n 0, 0, 0), (.getfield 20, 0, 0), (.bipush 12, 12, 0), (.iconst 2, 2, 0), (.iload_n 1, 0, 0), (.imul, 0, 0), (.iadd, 0, 0)] (pc' := 62) (lo' := [some (.ref 66), some (.int v1), some (.int v2)]) (st' := [.int (12 + (2 * v1)), .ref 69, .ref 74]) (σ' := s4) (by decide +kernel) rfl rfl ?_
        obtain ⟨c62, h⟩ := ok_g h
        refine g_iald hx (by decide +kernel) (i := 69) (n := 189) rfl c62 ?_
        obtain ⟨c63, h⟩ := ok_g h
        refine g_iald hx (by decide +kernel) (i := 74) (n := 63) rfl c63 ?_
        refine g_if_le hx (off := 7) (tgt := 71) (by decide +kernel) (by decide) (fun c64 => ?_) (fun c64 => ?_)
        · have h := ok_t h c64
          refine g_run hx [(.iconst 0, 0, 0)] (pc' := 72) (lo' := [some (.ref 66), some (.int v1), some (.int v2)]) (st' := [.int 0]) (σ' := s4) (by decide +kernel) rfl rfl ?_
          exact g_iret hx hr rfl _ rfl (by decide +kernel) (ok_some h)
        · have h := ok_f h c64
          refine g_run hx [(.iconst 1, 1, 0)] (pc' := 68) (lo' := [some (.ref 66), some (.int v1), some (.int v2)]) (st' := [.int 1]) (σ' := s4) (by decide +kernel) rfl rfl ?_
          refine g_goto hx (off := 4) (tgt := 72) (by decide +kernel) (by decide) ?_
          exact g_iret hx hr rfl _ rfl (by decide +kernel) (ok_some h)
      · have h := ok_f h c29
        refine g_run hx [(.aload_n 0, 0, 0), (.getfield 20, 0, 0), (.bipush 12, 12, 0), (.iconst 2, 2, 0), (.iload_n 1, 0, 0), (.imul, 0, 0), (.iadd, 0, 0), (.iload_n 2, 0, 0), (.iadd, 0, 0)] (pc' := 44) (lo' := [some (.ref 66), some (.int v1), some (.int v2)]) (st' := [.int ((12 + (2 * v1)) + v2), .ref 69]) (σ' := s4) (by decide +kernel) rfl rfl ?_
        obtain ⟨c44, h⟩ := ok_g h
        refine g_iald hx (by decide +kernel) (i := 69) (n := 189) rfl c44 ?_
        refine g_goto hx (off := 27) (tgt := 72) (by decide +kernel) (by decide) ?_
        exact g_iret hx hr rfl _ rfl (by decide +kernel) (ok_some h)
    · have h := ok_f h c18
      refine g_run hx [(.aload_n 0, 0, 0), (.iconst 1, 1, 0)] (pc' := 23) (lo' := [some (.ref 66), some (.int v1), some (.int v2)]) (st' := [.int 1, .ref 66]) (σ' := s4) (by decide +kernel) rfl rfl ?_
      refine g_callV (rest := []) [.int 1] hx hc mk_m_no ln_10_177 rfl (by decide +kernel) (by decide) (Nat.le_of_ble_eq_true rfl) (s_m_no (ok_b h)) (fun r5 s5 h => ?_)
      exact g_iret hx hr rfl _ rfl (by decide +kernel) (ok_some h)
def f_m_reach_L40 (N : Nat) : Nat → Int32 → Int32 → Int32 → Sg → Option (Int32 × Sg)
  | 0, _, _, _, _ => none
  | n + 1, v1, v3, v4, σ =>
    if 30 ≤ v4 then
      some (v3, σ)
    else
      if vin v4 60 then
      if v1 < (gA σ 82 v4) then
        f_m_reach_L40 N n v1 (v3 ||| 0) (v4 + 1) σ
      else
        f_m_reach_L40 N n v1 (v3 ||| (1 <<< (v4 &&& 31))) (v4 + 1) σ
      else none
def f_m_reach (N : Nat) (v1 : Int32) (σ : Sg) : Option (Int32 × Sg) :=
  (f_m_anew N σ).bind fun q1 =>
  (f_m_in N v1 0 5 q1.2).bind fun q2 =>
  (f_m_why N (gI q1.2 66 14) (b2i q2.1) q2.2).bind fun q3 =>
  if q3.1 = 0 then
    (f_m_seekRows N (-1) v1 q3.2).bind fun q4 =>
    f_m_reach_L40 N N v1 0 0 q4.2
  else
    (f_m_no N q3.1 q3.2).bind fun q5 =>
    some (q5.1, q5.2)
set_option maxRecDepth 100000 in
theorem s_m_reach_L40 {y : EX} {N : Nat} {x : CX} {P : Int32 × Sg → Prop} (hx : Cx 10 prog_12_method_88_code x) (hc : Cc y 5 18 x) (hr : Cr M_m_reach rvI P x) : ∀ (n : Nat) (v1 : Int32) (v3 : Int32) (v4 : Int32) (σ : Sg), ok (f_m_reach_L40 N n v1 v3 v4 σ) P → G x 40 [some (.ref 66), some (.int v1), none, some (.int v3), some (.int v4)] [] σ := by
  intro n
  induction n with
  | zero => intro v1 v3 v4 σ h; exact ok_none h
  | succ n ih =>
    intro v1 v3 v4 σ h
    rw [f_m_reach_L40] at h
    refine g_run hx [(.iload 4, 0, 0), (.bipush 30, 30, 0)] (pc' := 44) (lo' := [some (.ref 66), some (.int v1), none, some (.int v3), some (.int v4)]) (st' := [.int 30, .int v4]) (σ' := σ) (by decide +kernel) rfl rfl ?_
    refine g_ic_ge hx (off := 31) (tgt := 75) (by decide +kernel) (by decide) (fun c44 => ?_) (fun c44 => ?_)
    · have h := ok_t h c44
      refine g_run hx [(.iload_n 3, 0, 0)] (pc' := 76) (lo' := [some (.ref 66), some (.int v1), none, some (.int v3), some (.int v4)]) (st' := [.int v3]) (σ' := σ) (by decide +kernel) rfl rfl ?_
      exact g_iret hx hr rfl _ rfl (by decide +kernel) (ok_some h)
    · have h := ok_f h c44
      refine g_run hx [(.iload_n 3, 0, 0), (.aload_n 0, 0, 0), (.getfield 59, 0, 0), (.iload 4, 0, 0)] (pc' := 54) (lo' := [some (.ref 66), some (.int v1), none, some (.int v3), some (.int v4)]) (st' := [.int v4, .ref 82, .int v3]) (σ' := σ) (by decide +kernel) rfl rfl ?_
      obtain ⟨c54, h⟩ := ok_g h
      refine g_iald hx (by decide +kernel) (i := 82) (n := 60) rfl c54 ?_
      refine g_run hx [(.iload_n 1, 0, 0)] (pc' := 56) (lo' := [some (.ref 66), some (.int v1), none, some (.int v3), some (.int v4)]) (st' := [.int v1, .int (gA σ 82 v4), .int v3]) (σ' := σ) (by decide +kernel) rfl rfl ?_
      refine g_ic_gt hx (off := 10) (tgt := 66) (by decide +kernel) (by decide) (fun c56 => ?_) (fun c56 => ?_)
      · have h := ok_t h c56
        refine g_run hx [(.iconst 0, 0, 0), (.ior, 0, 0), (.istore_n 3, 0, 0), (.iinc 4 1, 1, 0)] (pc' := 72) (lo' := [some (.ref 66), some (.int v1), none, some (.int (v3 ||| 0)), some (.int (v4 + 1))]) (st' := []) (σ' := σ) (by decide +kernel) rfl rfl ?_
        refine g_goto hx (off := (-32)) (tgt := 40) (by decide +kernel) (by decide) ?_
        exact ih _ _ _ _ h
      · have h := ok_f h c56
        refine g_run hx [(.iconst 1, 1, 0), (.iload 4, 0, 0), (.ishl, 0, 0)] (pc' := 63) (lo' := [some (.ref 66), some (.int v1), none, some (.int v3), some (.int v4)]) (st' := [.int (1 <<< (v4 &&& 31)), .int v3]) (σ' := σ) (by decide +kernel) rfl rfl ?_
        refine g_goto hx (off := 4) (tgt := 67) (by decide +kernel) (by decide) ?_
        refine g_run hx [(.ior, 0, 0), (.istore_n 3, 0, 0), (.iinc 4 1, 1, 0)] (pc' := 72) (lo' := [some (.ref 66), some (.int v1), none, some (.int (v3 ||| (1 <<< (v4 &&& 31)))), some (.int (v4 + 1))]) (st' := []) (σ' := σ) (by decide +kernel) rfl rfl ?_
        refine g_goto hx (off := (-32)) (tgt := 40) (by decide +kernel) (by decide) ?_
        exact ih _ _ _ _ h
set_option maxRecDepth 100000 in
theorem s_m_reach {y : EX} {N : Nat} {v1 : Int32} {σ : Sg} {P : Int32 × Sg → Prop} (h : ok (f_m_reach N v1 σ) P) : Ev y M_m_reach 18 [.ref 66, .int v1] σ rvI P := by
  refine Ev.of mk_m_reach (Nat.le_of_ble_eq_true rfl) (fun x hx hc hr => ?_)
  have hx : Cx 10 prog_12_method_88_code x := hx
  have hc : Cc y 5 18 x := hc
  show G x 0 [some (.ref 66), some (.int v1), none, none, none] [] σ
  unfold f_m_reach at h
  refine g_run hx [(.aload_n 0, 0, 0)] (pc' := 1) (lo' := [some (.ref 66), some (.int v1), none, none, none]) (st' := [.ref 66]) (σ' := σ) (by decide +kernel) rfl rfl ?_
  refine g_callV (rest := []) [] hx hc mk_m_anew ln_10_174 rfl (by decide +kernel) (by decide) (Nat.le_of_ble_eq_true rfl) (s_m_anew (ok_b h)) (fun r1 s1 h => ?_)
  refine g_run hx [(.aload_n 0, 0, 0), (.aload_n 0, 0, 0), (.getfield 187, 0, 0), (.iload_n 1, 0, 0), (.iconst 0, 0, 0), (.iconst 5, 5, 0)] (pc' := 12) (lo' := [some (.ref 66), some (.int v1), none, none, none]) (st' := [.int 5, .int 0, .int v1, .int (gI s1 66 14), .ref 66]) (σ' := s1) (by decide +kernel) rfl rfl ?_
  refine g_callS (rest := [.int (gI s1 66 14), .ref 66]) [.int v1, .int 0, .int 5] hx hc mk_m_in ln_10_156 (by decide +kernel) (by decide) (Nat.le_of_ble_eq_true rfl) (s_m_in (ok_b h)) (fun r2 s2 h => ?_)
  refine g_callV (rest := []) [.int (gI s1 66 14), .int (b2i r2)] hx hc mk_m_why ln_10_261 rfl (by decide +kernel) (by decide) (Nat.le_of_ble_eq_true rfl) (s_m_why (ok_b h)) (fun r3 s3 h => ?_)
  refine g_run hx [(.istore_n 2, 0, 0), (.iload_n 2, 0, 0)] (pc' := 20) (lo' := [some (.ref 66), some (.int v1), some (.int r3), none, none]) (st' := [.int r3]) (σ' := s3) (by decide +kernel) rfl rfl ?_
  refine g_if_eq hx (off := 9) (tgt := 29) (by decide +kernel) (by decide) (fun c20 => ?_) (fun c20 => ?_)
  · have h := ok_t h c20
    refine g_run hx [(.aload_n 0, 0, 0), (.iconst (-1), (-1), 0), (.iload_n 1, 0, 0)] (pc' := 32) (lo' := [some (.ref 66), some (.int v1), some (.int r3), none, none]) (st' := [.int v1, .int (-1), .ref 66]) (σ' := s3) (by decide +kernel) rfl rfl ?_
    refine g_callV (rest := []) [.int (-1), .int v1] hx hc mk_m_seekRows ln_10_353 rfl (by decide +kernel) (by decide) (Nat.le_of_ble_eq_true rfl) (s_m_seekRows (ok_b h)) (fun r4 s4 h => ?_)
    refine g_run hx [(.iconst 0, 0, 0), (.istore_n 3, 0, 0), (.iconst 0, 0, 0), (.istore 4, 0, 0)] (pc' := 40) (lo' := [some (.ref 66), some (.int v1), some (.int r3), some (.int 0), some (.int 0)]) (st' := []) (σ' := s4) (by decide +kernel) rfl rfl ?_
    refine g_wk (lo' := [some (.ref 66), some (.int v1), none, some (.int 0), some (.int 0)]) ⟨rfl, ⟨rfl, ⟨rfl, ⟨rfl, trivial⟩⟩⟩⟩ ?_
    refine s_m_reach_L40 hx hc hr N _ _ _ _ h
  · have h := ok_f h c20
    refine g_run hx [(.aload_n 0, 0, 0), (.iload_n 2, 0, 0)] (pc' := 25) (lo' := [some (.ref 66), some (.int v1), some (.int r3), none, none]) (st' := [.int r3, .ref 66]) (σ' := s3) (by decide +kernel) rfl rfl ?_
    refine g_callV (rest := []) [.int r3] hx hc mk_m_no ln_10_177 rfl (by decide +kernel) (by decide) (Nat.le_of_ble_eq_true rfl) (s_m_no (ok_b h)) (fun r5 s5 h => ?_)
    exact g_iret hx hr rfl _ rfl (by decide +kernel) (ok_some h)
def f_m_seekRests_L10 (N : Nat) : Nat → Int32 → Int32 → Int32 → Sg → Option (Int32 × Sg)
  | 0, _, _, _, _ => none
  | n + 1, v1, v2, v3, σ =>
    if 4 ≤ v3 then
      some (v2, σ)
    else
      if v3 ≤ 1 then
        if (v3 - v3 / 2 * 2) = 1 then
          (f_m_goesOf N v1 1 1 σ).bind fun q5 =>
          (f_m_goesOf N v1 0 1 q5.2).bind fun q6 =>
          if q6.1 < q5.1 then
            f_m_seekRests_L10 N n v1 v2 (v3 + 1) q6.2
          else
            (f_m_goesOf N v1 0 0 q6.2).bind fun q7 =>
            (f_m_goesOf N v1 1 0 q7.2).bind fun q8 =>
            if q7.1 ≤ q8.1 then
              if v2 = 0 then
                f_m_seekRests_L10 N n v1 (v2 + 1) (v3 + 1) (sI q8.2 66 48 ((10 * (v3 / 2)) + (v3 - v3 / 2 * 2)))
              else
                f_m_seekRests_L10 N n v1 (v2 + 1) (v3 + 1) q8.2
            else
              f_m_seekRests_L10 N n v1 v2 (v3 + 1) q8.2
        else
          (f_m_goesOf N v1 1 0 σ).bind fun q1 =>
          (f_m_goesOf N v1 0 0 q1.2).bind fun q2 =>
          if q2.1 < q1.1 then
            f_m_seekRests_L10 N n v1 v2 (v3 + 1) q2.2
          else
            (f_m_goesOf N v1 1 0 q2.2).bind fun q3 =>
            (f_m_goesOf N v1 0 0 q3.2).bind fun q4 =>
            if q3.1 ≤ q4.1 then
              if v2 = 0 then
                f_m_seekRests_L10 N n v1 (v2 + 1) (v3 + 1) (sI q4.2 66 48 ((10 * (v3 / 2)) + (v3 - v3 / 2 * 2)))
              else
                f_m_seekRests_L10 N n v1 (v2 + 1) (v3 + 1) q4.2
            else
              f_m_seekRests_L10 N n v1 v2 (v3 + 1) q4.2
      else
        if (v3 - v3 / 2 * 2) = 1 then
          (f_m_goesOf N v1 0 1 σ).bind fun q13 =>
          (f_m_goesOf N v1 1 1 q13.2).bind fun q14 =>
          if q14.1 < q13.1 then
            f_m_seekRests_L10 N n v1 v2 (v3 + 1) q14.2
          else
            (f_m_goesOf N v1 0 1 q14.2).bind fun q15 =>
            (f_m_goesOf N v1 1 1 q15.2).bind fun q16 =>
            if q15.1 ≤ q16.1 then
              if v2 = 0 then
                f_m_seekRests_L10 N n v1 (v2 + 1) (v3 + 1) (sI q16.2 66 48 ((10 * (v3 / 2)) + (v3 - v3 / 2 * 2)))
              else
                f_m_seekRests_L10 N n v1 (v2 + 1) (v3 + 1) q16.2
            else
              f_m_seekRests_L10 N n v1 v2 (v3 + 1) q16.2
        else
          (f_m_goesOf N v1 0 0 σ).bind fun q9 =>
          (f_m_goesOf N v1 1 0 q9.2).bind fun q10 =>
          if q10.1 < q9.1 then
            f_m_seekRests_L10 N n v1 v2 (v3 + 1) q10.2
          else
            (f_m_goesOf N v1 1 1 q10.2).bind fun q11 =>
            (f_m_goesOf N v1 0 1 q11.2).bind fun q12 =>
            if q11.1 ≤ q12.1 then
              if v2 = 0 then
                f_m_seekRests_L10 N n v1 (v2 + 1) (v3 + 1) (sI q12.2 66 48 ((10 * (v3 / 2)) + (v3 - v3 / 2 * 2)))
              else
                f_m_seekRests_L10 N n v1 (v2 + 1) (v3 + 1) q12.2
            else
              f_m_seekRests_L10 N n v1 v2 (v3 + 1) q12.2
def f_m_seekRests (N : Nat) (v1 : Int32) (σ : Sg) : Option (Int32 × Sg) :=
  f_m_seekRests_L10 N N v1 0 0 (sI σ 66 48 (-2))
set_option maxRecDepth 100000 in
theorem s_m_seekRests_L10 {y : EX} {N : Nat} {x : CX} {P : Int32 × Sg → Prop} (hx : Cx 10 prog_12_method_113_code x) (hc : Cc y 6 1 x) (hr : Cr M_m_seekRests rvI P x) : ∀ (n : Nat) (v1 : Int32) (v2 : Int32) (v3 : Int32) (σ : Sg), ok (f_m_seekRests_L10 N n v1 v2 v3 σ) P → G x 10 [some (.ref 66), some (.int v1), some (.int v2), some (.int v3), none, none] [] σ := by
  intro n
  induction n with
  | zero => intro v1 v2 v3 σ h; exact ok_none h
  | succ n ih =>
    intro v1 v2 v3 σ h
    rw [f_m_seekRests_L10] at h
    refine g_run hx [(.iload_n 3, 0, 0), (.iconst 4, 4, 0)] (pc' := 12) (lo' := [some (.ref 66), some (.int v1), some (.int v2), some (.int v3), none, none]) (st' := [.int 4, .int v3]) (σ' := σ) (by decide +kernel) rfl rfl ?_
    refine g_ic_ge hx (off := 113) (tgt := 125) (by decide +kernel) (by decide) (fun c12 => ?_) (fun c12 => ?_)
    · have h := ok_t h c12
      refine g_run hx [(.iload_n 2, 0, 0)] (pc' := 126) (lo' := [some (.ref 66), some (.int v1), some (.int v2), some (.int v3), none, none]) (st' := [.int v2]) (σ' := σ) (by decide +kernel) rfl rfl ?_
      exact g_iret hx hr rfl _ rfl (by decide +kernel) (ok_some h)
    · have h := ok_f h c12
      refine g_run hx [(.iload_n 3, 0, 0), (.iconst 1, 1, 0)] (pc' := 17) (lo' := [some (.ref 66), some (.int v1), some (.int v2), some (.int v3), none, none]) (st' := [.int 1, .int v3]) (σ' := σ) (by decide +kernel) rfl rfl ?_
      refine g_ic_le hx (off := 7) (tgt := 24) (by decide +kernel) (by decide) (fun c17 => ?_) (fun c17 => ?_)
      · have h := ok_t h c17
        refine g_run hx [(.iconst 0, 0, 0), (.istore 4, 0, 0), (.iload_n 3, 0, 0), (.iconst 2, 2, 0), (.irem, 0, 0), (.iconst 1, 1, 0)] (pc' := 31) (lo' := [some (.ref 66), some (.int v1), some (.int v2), some (.int v3), some (.int 0), none]) (st' := [.int 1, .int (v3 - v3 / 2 * 2)]) (σ' := σ) (by decide +kernel) rfl rfl ?_
        refine g_ic_ne hx (off := 7) (tgt := 38) (by decide +kernel) (by decide) (fun c31 => ?_) (fun c31 => ?_)
        · have h := ok_f h c31
          refine g_run hx [(.iconst 0, 0, 0), (.istore 5, 0, 0), (.iload_n 1, 0, 0), (.iload 4, 0, 0)] (pc' := 44) (lo' := [some (.ref 66), some (.int v1), some (.int v2), some (.int v3), some (.int 0), some (.int 0)]) (st' := [.int 0, .int v1]) (σ' := σ) (by decide +kernel) rfl rfl ?_
          refine g_if_ne hx (off := 7) (tgt := 51) (by decide +kernel) (by decide) (fun c => absurd c (by decide)) (fun _ => ?_)
          refine g_run hx [(.iconst 1, 1, 0)] (pc' := 48) (lo' := [some (.ref 66), some (.int v1), some (.int v2), some (.int v3), some (.int 0), some (.int 0)]) (st' := [.int 1, .int v1]) (σ' := σ) (by decide +kernel) rfl rfl ?_
          refine g_goto hx (off := 4) (tgt := 52) (by decide +kernel) (by decide) ?_
          refine g_run hx [(.iload 5, 0, 0)] (pc' := 54) (lo' := [some (.ref 66), some (.int v1), some (.int v2), some (.int v3), some (.int 0), some (.int 0)]) (st' := [.int 0, .int 1, .int v1]) (σ' := σ) (by decide +kernel) rfl rfl ?_
          refine g_callS (rest := []) [.int v1, .int 1, .int 0] hx hc mk_m_goesOf ln_10_408 (by decide +kernel) (by decide) (Nat.le_of_ble_eq_true rfl) (s_m_goesOf (ok_b h)) (fun r1 s1 h => ?_)
          refine g_run hx [(.iload_n 1, 0, 0), (.iload 4, 0, 0), (.iload 5, 0, 0)] (pc' := 62) (lo' := [some (.ref 66), some (.int v1), some (.int v2), some (.int v3), some (.int 0), some (.int 0)]) (st' := [.int 0, .int 0, .int v1, .int r1]) (σ' := s1) (by decide +kernel) rfl rfl ?_
          refine g_callS (rest := [.int r1]) [.int v1, .int 0, .int 0] hx hc mk_m_goesOf ln_10_408 (by decide +kernel) (by decide) (Nat.le_of_ble_eq_true rfl) (s_m_goesOf (ok_b h)) (fun r2 s2 h => ?_)
          refine g_ic_gt hx (off := 54) (tgt := 119) (by decide +kernel) (by decide) (fun c65 => ?_) (fun c65 => ?_)
          · have h := ok_t h c65
            refine g_run hx [(.iinc 3 1, 1, 0)] (pc' := 122) (lo' := [some (.ref 66), some (.int v1), some (.int v2), some (.int (v3 + 1)), some (.int 0), some (.int 0)]) (st' := []) (σ' := s2) (by decide +kernel) rfl rfl ?_
            refine g_goto hx (off := (-112)) (tgt := 10) (by decide +kernel) (by decide) ?_
            refine g_wk (lo' := [some (.ref 66), some (.int v1), some (.int v2), some (.int (v3 + 1)), none, none]) ⟨rfl, ⟨rfl, ⟨rfl, ⟨rfl, trivial⟩⟩⟩⟩ ?_
            exact ih _ _ _ _ h
          · have h := ok_f h c65
            refine g_run hx [(.iload_n 1, 0, 0), (.iload 5, 0, 0)] (pc' := 71) (lo' := [some (.ref 66), some (.int v1), some (.int v2), some (.int v3), some (.int 0), some (.int 0)]) (st' := [.int 0, .int v1]) (σ' := s2) (by decide +kernel) rfl rfl ?_
            refine g_if_ne hx (off := 7) (tgt := 78) (by decide +kernel) (by decide) (fun c => absurd c (by decide)) (fun _ => ?_)
            refine g_run hx [(.iconst 1, 1, 0)] (pc' := 75) (lo' := [some (.ref 66), some (.int v1), some (.int v2), some (.int v3), some (.int 0), some (.int 0)]) (st' := [.int 1, .int v1]) (σ' := s2) (by decide +kernel) rfl rfl ?_
            refine g_goto hx (off := 4) (tgt := 79) (by decide +kernel) (by decide) ?_
            refine g_run hx [(.iload 4, 0, 0)] (pc' := 81) (lo' := [some (.ref 66), some (.int v1), some (.int v2), some (.int v3), some (.int 0), some (.int 0)]) (st' := [.int 0, .int 1, .int v1]) (σ' := s2) (by decide +kernel) rfl rfl ?_
            refine g_callS (rest := []) [.int v1, .int 1, .int 0] hx hc mk_m_goesOf ln_10_408 (by decide +kernel) (by decide) (Nat.le_of_ble_eq_true rfl) (s_m_goesOf (ok_b h)) (fun r3 s3 h => ?_)
            refine g_run hx [(.iload_n 1, 0, 0), (.iload 5, 0, 0), (.iload 4, 0, 0)] (pc' := 89) (lo' := [some (.ref 66), some (.int v1), some (.int v2), some (.int v3), some (.int 0), some (.int 0)]) (st' := [.int 0, .int 0, .int v1, .int r3]) (σ' := s3) (by decide +kernel) rfl rfl ?_
            refine g_callS (rest := [.int r3]) [.int v1, .int 0, .int 0] hx hc mk_m_goesOf ln_10_408 (by decide +kernel) (by decide) (Nat.le_of_ble_eq_true rfl) (s_m_goesOf (ok_b h)) (fun r4 s4 h => ?_)
            refine g_ic_le hx (off := 6) (tgt := 98) (by decide +kernel) (by decide) (fun c92 => ?_) (fun c92 => ?_)
            · have h := ok_t h c92
              refine g_run hx [(.iload_n 2, 0, 0)] (pc' := 99) (lo' := [some (.ref 66), some (.int v1), some (.int v2), some (.int v3), some (.int 0), some (.int 0)]) (st' := [.int v2]) (σ' := s4) (by decide +kernel) rfl rfl ?_
              refine g_if_ne hx (off := 17) (tgt := 116) (by decide +kernel) (by decide) (fun c99 => ?_) (fun c99 => ?_)
              · have h := ok_f h c99
                refine g_run hx [(.iinc 2 1, 1, 0), (.iinc 3 1, 1, 0)] (pc' := 122) (lo' := [some (.ref 66), some (.int v1), some (.int (v2 + 1)), some (.int (v3 + 1)), some (.int 0), some (.int 0)]) (st' := []) (σ' := s4) (by decide +kernel) rfl rfl ?_
                refine g_goto hx (off := (-112)) (tgt := 10) (by decide +kernel) (by decide) ?_
                refine g_wk (lo' := [some (.ref 66), some (.int v1), some (.int (v2 + 1)), some (.int (v3 + 1)), none, none]) ⟨rfl, ⟨rfl, ⟨rfl, ⟨rfl, trivial⟩⟩⟩⟩ ?_
                exact ih _ _ _ _ h
              · have h := ok_t h c99
                refine g_run hx [(.aload_n 0, 0, 0), (.bipush 10, 10, 0), (.iload_n 3, 0, 0), (.iconst 2, 2, 0), (.idiv, 0, 0), (.imul, 0, 0), (.iload_n 3, 0, 0), (.iconst 2, 2, 0), (.irem, 0, 0), (.iadd, 0, 0), (.putfield 412, 0, 0), (.iinc 2 1, 1, 0), (.iinc 3 1, 1, 0)] (pc' := 122) (lo' := [some (.ref 66), some (.int v1), some (.int (v2 + 1)), some (.int (v3 + 1)), some (.int 0), some (.int 0)]) (st' := []) (σ' := sI s4 66 48 ((10 * (v3 / 2)) + (v3 - v3 / 2 * 2))) (by decide +kernel) rfl rfl ?_
                refine g_goto hx (off := (-112)) (tgt := 10) (by decide +kernel) (by decide) ?_
                refine g_wk (lo' := [some (.ref 66), some (.int v1), some (.int (v2 + 1)), some (.int (v3 + 1)), none, none]) ⟨rfl, ⟨rfl, ⟨rfl, ⟨rfl, trivial⟩⟩⟩⟩ ?_
                exact ih _ _ _ _ h
            · have h := ok_f h c92
              refine g_goto hx (off := 24) (tgt := 119) (by decide +kernel) (by decide) ?_
              refine g_run hx [(.iinc 3 1, 1, 0)] (pc' := 122) (lo' := [some (.ref 66), some (.int v1), some (.int v2), some (.int (v3 + 1)), some (.int 0), some (.int 0)]) (st' := []) (σ' := s4) (by decide +kernel) rfl rfl ?_
              refine g_goto hx (off := (-112)) (tgt := 10) (by decide +kernel) (by decide) ?_
              refine g_wk (lo' := [some (.ref 66), some (.int v1), some (.int v2), some (.int (v3 + 1)), none, none]) ⟨rfl, ⟨rfl, ⟨rfl, ⟨rfl, trivial⟩⟩⟩⟩ ?_
              exact ih _ _ _ _ h
        · have h := ok_t h c31
          refine g_run hx [(.iconst 1, 1, 0)] (pc' := 35) (lo' := [some (.ref 66), some (.int v1), some (.int v2), some (.int v3), some (.int 0), none]) (st' := [.int 1]) (σ' := σ) (by decide +kernel) rfl rfl ?_
          refine g_goto hx (off := 4) (tgt := 39) (by decide +kernel) (by decide) ?_
          refine g_run hx [(.istore 5, 0, 0), (.iload_n 1, 0, 0), (.iload 4, 0, 0)] (pc' := 44) (lo' := [some (.ref 66), some (.int v1), some (.int v2), some (.int v3), some (.int 0), some (.int 1)]) (st' := [.int 0, .int v1]) (σ' := σ) (by decide +kernel) rfl rfl ?_
          refine g_if_ne hx (off := 7) (tgt := 51) (by decide +kernel) (by decide) (fun c => absurd c (by decide)) (fun _ => ?_)
          refine g_run hx [(.iconst 1, 1, 0)] (pc' := 48) (lo' := [some (.ref 66), some (.int v1), some (.int v2), some (.int v3), some (.int 0), some (.int 1)]) (st' := [.int 1, .int v1]) (σ' := σ) (by decide +kernel) rfl rfl ?_
          refine g_goto hx (off := 4) (tgt := 52) (by decide +kernel) (by decide) ?_
          refine g_run hx [(.iload 5, 0, 0)] (pc' := 54) (lo' := [some (.ref 66), some (.int v1), some (.int v2), some (.int v3), some (.int 0), some (.int 1)]) (st' := [.int 1, .int 1, .int v1]) (σ' := σ) (by decide +kernel) rfl rfl ?_
          refine g_callS (rest := []) [.int v1, .int 1, .int 1] hx hc mk_m_goesOf ln_10_408 (by decide +kernel) (by decide) (Nat.le_of_ble_eq_true rfl) (s_m_goesOf (ok_b h)) (fun r5 s5 h => ?_)
          refine g_run hx [(.iload_n 1, 0, 0), (.iload 4, 0, 0), (.iload 5, 0, 0)] (pc' := 62) (lo' := [some (.ref 66), some (.int v1), some (.int v2), some (.int v3), some (.int 0), some (.int 1)]) (st' := [.int 1, .int 0, .int v1, .int r5]) (σ' := s5) (by decide +kernel) rfl rfl ?_
          refine g_callS (rest := [.int r5]) [.int v1, .int 0, .int 1] hx hc mk_m_goesOf ln_10_408 (by decide +kernel) (by decide) (Nat.le_of_ble_eq_true rfl) (s_m_goesOf (ok_b h)) (fun r6 s6 h => ?_)
          refine g_ic_gt hx (off := 54) (tgt := 119) (by decide +kernel) (by decide) (fun c65 => ?_) (fun c65 => ?_)
          · have h := ok_t h c65
            refine g_run hx [(.iinc 3 1, 1, 0)] (pc' := 122) (lo' := [some (.ref 66), some (.int v1), some (.int v2), some (.int (v3 + 1)), some (.int 0), some (.int 1)]) (st' := []) (σ' := s6) (by decide +kernel) rfl rfl ?_
            refine g_goto hx (off := (-112)) (tgt := 10) (by decide +kernel) (by decide) ?_
            refine g_wk (lo' := [some (.ref 66), some (.int v1), some (.int v2), some (.int (v3 + 1)), none, none]) ⟨rfl, ⟨rfl, ⟨rfl, ⟨rfl, trivial⟩⟩⟩⟩ ?_
            exact ih _ _ _ _ h
          · have h := ok_f h c65
            refine g_run hx [(.iload_n 1, 0, 0), (.iload 5, 0, 0)] (pc' := 71) (lo' := [some (.ref 66), some (.int v1), some (.int v2), some (.int v3), some (.int 0), some (.int 1)]) (st' := [.int 1, .int v1]) (σ' := s6) (by decide +kernel) rfl rfl ?_
            refine g_if_ne hx (off := 7) (tgt := 78) (by decide +kernel) (by decide) (fun _ => ?_) (fun c => absurd c (by decide))
            refine g_run hx [(.iconst 0, 0, 0), (.iload 4, 0, 0)] (pc' := 81) (lo' := [some (.ref 66), some (.int v1), some (.int v2), some (.int v3), some (.int 0), some (.int 1)]) (st' := [.int 0, .int 0, .int v1]) (σ' := s6) (by decide +kernel) rfl rfl ?_
            refine g_callS (rest := []) [.int v1, .int 0, .int 0] hx hc mk_m_goesOf ln_10_408 (by decide +kernel) (by decide) (Nat.le_of_ble_eq_true rfl) (s_m_goesOf (ok_b h)) (fun r7 s7 h => ?_)
            refine g_run hx [(.iload_n 1, 0, 0), (.iload 5, 0, 0), (.iload 4, 0, 0)] (pc' := 89) (lo' := [some (.ref 66), some (.int v1), some (.int v2), some (.int v3), some (.int 0), some (.int 1)]) (st' := [.int 0, .int 1, .int v1, .int r7]) (σ' := s7) (by decide +kernel) rfl rfl ?_
            refine g_callS (rest := [.int r7]) [.int v1, .int 1, .int 0] hx hc mk_m_goesOf ln_10_408 (by decide +kernel) (by decide) (Nat.le_of_ble_eq_true rfl) (s_m_goesOf (ok_b h)) (fun r8 s8 h => ?_)
            refine g_ic_le hx (off := 6) (tgt := 98) (by decide +kernel) (by decide) (fun c92 => ?_) (fun c92 => ?_)
            · have h := ok_t h c92
              refine g_run hx [(.iload_n 2, 0, 0)] (pc' := 99) (lo' := [some (.ref 66), some (.int v1), some (.int v2), some (.int v3), some (.int 0), some (.int 1)]) (st' := [.int v2]) (σ' := s8) (by decide +kernel) rfl rfl ?_
              refine g_if_ne hx (off := 17) (tgt := 116) (by decide +kernel) (by decide) (fun c99 => ?_) (fun c99 => ?_)
              · have h := ok_f h c99
                refine g_run hx [(.iinc 2 1, 1, 0), (.iinc 3 1, 1, 0)] (pc' := 122) (lo' := [some (.ref 66), some (.int v1), some (.int (v2 + 1)), some (.int (v3 + 1)), some (.int 0), some (.int 1)]) (st' := []) (σ' := s8) (by decide +kernel) rfl rfl ?_
                refine g_goto hx (off := (-112)) (tgt := 10) (by decide +kernel) (by decide) ?_
                refine g_wk (lo' := [some (.ref 66), some (.int v1), some (.int (v2 + 1)), some (.int (v3 + 1)), none, none]) ⟨rfl, ⟨rfl, ⟨rfl, ⟨rfl, trivial⟩⟩⟩⟩ ?_
                exact ih _ _ _ _ h
              · have h := ok_t h c99
                refine g_run hx [(.aload_n 0, 0, 0), (.bipush 10, 10, 0), (.iload_n 3, 0, 0), (.iconst 2, 2, 0), (.idiv, 0, 0), (.imul, 0, 0), (.iload_n 3, 0, 0), (.iconst 2, 2, 0), (.irem, 0, 0), (.iadd, 0, 0), (.putfield 412, 0, 0), (.iinc 2 1, 1, 0), (.iinc 3 1, 1, 0)] (pc' := 122) (lo' := [some (.ref 66), some (.int v1), some (.int (v2 + 1)), some (.int (v3 + 1)), some (.int 0), some (.int 1)]) (st' := []) (σ' := sI s8 66 48 ((10 * (v3 / 2)) + (v3 - v3 / 2 * 2))) (by decide +kernel) rfl rfl ?_
                refine g_goto hx (off := (-112)) (tgt := 10) (by decide +kernel) (by decide) ?_
                refine g_wk (lo' := [some (.ref 66), some (.int v1), some (.int (v2 + 1)), some (.int (v3 + 1)), none, none]) ⟨rfl, ⟨rfl, ⟨rfl, ⟨rfl, trivial⟩⟩⟩⟩ ?_
                exact ih _ _ _ _ h
            · have h := ok_f h c92
              refine g_goto hx (off := 24) (tgt := 119) (by decide +kernel) (by decide) ?_
              refine g_run hx [(.iinc 3 1, 1, 0)] (pc' := 122) (lo' := [some (.ref 66), some (.int v1), some (.int v2), some (.int (v3 + 1)), some (.int 0), some (.int 1)]) (st' := []) (σ' := s8) (by decide +kernel) rfl rfl ?_
              refine g_goto hx (off := (-112)) (tgt := 10) (by decide +kernel) (by decide) ?_
              refine g_wk (lo' := [some (.ref 66), some (.int v1), some (.int v2), some (.int (v3 + 1)), none, none]) ⟨rfl, ⟨rfl, ⟨rfl, ⟨rfl, trivial⟩⟩⟩⟩ ?_
              exact ih _ _ _ _ h
      · have h := ok_f h c17
        refine g_run hx [(.iconst 1, 1, 0)] (pc' := 21) (lo' := [some (.ref 66), some (.int v1), some (.int v2), some (.int v3), none, none]) (st' := [.int 1]) (σ' := σ) (by decide +kernel) rfl rfl ?_
        refine g_goto hx (off := 4) (tgt := 25) (by decide +kernel) (by decide) ?_
        refine g_run hx [(.istore 4, 0, 0), (.iload_n 3, 0, 0), (.iconst 2, 2, 0), (.irem, 0, 0), (.iconst 1, 1, 0)] (pc' := 31) (lo' := [some (.ref 66), some (.int v1), some (.int v2), some (.int v3), some (.int 1), none]) (st' := [.int 1, .int (v3 - v3 / 2 * 2)]) (σ' := σ) (by decide +kernel) rfl rfl ?_
        refine g_ic_ne hx (off := 7) (tgt := 38) (by decide +kernel) (by decide) (fun c31 => ?_) (fun c31 => ?_)
        · have h := ok_f h c31
          refine g_run hx [(.iconst 0, 0, 0), (.istore 5, 0, 0), (.iload_n 1, 0, 0), (.iload 4, 0, 0)] (pc' := 44) (lo' := [some (.ref 66), some (.int v1), some (.int v2), some (.int v3), some (.int 1), some (.int 0)]) (st' := [.int 1, .int v1]) (σ' := σ) (by decide +kernel) rfl rfl ?_
          refine g_if_ne hx (off := 7) (tgt := 51) (by decide +kernel) (by decide) (fun _ => ?_) (fun c => absurd c (by decide))
          refine g_run hx [(.iconst 0, 0, 0), (.iload 5, 0, 0)] (pc' := 54) (lo' := [some (.ref 66), some (.int v1), some (.int v2), some (.int v3), some (.int 1), some (.int 0)]) (st' := [.int 0, .int 0, .int v1]) (σ' := σ) (by decide +kernel) rfl rfl ?_
          refine g_callS (rest := []) [.int v1, .int 0, .int 0] hx hc mk_m_goesOf ln_10_408 (by decide +kernel) (by decide) (Nat.le_of_ble_eq_true rfl) (s_m_goesOf (ok_b h)) (fun r9 s9 h => ?_)
          refine g_run hx [(.iload_n 1, 0, 0), (.iload 4, 0, 0), (.iload 5, 0, 0)] (pc' := 62) (lo' := [some (.ref 66), some (.int v1), some (.int v2), some (.int v3), some (.int 1), some (.int 0)]) (st' := [.int 0, .int 1, .int v1, .int r9]) (σ' := s9) (by decide +kernel) rfl rfl ?_
          refine g_callS (rest := [.int r9]) [.int v1, .int 1, .int 0] hx hc mk_m_goesOf ln_10_408 (by decide +kernel) (by decide) (Nat.le_of_ble_eq_true rfl) (s_m_goesOf (ok_b h)) (fun r10 s10 h => ?_)
          refine g_ic_gt hx (off := 54) (tgt := 119) (by decide +kernel) (by decide) (fun c65 => ?_) (fun c65 => ?_)
          · have h := ok_t h c65
            refine g_run hx [(.iinc 3 1, 1, 0)] (pc' := 122) (lo' := [some (.ref 66), some (.int v1), some (.int v2), some (.int (v3 + 1)), some (.int 1), some (.int 0)]) (st' := []) (σ' := s10) (by decide +kernel) rfl rfl ?_
            refine g_goto hx (off := (-112)) (tgt := 10) (by decide +kernel) (by decide) ?_
            refine g_wk (lo' := [some (.ref 66), some (.int v1), some (.int v2), some (.int (v3 + 1)), none, none]) ⟨rfl, ⟨rfl, ⟨rfl, ⟨rfl, trivial⟩⟩⟩⟩ ?_
            exact ih _ _ _ _ h
          · have h := ok_f h c65
            refine g_run hx [(.iload_n 1, 0, 0), (.iload 5, 0, 0)] (pc' := 71) (lo' := [some (.ref 66), some (.int v1), some (.int v2), some (.int v3), some (.int 1), some (.int 0)]) (st' := [.int 0, .int v1]) (σ' := s10) (by decide +kernel) rfl rfl ?_
            refine g_if_ne hx (off := 7) (tgt := 78) (by decide +kernel) (by decide) (fun c => absurd c (by decide)) (fun _ => ?_)
            refine g_run hx [(.iconst 1, 1, 0)] (pc' := 75) (lo' := [some (.ref 66), some (.int v1), some (.int v2), some (.int v3), some (.int 1), some (.int 0)]) (st' := [.int 1, .int v1]) (σ' := s10) (by decide +kernel) rfl rfl ?_
            refine g_goto hx (off := 4) (tgt := 79) (by decide +kernel) (by decide) ?_
            refine g_run hx [(.iload 4, 0, 0)] (pc' := 81) (lo' := [some (.ref 66), some (.int v1), some (.int v2), some (.int v3), some (.int 1), some (.int 0)]) (st' := [.int 1, .int 1, .int v1]) (σ' := s10) (by decide +kernel) rfl rfl ?_
            refine g_callS (rest := []) [.int v1, .int 1, .int 1] hx hc mk_m_goesOf ln_10_408 (by decide +kernel) (by decide) (Nat.le_of_ble_eq_true rfl) (s_m_goesOf (ok_b h)) (fun r11 s11 h => ?_)
            refine g_run hx [(.iload_n 1, 0, 0), (.iload 5, 0, 0), (.iload 4, 0, 0)] (pc' := 89) (lo' := [some (.ref 66), some (.int v1), some (.int v2), some (.int v3), some (.int 1), some (.int 0)]) (st' := [.int 1, .int 0, .int v1, .int r11]) (σ' := s11) (by decide +kernel) rfl rfl ?_
            refine g_callS (rest := [.int r11]) [.int v1, .int 0, .int 1] hx hc mk_m_goesOf ln_10_408 (by decide +kernel) (by decide) (Nat.le_of_ble_eq_true rfl) (s_m_goesOf (ok_b h)) (fun r12 s12 h => ?_)
            refine g_ic_le hx (off := 6) (tgt := 98) (by decide +kernel) (by decide) (fun c92 => ?_) (fun c92 => ?_)
            · have h := ok_t h c92
              refine g_run hx [(.iload_n 2, 0, 0)] (pc' := 99) (lo' := [some (.ref 66), some (.int v1), some (.int v2), some (.int v3), some (.int 1), some (.int 0)]) (st' := [.int v2]) (σ' := s12) (by decide +kernel) rfl rfl ?_
              refine g_if_ne hx (off := 17) (tgt := 116) (by decide +kernel) (by decide) (fun c99 => ?_) (fun c99 => ?_)
              · have h := ok_f h c99
                refine g_run hx [(.iinc 2 1, 1, 0), (.iinc 3 1, 1, 0)] (pc' := 122) (lo' := [some (.ref 66), some (.int v1), some (.int (v2 + 1)), some (.int (v3 + 1)), some (.int 1), some (.int 0)]) (st' := []) (σ' := s12) (by decide +kernel) rfl rfl ?_
                refine g_goto hx (off := (-112)) (tgt := 10) (by decide +kernel) (by decide) ?_
                refine g_wk (lo' := [some (.ref 66), some (.int v1), some (.int (v2 + 1)), some (.int (v3 + 1)), none, none]) ⟨rfl, ⟨rfl, ⟨rfl, ⟨rfl, trivial⟩⟩⟩⟩ ?_
                exact ih _ _ _ _ h
              · have h := ok_t h c99
                refine g_run hx [(.aload_n 0, 0, 0), (.bipush 10, 10, 0), (.iload_n 3, 0, 0), (.iconst 2, 2, 0), (.idiv, 0, 0), (.imul, 0, 0), (.iload_n 3, 0, 0), (.iconst 2, 2, 0), (.irem, 0, 0), (.iadd, 0, 0), (.putfield 412, 0, 0), (.iinc 2 1, 1, 0), (.iinc 3 1, 1, 0)] (pc' := 122) (lo' := [some (.ref 66), some (.int v1), some (.int (v2 + 1)), some (.int (v3 + 1)), some (.int 1), some (.int 0)]) (st' := []) (σ' := sI s12 66 48 ((10 * (v3 / 2)) + (v3 - v3 / 2 * 2))) (by decide +kernel) rfl rfl ?_
                refine g_goto hx (off := (-112)) (tgt := 10) (by decide +kernel) (by decide) ?_
                refine g_wk (lo' := [some (.ref 66), some (.int v1), some (.int (v2 + 1)), some (.int (v3 + 1)), none, none]) ⟨rfl, ⟨rfl, ⟨rfl, ⟨rfl, trivial⟩⟩⟩⟩ ?_
                exact ih _ _ _ _ h
            · have h := ok_f h c92
              refine g_goto hx (off := 24) (tgt := 119) (by decide +kernel) (by decide) ?_
              refine g_run hx [(.iinc 3 1, 1, 0)] (pc' := 122) (lo' := [some (.ref 66), some (.int v1), some (.int v2), some (.int (v3 + 1)), some (.int 1), some (.int 0)]) (st' := []) (σ' := s12) (by decide +kernel) rfl rfl ?_
              refine g_goto hx (off := (-112)) (tgt := 10) (by decide +kernel) (by decide) ?_
              refine g_wk (lo' := [some (.ref 66), some (.int v1), some (.int v2), some (.int (v3 + 1)), none, none]) ⟨rfl, ⟨rfl, ⟨rfl, ⟨rfl, trivial⟩⟩⟩⟩ ?_
              exact ih _ _ _ _ h
        · have h := ok_t h c31
          refine g_run hx [(.iconst 1, 1, 0)] (pc' := 35) (lo' := [some (.ref 66), some (.int v1), some (.int v2), some (.int v3), some (.int 1), none]) (st' := [.int 1]) (σ' := σ) (by decide +kernel) rfl rfl ?_
          refine g_goto hx (off := 4) (tgt := 39) (by decide +kernel) (by decide) ?_
          refine g_run hx [(.istore 5, 0, 0), (.iload_n 1, 0, 0), (.iload 4, 0, 0)] (pc' := 44) (lo' := [some (.ref 66), some (.int v1), some (.int v2), some (.int v3), some (.int 1), some (.int 1)]) (st' := [.int 1, .int v1]) (σ' := σ) (by decide +kernel) rfl rfl ?_
          refine g_if_ne hx (off := 7) (tgt := 51) (by decide +kernel) (by decide) (fun _ => ?_) (fun c => absurd c (by decide))
          refine g_run hx [(.iconst 0, 0, 0), (.iload 5, 0, 0)] (pc' := 54) (lo' := [some (.ref 66), some (.int v1), some (.int v2), some (.int v3), some (.int 1), some (.int 1)]) (st' := [.int 1, .int 0, .int v1]) (σ' := σ) (by decide +kernel) rfl rfl ?_
          refine g_callS (rest := []) [.int v1, .int 0, .int 1] hx hc mk_m_goesOf ln_10_408 (by decide +kernel) (by decide) (Nat.le_of_ble_eq_true rfl) (s_m_goesOf (ok_b h)) (fun r13 s13 h => ?_)
          refine g_run hx [(.iload_n 1, 0, 0), (.iload 4, 0, 0), (.iload 5, 0, 0)] (pc' := 62) (lo' := [some (.ref 66), some (.int v1), some (.int v2), some (.int v3), some (.int 1), some (.int 1)]) (st' := [.int 1, .int 1, .int v1, .int r13]) (σ' := s13) (by decide +kernel) rfl rfl ?_
          refine g_callS (rest := [.int r13]) [.int v1, .int 1, .int 1] hx hc mk_m_goesOf ln_10_408 (by decide +kernel) (by decide) (Nat.le_of_ble_eq_true rfl) (s_m_goesOf (ok_b h)) (fun r14 s14 h => ?_)
          refine g_ic_gt hx (off := 54) (tgt := 119) (by decide +kernel) (by decide) (fun c65 => ?_) (fun c65 => ?_)
          · have h := ok_t h c65
            refine g_run hx [(.iinc 3 1, 1, 0)] (pc' := 122) (lo' := [some (.ref 66), some (.int v1), some (.int v2), some (.int (v3 + 1)), some (.int 1), some (.int 1)]) (st' := []) (σ' := s14) (by decide +kernel) rfl rfl ?_
            refine g_goto hx (off := (-112)) (tgt := 10) (by decide +kernel) (by decide) ?_
            refine g_wk (lo' := [some (.ref 66), some (.int v1), some (.int v2), some (.int (v3 + 1)), none, none]) ⟨rfl, ⟨rfl, ⟨rfl, ⟨rfl, trivial⟩⟩⟩⟩ ?_
            exact ih _ _ _ _ h
          · have h := ok_f h c65
            refine g_run hx [(.iload_n 1, 0, 0), (.iload 5, 0, 0)] (pc' := 71) (lo' := [some (.ref 66), some (.int v1), some (.int v2), some (.int v3), some (.int 1), some (.int 1)]) (st' := [.int 1, .int v1]) (σ' := s14) (by decide +kernel) rfl rfl ?_
            refine g_if_ne hx (off := 7) (tgt := 78) (by decide +kernel) (by decide) (fun _ => ?_) (fun c => absurd c (by decide))
            refine g_run hx [(.iconst 0, 0, 0), (.iload 4, 0, 0)] (pc' := 81) (lo' := [some (.ref 66), some (.int v1), some (.int v2), some (.int v3), some (.int 1), some (.int 1)]) (st' := [.int 1, .int 0, .int v1]) (σ' := s14) (by decide +kernel) rfl rfl ?_
            refine g_callS (rest := []) [.int v1, .int 0, .int 1] hx hc mk_m_goesOf ln_10_408 (by decide +kernel) (by decide) (Nat.le_of_ble_eq_true rfl) (s_m_goesOf (ok_b h)) (fun r15 s15 h => ?_)
            refine g_run hx [(.iload_n 1, 0, 0), (.iload 5, 0, 0), (.iload 4, 0, 0)] (pc' := 89) (lo' := [some (.ref 66), some (.int v1), some (.int v2), some (.int v3), some (.int 1), some (.int 1)]) (st' := [.int 1, .int 1, .int v1, .int r15]) (σ' := s15) (by decide +kernel) rfl rfl ?_
            refine g_callS (rest := [.int r15]) [.int v1, .int 1, .int 1] hx hc mk_m_goesOf ln_10_408 (by decide +kernel) (by decide) (Nat.le_of_ble_eq_true rfl) (s_m_goesOf (ok_b h)) (fun r16 s16 h => ?_)
            refine g_ic_le hx (off := 6) (tgt := 98) (by decide +kernel) (by decide) (fun c92 => ?_) (fun c92 => ?_)
            · have h := ok_t h c92
              refine g_run hx [(.iload_n 2, 0, 0)] (pc' := 99) (lo' := [some (.ref 66), some (.int v1), some (.int v2), some (.int v3), some (.int 1), some (.int 1)]) (st' := [.int v2]) (σ' := s16) (by decide +kernel) rfl rfl ?_
              refine g_if_ne hx (off := 17) (tgt := 116) (by decide +kernel) (by decide) (fun c99 => ?_) (fun c99 => ?_)
              · have h := ok_f h c99
                refine g_run hx [(.iinc 2 1, 1, 0), (.iinc 3 1, 1, 0)] (pc' := 122) (lo' := [some (.ref 66), some (.int v1), some (.int (v2 + 1)), some (.int (v3 + 1)), some (.int 1), some (.int 1)]) (st' := []) (σ' := s16) (by decide +kernel) rfl rfl ?_
                refine g_goto hx (off := (-112)) (tgt := 10) (by decide +kernel) (by decide) ?_
                refine g_wk (lo' := [some (.ref 66), some (.int v1), some (.int (v2 + 1)), some (.int (v3 + 1)), none, none]) ⟨rfl, ⟨rfl, ⟨rfl, ⟨rfl, trivial⟩⟩⟩⟩ ?_
                exact ih _ _ _ _ h
              · have h := ok_t h c99
                refine g_run hx [(.aload_n 0, 0, 0), (.bipush 10, 10, 0), (.iload_n 3, 0, 0), (.iconst 2, 2, 0), (.idiv, 0, 0), (.imul, 0, 0), (.iload_n 3, 0, 0), (.iconst 2, 2, 0), (.irem, 0, 0), (.iadd, 0, 0), (.putfield 412, 0, 0), (.iinc 2 1, 1, 0), (.iinc 3 1, 1, 0)] (pc' := 122) (lo' := [some (.ref 66), some (.int v1), some (.int (v2 + 1)), some (.int (v3 + 1)), some (.int 1), some (.int 1)]) (st' := []) (σ' := sI s16 66 48 ((10 * (v3 / 2)) + (v3 - v3 / 2 * 2))) (by decide +kernel) rfl rfl ?_
                refine g_goto hx (off := (-112)) (tgt := 10) (by decide +kernel) (by decide) ?_
                refine g_wk (lo' := [some (.ref 66), some (.int v1), some (.int (v2 + 1)), some (.int (v3 + 1)), none, none]) ⟨rfl, ⟨rfl, ⟨rfl, ⟨rfl, trivial⟩⟩⟩⟩ ?_
                exact ih _ _ _ _ h
            · have h := ok_f h c92
              refine g_goto hx (off := 24) (tgt := 119) (by decide +kernel) (by decide) ?_
              refine g_run hx [(.iinc 3 1, 1, 0)] (pc' := 122) (lo' := [some (.ref 66), some (.int v1), some (.int v2), some (.int (v3 + 1)), some (.int 1), some (.int 1)]) (st' := []) (σ' := s16) (by decide +kernel) rfl rfl ?_
              refine g_goto hx (off := (-112)) (tgt := 10) (by decide +kernel) (by decide) ?_
              refine g_wk (lo' := [some (.ref 66), some (.int v1), some (.int v2), some (.int (v3 + 1)), none, none]) ⟨rfl, ⟨rfl, ⟨rfl, ⟨rfl, trivial⟩⟩⟩⟩ ?_
              exact ih _ _ _ _ h
set_option maxRecDepth 100000 in
theorem s_m_seekRests {y : EX} {N : Nat} {v1 : Int32} {σ : Sg} {P : Int32 × Sg → Prop} (h : ok (f_m_seekRests N v1 σ) P) : Ev y M_m_seekRests 1 [.ref 66, .int v1] σ rvI P := by
  refine Ev.of mk_m_seekRests (Nat.le_of_ble_eq_true rfl) (fun x hx hc hr => ?_)
  have hx : Cx 10 prog_12_method_113_code x := hx
  have hc : Cc y 6 1 x := hc
  show G x 0 [some (.ref 66), some (.int v1), none, none, none, none] [] σ
  unfold f_m_seekRests at h
  refine g_run hx [(.iconst 0, 0, 0), (.istore_n 2, 0, 0), (.aload_n 0, 0, 0), (.bipush (-2), (-2), 0), (.putfield 412, 0, 0), (.iconst 0, 0, 0), (.istore_n 3, 0, 0)] (pc' := 10) (lo' := [some (.ref 66), some (.int v1), some (.int 0), some (.int 0), none, none]) (st' := []) (σ' := sI σ 66 48 (-2)) (by decide +kernel) rfl rfl ?_
  refine s_m_seekRests_L10 hx hc hr N _ _ _ _ h
def f_m_rest (N : Nat) (v1 : Int32) (σ : Sg) : Option (Int32 × Sg) :=
  (f_m_anew N σ).bind fun q1 =>
  (f_m_in N v1 0 9 q1.2).bind fun q2 =>
  (f_m_why N (gI q1.2 66 14) (b2i q2.1) q2.2).bind fun q3 =>
  if q3.1 = 0 then
    (f_m_seekRests N v1 q3.2).bind fun q4 =>
    some ((gI q4.2 66 48), q4.2)
  else
    (f_m_no N q3.1 q3.2).bind fun q5 =>
    some (q5.1, q5.2)
set_option maxRecDepth 100000 in
theorem s_m_rest {y : EX} {N : Nat} {v1 : Int32} {σ : Sg} {P : Int32 × Sg → Prop} (h : ok (f_m_rest N v1 σ) P) : Ev y M_m_rest 2 [.ref 66, .int v1] σ rvI P := by
  refine Ev.of mk_m_rest (Nat.le_of_ble_eq_true rfl) (fun x hx hc hr => ?_)
  have hx : Cx 10 prog_12_method_115_code x := hx
  have hc : Cc y 3 2 x := hc
  show G x 0 [some (.ref 66), some (.int v1), none] [] σ
  unfold f_m_rest at h
  refine g_run hx [(.aload_n 0, 0, 0)] (pc' := 1) (lo' := [some (.ref 66), some (.int v1), none]) (st' := [.ref 66]) (σ' := σ) (by decide +kernel) rfl rfl ?_
  refine g_callV (rest := []) [] hx hc mk_m_anew ln_10_174 rfl (by decide +kernel) (by decide) (Nat.le_of_ble_eq_true rfl) (s_m_anew (ok_b h)) (fun r1 s1 h => ?_)
  refine g_run hx [(.aload_n 0, 0, 0), (.aload_n 0, 0, 0), (.getfield 187, 0, 0), (.iload_n 1, 0, 0), (.iconst 0, 0, 0), (.bipush 9, 9, 0)] (pc' := 13) (lo' := [some (.ref 66), some (.int v1), none]) (st' := [.int 9, .int 0, .int v1, .int (gI s1 66 14), .ref 66]) (σ' := s1) (by decide +kernel) rfl rfl ?_
  refine g_callS (rest := [.int (gI s1 66 14), .ref 66]) [.int v1, .int 0, .int 9] hx hc mk_m_in ln_10_156 (by decide +kernel) (by decide) (Nat.le_of_ble_eq_true rfl) (s_m_in (ok_b h)) (fun r2 s2 h => ?_)
  refine g_callV (rest := []) [.int (gI s1 66 14), .int (b2i r2)] hx hc mk_m_why ln_10_261 rfl (by decide +kernel) (by decide) (Nat.le_of_ble_eq_true rfl) (s_m_why (ok_b h)) (fun r3 s3 h => ?_)
  refine g_run hx [(.istore_n 2, 0, 0), (.iload_n 2, 0, 0)] (pc' := 21) (lo' := [some (.ref 66), some (.int v1), some (.int r3)]) (st' := [.int r3]) (σ' := s3) (by decide +kernel) rfl rfl ?_
  refine g_if_eq hx (off := 9) (tgt := 30) (by decide +kernel) (by decide) (fun c21 => ?_) (fun c21 => ?_)
  · have h := ok_t h c21
    refine g_run hx [(.aload_n 0, 0, 0), (.iload_n 1, 0, 0)] (pc' := 32) (lo' := [some (.ref 66), some (.int v1), some (.int r3)]) (st' := [.int v1, .ref 66]) (σ' := s3) (by decide +kernel) rfl rfl ?_
    refine g_callV (rest := []) [.int v1] hx hc mk_m_seekRests ln_10_415 rfl (by decide +kernel) (by decide) (Nat.le_of_ble_eq_true rfl) (s_m_seekRests (ok_b h)) (fun r4 s4 h => ?_)
    refine g_run hx [(.pop, 0, 0), (.aload_n 0, 0, 0), (.getfield 412, 0, 0)] (pc' := 40) (lo' := [some (.ref 66), some (.int v1), some (.int r3)]) (st' := [.int (gI s4 66 48)]) (σ' := s4) (by decide +kernel) rfl rfl ?_
    exact g_iret hx hr rfl _ rfl (by decide +kernel) (ok_some h)
  · have h := ok_f h c21
    refine g_run hx [(.aload_n 0, 0, 0), (.iload_n 2, 0, 0)] (pc' := 26) (lo' := [some (.ref 66), some (.int v1), some (.int r3)]) (st' := [.int r3, .ref 66]) (σ' := s3) (by decide +kernel) rfl rfl ?_
    refine g_callV (rest := []) [.int r3] hx hc mk_m_no ln_10_177 rfl (by decide +kernel) (by decide) (Nat.le_of_ble_eq_true rfl) (s_m_no (ok_b h)) (fun r5 s5 h => ?_)
    exact g_iret hx hr rfl _ rfl (by decide +kernel) (ok_some h)
def f_m_rests (N : Nat) (v1 : Int32) (σ : Sg) : Option (Int32 × Sg) :=
  (f_m_anew N σ).bind fun q1 =>
  (f_m_in N v1 0 9 q1.2).bind fun q2 =>
  (f_m_why N (gI q1.2 66 14) (b2i q2.1) q2.2).bind fun q3 =>
  if q3.1 = 0 then
    (f_m_seekRests N v1 q3.2).bind fun q4 =>
    some (q4.1, q4.2)
  else
    (f_m_no N q3.1 q3.2).bind fun q5 =>
    some (q5.1, q5.2)
set_option maxRecDepth 100000 in
theorem s_m_rests {y : EX} {N : Nat} {v1 : Int32} {σ : Sg} {P : Int32 × Sg → Prop} (h : ok (f_m_rests N v1 σ) P) : Ev y M_m_rests 2 [.ref 66, .int v1] σ rvI P := by
  refine Ev.of mk_m_rests (Nat.le_of_ble_eq_true rfl) (fun x hx hc hr => ?_)
  have hx : Cx 10 prog_12_method_114_code x := hx
  have hc : Cc y 3 2 x := hc
  show G x 0 [some (.ref 66), some (.int v1), none] [] σ
  unfold f_m_rests at h
  refine g_run hx [(.aload_n 0, 0, 0)] (pc' := 1) (lo' := [some (.ref 66), some (.int v1), none]) (st' := [.ref 66]) (σ' := σ) (by decide +kernel) rfl rfl ?_
  refine g_callV (rest := []) [] hx hc mk_m_anew ln_10_174 rfl (by decide +kernel) (by decide) (Nat.le_of_ble_eq_true rfl) (s_m_anew (ok_b h)) (fun r1 s1 h => ?_)
  refine g_run hx [(.aload_n 0, 0, 0), (.aload_n 0, 0, 0), (.getfield 187, 0, 0), (.iload_n 1, 0, 0), (.iconst 0, 0, 0), (.bipush 9, 9, 0)] (pc' := 13) (lo' := [some (.ref 66), some (.int v1), none]) (st' := [.int 9, .int 0, .int v1, .int (gI s1 66 14), .ref 66]) (σ' := s1) (by decide +kernel) rfl rfl ?_
  refine g_callS (rest := [.int (gI s1 66 14), .ref 66]) [.int v1, .int 0, .int 9] hx hc mk_m_in ln_10_156 (by decide +kernel) (by decide) (Nat.le_of_ble_eq_true rfl) (s_m_in (ok_b h)) (fun r2 s2 h => ?_)
  refine g_callV (rest := []) [.int (gI s1 66 14), .int (b2i r2)] hx hc mk_m_why ln_10_261 rfl (by decide +kernel) (by decide) (Nat.le_of_ble_eq_true rfl) (s_m_why (ok_b h)) (fun r3 s3 h => ?_)
  refine g_run hx [(.istore_n 2, 0, 0), (.iload_n 2, 0, 0)] (pc' := 21) (lo' := [some (.ref 66), some (.int v1), some (.int r3)]) (st' := [.int r3]) (σ' := s3) (by decide +kernel) rfl rfl ?_
  refine g_if_eq hx (off := 11) (tgt := 32) (by decide +kernel) (by decide) (fun c21 => ?_) (fun c21 => ?_)
  · have h := ok_t h c21
    refine g_run hx [(.aload_n 0, 0, 0), (.iload_n 1, 0, 0)] (pc' := 34) (lo' := [some (.ref 66), some (.int v1), some (.int r3)]) (st' := [.int v1, .ref 66]) (σ' := s3) (by decide +kernel) rfl rfl ?_
    refine g_callV (rest := []) [.int v1] hx hc mk_m_seekRests ln_10_415 rfl (by decide +kernel) (by decide) (Nat.le_of_ble_eq_true rfl) (s_m_seekRests (ok_b h)) (fun r4 s4 h => ?_)
    exact g_iret hx hr rfl _ rfl (by decide +kernel) (ok_some h)
  · have h := ok_f h c21
    refine g_run hx [(.aload_n 0, 0, 0), (.iload_n 2, 0, 0)] (pc' := 26) (lo' := [some (.ref 66), some (.int v1), some (.int r3)]) (st' := [.int r3, .ref 66]) (σ' := s3) (by decide +kernel) rfl rfl ?_
    refine g_callV (rest := []) [.int r3] hx hc mk_m_no ln_10_177 rfl (by decide +kernel) (by decide) (Nat.le_of_ble_eq_true rfl) (s_m_no (ok_b h)) (fun r5 s5 h => ?_)
    refine g_goto hx (off := 8) (tgt := 37) (by decide +kernel) (by decide) ?_
    exact g_iret hx hr rfl _ rfl (by decide +kernel) (ok_some h)
def f_m_rowLeads (N : Nat) (v1 : Int32) (v2 : Int32) (σ : Sg) : Option (Int32 × Sg) :=
  (f_m_anew N σ).bind fun q1 =>
  (f_m_rowWhy N (gI q1.2 66 14) v1 v2 q1.2).bind fun q2 =>
  if q2.1 = 0 then
    (f_m_makes N v2 q2.2).bind fun q3 =>
    if q3.1 = true then
      some ((gA q3.2 75 60), q3.2)
    else
      some ((-2), q3.2)
  else
    (f_m_no N q2.1 q2.2).bind fun q4 =>
    some (q4.1, q4.2)
set_option maxRecDepth 100000 in
theorem s_m_rowLeads {y : EX} {N : Nat} {v1 : Int32} {v2 : Int32} {σ : Sg} {P : Int32 × Sg → Prop} (h : ok (f_m_rowLeads N v1 v2 σ) P) : Ev y M_m_rowLeads 5 [.ref 66, .int v1, .int v2] σ rvI P := by
  refine Ev.of mk_m_rowLeads (Nat.le_of_ble_eq_true rfl) (fun x hx hc hr => ?_)
  have hx : Cx 10 prog_12_method_79_code x := hx
  have hc : Cc y 4 5 x := hc
  show G x 0 [some (.ref 66), some (.int v1), some (.int v2), none] [] σ
  unfold f_m_rowLeads at h
  refine g_run hx [(.aload_n 0, 0, 0)] (pc' := 1) (lo' := [some (.ref 66), some (.int v1), some (.int v2), none]) (st' := [.ref 66]) (σ' := σ) (by decide +kernel) rfl rfl ?_
  refine g_callV (rest := []) [] hx hc mk_m_anew ln_10_174 rfl (by decide +kernel) (by decide) (Nat.le_of_ble_eq_true rfl) (s_m_anew (ok_b h)) (fun r1 s1 h => ?_)
  refine g_run hx [(.aload_n 0, 0, 0), (.aload_n 0, 0, 0), (.getfield 187, 0, 0), (.iload_n 1, 0, 0), (.iload_n 2, 0, 0)] (pc' := 11) (lo' := [some (.ref 66), some (.int v1), some (.int v2), none]) (st' := [.int v2, .int v1, .int (gI s1 66 14), .ref 66]) (σ' := s1) (by decide +kernel) rfl rfl ?_
  refine g_callV (rest := []) [.int (gI s1 66 14), .int v1, .int v2] hx hc mk_m_rowWhy ln_10_328 rfl (by decide +kernel) (by decide) (Nat.le_of_ble_eq_true rfl) (s_m_rowWhy (ok_b h)) (fun r2 s2 h => ?_)
  refine g_run hx [(.istore_n 3, 0, 0), (.iload_n 3, 0, 0)] (pc' := 16) (lo' := [some (.ref 66), some (.int v1), some (.int v2), some (.int r2)]) (st' := [.int r2]) (σ' := s2) (by decide +kernel) rfl rfl ?_
  refine g_if_eq hx (off := 9) (tgt := 25) (by decide +kernel) (by decide) (fun c16 => ?_) (fun c16 => ?_)
  · have h := ok_t h c16
    refine g_run hx [(.aload_n 0, 0, 0), (.iload_n 2, 0, 0)] (pc' := 27) (lo' := [some (.ref 66), some (.int v1), some (.int v2), some (.int r2)]) (st' := [.int v2, .ref 66]) (σ' := s2) (by decide +kernel) rfl rfl ?_
    refine g_callV (rest := []) [.int v2] hx hc mk_m_makes ln_10_332 rfl (by decide +kernel) (by decide) (Nat.le_of_ble_eq_true rfl) (s_m_makes (ok_b h)) (fun r3 s3 h => ?_)
    refine g_ifb_eq hx (off := 13) (tgt := 43) (by decide +kernel) (by decide) (fun c30 => ?_) (fun c30 => ?_)
    · have h := ok_f h c30
      refine g_run hx [(.bipush (-2), (-2), 0)] (pc' := 45) (lo' := [some (.ref 66), some (.int v1), some (.int v2), some (.int r2)]) (st' := [.int (-2)]) (σ' := s3) (by decide +kernel) rfl rfl ?_
      exact g_iret hx hr rfl _ rfl (by decide +kernel) (ok_some h)
    · have h := ok_t h c30
      refine g_run hx [(.aload_n 0, 0, 0), (.getfield 38, 0, 0), (.bipush 60, 60, 0), (.iaload, 0, 0)] (pc' := 40) (lo' := [some (.ref 66), some (.int v1), some (.int v2), some (.int r2)]) (st' := [.int (gA s3 75 60)]) (σ' := s3) (by decide +kernel) rfl rfl ?_
      refine g_goto hx (off := 5) (tgt := 45) (by decide +kernel) (by decide) ?_
      exact g_iret hx hr rfl _ rfl (by decide +kernel) (ok_some h)
  · have h := ok_f h c16
    refine g_run hx [(.aload_n 0, 0, 0), (.iload_n 3, 0, 0)] (pc' := 21) (lo' := [some (.ref 66), some (.int v1), some (.int v2), some (.int r2)]) (st' := [.int r2, .ref 66]) (σ' := s2) (by decide +kernel) rfl rfl ?_
    refine g_callV (rest := []) [.int r2] hx hc mk_m_no ln_10_177 rfl (by decide +kernel) (by decide) (Nat.le_of_ble_eq_true rfl) (s_m_no (ok_b h)) (fun r4 s4 h => ?_)
    exact g_iret hx hr rfl _ rfl (by decide +kernel) (ok_some h)
def f_m_rowLost (N : Nat) (v1 : Int32) (v2 : Int32) (σ : Sg) : Option (Int32 × Sg) :=
  (f_m_anew N σ).bind fun q1 =>
  (f_m_rowWhy N (gI q1.2 66 14) v1 v2 q1.2).bind fun q2 =>
  if q2.1 = 0 then
    (f_m_makes N v2 q2.2).bind fun q3 =>
    if q3.1 = true then
      (f_m_lostOn N 69 189 63 75 q3.2).bind fun q4 =>
      some (q4.1, q4.2)
    else
      some ((-2), q3.2)
  else
    (f_m_no N q2.1 q2.2).bind fun q5 =>
    some (q5.1, q5.2)
set_option maxRecDepth 100000 in
theorem s_m_rowLost {y : EX} {N : Nat} {v1 : Int32} {v2 : Int32} {σ : Sg} {P : Int32 × Sg → Prop} (h : ok (f_m_rowLost N v1 v2 σ) P) : Ev y M_m_rowLost 5 [.ref 66, .int v1, .int v2] σ rvI P := by
  refine Ev.of mk_m_rowLost (Nat.le_of_ble_eq_true rfl) (fun x hx hc hr => ?_)
  have hx : Cx 10 prog_12_method_80_code x := hx
  have hc : Cc y 4 5 x := hc
  show G x 0 [some (.ref 66), some (.int v1), some (.int v2), none] [] σ
  unfold f_m_rowLost at h
  refine g_run hx [(.aload_n 0, 0, 0)] (pc' := 1) (lo' := [some (.ref 66), some (.int v1), some (.int v2), none]) (st' := [.ref 66]) (σ' := σ) (by decide +kernel) rfl rfl ?_
  refine g_callV (rest := []) [] hx hc mk_m_anew ln_10_174 rfl (by decide +kernel) (by decide) (Nat.le_of_ble_eq_true rfl) (s_m_anew (ok_b h)) (fun r1 s1 h => ?_)
  refine g_run hx [(.aload_n 0, 0, 0), (.aload_n 0, 0, 0), (.getfield 187, 0, 0), (.iload_n 1, 0, 0), (.iload_n 2, 0, 0)] (pc' := 11) (lo' := [some (.ref 66), some (.int v1), some (.int v2), none]) (st' := [.int v2, .int v1, .int (gI s1 66 14), .ref 66]) (σ' := s1) (by decide +kernel) rfl rfl ?_
  refine g_callV (rest := []) [.int (gI s1 66 14), .int v1, .int v2] hx hc mk_m_rowWhy ln_10_328 rfl (by decide +kernel) (by decide) (Nat.le_of_ble_eq_true rfl) (s_m_rowWhy (ok_b h)) (fun r2 s2 h => ?_)
  refine g_run hx [(.istore_n 3, 0, 0), (.iload_n 3, 0, 0)] (pc' := 16) (lo' := [some (.ref 66), some (.int v1), some (.int v2), some (.int r2)]) (st' := [.int r2]) (σ' := s2) (by decide +kernel) rfl rfl ?_
  refine g_if_eq hx (off := 9) (tgt := 25) (by decide +kernel) (by decide) (fun c16 => ?_) (fun c16 => ?_)
  · have h := ok_t h c16
    refine g_run hx [(.aload_n 0, 0, 0), (.iload_n 2, 0, 0)] (pc' := 27) (lo' := [some (.ref 66), some (.int v1), some (.int v2), some (.int r2)]) (st' := [.int v2, .ref 66]) (σ' := s2) (by decide +kernel) rfl rfl ?_
    refine g_callV (rest := []) [.int v2] hx hc mk_m_makes ln_10_332 rfl (by decide +kernel) (by decide) (Nat.le_of_ble_eq_true rfl) (s_m_makes (ok_b h)) (fun r3 s3 h => ?_)
    refine g_ifb_eq hx (off := 14) (tgt := 44) (by decide +kernel) (by decide) (fun c30 => ?_) (fun c30 => ?_)
    · have h := ok_f h c30
      refine g_run hx [(.bipush (-2), (-2), 0)] (pc' := 46) (lo' := [some (.ref 66), some (.int v1), some (.int v2), some (.int r2)]) (st' := [.int (-2)]) (σ' := s3) (by decide +kernel) rfl rfl ?_
      exact g_iret hx hr rfl _ rfl (by decide +kernel) (ok_some h)
    · have h := ok_t h c30
      refine g_run hx [(.aload_n 0, 0, 0), (.aload_n 0, 0, 0), (.getfield 38, 0, 0)] (pc' := 38) (lo' := [some (.ref 66), some (.int v1), some (.int v2), some (.int r2)]) (st' := [.ref 75, .ref 66]) (σ' := s3) (by decide +kernel) rfl rfl ?_
      refine g_callV (rest := []) [.ref 75] hx hc mk_m_lostOn ln_10_294 rfl (by decide +kernel) (by decide) (Nat.le_of_ble_eq_true rfl) (s_m_lostOn_66_75 (ok_b h)) (fun r4 s4 h => ?_)
      refine g_goto hx (off := 5) (tgt := 46) (by decide +kernel) (by decide) ?_
      exact g_iret hx hr rfl _ rfl (by decide +kernel) (ok_some h)
  · have h := ok_f h c16
    refine g_run hx [(.aload_n 0, 0, 0), (.iload_n 3, 0, 0)] (pc' := 21) (lo' := [some (.ref 66), some (.int v1), some (.int v2), some (.int r2)]) (st' := [.int r2, .ref 66]) (σ' := s2) (by decide +kernel) rfl rfl ?_
    refine g_callV (rest := []) [.int r2] hx hc mk_m_no ln_10_177 rfl (by decide +kernel) (by decide) (Nat.le_of_ble_eq_true rfl) (s_m_no (ok_b h)) (fun r5 s5 h => ?_)
    exact g_iret hx hr rfl _ rfl (by decide +kernel) (ok_some h)
def f_m_size (N : Nat) (v1 : Int32) (σ : Sg) : Option (Int32 × Sg) :=
  if v1 = 10 then
    some ((gI (sI σ 66 0 0) 66 2), sI σ 66 0 0)
  else
    if (gI (sI σ 66 0 0) 66 14) = 0 then
      (f_m_in N v1 0 9 (sI σ 66 0 0)).bind fun q2 =>
      if q2.1 = true then
        some (0, q2.2)
      else
        some ((-1), q2.2)
    else
      (f_m_in N v1 0 6 (sI σ 66 0 0)).bind fun q1 =>
      if q1.1 = true then
        if vin v1 189 then
        some ((gA q1.2 69 v1), q1.2)
        else none
      else
        if v1 = 7 then
          some ((gA q1.2 74 62), q1.2)
        else
          if v1 = 8 then
            some ((gI q1.2 66 24), q1.2)
          else
            if v1 = 9 then
              some ((gI q1.2 66 25), q1.2)
            else
              some ((-1), q1.2)
set_option maxRecDepth 100000 in
theorem s_m_size {y : EX} {N : Nat} {v1 : Int32} {σ : Sg} {P : Int32 × Sg → Prop} (h : ok (f_m_size N v1 σ) P) : Ev y M_m_size 1 [.ref 66, .int v1] σ rvI P := by
  refine Ev.of mk_m_size (Nat.le_of_ble_eq_true rfl) (fun x hx hc hr => ?_)
  have hx : Cx 10 prog_12_method_129_code x := hx
  have hc : Cc y 2 1 x := hc
  show G x 0 [some (.ref 66), some (.int v1)] [] σ
  unfold f_m_size at h
  refine g_run hx [(.aload_n 0, 0, 0), (.iconst 0, 0, 0), (.putfield 68, 0, 0), (.iload_n 1, 0, 0), (.bipush 10, 10, 0)] (pc' := 8) (lo' := [some (.ref 66), some (.int v1)]) (st' := [.int 10, .int v1]) (σ' := sI σ 66 0 0) (by decide +kernel) rfl rfl ?_
  refine g_ic_ne hx (off := 8) (tgt := 16) (by decide +kernel) (by decide) (fun c8 => ?_) (fun c8 => ?_)
  · have h := ok_f h c8
    refine g_run hx [(.aload_n 0, 0, 0), (.getfield 187, 0, 0)] (pc' := 20) (lo' := [some (.ref 66), some (.int v1)]) (st' := [.int (gI (sI σ 66 0 0) 66 14)]) (σ' := sI σ 66 0 0) (by decide +kernel) rfl rfl ?_
    refine g_if_ne hx (off := 19) (tgt := 39) (by decide +kernel) (by decide) (fun c20 => ?_) (fun c20 => ?_)
    · have h := ok_f h c20
      refine g_run hx [(.iload_n 1, 0, 0), (.iconst 0, 0, 0), (.bipush 6, 6, 0)] (pc' := 43) (lo' := [some (.ref 66), some (.int v1)]) (st' := [.int 6, .int 0, .int v1]) (σ' := sI σ 66 0 0) (by decide +kernel) rfl rfl ?_
      refine g_callS (rest := []) [.int v1, .int 0, .int 6] hx hc mk_m_in ln_10_156 (by decide +kernel) (by decide) (Nat.le_of_ble_eq_true rfl) (s_m_in (ok_b h)) (fun r1 s1 h => ?_)
      refine g_ifb_eq hx (off := 10) (tgt := 56) (by decide +kernel) (by decide) (fun c46 => ?_) (fun c46 => ?_)
      · have h := ok_f h c46
        refine g_run hx [(.iload_n 1, 0, 0), (.bipush 7, 7, 0)] (pc' := 59) (lo' := [some (.ref 66), some (.int v1)]) (st' := [.int 7, .int v1]) (σ' := s1) (by decide +kernel) rfl rfl ?_
        refine g_ic_ne hx (off := 13) (tgt := 72) (by decide +kernel) (by decide) (fun c59 => ?_) (fun c59 => ?_)
        · have h := ok_f h c59
          refine g_run hx [(.iload_n 1, 0, 0), (.bipush 8, 8, 0)] (pc' := 75) (lo' := [some (.ref 66), some (.int v1)]) (st' := [.int 8, .int v1]) (σ' := s1) (by decide +kernel) rfl rfl ?_
          refine g_ic_ne hx (off := 10) (tgt := 85) (by decide +kernel) (by decide) (fun c75 => ?_) (fun c75 => ?_)
          · have h := ok_f h c75
            refine g_run hx [(.iload_n 1, 0, 0), (.bipush 9, 9, 0)] (pc' := 88) (lo' := [some (.ref 66), some (.int v1)]) (st' := [.int 9, .int v1]) (σ' := s1) (by decide +kernel) rfl rfl ?_
            refine g_ic_ne hx (off := 10) (tgt := 98) (by decide +kernel) (by decide) (fun c88 => ?_) (fun c88 => ?_)
            · have h := ok_f h c88
              refine g_run hx [(.iconst (-1), (-1), 0)] (pc' := 99) (lo' := [some (.ref 66), some (.int v1)]) (st' := [.int (-1)]) (σ' := s1) (by decide +kernel) rfl rfl ?_
              exact g_iret hx hr rfl _ rfl (by decide +kernel) (ok_some h)
            · have h := ok_t h c88
              refine g_run hx [(.aload_n 0, 0, 0), (.getfield 193, 0, 0)] (pc' := 95) (lo' := [some (.ref 66), some (.int v1)]) (st' := [.int (gI s1 66 25)]) (σ' := s1) (by decide +kernel) rfl rfl ?_
              refine g_goto hx (off := 4) (tgt := 99) (by decide +kernel) (by decide) ?_
              exact g_iret hx hr rfl _ rfl (by decide +kernel) (ok_some h)
          · have h := ok_t h c75
            refine g_run hx [(.aload_n 0, 0, 0), (.getfield 190, 0, 0)] (pc' := 82) (lo' := [some (.ref 66), some (.int v1)]) (st' := [.int (gI s1 66 24)]) (σ' := s1) (by decide +kernel) rfl rfl ?_
            refine g_goto hx (off := 17) (tgt := 99) (by decide +kernel) (by decide) ?_
            exact g_iret hx hr rfl _ rfl (by decide +kernel) (ok_some h)
        · have h := ok_t h c59
          refine g_run hx [(.aload_n 0, 0, 0), (.getfield 35, 0, 0), (.bipush 62, 62, 0), (.iaload, 0, 0)] (pc' := 69) (lo' := [some (.ref 66), some (.int v1)]) (st' := [.int (gA s1 74 62)]) (σ' := s1) (by decide +kernel) rfl rfl ?_
          refine g_goto hx (off := 30) (tgt := 99) (by decide +kernel) (by decide) ?_
          exact g_iret hx hr rfl _ rfl (by decide +kernel) (ok_some h)
      · have h := ok_t h c46
        refine g_run hx [(.aload_n 0, 0, 0), (.getfield 20, 0, 0), (.iload_n 1, 0, 0)] (pc' := 54) (lo' := [some (.ref 66), some (.int v1)]) (st' := [.int v1, .ref 69]) (σ' := s1) (by decide +kernel) rfl rfl ?_
        obtain ⟨c54, h⟩ := ok_g h
        refine g_iald hx (by decide +kernel) (i := 69) (n := 189) rfl c54 ?_
        exact g_iret hx hr rfl _ rfl (by decide +kernel) (ok_some h)
    · have h := ok_t h c20
      refine g_run hx [(.iload_n 1, 0, 0), (.iconst 0, 0, 0), (.bipush 9, 9, 0)] (pc' := 27) (lo' := [some (.ref 66), some (.int v1)]) (st' := [.int 9, .int 0, .int v1]) (σ' := sI σ 66 0 0) (by decide +kernel) rfl rfl ?_
      refine g_callS (rest := []) [.int v1, .int 0, .int 9] hx hc mk_m_in ln_10_156 (by decide +kernel) (by decide) (Nat.le_of_ble_eq_true rfl) (s_m_in (ok_b h)) (fun r2 s2 h => ?_)
      refine g_ifb_eq hx (off := 7) (tgt := 37) (by decide +kernel) (by decide) (fun c30 => ?_) (fun c30 => ?_)
      · have h := ok_f h c30
        refine g_run hx [(.iconst (-1), (-1), 0)] (pc' := 38) (lo' := [some (.ref 66), some (.int v1)]) (st' := [.int (-1)]) (σ' := s2) (by decide +kernel) rfl rfl ?_
        exact g_iret hx hr rfl _ rfl (by decide +kernel) (ok_some h)
      · have h := ok_t h c30
        refine g_run hx [(.iconst 0, 0, 0)] (pc' := 34) (lo' := [some (.ref 66), some (.int v1)]) (st' := [.int 0]) (σ' := s2) (by decide +kernel) rfl rfl ?_
        refine g_goto hx (off := 4) (tgt := 38) (by decide +kernel) (by decide) ?_
        exact g_iret hx hr rfl _ rfl (by decide +kernel) (ok_some h)
  · have h := ok_t h c8
    refine g_run hx [(.aload_n 0, 0, 0), (.getfield 74, 0, 0)] (pc' := 15) (lo' := [some (.ref 66), some (.int v1)]) (st' := [.int (gI (sI σ 66 0 0) 66 2)]) (σ' := sI σ 66 0 0) (by decide +kernel) rfl rfl ?_
    exact g_iret hx hr rfl _ rfl (by decide +kernel) (ok_some h)
