set_option maxRecDepth 100000 in
theorem s_m_leadOf_69_74 {y : EX} {N : Nat} {v2 : Int32} {v3 : Int32} {σ : Sg} {P : Int32 × Sg → Prop} (h : ok (f_m_leadOf N 189 74 69 63 v2 v3 σ) P) : Ev y M_m_leadOf 1 [.ref 69, .ref 74, .int v2, .int v3] σ rvI P := by
  refine Ev.of mk_m_leadOf (Nat.le_of_ble_eq_true rfl) (fun x hx hc hr => ?_)
  have hx : Cx 10 prog_12_method_44_code x := hx
  have hc : Cc y 5 1 x := hc
  show G x 0 [some (.ref 69), some (.ref 74), some (.int v2), some (.int v3), none] [] σ
  unfold f_m_leadOf at h
  refine g_run hx [(.aload_n 1, 0, 0), (.bipush 60, 60, 0), (.iaload, 0, 0), (.iload_n 3, 0, 0)] (pc' := 5) (lo' := [some (.ref 69), some (.ref 74), some (.int v2), some (.int v3), none]) (st' := [.int v3, .int (gA σ 74 60)]) (σ' := σ) (by decide +kernel) rfl rfl ?_
  refine g_if_ne hx (off := 12) (tgt := 17) (by decide +kernel) (by decide) (fun c5 => ?_) (fun c5 => ?_)
  · have h := ok_f h c5
    refine g_run hx [(.aload_n 0, 0, 0), (.bipush 9, 9, 0), (.iload_n 2, 0, 0), (.iadd, 0, 0)] (pc' := 22) (lo' := [some (.ref 69), some (.ref 74), some (.int v2), some (.int v3), none]) (st' := [.int (9 + v2), .ref 69, .int (gA σ 74 60)]) (σ' := σ) (by decide +kernel) rfl rfl ?_
    obtain ⟨c22, h⟩ := ok_g h
    refine g_iald hx (by decide +kernel) (i := 69) (n := 189) rfl c22 ?_
    refine g_run hx [(.ineg, 0, 0), (.iadd, 0, 0), (.istore 4, 0, 0), (.iload 4, 0, 0), (.iconst 0, 0, 0), (.aload_n 0, 0, 0), (.iconst 0, 0, 0), (.iaload, 0, 0), (.iconst 1, 1, 0), (.isub, 0, 0)] (pc' := 35) (lo' := [some (.ref 69), some (.ref 74), some (.int v2), some (.int v3), some (.int ((gA σ 74 60) + (-(gA σ 69 (9 + v2)))))]) (st' := [.int ((gA σ 69 0) - 1), .int 0, .int ((gA σ 74 60) + (-(gA σ 69 (9 + v2))))]) (σ' := σ) (by decide +kernel) rfl rfl ?_
    refine g_callS (rest := []) [.int ((gA σ 74 60) + (-(gA σ 69 (9 + v2)))), .int 0, .int ((gA σ 69 0) - 1)] hx hc mk_m_in ln_10_156 (by decide +kernel) (by decide) (Nat.le_of_ble_eq_true rfl) (s_m_in (ok_b h)) (fun r1 s1 h => ?_)
    refine g_ifb_eq hx (off := 15) (tgt := 53) (by decide +kernel) (by decide) (fun c38 => ?_) (fun c38 => ?_)
    · have h := ok_f h c38
      refine g_run hx [(.bipush (-2), (-2), 0)] (pc' := 55) (lo' := [some (.ref 69), some (.ref 74), some (.int v2), some (.int v3), some (.int ((gA σ 74 60) + (-(gA σ 69 (9 + v2)))))]) (st' := [.int (-2)]) (σ' := s1) (by decide +kernel) rfl rfl ?_
      exact g_iret hx hr rfl _ rfl (by decide +kernel) (ok_some h)
    · have h := ok_t h c38
      refine g_run hx [(.aload_n 1, 0, 0), (.iload 4, 0, 0)] (pc' := 44) (lo' := [some (.ref 69), some (.ref 74), some (.int v2), some (.int v3), some (.int ((gA σ 74 60) + (-(gA σ 69 (9 + v2)))))]) (st' := [.int ((gA σ 74 60) + (-(gA σ 69 (9 + v2)))), .ref 74]) (σ' := s1) (by decide +kernel) rfl rfl ?_
      obtain ⟨c44, h⟩ := ok_g h
      refine g_iald hx (by decide +kernel) (i := 74) (n := 63) rfl c44 ?_
      refine g_if_ne hx (off := 8) (tgt := 53) (by decide +kernel) (by decide) (fun c45 => ?_) (fun c45 => ?_)
      · have h := ok_f h c45
        refine g_run hx [(.bipush (-2), (-2), 0)] (pc' := 55) (lo' := [some (.ref 69), some (.ref 74), some (.int v2), some (.int v3), some (.int ((gA σ 74 60) + (-(gA σ 69 (9 + v2)))))]) (st' := [.int (-2)]) (σ' := s1) (by decide +kernel) rfl rfl ?_
        exact g_iret hx hr rfl _ rfl (by decide +kernel) (ok_some h)
      · have h := ok_t h c45
        refine g_run hx [(.iload 4, 0, 0)] (pc' := 50) (lo' := [some (.ref 69), some (.ref 74), some (.int v2), some (.int v3), some (.int ((gA σ 74 60) + (-(gA σ 69 (9 + v2)))))]) (st' := [.int ((gA σ 74 60) + (-(gA σ 69 (9 + v2))))]) (σ' := s1) (by decide +kernel) rfl rfl ?_
        refine g_goto hx (off := 5) (tgt := 55) (by decide +kernel) (by decide) ?_
        exact g_iret hx hr rfl _ rfl (by decide +kernel) (ok_some h)
  · have h := ok_t h c5
    refine g_run hx [(.aload_n 0, 0, 0), (.bipush 9, 9, 0), (.iload_n 2, 0, 0), (.iadd, 0, 0)] (pc' := 13) (lo' := [some (.ref 69), some (.ref 74), some (.int v2), some (.int v3), none]) (st' := [.int (9 + v2), .ref 69, .int (gA σ 74 60)]) (σ' := σ) (by decide +kernel) rfl rfl ?_
    obtain ⟨c13, h⟩ := ok_g h
    refine g_iald hx (by decide +kernel) (i := 69) (n := 189) rfl c13 ?_
    refine g_goto hx (off := 10) (tgt := 24) (by decide +kernel) (by decide) ?_
    refine g_run hx [(.iadd, 0, 0), (.istore 4, 0, 0), (.iload 4, 0, 0), (.iconst 0, 0, 0), (.aload_n 0, 0, 0), (.iconst 0, 0, 0), (.iaload, 0, 0), (.iconst 1, 1, 0), (.isub, 0, 0)] (pc' := 35) (lo' := [some (.ref 69), some (.ref 74), some (.int v2), some (.int v3), some (.int ((gA σ 74 60) + (gA σ 69 (9 + v2))))]) (st' := [.int ((gA σ 69 0) - 1), .int 0, .int ((gA σ 74 60) + (gA σ 69 (9 + v2)))]) (σ' := σ) (by decide +kernel) rfl rfl ?_
    refine g_callS (rest := []) [.int ((gA σ 74 60) + (gA σ 69 (9 + v2))), .int 0, .int ((gA σ 69 0) - 1)] hx hc mk_m_in ln_10_156 (by decide +kernel) (by decide) (Nat.le_of_ble_eq_true rfl) (s_m_in (ok_b h)) (fun r2 s2 h => ?_)
    refine g_ifb_eq hx (off := 15) (tgt := 53) (by decide +kernel) (by decide) (fun c38 => ?_) (fun c38 => ?_)
    · have h := ok_f h c38
      refine g_run hx [(.bipush (-2), (-2), 0)] (pc' := 55) (lo' := [some (.ref 69), some (.ref 74), some (.int v2), some (.int v3), some (.int ((gA σ 74 60) + (gA σ 69 (9 + v2))))]) (st' := [.int (-2)]) (σ' := s2) (by decide +kernel) rfl rfl ?_
      exact g_iret hx hr rfl _ rfl (by decide +kernel) (ok_some h)
    · have h := ok_t h c38
      refine g_run hx [(.aload_n 1, 0, 0), (.iload 4, 0, 0)] (pc' := 44) (lo' := [some (.ref 69), some (.ref 74), some (.int v2), some (.int v3), some (.int ((gA σ 74 60) + (gA σ 69 (9 + v2))))]) (st' := [.int ((gA σ 74 60) + (gA σ 69 (9 + v2))), .ref 74]) (σ' := s2) (by decide +kernel) rfl rfl ?_
      obtain ⟨c44, h⟩ := ok_g h
      refine g_iald hx (by decide +kernel) (i := 74) (n := 63) rfl c44 ?_
      refine g_if_ne hx (off := 8) (tgt := 53) (by decide +kernel) (by decide) (fun c45 => ?_) (fun c45 => ?_)
      · have h := ok_f h c45
        refine g_run hx [(.bipush (-2), (-2), 0)] (pc' := 55) (lo' := [some (.ref 69), some (.ref 74), some (.int v2), some (.int v3), some (.int ((gA σ 74 60) + (gA σ 69 (9 + v2))))]) (st' := [.int (-2)]) (σ' := s2) (by decide +kernel) rfl rfl ?_
        exact g_iret hx hr rfl _ rfl (by decide +kernel) (ok_some h)
      · have h := ok_t h c45
        refine g_run hx [(.iload 4, 0, 0)] (pc' := 50) (lo' := [some (.ref 69), some (.ref 74), some (.int v2), some (.int v3), some (.int ((gA σ 74 60) + (gA σ 69 (9 + v2))))]) (st' := [.int ((gA σ 74 60) + (gA σ 69 (9 + v2)))]) (σ' := s2) (by decide +kernel) rfl rfl ?_
        refine g_goto hx (off := 5) (tgt := 55) (by decide +kernel) (by decide) ?_
        exact g_iret hx hr rfl _ rfl (by decide +kernel) (ok_some h)
def f_m_leads (N : Nat) (v1 : Int32) (v2 : Int32) (σ : Sg) : Option (Int32 × Sg) :=
  (f_m_anew N σ).bind fun q1 =>
  (f_m_wayWhy N v1 v2 q1.2).bind fun q2 =>
  if q2.1 = 0 then
    (f_m_leadOf N 189 74 69 63 v1 v2 q2.2).bind fun q3 =>
    some (q3.1, q3.2)
  else
    (f_m_no N q2.1 q2.2).bind fun q4 =>
    some (q4.1, q4.2)
set_option maxRecDepth 100000 in
theorem s_m_leads {y : EX} {N : Nat} {v1 : Int32} {v2 : Int32} {σ : Sg} {P : Int32 × Sg → Prop} (h : ok (f_m_leads N v1 v2 σ) P) : Ev y M_m_leads 3 [.ref 66, .int v1, .int v2] σ rvI P := by
  refine Ev.of mk_m_leads (Nat.le_of_ble_eq_true rfl) (fun x hx hc hr => ?_)
  have hx : Cx 10 prog_12_method_73_code x := hx
  have hc : Cc y 4 3 x := hc
  show G x 0 [some (.ref 66), some (.int v1), some (.int v2), none] [] σ
  unfold f_m_leads at h
  refine g_run hx [(.aload_n 0, 0, 0)] (pc' := 1) (lo' := [some (.ref 66), some (.int v1), some (.int v2), none]) (st' := [.ref 66]) (σ' := σ) (by decide +kernel) rfl rfl ?_
  refine g_callV (rest := []) [] hx hc mk_m_anew ln_10_174 rfl (by decide +kernel) (by decide) (Nat.le_of_ble_eq_true rfl) (s_m_anew (ok_b h)) (fun r1 s1 h => ?_)
  refine g_run hx [(.aload_n 0, 0, 0), (.iload_n 1, 0, 0), (.iload_n 2, 0, 0)] (pc' := 7) (lo' := [some (.ref 66), some (.int v1), some (.int v2), none]) (st' := [.int v2, .int v1, .ref 66]) (σ' := s1) (by decide +kernel) rfl rfl ?_
  refine g_callV (rest := []) [.int v1, .int v2] hx hc mk_m_wayWhy ln_10_321 rfl (by decide +kernel) (by decide) (Nat.le_of_ble_eq_true rfl) (s_m_wayWhy (ok_b h)) (fun r2 s2 h => ?_)
  refine g_run hx [(.istore_n 3, 0, 0), (.iload_n 3, 0, 0)] (pc' := 12) (lo' := [some (.ref 66), some (.int v1), some (.int v2), some (.int r2)]) (st' := [.int r2]) (σ' := s2) (by decide +kernel) rfl rfl ?_
  refine g_if_eq hx (off := 11) (tgt := 23) (by decide +kernel) (by decide) (fun c12 => ?_) (fun c12 => ?_)
  · have h := ok_t h c12
    refine g_run hx [(.aload_n 0, 0, 0), (.getfield 20, 0, 0), (.aload_n 0, 0, 0), (.getfield 35, 0, 0), (.iload_n 1, 0, 0), (.iload_n 2, 0, 0)] (pc' := 33) (lo' := [some (.ref 66), some (.int v1), some (.int v2), some (.int r2)]) (st' := [.int v2, .int v1, .ref 74, .ref 69]) (σ' := s2) (by decide +kernel) rfl rfl ?_
    refine g_callS (rest := []) [.ref 69, .ref 74, .int v1, .int v2] hx hc mk_m_leadOf ln_10_265 (by decide +kernel) (by decide) (Nat.le_of_ble_eq_true rfl) (s_m_leadOf_69_74 (ok_b h)) (fun r3 s3 h => ?_)
    exact g_iret hx hr rfl _ rfl (by decide +kernel) (ok_some h)
  · have h := ok_f h c12
    refine g_run hx [(.aload_n 0, 0, 0), (.iload_n 3, 0, 0)] (pc' := 17) (lo' := [some (.ref 66), some (.int v1), some (.int v2), some (.int r2)]) (st' := [.int r2, .ref 66]) (σ' := s2) (by decide +kernel) rfl rfl ?_
    refine g_callV (rest := []) [.int r2] hx hc mk_m_no ln_10_177 rfl (by decide +kernel) (by decide) (Nat.le_of_ble_eq_true rfl) (s_m_no (ok_b h)) (fun r4 s4 h => ?_)
    refine g_goto hx (off := 16) (tgt := 36) (by decide +kernel) (by decide) ?_
    exact g_iret hx hr rfl _ rfl (by decide +kernel) (ok_some h)
def f_m_led_L4 (N : Nat) : Nat → Int32 → Int32 → Int32 → Sg → Option (Int32 × Sg)
  | 0, _, _, _, _ => none
  | n + 1, v1, v2, v3, σ =>
    if (gI σ 66 14) = 0 then
      some (0, sI σ 66 0 1)
    else
      if (gA σ 69 3) ≤ v3 then
        some (0, sI σ 66 0 1)
      else
        if vin (12 + (2 * v3)) 189 then
        if vin (gA σ 69 (12 + (2 * v3))) 63 then
        if (gA σ 74 (gA σ 69 (12 + (2 * v3)))) = 0 then
          f_m_led_L4 N n v1 v2 (v3 + 1) σ
        else
          if v2 = v1 then
            some (v3, sI σ 66 0 0)
          else
            f_m_led_L4 N n v1 (v2 + 1) (v3 + 1) σ
        else none
        else none
def f_m_led (N : Nat) (v1 : Int32) (σ : Sg) : Option (Int32 × Sg) :=
  f_m_led_L4 N N v1 0 0 σ
set_option maxRecDepth 100000 in
theorem s_m_led_L4 {y : EX} {N : Nat} {x : CX} {P : Int32 × Sg → Prop} (hx : Cx 10 prog_12_method_128_code x) (hc : Cc y 4 0 x) (hr : Cr M_m_led rvI P x) : ∀ (n : Nat) (v1 : Int32) (v2 : Int32) (v3 : Int32) (σ : Sg), ok (f_m_led_L4 N n v1 v2 v3 σ) P → G x 4 [some (.ref 66), some (.int v1), some (.int v2), some (.int v3)] [] σ := by
  intro n
  induction n with
  | zero => intro v1 v2 v3 σ h; exact ok_none h
  | succ n ih =>
    intro v1 v2 v3 σ h
    rw [f_m_led_L4] at h
    refine g_run hx [(.aload_n 0, 0, 0), (.getfield 187, 0, 0)] (pc' := 8) (lo' := [some (.ref 66), some (.int v1), some (.int v2), some (.int v3)]) (st' := [.int (gI σ 66 14)]) (σ' := σ) (by decide +kernel) rfl rfl ?_
    refine g_if_eq hx (off := 56) (tgt := 64) (by decide +kernel) (by decide) (fun c8 => ?_) (fun c8 => ?_)
    · have h := ok_t h c8
      refine g_run hx [(.aload_n 0, 0, 0), (.iconst 1, 1, 0), (.putfield 68, 0, 0), (.iconst 0, 0, 0)] (pc' := 70) (lo' := [some (.ref 66), some (.int v1), some (.int v2), some (.int v3)]) (st' := [.int 0]) (σ' := sI σ 66 0 1) (by decide +kernel) rfl rfl ?_
      exact g_iret hx hr rfl _ rfl (by decide +kernel) (ok_some h)
    · have h := ok_f h c8
      refine g_run hx [(.iload_n 3, 0, 0), (.aload_n 0, 0, 0), (.getfield 20, 0, 0), (.iconst 3, 3, 0), (.iaload, 0, 0)] (pc' := 18) (lo' := [some (.ref 66), some (.int v1), some (.int v2), some (.int v3)]) (st' := [.int (gA σ 69 3), .int v3]) (σ' := σ) (by decide +kernel) rfl rfl ?_
      refine g_ic_ge hx (off := 46) (tgt := 64) (by decide +kernel) (by decide) (fun c18 => ?_) (fun c18 => ?_)
      · have h := ok_t h c18
        refine g_run hx [(.aload_n 0, 0, 0), (.iconst 1, 1, 0), (.putfield 68, 0, 0), (.iconst 0, 0, 0)] (pc' := 70) (lo' := [some (.ref 66), some (.int v1), some (.int v2), some (.int v3)]) (st' := [.int 0]) (σ' := sI σ 66 0 1) (by decide +kernel) rfl rfl ?_
        exact g_iret hx hr rfl _ rfl (by decide +kernel) (ok_some h)
      · have h := ok_f h c18
        refine g_run hx [(.aload_n 0, 0, 0), (.getfield 35, 0, 0), (.aload_n 0, 0, 0), (.getfield 20, 0, 0), (.bipush 12, 12, 0), (.iconst 2, 2, 0), (.iload_n 3, 0, 0), (.imul, 0, 0), (.iadd, 0, 0)] (pc' := 35) (lo' := [some (.ref 66), some (.int v1), some (.int v2), some (.int v3)]) (st' := [.int (12 + (2 * v3)), .ref 69, .ref 74]) (σ' := σ) (by decide +kernel) rfl rfl ?_
        obtain ⟨c35, h⟩ := ok_g h
        refine g_iald hx (by decide +kernel) (i := 69) (n := 189) rfl c35 ?_
        obtain ⟨c36, h⟩ := ok_g h
        refine g_iald hx (by decide +kernel) (i := 74) (n := 63) rfl c36 ?_
        refine g_if_ne hx (off := 6) (tgt := 43) (by decide +kernel) (by decide) (fun c37 => ?_) (fun c37 => ?_)
        · have h := ok_f h c37
          refine g_run hx [(.iload_n 2, 0, 0), (.iload_n 1, 0, 0)] (pc' := 45) (lo' := [some (.ref 66), some (.int v1), some (.int v2), some (.int v3)]) (st' := [.int v1, .int v2]) (σ' := σ) (by decide +kernel) rfl rfl ?_
          refine g_ic_ne hx (off := 10) (tgt := 55) (by decide +kernel) (by decide) (fun c45 => ?_) (fun c45 => ?_)
          · have h := ok_f h c45
            refine g_run hx [(.iinc 2 1, 1, 0), (.iinc 3 1, 1, 0)] (pc' := 61) (lo' := [some (.ref 66), some (.int v1), some (.int (v2 + 1)), some (.int (v3 + 1))]) (st' := []) (σ' := σ) (by decide +kernel) rfl rfl ?_
            refine g_goto hx (off := (-57)) (tgt := 4) (by decide +kernel) (by decide) ?_
            exact ih _ _ _ _ h
          · have h := ok_t h c45
            refine g_run hx [(.aload_n 0, 0, 0), (.iconst 0, 0, 0), (.putfield 68, 0, 0), (.iload_n 3, 0, 0)] (pc' := 54) (lo' := [some (.ref 66), some (.int v1), some (.int v2), some (.int v3)]) (st' := [.int v3]) (σ' := sI σ 66 0 0) (by decide +kernel) rfl rfl ?_
            exact g_iret hx hr rfl _ rfl (by decide +kernel) (ok_some h)
        · have h := ok_t h c37
          refine g_goto hx (off := 18) (tgt := 58) (by decide +kernel) (by decide) ?_
          refine g_run hx [(.iinc 3 1, 1, 0)] (pc' := 61) (lo' := [some (.ref 66), some (.int v1), some (.int v2), some (.int (v3 + 1))]) (st' := []) (σ' := σ) (by decide +kernel) rfl rfl ?_
          refine g_goto hx (off := (-57)) (tgt := 4) (by decide +kernel) (by decide) ?_
          exact ih _ _ _ _ h
set_option maxRecDepth 100000 in
theorem s_m_led {y : EX} {N : Nat} {v1 : Int32} {σ : Sg} {P : Int32 × Sg → Prop} (h : ok (f_m_led N v1 σ) P) : Ev y M_m_led 0 [.ref 66, .int v1] σ rvI P := by
  refine Ev.of mk_m_led (Nat.le_of_ble_eq_true rfl) (fun x hx hc hr => ?_)
  have hx : Cx 10 prog_12_method_128_code x := hx
  have hc : Cc y 4 0 x := hc
  show G x 0 [some (.ref 66), some (.int v1), none, none] [] σ
  unfold f_m_led at h
  refine g_run hx [(.iconst 0, 0, 0), (.istore_n 2, 0, 0), (.iconst 0, 0, 0), (.istore_n 3, 0, 0)] (pc' := 4) (lo' := [some (.ref 66), some (.int v1), some (.int 0), some (.int 0)]) (st' := []) (σ' := σ) (by decide +kernel) rfl rfl ?_
  refine s_m_led_L4 hx hc hr N _ _ _ _ h
def f_m_seekRuns_L20 (N : Nat) : Nat → Int32 → Int32 → Int32 → Sg → Option (Unit × Sg)
  | 0, _, _, _, _ => none
  | n + 1, v1, v2, v3, σ =>
    if (gA σ 69 0) < v3 then
      some ((), σ)
    else
      if (gA σ 69 0) ≤ v3 then
        if 0 ≤ v2 then
          if (v3 - v2) ≤ (gI (sI σ 66 28 ((gI σ 66 28) + 1)) 66 30) then
            f_m_seekRuns_L20 N n v1 (-1) (v3 + 1) (sI σ 66 28 ((gI σ 66 28) + 1))
          else
            f_m_seekRuns_L20 N n v1 (-1) (v3 + 1) (sI (sI (sI σ 66 28 ((gI σ 66 28) + 1)) 66 29 v2) 66 30 (v3 - v2))
        else
          f_m_seekRuns_L20 N n v1 v2 (v3 + 1) σ
      else
        if vin v3 63 then
        if (b2i (decide (¬ ((gA σ 74 v3) ≤ 0)))) = v1 then
          if 0 ≤ v2 then
            f_m_seekRuns_L20 N n v1 v2 (v3 + 1) σ
          else
            f_m_seekRuns_L20 N n v1 v3 (v3 + 1) σ
        else
          if 0 ≤ v2 then
            if (v3 - v2) ≤ (gI (sI σ 66 28 ((gI σ 66 28) + 1)) 66 30) then
              f_m_seekRuns_L20 N n v1 (-1) (v3 + 1) (sI σ 66 28 ((gI σ 66 28) + 1))
            else
              f_m_seekRuns_L20 N n v1 (-1) (v3 + 1) (sI (sI (sI σ 66 28 ((gI σ 66 28) + 1)) 66 29 v2) 66 30 (v3 - v2))
          else
            f_m_seekRuns_L20 N n v1 v2 (v3 + 1) σ
        else none
def f_m_seekRuns (N : Nat) (v1 : Int32) (σ : Sg) : Option (Unit × Sg) :=
  f_m_seekRuns_L20 N N v1 (-1) 0 (sI (sI (sI σ 66 28 0) 66 29 (-2)) 66 30 0)
set_option maxRecDepth 100000 in
theorem s_m_seekRuns_L20 {y : EX} {N : Nat} {x : CX} {P : Unit × Sg → Prop} (hx : Cx 10 prog_12_method_60_code x) (hc : Cc y 5 0 x) (hr : Cr M_m_seekRuns rvN P x) : ∀ (n : Nat) (v1 : Int32) (v2 : Int32) (v3 : Int32) (σ : Sg), ok (f_m_seekRuns_L20 N n v1 v2 v3 σ) P → G x 20 [some (.ref 66), some (.int v1), some (.int v2), some (.int v3), none] [] σ := by
  intro n
  induction n with
  | zero => intro v1 v2 v3 σ h; exact ok_none h
  | succ n ih =>
    intro v1 v2 v3 σ h
    rw [f_m_seekRuns_L20] at h
    refine g_run hx [(.iload_n 3, 0, 0), (.aload_n 0, 0, 0), (.getfield 20, 0, 0), (.iconst 0, 0, 0), (.iaload, 0, 0)] (pc' := 27) (lo' := [some (.ref 66), some (.int v1), some (.int v2), some (.int v3), none]) (st' := [.int (gA σ 69 0), .int v3]) (σ' := σ) (by decide +kernel) rfl rfl ?_
    refine g_ic_gt hx (off := 101) (tgt := 128) (by decide +kernel) (by decide) (fun c27 => ?_) (fun c27 => ?_)
    · have h := ok_t h c27
      exact g_vret hx hr rfl () rfl (by decide +kernel) (ok_some h)
    · have h := ok_f h c27
      refine g_run hx [(.iload_n 3, 0, 0), (.aload_n 0, 0, 0), (.getfield 20, 0, 0), (.iconst 0, 0, 0), (.iaload, 0, 0)] (pc' := 37) (lo' := [some (.ref 66), some (.int v1), some (.int v2), some (.int v3), none]) (st' := [.int (gA σ 69 0), .int v3]) (σ' := σ) (by decide +kernel) rfl rfl ?_
      refine g_ic_ge hx (off := 25) (tgt := 62) (by decide +kernel) (by decide) (fun c37 => ?_) (fun c37 => ?_)
      · have h := ok_t h c37
        refine g_run hx [(.iconst 0, 0, 0), (.istore 4, 0, 0), (.iload 4, 0, 0)] (pc' := 67) (lo' := [some (.ref 66), some (.int v1), some (.int v2), some (.int v3), some (.int 0)]) (st' := [.int 0]) (σ' := σ) (by decide +kernel) rfl rfl ?_
        refine g_if_eq hx (off := 9) (tgt := 76) (by decide +kernel) (by decide) (fun _ => ?_) (fun c => absurd c (by decide))
        refine g_run hx [(.iload 4, 0, 0)] (pc' := 78) (lo' := [some (.ref 66), some (.int v1), some (.int v2), some (.int v3), some (.int 0)]) (st' := [.int 0]) (σ' := σ) (by decide +kernel) rfl rfl ?_
        refine g_if_ne hx (off := 44) (tgt := 122) (by decide +kernel) (by decide) (fun c => absurd c (by decide)) (fun _ => ?_)
        refine g_run hx [(.iload_n 2, 0, 0)] (pc' := 82) (lo' := [some (.ref 66), some (.int v1), some (.int v2), some (.int v3), some (.int 0)]) (st' := [.int v2]) (σ' := σ) (by decide +kernel) rfl rfl ?_
        refine g_if_ge hx (off := 6) (tgt := 88) (by decide +kernel) (by decide) (fun c82 => ?_) (fun c82 => ?_)
        · have h := ok_t h c82
          refine g_run hx [(.aload_n 0, 0, 0), (.dup, 0, 0), (.getfield 297, 0, 0), (.iconst 1, 1, 0), (.iadd, 0, 0), (.putfield 297, 0, 0), (.iload_n 3, 0, 0), (.iload_n 2, 0, 0), (.isub, 0, 0), (.aload_n 0, 0, 0), (.getfield 303, 0, 0)] (pc' := 105) (lo' := [some (.ref 66), some (.int v1), some (.int v2), some (.int v3), some (.int 0)]) (st' := [.int (gI (sI σ 66 28 ((gI σ 66 28) + 1)) 66 30), .int (v3 - v2)]) (σ' := sI σ 66 28 ((gI σ 66 28) + 1)) (by decide +kernel) rfl rfl ?_
          refine g_ic_le hx (off := 15) (tgt := 120) (by decide +kernel) (by decide) (fun c105 => ?_) (fun c105 => ?_)
          · have h := ok_t h c105
            refine g_run hx [(.iconst (-1), (-1), 0), (.istore_n 2, 0, 0), (.iinc 3 1, 1, 0)] (pc' := 125) (lo' := [some (.ref 66), some (.int v1), some (.int (-1)), some (.int (v3 + 1)), some (.int 0)]) (st' := []) (σ' := sI σ 66 28 ((gI σ 66 28) + 1)) (by decide +kernel) rfl rfl ?_
            refine g_goto hx (off := (-105)) (tgt := 20) (by decide +kernel) (by decide) ?_
            refine g_wk (lo' := [some (.ref 66), some (.int v1), some (.int (-1)), some (.int (v3 + 1)), none]) ⟨rfl, ⟨rfl, ⟨rfl, ⟨rfl, trivial⟩⟩⟩⟩ ?_
            exact ih _ _ _ _ h
          · have h := ok_f h c105
            refine g_run hx [(.aload_n 0, 0, 0), (.iload_n 2, 0, 0), (.putfield 300, 0, 0), (.aload_n 0, 0, 0), (.iload_n 3, 0, 0), (.iload_n 2, 0, 0), (.isub, 0, 0), (.putfield 303, 0, 0), (.iconst (-1), (-1), 0), (.istore_n 2, 0, 0), (.iinc 3 1, 1, 0)] (pc' := 125) (lo' := [some (.ref 66), some (.int v1), some (.int (-1)), some (.int (v3 + 1)), some (.int 0)]) (st' := []) (σ' := sI (sI (sI σ 66 28 ((gI σ 66 28) + 1)) 66 29 v2) 66 30 (v3 - v2)) (by decide +kernel) rfl rfl ?_
            refine g_goto hx (off := (-105)) (tgt := 20) (by decide +kernel) (by decide) ?_
            refine g_wk (lo' := [some (.ref 66), some (.int v1), some (.int (-1)), some (.int (v3 + 1)), none]) ⟨rfl, ⟨rfl, ⟨rfl, ⟨rfl, trivial⟩⟩⟩⟩ ?_
            exact ih _ _ _ _ h
        · have h := ok_f h c82
          refine g_goto hx (off := 37) (tgt := 122) (by decide +kernel) (by decide) ?_
          refine g_run hx [(.iinc 3 1, 1, 0)] (pc' := 125) (lo' := [some (.ref 66), some (.int v1), some (.int v2), some (.int (v3 + 1)), some (.int 0)]) (st' := []) (σ' := σ) (by decide +kernel) rfl rfl ?_
          refine g_goto hx (off := (-105)) (tgt := 20) (by decide +kernel) (by decide) ?_
          refine g_wk (lo' := [some (.ref 66), some (.int v1), some (.int v2), some (.int (v3 + 1)), none]) ⟨rfl, ⟨rfl, ⟨rfl, ⟨rfl, trivial⟩⟩⟩⟩ ?_
          exact ih _ _ _ _ h
      · have h := ok_f h c37
        refine g_run hx [(.aload_n 0, 0, 0), (.getfield 35, 0, 0), (.iload_n 3, 0, 0)] (pc' := 45) (lo' := [some (.ref 66), some (.int v1), some (.int v2), some (.int v3), none]) (st' := [.int v3, .ref 74]) (σ' := σ) (by decide +kernel) rfl rfl ?_
        obtain ⟨c45, h⟩ := ok_g h
        refine g_iald hx (by decide +kernel) (i := 74) (n := 63) rfl c45 ?_
        have hm : G x 54 [some (.ref 66), some (.int v1), some (.int v2), some (.int v3), none] [.int (b2i (decide (¬ ((gA σ 74 v3) ≤ 0))))] σ := by
          refine g_run hx [(.iload_n 1, 0, 0)] (pc' := 55) (lo' := [some (.ref 66), some (.int v1), some (.int v2), some (.int v3), none]) (st' := [.int v1, .int (b2i (decide (¬ ((gA σ 74 v3) ≤ 0))))]) (σ' := σ) (by decide +kernel) rfl rfl ?_
          refine g_ic_ne hx (off := 7) (tgt := 62) (by decide +kernel) (by decide) (fun c55 => ?_) (fun c55 => ?_)
          · have h := ok_f h c55
            refine g_run hx [(.iconst 0, 0, 0), (.istore 4, 0, 0), (.iload 4, 0, 0)] (pc' := 67) (lo' := [some (.ref 66), some (.int v1), some (.int v2), some (.int v3), some (.int 0)]) (st' := [.int 0]) (σ' := σ) (by decide +kernel) rfl rfl ?_
            refine g_if_eq hx (off := 9) (tgt := 76) (by decide +kernel) (by decide) (fun _ => ?_) (fun c => absurd c (by decide))
            refine g_run hx [(.iload 4, 0, 0)] (pc' := 78) (lo' := [some (.ref 66), some (.int v1), some (.int v2), some (.int v3), some (.int 0)]) (st' := [.int 0]) (σ' := σ) (by decide +kernel) rfl rfl ?_
            refine g_if_ne hx (off := 44) (tgt := 122) (by decide +kernel) (by decide) (fun c => absurd c (by decide)) (fun _ => ?_)
            refine g_run hx [(.iload_n 2, 0, 0)] (pc' := 82) (lo' := [some (.ref 66), some (.int v1), some (.int v2), some (.int v3), some (.int 0)]) (st' := [.int v2]) (σ' := σ) (by decide +kernel) rfl rfl ?_
            refine g_if_ge hx (off := 6) (tgt := 88) (by decide +kernel) (by decide) (fun c82 => ?_) (fun c82 => ?_)
            · have h := ok_t h c82
              refine g_run hx [(.aload_n 0, 0, 0), (.dup, 0, 0), (.getfield 297, 0, 0), (.iconst 1, 1, 0), (.iadd, 0, 0), (.putfield 297, 0, 0), (.iload_n 3, 0, 0), (.iload_n 2, 0, 0), (.isub, 0, 0), (.aload_n 0, 0, 0), (.getfield 303, 0, 0)] (pc' := 105) (lo' := [some (.ref 66), some (.int v1), some (.int v2), some (.int v3), some (.int 0)]) (st' := [.int (gI (sI σ 66 28 ((gI σ 66 28) + 1)) 66 30), .int (v3 - v2)]) (σ' := sI σ 66 28 ((gI σ 66 28) + 1)) (by decide +kernel) rfl rfl ?_
              refine g_ic_le hx (off := 15) (tgt := 120) (by decide +kernel) (by decide) (fun c105 => ?_) (fun c105 => ?_)
              · have h := ok_t h c105
                refine g_run hx [(.iconst (-1), (-1), 0), (.istore_n 2, 0, 0), (.iinc 3 1, 1, 0)] (pc' := 125) (lo' := [some (.ref 66), some (.int v1), some (.int (-1)), some (.int (v3 + 1)), some (.int 0)]) (st' := []) (σ' := sI σ 66 28 ((gI σ 66 28) + 1)) (by decide +kernel) rfl rfl ?_
                refine g_goto hx (off := (-105)) (tgt := 20) (by decide +kernel) (by decide) ?_
                refine g_wk (lo' := [some (.ref 66), some (.int v1), some (.int (-1)), some (.int (v3 + 1)), none]) ⟨rfl, ⟨rfl, ⟨rfl, ⟨rfl, trivial⟩⟩⟩⟩ ?_
                exact ih _ _ _ _ h
              · have h := ok_f h c105
                refine g_run hx [(.aload_n 0, 0, 0), (.iload_n 2, 0, 0), (.putfield 300, 0, 0), (.aload_n 0, 0, 0), (.iload_n 3, 0, 0), (.iload_n 2, 0, 0), (.isub, 0, 0), (.putfield 303, 0, 0), (.iconst (-1), (-1), 0), (.istore_n 2, 0, 0), (.iinc 3 1, 1, 0)] (pc' := 125) (lo' := [some (.ref 66), some (.int v1), some (.int (-1)), some (.int (v3 + 1)), some (.int 0)]) (st' := []) (σ' := sI (sI (sI σ 66 28 ((gI σ 66 28) + 1)) 66 29 v2) 66 30 (v3 - v2)) (by decide +kernel) rfl rfl ?_
                refine g_goto hx (off := (-105)) (tgt := 20) (by decide +kernel) (by decide) ?_
                refine g_wk (lo' := [some (.ref 66), some (.int v1), some (.int (-1)), some (.int (v3 + 1)), none]) ⟨rfl, ⟨rfl, ⟨rfl, ⟨rfl, trivial⟩⟩⟩⟩ ?_
                exact ih _ _ _ _ h
            · have h := ok_f h c82
              refine g_goto hx (off := 37) (tgt := 122) (by decide +kernel) (by decide) ?_
              refine g_run hx [(.iinc 3 1, 1, 0)] (pc' := 125) (lo' := [some (.ref 66), some (.int v1), some (.int v2), some (.int (v3 + 1)), some (.int 0)]) (st' := []) (σ' := σ) (by decide +kernel) rfl rfl ?_
              refine g_goto hx (off := (-105)) (tgt := 20) (by decide +kernel) (by decide) ?_
              refine g_wk (lo' := [some (.ref 66), some (.int v1), some (.int v2), some (.int (v3 + 1)), none]) ⟨rfl, ⟨rfl, ⟨rfl, ⟨rfl, trivial⟩⟩⟩⟩ ?_
              exact ih _ _ _ _ h
          · have h := ok_t h c55
            refine g_run hx [(.iconst 1, 1, 0)] (pc' := 59) (lo' := [some (.ref 66), some (.int v1), some (.int v2), some (.int v3), none]) (st' := [.int 1]) (σ' := σ) (by decide +kernel) rfl rfl ?_
            refine g_goto hx (off := 4) (tgt := 63) (by decide +kernel) (by decide) ?_
            refine g_run hx [(.istore 4, 0, 0), (.iload 4, 0, 0)] (pc' := 67) (lo' := [some (.ref 66), some (.int v1), some (.int v2), some (.int v3), some (.int 1)]) (st' := [.int 1]) (σ' := σ) (by decide +kernel) rfl rfl ?_
            refine g_if_eq hx (off := 9) (tgt := 76) (by decide +kernel) (by decide) (fun c => absurd c (by decide)) (fun _ => ?_)
            refine g_run hx [(.iload_n 2, 0, 0)] (pc' := 71) (lo' := [some (.ref 66), some (.int v1), some (.int v2), some (.int v3), some (.int 1)]) (st' := [.int v2]) (σ' := σ) (by decide +kernel) rfl rfl ?_
            refine g_if_ge hx (off := 5) (tgt := 76) (by decide +kernel) (by decide) (fun c71 => ?_) (fun c71 => ?_)
            · have h := ok_t h c71
              refine g_run hx [(.iload 4, 0, 0)] (pc' := 78) (lo' := [some (.ref 66), some (.int v1), some (.int v2), some (.int v3), some (.int 1)]) (st' := [.int 1]) (σ' := σ) (by decide +kernel) rfl rfl ?_
              refine g_if_ne hx (off := 44) (tgt := 122) (by decide +kernel) (by decide) (fun _ => ?_) (fun c => absurd c (by decide))
              refine g_run hx [(.iinc 3 1, 1, 0)] (pc' := 125) (lo' := [some (.ref 66), some (.int v1), some (.int v2), some (.int (v3 + 1)), some (.int 1)]) (st' := []) (σ' := σ) (by decide +kernel) rfl rfl ?_
              refine g_goto hx (off := (-105)) (tgt := 20) (by decide +kernel) (by decide) ?_
              refine g_wk (lo' := [some (.ref 66), some (.int v1), some (.int v2), some (.int (v3 + 1)), none]) ⟨rfl, ⟨rfl, ⟨rfl, ⟨rfl, trivial⟩⟩⟩⟩ ?_
              exact ih _ _ _ _ h
            · have h := ok_f h c71
              refine g_run hx [(.iload_n 3, 0, 0), (.istore_n 2, 0, 0), (.iload 4, 0, 0)] (pc' := 78) (lo' := [some (.ref 66), some (.int v1), some (.int v3), some (.int v3), some (.int 1)]) (st' := [.int 1]) (σ' := σ) (by decide +kernel) rfl rfl ?_
              refine g_if_ne hx (off := 44) (tgt := 122) (by decide +kernel) (by decide) (fun _ => ?_) (fun c => absurd c (by decide))
              refine g_run hx [(.iinc 3 1, 1, 0)] (pc' := 125) (lo' := [some (.ref 66), some (.int v1), some (.int v3), some (.int (v3 + 1)), some (.int 1)]) (st' := []) (σ' := σ) (by decide +kernel) rfl rfl ?_
              refine g_goto hx (off := (-105)) (tgt := 20) (by decide +kernel) (by decide) ?_
              refine g_wk (lo' := [some (.ref 66), some (.int v1), some (.int v3), some (.int (v3 + 1)), none]) ⟨rfl, ⟨rfl, ⟨rfl, ⟨rfl, trivial⟩⟩⟩⟩ ?_
              exact ih _ _ _ _ h
        refine g_if_le hx (off := 7) (tgt := 53) (by decide +kernel) (by decide) (fun c46 => ?_) (fun c46 => ?_)
        · refine g_run hx [(.iconst 0, 0, 0)] (pc' := 54) (lo' := [some (.ref 66), some (.int v1), some (.int v2), some (.int v3), none]) (st' := [.int 0]) (σ' := σ) (by decide +kernel) rfl rfl ?_
          exact g_bf (fun z => z c46) hm
        · refine g_run hx [(.iconst 1, 1, 0)] (pc' := 50) (lo' := [some (.ref 66), some (.int v1), some (.int v2), some (.int v3), none]) (st' := [.int 1]) (σ' := σ) (by decide +kernel) rfl rfl ?_
          refine g_goto hx (off := 4) (tgt := 54) (by decide +kernel) (by decide) ?_
          exact g_bt c46 hm
set_option maxRecDepth 100000 in
theorem s_m_seekRuns {y : EX} {N : Nat} {v1 : Int32} {σ : Sg} {P : Unit × Sg → Prop} (h : ok (f_m_seekRuns N v1 σ) P) : Ev y M_m_seekRuns 0 [.ref 66, .int v1] σ rvN P := by
  refine Ev.of mk_m_seekRuns (Nat.le_of_ble_eq_true rfl) (fun x hx hc hr => ?_)
  have hx : Cx 10 prog_12_method_60_code x := hx
  have hc : Cc y 5 0 x := hc
  show G x 0 [some (.ref 66), some (.int v1), none, none, none] [] σ
  unfold f_m_seekRuns at h
  refine g_run hx [(.aload_n 0, 0, 0), (.iconst 0, 0, 0), (.putfield 297, 0, 0), (.aload_n 0, 0, 0), (.bipush (-2), (-2), 0), (.putfield 300, 0, 0), (.aload_n 0, 0, 0), (.iconst 0, 0, 0), (.putfield 303, 0, 0), (.iconst (-1), (-1), 0), (.istore_n 2, 0, 0), (.iconst 0, 0, 0), (.istore_n 3, 0, 0)] (pc' := 20) (lo' := [some (.ref 66), some (.int v1), some (.int (-1)), some (.int 0), none]) (st' := []) (σ' := sI (sI (sI σ 66 28 0) 66 29 (-2)) 66 30 0) (by decide +kernel) rfl rfl ?_
  refine s_m_seekRuns_L20 hx hc hr N _ _ _ _ h
def f_m_longest (N : Nat) (σ : Sg) : Option (Int32 × Sg) :=
  (f_m_anew N σ).bind fun q1 =>
  if (gI q1.2 66 14) = 0 then
    (f_m_no N 1 q1.2).bind fun q3 =>
    some (q3.1, q3.2)
  else
    (f_m_seekRuns N 0 q1.2).bind fun q2 =>
    some ((gI q2.2 66 29), q2.2)
set_option maxRecDepth 100000 in
theorem s_m_longest {y : EX} {N : Nat} {σ : Sg} {P : Int32 × Sg → Prop} (h : ok (f_m_longest N σ) P) : Ev y M_m_longest 1 [.ref 66] σ rvI P := by
  refine Ev.of mk_m_longest (Nat.le_of_ble_eq_true rfl) (fun x hx hc hr => ?_)
  have hx : Cx 10 prog_12_method_62_code x := hx
  have hc : Cc y 1 1 x := hc
  show G x 0 [some (.ref 66)] [] σ
  unfold f_m_longest at h
  refine g_run hx [(.aload_n 0, 0, 0)] (pc' := 1) (lo' := [some (.ref 66)]) (st' := [.ref 66]) (σ' := σ) (by decide +kernel) rfl rfl ?_
  refine g_callV (rest := []) [] hx hc mk_m_anew ln_10_174 rfl (by decide +kernel) (by decide) (Nat.le_of_ble_eq_true rfl) (s_m_anew (ok_b h)) (fun r1 s1 h => ?_)
  refine g_run hx [(.aload_n 0, 0, 0), (.getfield 187, 0, 0)] (pc' := 8) (lo' := [some (.ref 66)]) (st' := [.int (gI s1 66 14)]) (σ' := s1) (by decide +kernel) rfl rfl ?_
  refine g_if_ne hx (off := 9) (tgt := 17) (by decide +kernel) (by decide) (fun c8 => ?_) (fun c8 => ?_)
  · have h := ok_f h c8
    refine g_run hx [(.aload_n 0, 0, 0), (.iconst 0, 0, 0)] (pc' := 19) (lo' := [some (.ref 66)]) (st' := [.int 0, .ref 66]) (σ' := s1) (by decide +kernel) rfl rfl ?_
    refine g_callV (rest := []) [.int 0] hx hc mk_m_seekRuns ln_10_306 rfl (by decide +kernel) (by decide) (Nat.le_of_ble_eq_true rfl) (s_m_seekRuns (ok_b h)) (fun r2 s2 h => ?_)
    refine g_run hx [(.aload_n 0, 0, 0), (.getfield 300, 0, 0)] (pc' := 26) (lo' := [some (.ref 66)]) (st' := [.int (gI s2 66 29)]) (σ' := s2) (by decide +kernel) rfl rfl ?_
    exact g_iret hx hr rfl _ rfl (by decide +kernel) (ok_some h)
  · have h := ok_t h c8
    refine g_run hx [(.aload_n 0, 0, 0), (.iconst 1, 1, 0)] (pc' := 13) (lo' := [some (.ref 66)]) (st' := [.int 1, .ref 66]) (σ' := s1) (by decide +kernel) rfl rfl ?_
    refine g_callV (rest := []) [.int 1] hx hc mk_m_no ln_10_177 rfl (by decide +kernel) (by decide) (Nat.le_of_ble_eq_true rfl) (s_m_no (ok_b h)) (fun r3 s3 h => ?_)
    exact g_iret hx hr rfl _ rfl (by decide +kernel) (ok_some h)
def f_m_lost (N : Nat) (σ : Sg) : Option (Int32 × Sg) :=
  (f_m_anew N σ).bind fun q1 =>
  if (gI q1.2 66 14) = 0 then
    (f_m_no N 1 q1.2).bind fun q2 =>
    some (q2.1, q2.2)
  else
    (f_m_lostOn N 69 189 63 74 q1.2).bind fun q3 =>
    some (q3.1, q3.2)
set_option maxRecDepth 100000 in
theorem s_m_lost {y : EX} {N : Nat} {σ : Sg} {P : Int32 × Sg → Prop} (h : ok (f_m_lost N σ) P) : Ev y M_m_lost 1 [.ref 66] σ rvI P := by
  refine Ev.of mk_m_lost (Nat.le_of_ble_eq_true rfl) (fun x hx hc hr => ?_)
  have hx : Cx 10 prog_12_method_59_code x := hx
  have hc : Cc y 1 1 x := hc
  show G x 0 [some (.ref 66)] [] σ
  unfold f_m_lost at h
  refine g_run hx [(.aload_n 0, 0, 0)] (pc' := 1) (lo' := [some (.ref 66)]) (st' := [.ref 66]) (σ' := σ) (by decide +kernel) rfl rfl ?_
  refine g_callV (rest := []) [] hx hc mk_m_anew ln_10_174 rfl (by decide +kernel) (by decide) (Nat.le_of_ble_eq_true rfl) (s_m_anew (ok_b h)) (fun r1 s1 h => ?_)
  refine g_run hx [(.aload_n 0, 0, 0), (.getfield 187, 0, 0)] (pc' := 8) (lo' := [some (.ref 66)]) (st' := [.int (gI s1 66 14)]) (σ' := s1) (by decide +kernel) rfl rfl ?_
  refine g_if_eq hx (off := 14) (tgt := 22) (by decide +kernel) (by decide) (fun c8 => ?_) (fun c8 => ?_)
  · have h := ok_t h c8
    refine g_run hx [(.aload_n 0, 0, 0), (.iconst 1, 1, 0)] (pc' := 24) (lo' := [some (.ref 66)]) (st' := [.int 1, .ref 66]) (σ' := s1) (by decide +kernel) rfl rfl ?_
    refine g_callV (rest := []) [.int 1] hx hc mk_m_no ln_10_177 rfl (by decide +kernel) (by decide) (Nat.le_of_ble_eq_true rfl) (s_m_no (ok_b h)) (fun r2 s2 h => ?_)
    exact g_iret hx hr rfl _ rfl (by decide +kernel) (ok_some h)
  · have h := ok_f h c8
    refine g_run hx [(.aload_n 0, 0, 0), (.aload_n 0, 0, 0), (.getfield 35, 0, 0)] (pc' := 16) (lo' := [some (.ref 66)]) (st' := [.ref 74, .ref 66]) (σ' := s1) (by decide +kernel) rfl rfl ?_
    refine g_callV (rest := []) [.ref 74] hx hc mk_m_lostOn ln_10_294 rfl (by decide +kernel) (by decide) (Nat.le_of_ble_eq_true rfl) (s_m_lostOn_66_74 (ok_b h)) (fun r3 s3 h => ?_)
    refine g_goto hx (off := 8) (tgt := 27) (by decide +kernel) (by decide) ?_
    exact g_iret hx hr rfl _ rfl (by decide +kernel) (ok_some h)
def f_m_lostIn (N : Nat) (v1 : Int32) (σ : Sg) : Option (Int32 × Sg) :=
  (f_m_anew N σ).bind fun q1 =>
  (f_m_aheadWhy N (gI q1.2 66 14) v1 q1.2).bind fun q2 =>
  if q2.1 = 0 then
    (f_m_yearsOn N v1 q2.2).bind fun q3 =>
    (f_m_lostOn N 69 189 63 75 q3.2).bind fun q4 =>
    some (q4.1, q4.2)
  else
    (f_m_no N q2.1 q2.2).bind fun q5 =>
    some (q5.1, q5.2)
set_option maxRecDepth 100000 in
theorem s_m_lostIn {y : EX} {N : Nat} {v1 : Int32} {σ : Sg} {P : Int32 × Sg → Prop} (h : ok (f_m_lostIn N v1 σ) P) : Ev y M_m_lostIn 3 [.ref 66, .int v1] σ rvI P := by
  refine Ev.of mk_m_lostIn (Nat.le_of_ble_eq_true rfl) (fun x hx hc hr => ?_)
  have hx : Cx 10 prog_12_method_69_code x := hx
  have hc : Cc y 3 3 x := hc
  show G x 0 [some (.ref 66), some (.int v1), none] [] σ
  unfold f_m_lostIn at h
  refine g_run hx [(.aload_n 0, 0, 0)] (pc' := 1) (lo' := [some (.ref 66), some (.int v1), none]) (st' := [.ref 66]) (σ' := σ) (by decide +kernel) rfl rfl ?_
  refine g_callV (rest := []) [] hx hc mk_m_anew ln_10_174 rfl (by decide +kernel) (by decide) (Nat.le_of_ble_eq_true rfl) (s_m_anew (ok_b h)) (fun r1 s1 h => ?_)
  refine g_run hx [(.aload_n 0, 0, 0), (.aload_n 0, 0, 0), (.getfield 187, 0, 0), (.iload_n 1, 0, 0)] (pc' := 10) (lo' := [some (.ref 66), some (.int v1), none]) (st' := [.int v1, .int (gI s1 66 14), .ref 66]) (σ' := s1) (by decide +kernel) rfl rfl ?_
  refine g_callV (rest := []) [.int (gI s1 66 14), .int v1] hx hc mk_m_aheadWhy ln_10_314 rfl (by decide +kernel) (by decide) (Nat.le_of_ble_eq_true rfl) (s_m_aheadWhy (ok_b h)) (fun r2 s2 h => ?_)
  refine g_run hx [(.istore_n 2, 0, 0), (.iload_n 2, 0, 0)] (pc' := 15) (lo' := [some (.ref 66), some (.int v1), some (.int r2)]) (st' := [.int r2]) (σ' := s2) (by decide +kernel) rfl rfl ?_
  refine g_if_eq hx (off := 9) (tgt := 24) (by decide +kernel) (by decide) (fun c15 => ?_) (fun c15 => ?_)
  · have h := ok_t h c15
    refine g_run hx [(.aload_n 0, 0, 0), (.iload_n 1, 0, 0)] (pc' := 26) (lo' := [some (.ref 66), some (.int v1), some (.int r2)]) (st' := [.int v1, .ref 66]) (σ' := s2) (by decide +kernel) rfl rfl ?_
    refine g_callV (rest := []) [.int v1] hx hc mk_m_yearsOn ln_10_318 rfl (by decide +kernel) (by decide) (Nat.le_of_ble_eq_true rfl) (s_m_yearsOn (ok_b h)) (fun r3 s3 h => ?_)
    refine g_run hx [(.aload_n 0, 0, 0), (.aload_n 0, 0, 0), (.getfield 38, 0, 0)] (pc' := 34) (lo' := [some (.ref 66), some (.int v1), some (.int r2)]) (st' := [.ref 75, .ref 66]) (σ' := s3) (by decide +kernel) rfl rfl ?_
    refine g_callV (rest := []) [.ref 75] hx hc mk_m_lostOn ln_10_294 rfl (by decide +kernel) (by decide) (Nat.le_of_ble_eq_true rfl) (s_m_lostOn_66_75 (ok_b h)) (fun r4 s4 h => ?_)
    exact g_iret hx hr rfl _ rfl (by decide +kernel) (ok_some h)
  · have h := ok_f h c15
    refine g_run hx [(.aload_n 0, 0, 0), (.iload_n 2, 0, 0)] (pc' := 20) (lo' := [some (.ref 66), some (.int v1), some (.int r2)]) (st' := [.int r2, .ref 66]) (σ' := s2) (by decide +kernel) rfl rfl ?_
    refine g_callV (rest := []) [.int r2] hx hc mk_m_no ln_10_177 rfl (by decide +kernel) (by decide) (Nat.le_of_ble_eq_true rfl) (s_m_no (ok_b h)) (fun r5 s5 h => ?_)
    exact g_iret hx hr rfl _ rfl (by decide +kernel) (ok_some h)
def f_m_tryGout_L34 (N : Nat) : Nat → Int32 → Int32 → Int32 → Int64 → Int32 → Sg → (Int32 → Int32 → Int32 → Int64 → Sg → Option (Unit × Sg)) → Option (Unit × Sg)
  | 0, _, _, _, _, _, _, _ => none
  | n + 1, v1, v2, v3, v4, v6, σ, k105 =>
    if v1 ≤ v6 then
      k105 v1 v2 v3 v4 σ
    else
      (f_m_hasBit N v3 v6 σ).bind fun q2 =>
      if q2.1 = true then
        (f_m_hasBit N v3 v6 q2.2).bind fun q5 =>
        if q5.1 = true then
          f_m_tryGout_L34 N n v1 v2 v3 (v4 * (Int32.toInt64 (gA q2.2 69 1))) (v6 + 1) q5.2 k105
        else
          if vin v6 5 then
          (f_m_digitOn N 75 63 189 69 (gA q5.2 79 v6) q5.2).bind fun q6 =>
          f_m_tryGout_L34 N n v1 v2 v3 (v4 * (Int32.toInt64 (gA q2.2 69 1))) (v6 + 1) q6.2 k105
          else none
      else
        (f_m_hasBit N v3 v6 q2.2).bind fun q3 =>
        if q3.1 = true then
          f_m_tryGout_L34 N n v1 v2 v3 (v4 * (Int32.toInt64 (100 - (gA q2.2 69 1)))) (v6 + 1) q3.2 k105
        else
          if vin v6 5 then
          (f_m_digitOn N 75 63 189 69 (gA q3.2 79 v6) q3.2).bind fun q4 =>
          f_m_tryGout_L34 N n v1 v2 v3 (v4 * (Int32.toInt64 (100 - (gA q2.2 69 1)))) (v6 + 1) q4.2 k105
          else none
def f_m_tryGout_L17 (N : Nat) : Nat → Int32 → Int32 → Int32 → Sg → Option (Unit × Sg)
  | 0, _, _, _, _ => none
  | n + 1, v1, v2, v3, σ =>
    if (1 <<< (v1 &&& 31)) ≤ v3 then
      some ((), σ)
    else
      (f_m_begin N σ).bind fun q1 =>
      f_m_tryGout_L34 N N v1 v2 v3 1 0 q1.2
        (fun (w1 : Int32) (w2 : Int32) (w3 : Int32) (w4 : Int64) (t7 : Sg) =>
          if (gA (sL t7 66 49 ((gL t7 66 49) + w4)) 75 60) = w2 then
            (f_m_lostOn N 69 189 63 75 (sL (sL t7 66 49 ((gL t7 66 49) + w4)) 66 50 ((gL (sL t7 66 49 ((gL t7 66 49) + w4)) 66 50) + w4))).bind fun q9 =>
            f_m_tryGout_L17 N n w1 w2 (w3 + 1) (sL q9.2 66 51 ((gL (sL (sL t7 66 49 ((gL t7 66 49) + w4)) 66 50 ((gL (sL t7 66 49 ((gL t7 66 49) + w4)) 66 50) + w4)) 66 51) + (w4 * (Int32.toInt64 q9.1))))
          else
            (f_m_lostOn N 69 189 63 75 (sL (sL t7 66 49 ((gL t7 66 49) + w4)) 66 50 ((gL (sL t7 66 49 ((gL t7 66 49) + w4)) 66 50) + 0))).bind fun q8 =>
            f_m_tryGout_L17 N n w1 w2 (w3 + 1) (sL q8.2 66 51 ((gL (sL (sL t7 66 49 ((gL t7 66 49) + w4)) 66 50 ((gL (sL t7 66 49 ((gL t7 66 49) + w4)) 66 50) + 0)) 66 51) + (w4 * (Int32.toInt64 q8.1)))))
def f_m_tryGout (N : Nat) (v1 : Int32) (v2 : Int32) (σ : Sg) : Option (Unit × Sg) :=
  f_m_tryGout_L17 N N v1 v2 0 (sL (sL (sL σ 66 49 0) 66 50 0) 66 51 0)
set_option maxRecDepth 100000 in
theorem s_m_tryGout_L34 {y : EX} {N : Nat} {x : CX} {P : Unit × Sg → Prop} (hx : Cx 10 prog_12_method_116_code x) (hc : Cc y 7 4 x) (hr : Cr M_m_tryGout rvN P x) : ∀ (n : Nat) (v1 : Int32) (v2 : Int32) (v3 : Int32) (v4 : Int64) (v6 : Int32) (σ : Sg) (k105 : Int32 → Int32 → Int32 → Int64 → Sg → Option (Unit × Sg)) (hk105 : ∀ (w1 : Int32) (w2 : Int32) (w3 : Int32) (w4 : Int64) (t : Sg), ok (k105 w1 w2 w3 w4 t) P → G x 105 [some (.ref 66), some (.int w1), some (.int w2), some (.int w3), some (.long w4), none, none] [] t), ok (f_m_tryGout_L34 N n v1 v2 v3 v4 v6 σ k105) P → G x 34 [some (.ref 66), some (.int v1), some (.int v2), some (.int v3), some (.long v4), none, some (.int v6)] [] σ := by
  intro n
  induction n with
  | zero => intro v1 v2 v3 v4 v6 σ k105 hk105 h; exact ok_none h
  | succ n ih =>
    intro v1 v2 v3 v4 v6 σ k105 hk105 h
    rw [f_m_tryGout_L34] at h
    refine g_run hx [(.iload 6, 0, 0), (.iload_n 1, 0, 0)] (pc' := 37) (lo' := [some (.ref 66), some (.int v1), some (.int v2), some (.int v3), some (.long v4), none, some (.int v6)]) (st' := [.int v1, .int v6]) (σ' := σ) (by decide +kernel) rfl rfl ?_
    refine g_ic_ge hx (off := 68) (tgt := 105) (by decide +kernel) (by decide) (fun c37 => ?_) (fun c37 => ?_)
    · have h := ok_t h c37
      refine g_wk (lo' := [some (.ref 66), some (.int v1), some (.int v2), some (.int v3), some (.long v4), none, none]) ⟨rfl, ⟨rfl, ⟨rfl, ⟨rfl, ⟨rfl, trivial⟩⟩⟩⟩⟩ ?_
      exact hk105 _ _ _ _ _ h
    · have h := ok_f h c37
      refine g_run hx [(.lload 4, 0, 0), (.iload_n 3, 0, 0), (.iload 6, 0, 0)] (pc' := 45) (lo' := [some (.ref 66), some (.int v1), some (.int v2), some (.int v3), some (.long v4), none, some (.int v6)]) (st' := [.int v6, .int v3, .long v4]) (σ' := σ) (by decide +kernel) rfl rfl ?_
      refine g_callS (rest := [.long v4]) [.int v3, .int v6] hx hc mk_m_hasBit ln_10_384 (by decide +kernel) (by decide) (Nat.le_of_ble_eq_true rfl) (s_m_hasBit (ok_b h)) (fun r2 s2 h => ?_)
      refine g_ifb_eq hx (off := 13) (tgt := 61) (by decide +kernel) (by decide) (fun c48 => ?_) (fun c48 => ?_)
      · have h := ok_f h c48
        refine g_run hx [(.bipush 100, 100, 0), (.aload_n 0, 0, 0), (.getfield 20, 0, 0), (.iconst 1, 1, 0), (.iaload, 0, 0), (.isub, 0, 0), (.i2l, 0, 0), (.lmul, 0, 0), (.lstore 4, 0, 0), (.iload_n 3, 0, 0), (.iload 6, 0, 0)] (pc' := 77) (lo' := [some (.ref 66), some (.int v1), some (.int v2), some (.int v3), some (.long (v4 * (Int32.toInt64 (100 - (gA s2 69 1))))), none, some (.int v6)]) (st' := [.int v6, .int v3]) (σ' := s2) (by decide +kernel) rfl rfl ?_
        refine g_callS (rest := []) [.int v3, .int v6] hx hc mk_m_hasBit ln_10_384 (by decide +kernel) (by decide) (Nat.le_of_ble_eq_true rfl) (s_m_hasBit (ok_b h)) (fun r3 s3 h => ?_)
        refine g_ifb_ne hx (off := 19) (tgt := 99) (by decide +kernel) (by decide) (fun c80 => ?_) (fun c80 => ?_)
        · have h := ok_t h c80
          refine g_run hx [(.iinc 6 1, 1, 0)] (pc' := 102) (lo' := [some (.ref 66), some (.int v1), some (.int v2), some (.int v3), some (.long (v4 * (Int32.toInt64 (100 - (gA s2 69 1))))), none, some (.int (v6 + 1))]) (st' := []) (σ' := s3) (by decide +kernel) rfl rfl ?_
          refine g_goto hx (off := (-68)) (tgt := 34) (by decide +kernel) (by decide) ?_
          exact ih _ _ _ _ _ _ _ hk105 h
        · have h := ok_f h c80
          refine g_run hx [(.aload_n 0, 0, 0), (.aload_n 0, 0, 0), (.getfield 38, 0, 0), (.aload_n 0, 0, 0), (.getfield 50, 0, 0), (.iload 6, 0, 0)] (pc' := 94) (lo' := [some (.ref 66), some (.int v1), some (.int v2), some (.int v3), some (.long (v4 * (Int32.toInt64 (100 - (gA s2 69 1))))), none, some (.int v6)]) (st' := [.int v6, .ref 79, .ref 75, .ref 66]) (σ' := s3) (by decide +kernel) rfl rfl ?_
          obtain ⟨c94, h⟩ := ok_g h
          refine g_iald hx (by decide +kernel) (i := 79) (n := 5) rfl c94 ?_
          refine g_callV (rest := []) [.ref 75, .int (gA s3 79 v6)] hx hc mk_m_digitOn ln_10_324 rfl (by decide +kernel) (by decide) (Nat.le_of_ble_eq_true rfl) (s_m_digitOn_66_75 (ok_b h)) (fun r4 s4 h => ?_)
          refine g_run hx [(.pop, 0, 0), (.iinc 6 1, 1, 0)] (pc' := 102) (lo' := [some (.ref 66), some (.int v1), some (.int v2), some (.int v3), some (.long (v4 * (Int32.toInt64 (100 - (gA s2 69 1))))), none, some (.int (v6 + 1))]) (st' := []) (σ' := s4) (by decide +kernel) rfl rfl ?_
          refine g_goto hx (off := (-68)) (tgt := 34) (by decide +kernel) (by decide) ?_
          exact ih _ _ _ _ _ _ _ hk105 h
      · have h := ok_t h c48
        refine g_run hx [(.aload_n 0, 0, 0), (.getfield 20, 0, 0), (.iconst 1, 1, 0), (.iaload, 0, 0), (.i2l, 0, 0)] (pc' := 58) (lo' := [some (.ref 66), some (.int v1), some (.int v2), some (.int v3), some (.long v4), none, some (.int v6)]) (st' := [.long (Int32.toInt64 (gA s2 69 1)), .long v4]) (σ' := s2) (by decide +kernel) rfl rfl ?_
        refine g_goto hx (off := 13) (tgt := 71) (by decide +kernel) (by decide) ?_
        refine g_run hx [(.lmul, 0, 0), (.lstore 4, 0, 0), (.iload_n 3, 0, 0), (.iload 6, 0, 0)] (pc' := 77) (lo' := [some (.ref 66), some (.int v1), some (.int v2), some (.int v3), some (.long (v4 * (Int32.toInt64 (gA s2 69 1)))), none, some (.int v6)]) (st' := [.int v6, .int v3]) (σ' := s2) (by decide +kernel) rfl rfl ?_
        refine g_callS (rest := []) [.int v3, .int v6] hx hc mk_m_hasBit ln_10_384 (by decide +kernel) (by decide) (Nat.le_of_ble_eq_true rfl) (s_m_hasBit (ok_b h)) (fun r5 s5 h => ?_)
        refine g_ifb_ne hx (off := 19) (tgt := 99) (by decide +kernel) (by decide) (fun c80 => ?_) (fun c80 => ?_)
        · have h := ok_t h c80
          refine g_run hx [(.iinc 6 1, 1, 0)] (pc' := 102) (lo' := [some (.ref 66), some (.int v1), some (.int v2), some (.int v3), some (.long (v4 * (Int32.toInt64 (gA s2 69 1)))), none, some (.int (v6 + 1))]) (st' := []) (σ' := s5) (by decide +kernel) rfl rfl ?_
          refine g_goto hx (off := (-68)) (tgt := 34) (by decide +kernel) (by decide) ?_
          exact ih _ _ _ _ _ _ _ hk105 h
        · have h := ok_f h c80
          refine g_run hx [(.aload_n 0, 0, 0), (.aload_n 0, 0, 0), (.getfield 38, 0, 0), (.aload_n 0, 0, 0), (.getfield 50, 0, 0), (.iload 6, 0, 0)] (pc' := 94) (lo' := [some (.ref 66), some (.int v1), some (.int v2), some (.int v3), some (.long (v4 * (Int32.toInt64 (gA s2 69 1)))), none, some (.int v6)]) (st' := [.int v6, .ref 79, .ref 75, .ref 66]) (σ' := s5) (by decide +kernel) rfl rfl ?_
          obtain ⟨c94, h⟩ := ok_g h
          refine g_iald hx (by decide +kernel) (i := 79) (n := 5) rfl c94 ?_
          refine g_callV (rest := []) [.ref 75, .int (gA s5 79 v6)] hx hc mk_m_digitOn ln_10_324 rfl (by decide +kernel) (by decide) (Nat.le_of_ble_eq_true rfl) (s_m_digitOn_66_75 (ok_b h)) (fun r6 s6 h => ?_)
          refine g_run hx [(.pop, 0, 0), (.iinc 6 1, 1, 0)] (pc' := 102) (lo' := [some (.ref 66), some (.int v1), some (.int v2), some (.int v3), some (.long (v4 * (Int32.toInt64 (gA s2 69 1)))), none, some (.int (v6 + 1))]) (st' := []) (σ' := s6) (by decide +kernel) rfl rfl ?_
          refine g_goto hx (off := (-68)) (tgt := 34) (by decide +kernel) (by decide) ?_
          exact ih _ _ _ _ _ _ _ hk105 h
set_option maxRecDepth 100000 in
theorem s_m_tryGout_L17 {y : EX} {N : Nat} {x : CX} {P : Unit × Sg → Prop} (hx : Cx 10 prog_12_method_116_code x) (hc : Cc y 7 4 x) (hr : Cr M_m_tryGout rvN P x) : ∀ (n : Nat) (v1 : Int32) (v2 : Int32) (v3 : Int32) (σ : Sg), ok (f_m_tryGout_L17 N n v1 v2 v3 σ) P → G x 17 [some (.ref 66), some (.int v1), some (.int v2), some (.int v3), none, none, none] [] σ := by
  intro n
  induction n with
  | zero => intro v1 v2 v3 σ h; exact ok_none h
  | succ n ih =>
    intro v1 v2 v3 σ h
    rw [f_m_tryGout_L17] at h
    refine g_run hx [(.iload_n 3, 0, 0), (.iconst 1, 1, 0), (.iload_n 1, 0, 0), (.ishl, 0, 0)] (pc' := 21) (lo' := [some (.ref 66), some (.int v1), some (.int v2), some (.int v3), none, none, none]) (st' := [.int (1 <<< (v1 &&& 31)), .int v3]) (σ' := σ) (by decide +kernel) rfl rfl ?_
    refine g_ic_ge hx (off := 148) (tgt := 169) (by decide +kernel) (by decide) (fun c21 => ?_) (fun c21 => ?_)
    · have h := ok_t h c21
      exact g_vret hx hr rfl () rfl (by decide +kernel) (ok_some h)
    · have h := ok_f h c21
      refine g_run hx [(.lconst 1, 0, 1), (.lstore 4, 0, 0), (.aload_n 0, 0, 0)] (pc' := 28) (lo' := [some (.ref 66), some (.int v1), some (.int v2), some (.int v3), some (.long 1), none, none]) (st' := [.ref 66]) (σ' := σ) (by decide +kernel) rfl rfl ?_
      refine g_callV (rest := []) [] hx hc mk_m_begin ln_10_272 rfl (by decide +kernel) (by decide) (Nat.le_of_ble_eq_true rfl) (s_m_begin (ok_b h)) (fun r1 s1 h => ?_)
      refine g_run hx [(.iconst 0, 0, 0), (.istore 6, 0, 0)] (pc' := 34) (lo' := [some (.ref 66), some (.int v1), some (.int v2), some (.int v3), some (.long 1), none, some (.int 0)]) (st' := []) (σ' := s1) (by decide +kernel) rfl rfl ?_
      refine s_m_tryGout_L34 hx hc hr N _ _ _ _ _ _ _ (fun w1 w2 w3 w4 t7 h => ?_) h
      refine g_run hx [(.aload_n 0, 0, 0), (.dup, 0, 0), (.getfield 418, 0, 0), (.lload 4, 0, 0), (.ladd, 0, 0), (.putfield 418, 0, 0), (.aload_n 0, 0, 0), (.dup, 0, 0), (.getfield 422, 0, 0), (.aload_n 0, 0, 0), (.getfield 38, 0, 0), (.bipush 60, 60, 0), (.iaload, 0, 0), (.iload_n 2, 0, 0)] (pc' := 129) (lo' := [some (.ref 66), some (.int w1), some (.int w2), some (.int w3), some (.long w4), none, none]) (st' := [.int w2, .int (gA (sL t7 66 49 ((gL t7 66 49) + w4)) 75 60), .long (gL (sL t7 66 49 ((gL t7 66 49) + w4)) 66 50), .ref 66]) (σ' := sL t7 66 49 ((gL t7 66 49) + w4)) (by decide +kernel) rfl rfl ?_
      refine g_ic_ne hx (off := 8) (tgt := 137) (by decide +kernel) (by decide) (fun c129 => ?_) (fun c129 => ?_)
      · have h := ok_f h c129
        refine g_run hx [(.lconst 0, 0, 0), (.ladd, 0, 0), (.putfield 422, 0, 0), (.aload_n 0, 0, 0), (.dup, 0, 0), (.getfield 425, 0, 0), (.lload 4, 0, 0), (.aload_n 0, 0, 0), (.aload_n 0, 0, 0), (.getfield 38, 0, 0)] (pc' := 154) (lo' := [some (.ref 66), some (.int w1), some (.int w2), some (.int w3), some (.long w4), none, none]) (st' := [.ref 75, .ref 66, .long w4, .long (gL (sL (sL t7 66 49 ((gL t7 66 49) + w4)) 66 50 ((gL (sL t7 66 49 ((gL t7 66 49) + w4)) 66 50) + 0)) 66 51), .ref 66]) (σ' := sL (sL t7 66 49 ((gL t7 66 49) + w4)) 66 50 ((gL (sL t7 66 49 ((gL t7 66 49) + w4)) 66 50) + 0)) (by decide +kernel) rfl rfl ?_
        refine g_callV (rest := [.long w4, .long (gL (sL (sL t7 66 49 ((gL t7 66 49) + w4)) 66 50 ((gL (sL t7 66 49 ((gL t7 66 49) + w4)) 66 50) + 0)) 66 51), .ref 66]) [.ref 75] hx hc mk_m_lostOn ln_10_294 rfl (by decide +kernel) (by decide) (Nat.le_of_ble_eq_true rfl) (s_m_lostOn_66_75 (ok_b h)) (fun r8 s8 h => ?_)
        refine g_run hx [(.i2l, 0, 0), (.lmul, 0, 0), (.ladd, 0, 0), (.putfield 425, 0, 0), (.iinc 3 1, 1, 0)] (pc' := 166) (lo' := [some (.ref 66), some (.int w1), some (.int w2), some (.int (w3 + 1)), some (.long w4), none, none]) (st' := []) (σ' := sL s8 66 51 ((gL (sL (sL t7 66 49 ((gL t7 66 49) + w4)) 66 50 ((gL (sL t7 66 49 ((gL t7 66 49) + w4)) 66 50) + 0)) 66 51) + (w4 * (Int32.toInt64 r8)))) (by decide +kernel) rfl rfl ?_
        refine g_goto hx (off := (-149)) (tgt := 17) (by decide +kernel) (by decide) ?_
        refine g_wk (lo' := [some (.ref 66), some (.int w1), some (.int w2), some (.int (w3 + 1)), none, none, none]) ⟨rfl, ⟨rfl, ⟨rfl, ⟨rfl, trivial⟩⟩⟩⟩ ?_
        exact ih _ _ _ _ h
      · have h := ok_t h c129
        refine g_run hx [(.lload 4, 0, 0)] (pc' := 134) (lo' := [some (.ref 66), some (.int w1), some (.int w2), some (.int w3), some (.long w4), none, none]) (st' := [.long w4, .long (gL (sL t7 66 49 ((gL t7 66 49) + w4)) 66 50), .ref 66]) (σ' := sL t7 66 49 ((gL t7 66 49) + w4)) (by decide +kernel) rfl rfl ?_
        refine g_goto hx (off := 4) (tgt := 138) (by decide +kernel) (by decide) ?_
        refine g_run hx [(.ladd, 0, 0), (.putfield 422, 0, 0), (.aload_n 0, 0, 0), (.dup, 0, 0), (.getfield 425, 0, 0), (.lload 4, 0, 0), (.aload_n 0, 0, 0), (.aload_n 0, 0, 0), (.getfield 38, 0, 0)] (pc' := 154) (lo' := [some (.ref 66), some (.int w1), some (.int w2), some (.int w3), some (.long w4), none, none]) (st' := [.ref 75, .ref 66, .long w4, .long (gL (sL (sL t7 66 49 ((gL t7 66 49) + w4)) 66 50 ((gL (sL t7 66 49 ((gL t7 66 49) + w4)) 66 50) + w4)) 66 51), .ref 66]) (σ' := sL (sL t7 66 49 ((gL t7 66 49) + w4)) 66 50 ((gL (sL t7 66 49 ((gL t7 66 49) + w4)) 66 50) + w4)) (by decide +kernel) rfl rfl ?_
        refine g_callV (rest := [.long w4, .long (gL (sL (sL t7 66 49 ((gL t7 66 49) + w4)) 66 50 ((gL (sL t7 66 49 ((gL t7 66 49) + w4)) 66 50) + w4)) 66 51), .ref 66]) [.ref 75] hx hc mk_m_lostOn ln_10_294 rfl (by decide +kernel) (by decide) (Nat.le_of_ble_eq_true rfl) (s_m_lostOn_66_75 (ok_b h)) (fun r9 s9 h => ?_)
        refine g_run hx [(.i2l, 0, 0), (.lmul, 0, 0), (.ladd, 0, 0), (.putfield 425, 0, 0), (.iinc 3 1, 1, 0)] (pc' := 166) (lo' := [some (.ref 66), some (.int w1), some (.int w2), some (.int (w3 + 1)), some (.long w4), none, none]) (st' := []) (σ' := sL s9 66 51 ((gL (sL (sL t7 66 49 ((gL t7 66 49) + w4)) 66 50 ((gL (sL t7 66 49 ((gL t7 66 49) + w4)) 66 50) + w4)) 66 51) + (w4 * (Int32.toInt64 r9)))) (by decide +kernel) rfl rfl ?_
        refine g_goto hx (off := (-149)) (tgt := 17) (by decide +kernel) (by decide) ?_
        refine g_wk (lo' := [some (.ref 66), some (.int w1), some (.int w2), some (.int (w3 + 1)), none, none, none]) ⟨rfl, ⟨rfl, ⟨rfl, ⟨rfl, trivial⟩⟩⟩⟩ ?_
        exact ih _ _ _ _ h
set_option maxRecDepth 100000 in
theorem s_m_tryGout {y : EX} {N : Nat} {v1 : Int32} {v2 : Int32} {σ : Sg} {P : Unit × Sg → Prop} (h : ok (f_m_tryGout N v1 v2 σ) P) : Ev y M_m_tryGout 4 [.ref 66, .int v1, .int v2] σ rvN P := by
  refine Ev.of mk_m_tryGout (Nat.le_of_ble_eq_true rfl) (fun x hx hc hr => ?_)
  have hx : Cx 10 prog_12_method_116_code x := hx
  have hc : Cc y 7 4 x := hc
  show G x 0 [some (.ref 66), some (.int v1), some (.int v2), none, none, none, none] [] σ
  unfold f_m_tryGout at h
  refine g_run hx [(.aload_n 0, 0, 0), (.lconst 0, 0, 0), (.putfield 418, 0, 0), (.aload_n 0, 0, 0), (.lconst 0, 0, 0), (.putfield 422, 0, 0), (.aload_n 0, 0, 0), (.lconst 0, 0, 0), (.putfield 425, 0, 0), (.iconst 0, 0, 0), (.istore_n 3, 0, 0)] (pc' := 17) (lo' := [some (.ref 66), some (.int v1), some (.int v2), some (.int 0), none, none, none]) (st' := []) (σ' := sL (sL (sL σ 66 49 0) 66 50 0) 66 51 0) (by decide +kernel) rfl rfl ?_
  refine s_m_tryGout_L17 hx hc hr N _ _ _ _ h
def f_m_lowest_L6 (N : Nat) : Nat → Int64 → Int64 → Int32 → Int64 → Int64 → Sg → Option (Int64 × Sg)
  | 0, _, _, _, _, _, _ => none
  | n + 1, v0, v2, v4, v5, v7, σ =>
    if (lg_cmp v7 0) = 0 then
      if v4 = 0 then
        if v5 = 0 then none else
        some (v0 / v5, σ)
      else
        if v5 = 0 then none else
        some (v2 / v5, σ)
    else
      if v7 = 0 then none else
      f_m_lowest_L6 N n v0 v2 v4 v7 (v5 - v5 / v7 * v7) σ
def f_m_lowest (N : Nat) (v0 : Int64) (v2 : Int64) (v4 : Int32) (σ : Sg) : Option (Int64 × Sg) :=
  f_m_lowest_L6 N N v0 v2 v4 v2 v0 σ
set_option maxRecDepth 100000 in
theorem s_m_lowest_L6 {y : EX} {N : Nat} {x : CX} {P : Int64 × Sg → Prop} (hx : Cx 10 prog_12_method_9_code x) (hc : Cc y 11 0 x) (hr : Cr M_m_lowest rvL P x) : ∀ (n : Nat) (v0 : Int64) (v2 : Int64) (v4 : Int32) (v5 : Int64) (v7 : Int64) (σ : Sg), ok (f_m_lowest_L6 N n v0 v2 v4 v5 v7 σ) P → G x 6 [some (.long v0), none, some (.long v2), none, some (.int v4), some (.long v5), none, some (.long v7), none, none, none] [] σ := by
  intro n
  induction n with
  | zero => intro v0 v2 v4 v5 v7 σ h; exact ok_none h
  | succ n ih =>
    intro v0 v2 v4 v5 v7 σ h
    rw [f_m_lowest_L6] at h
    refine g_run hx [(.lload 7, 0, 0), (.lconst 0, 0, 0), (.lcmp, 0, 0)] (pc' := 10) (lo' := [some (.long v0), none, some (.long v2), none, some (.int v4), some (.long v5), none, some (.long v7), none, none, none]) (st' := [.int (lg_cmp v7 0)]) (σ' := σ) (by decide +kernel) rfl rfl ?_
    refine g_if_eq hx (off := 21) (tgt := 31) (by decide +kernel) (by decide) (fun c10 => ?_) (fun c10 => ?_)
    · have h := ok_t h c10
      refine g_run hx [(.iload 4, 0, 0)] (pc' := 33) (lo' := [some (.long v0), none, some (.long v2), none, some (.int v4), some (.long v5), none, some (.long v7), none, none, none]) (st' := [.int v4]) (σ' := σ) (by decide +kernel) rfl rfl ?_
      refine g_if_eq hx (off := 7) (tgt := 40) (by decide +kernel) (by decide) (fun c33 => ?_) (fun c33 => ?_)
      · have h := ok_t h c33
        refine g_run hx [(.lload_n 0, 0, 0), (.lload 5, 0, 0)] (pc' := 43) (lo' := [some (.long v0), none, some (.long v2), none, some (.int v4), some (.long v5), none, some (.long v7), none, none, none]) (st' := [.long v5, .long v0]) (σ' := σ) (by decide +kernel) rfl rfl ?_
        obtain ⟨c43, h⟩ := ok_n h
        refine g_ldiv hx (by decide +kernel) c43 ?_
        exact g_lret hx hr rfl _ rfl (by decide +kernel) (ok_some h)
      · have h := ok_f h c33
        refine g_run hx [(.lload_n 2, 0, 0)] (pc' := 37) (lo' := [some (.long v0), none, some (.long v2), none, some (.int v4), some (.long v5), none, some (.long v7), none, none, none]) (st' := [.long v2]) (σ' := σ) (by decide +kernel) rfl rfl ?_
        refine g_goto hx (off := 4) (tgt := 41) (by decide +kernel) (by decide) ?_
        refine g_run hx [(.lload 5, 0, 0)] (pc' := 43) (lo' := [some (.long v0), none, some (.long v2), none, some (.int v4), some (.long v5), none, some (.long v7), none, none, none]) (st' := [.long v5, .long v2]) (σ' := σ) (by decide +kernel) rfl rfl ?_
        obtain ⟨c43, h⟩ := ok_n h
        refine g_ldiv hx (by decide +kernel) c43 ?_
        exact g_lret hx hr rfl _ rfl (by decide +kernel) (ok_some h)
    · have h := ok_f h c10
      refine g_run hx [(.lload 5, 0, 0), (.lload 7, 0, 0)] (pc' := 17) (lo' := [some (.long v0), none, some (.long v2), none, some (.int v4), some (.long v5), none, some (.long v7), none, none, none]) (st' := [.long v7, .long v5]) (σ' := σ) (by decide +kernel) rfl rfl ?_
      obtain ⟨c17, h⟩ := ok_n h
      refine g_lrem hx (by decide +kernel) c17 ?_
      refine g_run hx [(.lstore 9, 0, 0), (.lload 7, 0, 0), (.lstore 5, 0, 0), (.lload 9, 0, 0), (.lstore 7, 0, 0)] (pc' := 28) (lo' := [some (.long v0), none, some (.long v2), none, some (.int v4), some (.long v7), none, some (.long (v5 - v5 / v7 * v7)), none, some (.long (v5 - v5 / v7 * v7)), none]) (st' := []) (σ' := σ) (by decide +kernel) rfl rfl ?_
      refine g_goto hx (off := (-22)) (tgt := 6) (by decide +kernel) (by decide) ?_
      refine g_wk (lo' := [some (.long v0), none, some (.long v2), none, some (.int v4), some (.long v7), none, some (.long (v5 - v5 / v7 * v7)), none, none, none]) ⟨rfl, ⟨rfl, ⟨rfl, ⟨rfl, ⟨rfl, trivial⟩⟩⟩⟩⟩ ?_
      exact ih _ _ _ _ _ _ h
set_option maxRecDepth 100000 in
theorem s_m_lowest {y : EX} {N : Nat} {v0 : Int64} {v2 : Int64} {v4 : Int32} {σ : Sg} {P : Int64 × Sg → Prop} (h : ok (f_m_lowest N v0 v2 v4 σ) P) : Ev y M_m_lowest 0 [.long v0, .long v2, .int v4] σ rvL P := by
  refine Ev.of mk_m_lowest (Nat.le_of_ble_eq_true rfl) (fun x hx hc hr => ?_)
  have hx : Cx 10 prog_12_method_9_code x := hx
  have hc : Cc y 11 0 x := hc
  show G x 0 [some (.long v0), none, some (.long v2), none, some (.int v4), none, none, none, none, none, none] [] σ
  unfold f_m_lowest at h
  refine g_run hx [(.lload_n 2, 0, 0), (.lstore 5, 0, 0), (.lload_n 0, 0, 0), (.lstore 7, 0, 0)] (pc' := 6) (lo' := [some (.long v0), none, some (.long v2), none, some (.int v4), some (.long v2), none, some (.long v0), none, none, none]) (st' := []) (σ' := σ) (by decide +kernel) rfl rfl ?_
  refine s_m_lowest_L6 hx hc hr N _ _ _ _ _ _ h
def f_m_mean (N : Nat) (v1 : Int32) (v2 : Int32) (v3 : Int32) (σ : Sg) : Option (Int64 × Sg) :=
  (f_m_anew N σ).bind fun q1 =>
  (f_m_rowWhy N (gI q1.2 66 14) v1 v2 q1.2).bind fun q2 =>
  if q2.1 = 0 then
    (f_m_tryGout N v2 (-1) q2.2).bind fun q3 =>
    (f_m_lowest N (gL q3.2 66 51) (gL q3.2 66 49) v3 q3.2).bind fun q4 =>
    some (q4.1, q4.2)
  else
    (f_m_no N q2.1 q2.2).bind fun q5 =>
    some (Int32.toInt64 q5.1, q5.2)
set_option maxRecDepth 100000 in
theorem s_m_mean {y : EX} {N : Nat} {v1 : Int32} {v2 : Int32} {v3 : Int32} {σ : Sg} {P : Int64 × Sg → Prop} (h : ok (f_m_mean N v1 v2 v3 σ) P) : Ev y M_m_mean 5 [.ref 66, .int v1, .int v2, .int v3] σ rvL P := by
  refine Ev.of mk_m_mean (Nat.le_of_ble_eq_true rfl) (fun x hx hc hr => ?_)
  have hx : Cx 10 prog_12_method_118_code x := hx
  have hc : Cc y 5 5 x := hc
  show G x 0 [some (.ref 66), some (.int v1), some (.int v2), some (.int v3), none] [] σ
  unfold f_m_mean at h
  refine g_run hx [(.aload_n 0, 0, 0)] (pc' := 1) (lo' := [some (.ref 66), some (.int v1), some (.int v2), some (.int v3), none]) (st' := [.ref 66]) (σ' := σ) (by decide +kernel) rfl rfl ?_
  refine g_callV (rest := []) [] hx hc mk_m_anew ln_10_174 rfl (by decide +kernel) (by decide) (Nat.le_of_ble_eq_true rfl) (s_m_anew (ok_b h)) (fun r1 s1 h => ?_)
  refine g_run hx [(.aload_n 0, 0, 0), (.aload_n 0, 0, 0), (.getfield 187, 0, 0), (.iload_n 1, 0, 0), (.iload_n 2, 0, 0)] (pc' := 11) (lo' := [some (.ref 66), some (.int v1), some (.int v2), some (.int v3), none]) (st' := [.int v2, .int v1, .int (gI s1 66 14), .ref 66]) (σ' := s1) (by decide +kernel) rfl rfl ?_
  refine g_callV (rest := []) [.int (gI s1 66 14), .int v1, .int v2] hx hc mk_m_rowWhy ln_10_328 rfl (by decide +kernel) (by decide) (Nat.le_of_ble_eq_true rfl) (s_m_rowWhy (ok_b h)) (fun r2 s2 h => ?_)
  refine g_run hx [(.istore 4, 0, 0), (.iload 4, 0, 0)] (pc' := 18) (lo' := [some (.ref 66), some (.int v1), some (.int v2), some (.int v3), some (.int r2)]) (st' := [.int r2]) (σ' := s2) (by decide +kernel) rfl rfl ?_
  refine g_if_eq hx (off := 11) (tgt := 29) (by decide +kernel) (by decide) (fun c18 => ?_) (fun c18 => ?_)
  · have h := ok_t h c18
    refine g_run hx [(.aload_n 0, 0, 0), (.iload_n 2, 0, 0), (.iconst (-1), (-1), 0)] (pc' := 32) (lo' := [some (.ref 66), some (.int v1), some (.int v2), some (.int v3), some (.int r2)]) (st' := [.int (-1), .int v2, .ref 66]) (σ' := s2) (by decide +kernel) rfl rfl ?_
    refine g_callV (rest := []) [.int v2, .int (-1)] hx hc mk_m_tryGout ln_10_428 rfl (by decide +kernel) (by decide) (Nat.le_of_ble_eq_true rfl) (s_m_tryGout (ok_b h)) (fun r3 s3 h => ?_)
    refine g_run hx [(.aload_n 0, 0, 0), (.getfield 425, 0, 0), (.aload_n 0, 0, 0), (.getfield 418, 0, 0), (.iload_n 3, 0, 0)] (pc' := 44) (lo' := [some (.ref 66), some (.int v1), some (.int v2), some (.int v3), some (.int r2)]) (st' := [.int v3, .long (gL s3 66 49), .long (gL s3 66 51)]) (σ' := s3) (by decide +kernel) rfl rfl ?_
    refine g_callS (rest := []) [.long (gL s3 66 51), .long (gL s3 66 49), .int v3] hx hc mk_m_lowest ln_10_431 (by decide +kernel) (by decide) (Nat.le_of_ble_eq_true rfl) (s_m_lowest (ok_b h)) (fun r4 s4 h => ?_)
    exact g_lret hx hr rfl _ rfl (by decide +kernel) (ok_some h)
  · have h := ok_f h c18
    refine g_run hx [(.aload_n 0, 0, 0), (.iload 4, 0, 0)] (pc' := 24) (lo' := [some (.ref 66), some (.int v1), some (.int v2), some (.int v3), some (.int r2)]) (st' := [.int r2, .ref 66]) (σ' := s2) (by decide +kernel) rfl rfl ?_
    refine g_callV (rest := []) [.int r2] hx hc mk_m_no ln_10_177 rfl (by decide +kernel) (by decide) (Nat.le_of_ble_eq_true rfl) (s_m_no (ok_b h)) (fun r5 s5 h => ?_)
    refine g_run hx [(.i2l, 0, 0)] (pc' := 28) (lo' := [some (.ref 66), some (.int v1), some (.int v2), some (.int v3), some (.int r2)]) (st' := [.long (Int32.toInt64 r5)]) (σ' := s5) (by decide +kernel) rfl rfl ?_
    exact g_lret hx hr rfl _ rfl (by decide +kernel) (ok_some h)
def f_m_nearest_L41 (N : Nat) : Nat → Int32 → Int32 → Int32 → Int32 → Sg → (Int32 → Int32 → Int32 → Sg → Option (Int32 × Sg)) → Option (Int32 × Sg)
  | 0, _, _, _, _, _, _ => none
  | n + 1, v1, v2, v3, v4, σ, k140 =>
    if (gA σ 69 3) ≤ v4 then
      k140 v1 v2 v3 σ
    else
      if vin (12 + (2 * v3)) 189 then
      if vin (12 + (2 * v4)) 189 then
      (f_m_goneFrom N (gA σ 69 (12 + (2 * v3))) (gA σ 69 (12 + (2 * v4))) σ).bind fun q2 =>
      if vin (gA σ 69 (12 + (2 * v3))) 63 then
      if 0 < (gA q2.2 74 (gA σ 69 (12 + (2 * v3)))) then
        f_m_nearest_L41 N n v1 v2 v3 (v4 + 1) q2.2 k140
      else
        if vin (gA σ 69 (12 + (2 * v4))) 63 then
        if 0 < (gA q2.2 74 (gA σ 69 (12 + (2 * v4)))) then
          f_m_nearest_L41 N n v1 v2 v3 (v4 + 1) q2.2 k140
        else
          if q2.1 = 0 then
            f_m_nearest_L41 N n v1 v2 v3 (v4 + 1) q2.2 k140
          else
            if q2.1 < v2 then
              f_m_nearest_L41 N n ((10 * v3) + v4) q2.1 v3 (v4 + 1) q2.2 k140
            else
              f_m_nearest_L41 N n v1 v2 v3 (v4 + 1) q2.2 k140
        else none
      else none
      else none
      else none
def f_m_nearest_L26 (N : Nat) : Nat → Int32 → Int32 → Int32 → Sg → Option (Int32 × Sg)
  | 0, _, _, _, _ => none
  | n + 1, v1, v2, v3, σ =>
    if (gA σ 69 3) ≤ v3 then
      some (v1, σ)
    else
      f_m_nearest_L41 N N v1 v2 v3 (v3 + 1) σ
        (fun (w1 : Int32) (w2 : Int32) (w3 : Int32) (t3 : Sg) =>
          f_m_nearest_L26 N n w1 w2 (w3 + 1) t3)
def f_m_nearest (N : Nat) (σ : Sg) : Option (Int32 × Sg) :=
  (f_m_anew N σ).bind fun q1 =>
  if (gI q1.2 66 14) = 0 then
    (f_m_no N 1 q1.2).bind fun q4 =>
    some (q4.1, q4.2)
  else
    f_m_nearest_L26 N N (-2) 100000000 0 q1.2
set_option maxRecDepth 100000 in
theorem s_m_nearest_L41 {y : EX} {N : Nat} {x : CX} {P : Int32 × Sg → Prop} (hx : Cx 10 prog_12_method_67_code x) (hc : Cc y 8 1 x) (hr : Cr M_m_nearest rvI P x) : ∀ (n : Nat) (v1 : Int32) (v2 : Int32) (v3 : Int32) (v4 : Int32) (σ : Sg) (k140 : Int32 → Int32 → Int32 → Sg → Option (Int32 × Sg)) (hk140 : ∀ (w1 : Int32) (w2 : Int32) (w3 : Int32) (t : Sg), ok (k140 w1 w2 w3 t) P → G x 140 [some (.ref 66), some (.int w1), some (.int w2), some (.int w3), none, none, none, none] [] t), ok (f_m_nearest_L41 N n v1 v2 v3 v4 σ k140) P → G x 41 [some (.ref 66), some (.int v1), some (.int v2), some (.int v3), some (.int v4), none, none, none] [] σ := by
  intro n
  induction n with
  | zero => intro v1 v2 v3 v4 σ k140 hk140 h; exact ok_none h
  | succ n ih =>
    intro v1 v2 v3 v4 σ k140 hk140 h
    rw [f_m_nearest_L41] at h
    refine g_run hx [(.iload 4, 0, 0), (.aload_n 0, 0, 0), (.getfield 20, 0, 0), (.iconst 3, 3, 0), (.iaload, 0, 0)] (pc' := 49) (lo' := [some (.ref 66), some (.int v1), some (.int v2), some (.int v3), some (.int v4), none, none, none]) (st' := [.int (gA σ 69 3), .int v4]) (σ' := σ) (by decide +kernel) rfl rfl ?_
    refine g_ic_ge hx (off := 91) (tgt := 140) (by decide +kernel) (by decide) (fun c49 => ?_) (fun c49 => ?_)
    · have h := ok_t h c49
      refine g_wk (lo' := [some (.ref 66), some (.int v1), some (.int v2), some (.int v3), none, none, none, none]) ⟨rfl, ⟨rfl, ⟨rfl, ⟨rfl, trivial⟩⟩⟩⟩ ?_
      exact hk140 _ _ _ _ h
    · have h := ok_f h c49
      refine g_run hx [(.aload_n 0, 0, 0), (.getfield 20, 0, 0), (.bipush 12, 12, 0), (.iconst 2, 2, 0), (.iload_n 3, 0, 0), (.imul, 0, 0), (.iadd, 0, 0)] (pc' := 62) (lo' := [some (.ref 66), some (.int v1), some (.int v2), some (.int v3), some (.int v4), none, none, none]) (st' := [.int (12 + (2 * v3)), .ref 69]) (σ' := σ) (by decide +kernel) rfl rfl ?_
      obtain ⟨c62, h⟩ := ok_g h
      refine g_iald hx (by decide +kernel) (i := 69) (n := 189) rfl c62 ?_
      refine g_run hx [(.istore 5, 0, 0), (.aload_n 0, 0, 0), (.getfield 20, 0, 0), (.bipush 12, 12, 0), (.iconst 2, 2, 0), (.iload 4, 0, 0), (.imul, 0, 0), (.iadd, 0, 0)] (pc' := 76) (lo' := [some (.ref 66), some (.int v1), some (.int v2), some (.int v3), some (.int v4), some (.int (gA σ 69 (12 + (2 * v3)))), none, none]) (st' := [.int (12 + (2 * v4)), .ref 69]) (σ' := σ) (by decide +kernel) rfl rfl ?_
      obtain ⟨c76, h⟩ := ok_g h
      refine g_iald hx (by decide +kernel) (i := 69) (n := 189) rfl c76 ?_
      refine g_run hx [(.istore 6, 0, 0), (.aload_n 0, 0, 0), (.iload 5, 0, 0), (.iload 6, 0, 0)] (pc' := 84) (lo' := [some (.ref 66), some (.int v1), some (.int v2), some (.int v3), some (.int v4), some (.int (gA σ 69 (12 + (2 * v3)))), some (.int (gA σ 69 (12 + (2 * v4)))), none]) (st' := [.int (gA σ 69 (12 + (2 * v4))), .int (gA σ 69 (12 + (2 * v3))), .ref 66]) (σ' := σ) (by decide +kernel) rfl rfl ?_
      refine g_callV (rest := []) [.int (gA σ 69 (12 + (2 * v3))), .int (gA σ 69 (12 + (2 * v4)))] hx hc mk_m_goneFrom ln_10_310 rfl (by decide +kernel) (by decide) (Nat.le_of_ble_eq_true rfl) (s_m_goneFrom (ok_b h)) (fun r2 s2 h => ?_)
      refine g_run hx [(.istore 7, 0, 0), (.aload_n 0, 0, 0), (.getfield 35, 0, 0), (.iload 5, 0, 0)] (pc' := 95) (lo' := [some (.ref 66), some (.int v1), some (.int v2), some (.int v3), some (.int v4), some (.int (gA σ 69 (12 + (2 * v3)))), some (.int (gA σ 69 (12 + (2 * v4)))), some (.int r2)]) (st' := [.int (gA σ 69 (12 + (2 * v3))), .ref 74]) (σ' := s2) (by decide +kernel) rfl rfl ?_
      obtain ⟨c95, h⟩ := ok_g h
      refine g_iald hx (by decide +kernel) (i := 74) (n := 63) rfl c95 ?_
      refine g_if_gt hx (off := 38) (tgt := 134) (by decide +kernel) (by decide) (fun c96 => ?_) (fun c96 => ?_)
      · have h := ok_t h c96
        refine g_run hx [(.iinc 4 1, 1, 0)] (pc' := 137) (lo' := [some (.ref 66), some (.int v1), some (.int v2), some (.int v3), some (.int (v4 + 1)), some (.int (gA σ 69 (12 + (2 * v3)))), some (.int (gA σ 69 (12 + (2 * v4)))), some (.int r2)]) (st' := []) (σ' := s2) (by decide +kernel) rfl rfl ?_
        refine g_goto hx (off := (-96)) (tgt := 41) (by decide +kernel) (by decide) ?_
        refine g_wk (lo' := [some (.ref 66), some (.int v1), some (.int v2), some (.int v3), some (.int (v4 + 1)), none, none, none]) ⟨rfl, ⟨rfl, ⟨rfl, ⟨rfl, ⟨rfl, trivial⟩⟩⟩⟩⟩ ?_
        exact ih _ _ _ _ _ _ hk140 h
      · have h := ok_f h c96
        refine g_run hx [(.aload_n 0, 0, 0), (.getfield 35, 0, 0), (.iload 6, 0, 0)] (pc' := 105) (lo' := [some (.ref 66), some (.int v1), some (.int v2), some (.int v3), some (.int v4), some (.int (gA σ 69 (12 + (2 * v3)))), some (.int (gA σ 69 (12 + (2 * v4)))), some (.int r2)]) (st' := [.int (gA σ 69 (12 + (2 * v4))), .ref 74]) (σ' := s2) (by decide +kernel) rfl rfl ?_
        obtain ⟨c105, h⟩ := ok_g h
        refine g_iald hx (by decide +kernel) (i := 74) (n := 63) rfl c105 ?_
        refine g_if_gt hx (off := 28) (tgt := 134) (by decide +kernel) (by decide) (fun c106 => ?_) (fun c106 => ?_)
        · have h := ok_t h c106
          refine g_run hx [(.iinc 4 1, 1, 0)] (pc' := 137) (lo' := [some (.ref 66), some (.int v1), some (.int v2), some (.int v3), some (.int (v4 + 1)), some (.int (gA σ 69 (12 + (2 * v3)))), some (.int (gA σ 69 (12 + (2 * v4)))), some (.int r2)]) (st' := []) (σ' := s2) (by decide +kernel) rfl rfl ?_
          refine g_goto hx (off := (-96)) (tgt := 41) (by decide +kernel) (by decide) ?_
          refine g_wk (lo' := [some (.ref 66), some (.int v1), some (.int v2), some (.int v3), some (.int (v4 + 1)), none, none, none]) ⟨rfl, ⟨rfl, ⟨rfl, ⟨rfl, ⟨rfl, trivial⟩⟩⟩⟩⟩ ?_
          exact ih _ _ _ _ _ _ hk140 h
        · have h := ok_f h c106
          refine g_run hx [(.iload 7, 0, 0)] (pc' := 111) (lo' := [some (.ref 66), some (.int v1), some (.int v2), some (.int v3), some (.int v4), some (.int (gA σ 69 (12 + (2 * v3)))), some (.int (gA σ 69 (12 + (2 * v4)))), some (.int r2)]) (st' := [.int r2]) (σ' := s2) (by decide +kernel) rfl rfl ?_
          refine g_if_eq hx (off := 23) (tgt := 134) (by decide +kernel) (by decide) (fun c111 => ?_) (fun c111 => ?_)
          · have h := ok_t h c111
            refine g_run hx [(.iinc 4 1, 1, 0)] (pc' := 137) (lo' := [some (.ref 66), some (.int v1), some (.int v2), some (.int v3), some (.int (v4 + 1)), some (.int (gA σ 69 (12 + (2 * v3)))), some (.int (gA σ 69 (12 + (2 * v4)))), some (.int r2)]) (st' := []) (σ' := s2) (by decide +kernel) rfl rfl ?_
            refine g_goto hx (off := (-96)) (tgt := 41) (by decide +kernel) (by decide) ?_
            refine g_wk (lo' := [some (.ref 66), some (.int v1), some (.int v2), some (.int v3), some (.int (v4 + 1)), none, none, none]) ⟨rfl, ⟨rfl, ⟨rfl, ⟨rfl, ⟨rfl, trivial⟩⟩⟩⟩⟩ ?_
            exact ih _ _ _ _ _ _ hk140 h
          · have h := ok_f h c111
            refine g_run hx [(.iload 7, 0, 0), (.iload_n 2, 0, 0)] (pc' := 117) (lo' := [some (.ref 66), some (.int v1), some (.int v2), some (.int v3), some (.int v4), some (.int (gA σ 69 (12 + (2 * v3)))), some (.int (gA σ 69 (12 + (2 * v4)))), some (.int r2)]) (st' := [.int v2, .int r2]) (σ' := s2) (by decide +kernel) rfl rfl ?_
            refine g_ic_lt hx (off := 6) (tgt := 123) (by decide +kernel) (by decide) (fun c117 => ?_) (fun c117 => ?_)
            · have h := ok_t h c117
              refine g_run hx [(.bipush 10, 10, 0), (.iload_n 3, 0, 0), (.imul, 0, 0), (.iload 4, 0, 0), (.iadd, 0, 0), (.istore_n 1, 0, 0), (.iload 7, 0, 0), (.istore_n 2, 0, 0), (.iinc 4 1, 1, 0)] (pc' := 137) (lo' := [some (.ref 66), some (.int ((10 * v3) + v4)), some (.int r2), some (.int v3), some (.int (v4 + 1)), some (.int (gA σ 69 (12 + (2 * v3)))), some (.int (gA σ 69 (12 + (2 * v4)))), some (.int r2)]) (st' := []) (σ' := s2) (by decide +kernel) rfl rfl ?_
              refine g_goto hx (off := (-96)) (tgt := 41) (by decide +kernel) (by decide) ?_
              refine g_wk (lo' := [some (.ref 66), some (.int ((10 * v3) + v4)), some (.int r2), some (.int v3), some (.int (v4 + 1)), none, none, none]) ⟨rfl, ⟨rfl, ⟨rfl, ⟨rfl, ⟨rfl, trivial⟩⟩⟩⟩⟩ ?_
              exact ih _ _ _ _ _ _ hk140 h
            · have h := ok_f h c117
              refine g_goto hx (off := 14) (tgt := 134) (by decide +kernel) (by decide) ?_
              refine g_run hx [(.iinc 4 1, 1, 0)] (pc' := 137) (lo' := [some (.ref 66), some (.int v1), some (.int v2), some (.int v3), some (.int (v4 + 1)), some (.int (gA σ 69 (12 + (2 * v3)))), some (.int (gA σ 69 (12 + (2 * v4)))), some (.int r2)]) (st' := []) (σ' := s2) (by decide +kernel) rfl rfl ?_
              refine g_goto hx (off := (-96)) (tgt := 41) (by decide +kernel) (by decide) ?_
              refine g_wk (lo' := [some (.ref 66), some (.int v1), some (.int v2), some (.int v3), some (.int (v4 + 1)), none, none, none]) ⟨rfl, ⟨rfl, ⟨rfl, ⟨rfl, ⟨rfl, trivial⟩⟩⟩⟩⟩ ?_
              exact ih _ _ _ _ _ _ hk140 h
set_option maxRecDepth 100000 in
theorem s_m_nearest_L26 {y : EX} {N : Nat} {x : CX} {P : Int32 × Sg → Prop} (hx : Cx 10 prog_12_method_67_code x) (hc : Cc y 8 1 x) (hr : Cr M_m_nearest rvI P x) : ∀ (n : Nat) (v1 : Int32) (v2 : Int32) (v3 : Int32) (σ : Sg), ok (f_m_nearest_L26 N n v1 v2 v3 σ) P → G x 26 [some (.ref 66), some (.int v1), some (.int v2), some (.int v3), none, none, none, none] [] σ := by
  intro n
  induction n with
  | zero => intro v1 v2 v3 σ h; exact ok_none h
  | succ n ih =>
    intro v1 v2 v3 σ h
    rw [f_m_nearest_L26] at h
    refine g_run hx [(.iload_n 3, 0, 0), (.aload_n 0, 0, 0), (.getfield 20, 0, 0), (.iconst 3, 3, 0), (.iaload, 0, 0)] (pc' := 33) (lo' := [some (.ref 66), some (.int v1), some (.int v2), some (.int v3), none, none, none, none]) (st' := [.int (gA σ 69 3), .int v3]) (σ' := σ) (by decide +kernel) rfl rfl ?_
    refine g_ic_ge hx (off := 113) (tgt := 146) (by decide +kernel) (by decide) (fun c33 => ?_) (fun c33 => ?_)
    · have h := ok_t h c33
      refine g_run hx [(.iload_n 1, 0, 0)] (pc' := 147) (lo' := [some (.ref 66), some (.int v1), some (.int v2), some (.int v3), none, none, none, none]) (st' := [.int v1]) (σ' := σ) (by decide +kernel) rfl rfl ?_
      exact g_iret hx hr rfl _ rfl (by decide +kernel) (ok_some h)
    · have h := ok_f h c33
      refine g_run hx [(.iload_n 3, 0, 0), (.iconst 1, 1, 0), (.iadd, 0, 0), (.istore 4, 0, 0)] (pc' := 41) (lo' := [some (.ref 66), some (.int v1), some (.int v2), some (.int v3), some (.int (v3 + 1)), none, none, none]) (st' := []) (σ' := σ) (by decide +kernel) rfl rfl ?_
      refine s_m_nearest_L41 hx hc hr N _ _ _ _ _ _ (fun w1 w2 w3 t3 h => ?_) h
      refine g_run hx [(.iinc 3 1, 1, 0)] (pc' := 143) (lo' := [some (.ref 66), some (.int w1), some (.int w2), some (.int (w3 + 1)), none, none, none, none]) (st' := []) (σ' := t3) (by decide +kernel) rfl rfl ?_
      refine g_goto hx (off := (-117)) (tgt := 26) (by decide +kernel) (by decide) ?_
      exact ih _ _ _ _ h
set_option maxRecDepth 100000 in
theorem s_m_nearest {y : EX} {N : Nat} {σ : Sg} {P : Int32 × Sg → Prop} (h : ok (f_m_nearest N σ) P) : Ev y M_m_nearest 1 [.ref 66] σ rvI P := by
  refine Ev.of mk_m_nearest (Nat.le_of_ble_eq_true rfl) (fun x hx hc hr => ?_)
  have hx : Cx 10 prog_12_method_67_code x := hx
  have hc : Cc y 8 1 x := hc
  show G x 0 [some (.ref 66), none, none, none, none, none, none, none] [] σ
  unfold f_m_nearest at h
  refine g_run hx [(.aload_n 0, 0, 0)] (pc' := 1) (lo' := [some (.ref 66), none, none, none, none, none, none, none]) (st' := [.ref 66]) (σ' := σ) (by decide +kernel) rfl rfl ?_
  refine g_callV (rest := []) [] hx hc mk_m_anew ln_10_174 rfl (by decide +kernel) (by decide) (Nat.le_of_ble_eq_true rfl) (s_m_anew (ok_b h)) (fun r1 s1 h => ?_)
  refine g_run hx [(.aload_n 0, 0, 0), (.getfield 187, 0, 0)] (pc' := 8) (lo' := [some (.ref 66), none, none, none, none, none, none, none]) (st' := [.int (gI s1 66 14)]) (σ' := s1) (by decide +kernel) rfl rfl ?_
  refine g_if_ne hx (off := 9) (tgt := 17) (by decide +kernel) (by decide) (fun c8 => ?_) (fun c8 => ?_)
  · have h := ok_f h c8
    refine g_run hx [(.bipush (-2), (-2), 0), (.istore_n 1, 0, 0), (.ldc_w 313, 100000000, 0), (.istore_n 2, 0, 0), (.iconst 0, 0, 0), (.istore_n 3, 0, 0)] (pc' := 26) (lo' := [some (.ref 66), some (.int (-2)), some (.int 100000000), some (.int 0), none, none, none, none]) (st' := []) (σ' := s1) (by decide +kernel) rfl rfl ?_
    refine s_m_nearest_L26 hx hc hr N _ _ _ _ h
  · have h := ok_t h c8
    refine g_run hx [(.aload_n 0, 0, 0), (.iconst 1, 1, 0)] (pc' := 13) (lo' := [some (.ref 66), none, none, none, none, none, none, none]) (st' := [.int 1, .ref 66]) (σ' := s1) (by decide +kernel) rfl rfl ?_
    refine g_callV (rest := []) [.int 1] hx hc mk_m_no ln_10_177 rfl (by decide +kernel) (by decide) (Nat.le_of_ble_eq_true rfl) (s_m_no (ok_b h)) (fun r4 s4 h => ?_)
    exact g_iret hx hr rfl _ rfl (by decide +kernel) (ok_some h)
def f_m_laySums_L26 (N : Nat) : Nat → Int32 → Int32 → Sg → (Int32 → Sg → Option (Unit × Sg)) → Option (Unit × Sg)
  | 0, _, _, _, _ => none
  | n + 1, v1, v2, σ, k106 =>
    if (gA σ 69 2) ≤ v2 then
      k106 v1 σ
    else
      if vin (9 + v2) 189 then
      if v1 < (gA σ 69 (9 + v2)) then
        f_m_laySums_L26 N n v1 (v2 + 1) σ k106
      else
        if vin (9 + v2) 189 then
        if vin (v1 - (gA σ 69 (9 + v2))) 61 then
        if vin v1 61 then
        if (gA σ 83 v1) ≤ ((gA σ 83 (v1 - (gA σ 69 (9 + v2)))) + 1) then
          f_m_laySums_L26 N n v1 (v2 + 1) σ k106
        else
          if vin (9 + v2) 189 then
          if vin (v1 - (gA σ 69 (9 + v2))) 61 then
          if vin v1 61 then
          f_m_laySums_L26 N n v1 (v2 + 1) (sA σ 83 v1 ((gA σ 83 (v1 - (gA σ 69 (9 + v2)))) + 1)) k106
          else none
          else none
          else none
        else none
        else none
        else none
      else none
def f_m_laySums_L9 (N : Nat) : Nat → Int32 → Sg → Option (Unit × Sg)
  | 0, _, _ => none
  | n + 1, v1, σ =>
    if 60 < v1 then
      some ((), σ)
    else
      if vin v1 61 then
      f_m_laySums_L26 N N v1 0 (sA σ 83 v1 100000000)
        (fun (w1 : Int32) (t1 : Sg) =>
          f_m_laySums_L9 N n (w1 + 1) t1)
      else none
def f_m_laySums (N : Nat) (σ : Sg) : Option (Unit × Sg) :=
  f_m_laySums_L9 N N 1 (sA σ 83 0 0)
set_option maxRecDepth 100000 in
theorem s_m_laySums_L26 {y : EX} {N : Nat} {x : CX} {P : Unit × Sg → Prop} (hx : Cx 10 prog_12_method_89_code x) (hc : Cc y 3 0 x) (hr : Cr M_m_laySums rvN P x) : ∀ (n : Nat) (v1 : Int32) (v2 : Int32) (σ : Sg) (k106 : Int32 → Sg → Option (Unit × Sg)) (hk106 : ∀ (w1 : Int32) (t : Sg), ok (k106 w1 t) P → G x 106 [some (.ref 66), some (.int w1), none] [] t), ok (f_m_laySums_L26 N n v1 v2 σ k106) P → G x 26 [some (.ref 66), some (.int v1), some (.int v2)] [] σ := by
  intro n
  induction n with
  | zero => intro v1 v2 σ k106 hk106 h; exact ok_none h
  | succ n ih =>
    intro v1 v2 σ k106 hk106 h
    rw [f_m_laySums_L26] at h
    refine g_run hx [(.iload_n 2, 0, 0), (.aload_n 0, 0, 0), (.getfield 20, 0, 0), (.iconst 2, 2, 0), (.iaload, 0, 0)] (pc' := 33) (lo' := [some (.ref 66), some (.int v1), some (.int v2)]) (st' := [.int (gA σ 69 2), .int v2]) (σ' := σ) (by decide +kernel) rfl rfl ?_
    refine g_ic_ge hx (off := 73) (tgt := 106) (by decide +kernel) (by decide) (fun c33 => ?_) (fun c33 => ?_)
    · have h := ok_t h c33
      refine g_wk (lo' := [some (.ref 66), some (.int v1), none]) ⟨rfl, ⟨rfl, trivial⟩⟩ ?_
      exact hk106 _ _ h
    · have h := ok_f h c33
      refine g_run hx [(.iload_n 1, 0, 0), (.aload_n 0, 0, 0), (.getfield 20, 0, 0), (.bipush 9, 9, 0), (.iload_n 2, 0, 0), (.iadd, 0, 0)] (pc' := 45) (lo' := [some (.ref 66), some (.int v1), some (.int v2)]) (st' := [.int (9 + v2), .ref 69, .int v1]) (σ' := σ) (by decide +kernel) rfl rfl ?_
      obtain ⟨c45, h⟩ := ok_g h
      refine g_iald hx (by decide +kernel) (i := 69) (n := 189) rfl c45 ?_
      refine g_ic_lt hx (off := 54) (tgt := 100) (by decide +kernel) (by decide) (fun c46 => ?_) (fun c46 => ?_)
      · have h := ok_t h c46
        refine g_run hx [(.iinc 2 1, 1, 0)] (pc' := 103) (lo' := [some (.ref 66), some (.int v1), some (.int (v2 + 1))]) (st' := []) (σ' := σ) (by decide +kernel) rfl rfl ?_
        refine g_goto hx (off := (-77)) (tgt := 26) (by decide +kernel) (by decide) ?_
        exact ih _ _ _ _ hk106 h
      · have h := ok_f h c46
        refine g_run hx [(.aload_n 0, 0, 0), (.getfield 62, 0, 0), (.iload_n 1, 0, 0), (.aload_n 0, 0, 0), (.getfield 20, 0, 0), (.bipush 9, 9, 0), (.iload_n 2, 0, 0), (.iadd, 0, 0)] (pc' := 62) (lo' := [some (.ref 66), some (.int v1), some (.int v2)]) (st' := [.int (9 + v2), .ref 69, .int v1, .ref 83]) (σ' := σ) (by decide +kernel) rfl rfl ?_
        obtain ⟨c62, h⟩ := ok_g h
        refine g_iald hx (by decide +kernel) (i := 69) (n := 189) rfl c62 ?_
        refine g_run hx [(.isub, 0, 0)] (pc' := 64) (lo' := [some (.ref 66), some (.int v1), some (.int v2)]) (st' := [.int (v1 - (gA σ 69 (9 + v2))), .ref 83]) (σ' := σ) (by decide +kernel) rfl rfl ?_
        obtain ⟨c64, h⟩ := ok_g h
        refine g_iald hx (by decide +kernel) (i := 83) (n := 61) rfl c64 ?_
        refine g_run hx [(.iconst 1, 1, 0), (.iadd, 0, 0), (.aload_n 0, 0, 0), (.getfield 62, 0, 0), (.iload_n 1, 0, 0)] (pc' := 72) (lo' := [some (.ref 66), some (.int v1), some (.int v2)]) (st' := [.int v1, .ref 83, .int ((gA σ 83 (v1 - (gA σ 69 (9 + v2)))) + 1)]) (σ' := σ) (by decide +kernel) rfl rfl ?_
        obtain ⟨c72, h⟩ := ok_g h
        refine g_iald hx (by decide +kernel) (i := 83) (n := 61) rfl c72 ?_
        refine g_ic_ge hx (off := 27) (tgt := 100) (by decide +kernel) (by decide) (fun c73 => ?_) (fun c73 => ?_)
        · have h := ok_t h c73
          refine g_run hx [(.iinc 2 1, 1, 0)] (pc' := 103) (lo' := [some (.ref 66), some (.int v1), some (.int (v2 + 1))]) (st' := []) (σ' := σ) (by decide +kernel) rfl rfl ?_
          refine g_goto hx (off := (-77)) (tgt := 26) (by decide +kernel) (by decide) ?_
          exact ih _ _ _ _ hk106 h
        · have h := ok_f h c73
          refine g_run hx [(.aload_n 0, 0, 0), (.getfield 62, 0, 0), (.iload_n 1, 0, 0), (.aload_n 0, 0, 0), (.getfield 62, 0, 0), (.iload_n 1, 0, 0), (.aload_n 0, 0, 0), (.getfield 20, 0, 0), (.bipush 9, 9, 0), (.iload_n 2, 0, 0), (.iadd, 0, 0)] (pc' := 94) (lo' := [some (.ref 66), some (.int v1), some (.int v2)]) (st' := [.int (9 + v2), .ref 69, .int v1, .ref 83, .int v1, .ref 83]) (σ' := σ) (by decide +kernel) rfl rfl ?_
          obtain ⟨c94, h⟩ := ok_g h
          refine g_iald hx (by decide +kernel) (i := 69) (n := 189) rfl c94 ?_
          refine g_run hx [(.isub, 0, 0)] (pc' := 96) (lo' := [some (.ref 66), some (.int v1), some (.int v2)]) (st' := [.int (v1 - (gA σ 69 (9 + v2))), .ref 83, .int v1, .ref 83]) (σ' := σ) (by decide +kernel) rfl rfl ?_
          obtain ⟨c96, h⟩ := ok_g h
          refine g_iald hx (by decide +kernel) (i := 83) (n := 61) rfl c96 ?_
          refine g_run hx [(.iconst 1, 1, 0), (.iadd, 0, 0)] (pc' := 99) (lo' := [some (.ref 66), some (.int v1), some (.int v2)]) (st' := [.int ((gA σ 83 (v1 - (gA σ 69 (9 + v2)))) + 1), .int v1, .ref 83]) (σ' := σ) (by decide +kernel) rfl rfl ?_
          obtain ⟨c99, h⟩ := ok_g h
          refine g_iast hx (by decide +kernel) (i := 83) (n := 61) rfl c99 ?_
          refine g_run hx [(.iinc 2 1, 1, 0)] (pc' := 103) (lo' := [some (.ref 66), some (.int v1), some (.int (v2 + 1))]) (st' := []) (σ' := sA σ 83 v1 ((gA σ 83 (v1 - (gA σ 69 (9 + v2)))) + 1)) (by decide +kernel) rfl rfl ?_
          refine g_goto hx (off := (-77)) (tgt := 26) (by decide +kernel) (by decide) ?_
          exact ih _ _ _ _ hk106 h
set_option maxRecDepth 100000 in
theorem s_m_laySums_L9 {y : EX} {N : Nat} {x : CX} {P : Unit × Sg → Prop} (hx : Cx 10 prog_12_method_89_code x) (hc : Cc y 3 0 x) (hr : Cr M_m_laySums rvN P x) : ∀ (n : Nat) (v1 : Int32) (σ : Sg), ok (f_m_laySums_L9 N n v1 σ) P → G x 9 [some (.ref 66), some (.int v1), none] [] σ := by
  intro n
  induction n with
  | zero => intro v1 σ h; exact ok_none h
  | succ n ih =>
    intro v1 σ h
    rw [f_m_laySums_L9] at h
    refine g_run hx [(.iload_n 1, 0, 0), (.bipush 60, 60, 0)] (pc' := 12) (lo' := [some (.ref 66), some (.int v1), none]) (st' := [.int 60, .int v1]) (σ' := σ) (by decide +kernel) rfl rfl ?_
    refine g_ic_gt hx (off := 100) (tgt := 112) (by decide +kernel) (by decide) (fun c12 => ?_) (fun c12 => ?_)
    · have h := ok_t h c12
      exact g_vret hx hr rfl () rfl (by decide +kernel) (ok_some h)
    · have h := ok_f h c12
      refine g_run hx [(.aload_n 0, 0, 0), (.getfield 62, 0, 0), (.iload_n 1, 0, 0), (.ldc_w 313, 100000000, 0)] (pc' := 23) (lo' := [some (.ref 66), some (.int v1), none]) (st' := [.int 100000000, .int v1, .ref 83]) (σ' := σ) (by decide +kernel) rfl rfl ?_
      obtain ⟨c23, h⟩ := ok_g h
      refine g_iast hx (by decide +kernel) (i := 83) (n := 61) rfl c23 ?_
      refine g_run hx [(.iconst 0, 0, 0), (.istore_n 2, 0, 0)] (pc' := 26) (lo' := [some (.ref 66), some (.int v1), some (.int 0)]) (st' := []) (σ' := sA σ 83 v1 100000000) (by decide +kernel) rfl rfl ?_
      refine s_m_laySums_L26 hx hc hr N _ _ _ _ (fun w1 t1 h => ?_) h
      refine g_run hx [(.iinc 1 1, 1, 0)] (pc' := 109) (lo' := [some (.ref 66), some (.int (w1 + 1)), none]) (st' := []) (σ' := t1) (by decide +kernel) rfl rfl ?_
      refine g_goto hx (off := (-100)) (tgt := 9) (by decide +kernel) (by decide) ?_
      exact ih _ _ h
set_option maxRecDepth 100000 in
theorem s_m_laySums {y : EX} {N : Nat} {σ : Sg} {P : Unit × Sg → Prop} (h : ok (f_m_laySums N σ) P) : Ev y M_m_laySums 0 [.ref 66] σ rvN P := by
  refine Ev.of mk_m_laySums (Nat.le_of_ble_eq_true rfl) (fun x hx hc hr => ?_)
  have hx : Cx 10 prog_12_method_89_code x := hx
  have hc : Cc y 3 0 x := hc
  show G x 0 [some (.ref 66), none, none] [] σ
  unfold f_m_laySums at h
  refine g_run hx [(.aload_n 0, 0, 0), (.getfield 62, 0, 0), (.iconst 0, 0, 0), (.iconst 0, 0, 0), (.iastore, 0, 0), (.iconst 1, 1, 0), (.istore_n 1, 0, 0)] (pc' := 9) (lo' := [some (.ref 66), some (.int 1), none]) (st' := []) (σ' := sA σ 83 0 0) (by decide +kernel) rfl rfl ?_
  refine s_m_laySums_L9 hx hc hr N _ _ h
def f_m_never_L24 (N : Nat) : Nat → Int32 → Sg → Option (Int32 × Sg)
  | 0, _, _ => none
  | n + 1, v1, σ =>
    if v1 < 0 then
      some ((-2), σ)
    else
      if vin v1 61 then
      if (gA σ 83 v1) < 100000000 then
        f_m_never_L24 N n (v1 + (-1)) σ
      else
        some (v1, σ)
      else none
def f_m_never (N : Nat) (σ : Sg) : Option (Int32 × Sg) :=
  (f_m_anew N σ).bind fun q1 =>
  if (gI q1.2 66 14) = 0 then
    (f_m_no N 1 q1.2).bind fun q3 =>
    some (q3.1, q3.2)
  else
    (f_m_laySums N q1.2).bind fun q2 =>
    f_m_never_L24 N N 60 q2.2
set_option maxRecDepth 100000 in
theorem s_m_never_L24 {y : EX} {N : Nat} {x : CX} {P : Int32 × Sg → Prop} (hx : Cx 10 prog_12_method_92_code x) (hc : Cc y 2 1 x) (hr : Cr M_m_never rvI P x) : ∀ (n : Nat) (v1 : Int32) (σ : Sg), ok (f_m_never_L24 N n v1 σ) P → G x 24 [some (.ref 66), some (.int v1)] [] σ := by
  intro n
  induction n with
  | zero => intro v1 σ h; exact ok_none h
  | succ n ih =>
    intro v1 σ h
    rw [f_m_never_L24] at h
    refine g_run hx [(.iload_n 1, 0, 0)] (pc' := 25) (lo' := [some (.ref 66), some (.int v1)]) (st' := [.int v1]) (σ' := σ) (by decide +kernel) rfl rfl ?_
    refine g_if_lt hx (off := 23) (tgt := 48) (by decide +kernel) (by decide) (fun c25 => ?_) (fun c25 => ?_)
    · have h := ok_t h c25
      refine g_run hx [(.bipush (-2), (-2), 0)] (pc' := 50) (lo' := [some (.ref 66), some (.int v1)]) (st' := [.int (-2)]) (σ' := σ) (by decide +kernel) rfl rfl ?_
      exact g_iret hx hr rfl _ rfl (by decide +kernel) (ok_some h)
    · have h := ok_f h c25
      refine g_run hx [(.aload_n 0, 0, 0), (.getfield 62, 0, 0), (.iload_n 1, 0, 0)] (pc' := 33) (lo' := [some (.ref 66), some (.int v1)]) (st' := [.int v1, .ref 83]) (σ' := σ) (by decide +kernel) rfl rfl ?_
      obtain ⟨c33, h⟩ := ok_g h
      refine g_iald hx (by decide +kernel) (i := 83) (n := 61) rfl c33 ?_
      refine g_run hx [(.ldc_w 313, 100000000, 0)] (pc' := 37) (lo' := [some (.ref 66), some (.int v1)]) (st' := [.int 100000000, .int (gA σ 83 v1)]) (σ' := σ) (by decide +kernel) rfl rfl ?_
      refine g_ic_lt hx (off := 5) (tgt := 42) (by decide +kernel) (by decide) (fun c37 => ?_) (fun c37 => ?_)
      · have h := ok_t h c37
        refine g_run hx [(.iinc 1 (-1), (-1), 0)] (pc' := 45) (lo' := [some (.ref 66), some (.int (v1 + (-1)))]) (st' := []) (σ' := σ) (by decide +kernel) rfl rfl ?_
        refine g_goto hx (off := (-21)) (tgt := 24) (by decide +kernel) (by decide) ?_
        exact ih _ _ h
      · have h := ok_f h c37
        refine g_run hx [(.iload_n 1, 0, 0)] (pc' := 41) (lo' := [some (.ref 66), some (.int v1)]) (st' := [.int v1]) (σ' := σ) (by decide +kernel) rfl rfl ?_
        exact g_iret hx hr rfl _ rfl (by decide +kernel) (ok_some h)
set_option maxRecDepth 100000 in
theorem s_m_never {y : EX} {N : Nat} {σ : Sg} {P : Int32 × Sg → Prop} (h : ok (f_m_never N σ) P) : Ev y M_m_never 1 [.ref 66] σ rvI P := by
  refine Ev.of mk_m_never (Nat.le_of_ble_eq_true rfl) (fun x hx hc hr => ?_)
  have hx : Cx 10 prog_12_method_92_code x := hx
  have hc : Cc y 2 1 x := hc
  show G x 0 [some (.ref 66), none] [] σ
  unfold f_m_never at h
  refine g_run hx [(.aload_n 0, 0, 0)] (pc' := 1) (lo' := [some (.ref 66), none]) (st' := [.ref 66]) (σ' := σ) (by decide +kernel) rfl rfl ?_
  refine g_callV (rest := []) [] hx hc mk_m_anew ln_10_174 rfl (by decide +kernel) (by decide) (Nat.le_of_ble_eq_true rfl) (s_m_anew (ok_b h)) (fun r1 s1 h => ?_)
  refine g_run hx [(.aload_n 0, 0, 0), (.getfield 187, 0, 0)] (pc' := 8) (lo' := [some (.ref 66), none]) (st' := [.int (gI s1 66 14)]) (σ' := s1) (by decide +kernel) rfl rfl ?_
  refine g_if_ne hx (off := 9) (tgt := 17) (by decide +kernel) (by decide) (fun c8 => ?_) (fun c8 => ?_)
  · have h := ok_f h c8
    refine g_run hx [(.aload_n 0, 0, 0)] (pc' := 18) (lo' := [some (.ref 66), none]) (st' := [.ref 66]) (σ' := s1) (by decide +kernel) rfl rfl ?_
    refine g_callV (rest := []) [] hx hc mk_m_laySums ln_10_359 rfl (by decide +kernel) (by decide) (Nat.le_of_ble_eq_true rfl) (s_m_laySums (ok_b h)) (fun r2 s2 h => ?_)
    refine g_run hx [(.bipush 60, 60, 0), (.istore_n 1, 0, 0)] (pc' := 24) (lo' := [some (.ref 66), some (.int 60)]) (st' := []) (σ' := s2) (by decide +kernel) rfl rfl ?_
    refine s_m_never_L24 hx hc hr N _ _ h
  · have h := ok_t h c8
    refine g_run hx [(.aload_n 0, 0, 0), (.iconst 1, 1, 0)] (pc' := 13) (lo' := [some (.ref 66), none]) (st' := [.int 1, .ref 66]) (σ' := s1) (by decide +kernel) rfl rfl ?_
    refine g_callV (rest := []) [.int 1] hx hc mk_m_no ln_10_177 rfl (by decide +kernel) (by decide) (Nat.le_of_ble_eq_true rfl) (s_m_no (ok_b h)) (fun r3 s3 h => ?_)
    exact g_iret hx hr rfl _ rfl (by decide +kernel) (ok_some h)
