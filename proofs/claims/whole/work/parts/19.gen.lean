def f_m_leadOf (N : Nat) (a0 : Nat) (a1 : Nat) (a2 : Nat) (a3 : Nat) (v2 : Int32) (v3 : Int32) (σ : Sg) : Option (Int32 × Sg) :=
  if v3 = 0 then
    if vin (9 + v2) a0 then
    (f_m_in N ((gA σ a1 60) + (gA σ a2 (9 + v2))) 0 ((gA σ a2 0) - 1) σ).bind fun q2 =>
    if q2.1 = true then
      if vin ((gA σ a1 60) + (gA σ a2 (9 + v2))) a3 then
      if (gA q2.2 a1 ((gA σ a1 60) + (gA σ a2 (9 + v2)))) = 0 then
        some (((gA σ a1 60) + (gA σ a2 (9 + v2))), q2.2)
      else
        some ((-2), q2.2)
      else none
    else
      some ((-2), q2.2)
    else none
  else
    if vin (9 + v2) a0 then
    (f_m_in N ((gA σ a1 60) + (-(gA σ a2 (9 + v2)))) 0 ((gA σ a2 0) - 1) σ).bind fun q1 =>
    if q1.1 = true then
      if vin ((gA σ a1 60) + (-(gA σ a2 (9 + v2)))) a3 then
      if (gA q1.2 a1 ((gA σ a1 60) + (-(gA σ a2 (9 + v2))))) = 0 then
        some (((gA σ a1 60) + (-(gA σ a2 (9 + v2)))), q1.2)
      else
        some ((-2), q1.2)
      else none
    else
      some ((-2), q1.2)
    else none
set_option maxRecDepth 100000 in
theorem s_m_leadOf_69_75 {y : EX} {N : Nat} {v2 : Int32} {v3 : Int32} {σ : Sg} {P : Int32 × Sg → Prop} (h : ok (f_m_leadOf N 189 75 69 63 v2 v3 σ) P) : Ev y M_m_leadOf 1 [.ref 69, .ref 75, .int v2, .int v3] σ rvI P := by
  refine Ev.of mk_m_leadOf (Nat.le_of_ble_eq_true rfl) (fun x hx hc hr => ?_)
  have hx : Cx 10 prog_12_method_44_code x := hx
  have hc : Cc y 5 1 x := hc
  show G x 0 [some (.ref 69), some (.ref 75), some (.int v2), some (.int v3), none] [] σ
  unfold f_m_leadOf at h
  refine g_run hx [(.aload_n 1, 0, 0), (.bipush 60, 60, 0), (.iaload, 0, 0), (.iload_n 3, 0, 0)] (pc' := 5) (lo' := [some (.ref 69), some (.ref 75), some (.int v2), some (.int v3), none]) (st' := [.int v3, .int (gA σ 75 60)]) (σ' := σ) (by decide +kernel) rfl rfl ?_
  refine g_if_ne hx (off := 12) (tgt := 17) (by decide +kernel) (by decide) (fun c5 => ?_) (fun c5 => ?_)
  · have h := ok_f h c5
    refine g_run hx [(.aload_n 0, 0, 0), (.bipush 9, 9, 0), (.iload_n 2, 0, 0), (.iadd, 0, 0)] (pc' := 22) (lo' := [some (.ref 69), some (.ref 75), some (.int v2), some (.int v3), none]) (st' := [.int (9 + v2), .ref 69, .int (gA σ 75 60)]) (σ' := σ) (by decide +kernel) rfl rfl ?_
    obtain ⟨c22, h⟩ := ok_g h
    refine g_iald hx (by decide +kernel) (i := 69) (n := 189) rfl c22 ?_
    refine g_run hx [(.ineg, 0, 0), (.iadd, 0, 0), (.istore 4, 0, 0), (.iload 4, 0, 0), (.iconst 0, 0, 0), (.aload_n 0, 0, 0), (.iconst 0, 0, 0), (.iaload, 0, 0), (.iconst 1, 1, 0), (.isub, 0, 0)] (pc' := 35) (lo' := [some (.ref 69), some (.ref 75), some (.int v2), some (.int v3), some (.int ((gA σ 75 60) + (-(gA σ 69 (9 + v2)))))]) (st' := [.int ((gA σ 69 0) - 1), .int 0, .int ((gA σ 75 60) + (-(gA σ 69 (9 + v2))))]) (σ' := σ) (by decide +kernel) rfl rfl ?_
    refine g_callS (rest := []) [.int ((gA σ 75 60) + (-(gA σ 69 (9 + v2)))), .int 0, .int ((gA σ 69 0) - 1)] hx hc mk_m_in ln_10_156 (by decide +kernel) (by decide) (Nat.le_of_ble_eq_true rfl) (s_m_in (ok_b h)) (fun r1 s1 h => ?_)
    refine g_ifb_eq hx (off := 15) (tgt := 53) (by decide +kernel) (by decide) (fun c38 => ?_) (fun c38 => ?_)
    · have h := ok_f h c38
      refine g_run hx [(.bipush (-2), (-2), 0)] (pc' := 55) (lo' := [some (.ref 69), some (.ref 75), some (.int v2), some (.int v3), some (.int ((gA σ 75 60) + (-(gA σ 69 (9 + v2)))))]) (st' := [.int (-2)]) (σ' := s1) (by decide +kernel) rfl rfl ?_
      exact g_iret hx hr rfl _ rfl (by decide +kernel) (ok_some h)
    · have h := ok_t h c38
      refine g_run hx [(.aload_n 1, 0, 0), (.iload 4, 0, 0)] (pc' := 44) (lo' := [some (.ref 69), some (.ref 75), some (.int v2), some (.int v3), some (.int ((gA σ 75 60) + (-(gA σ 69 (9 + v2)))))]) (st' := [.int ((gA σ 75 60) + (-(gA σ 69 (9 + v2)))), .ref 75]) (σ' := s1) (by decide +kernel) rfl rfl ?_
      obtain ⟨c44, h⟩ := ok_g h
      refine g_iald hx (by decide +kernel) (i := 75) (n := 63) rfl c44 ?_
      refine g_if_ne hx (off := 8) (tgt := 53) (by decide +kernel) (by decide) (fun c45 => ?_) (fun c45 => ?_)
      · have h := ok_f h c45
        refine g_run hx [(.bipush (-2), (-2), 0)] (pc' := 55) (lo' := [some (.ref 69), some (.ref 75), some (.int v2), some (.int v3), some (.int ((gA σ 75 60) + (-(gA σ 69 (9 + v2)))))]) (st' := [.int (-2)]) (σ' := s1) (by decide +kernel) rfl rfl ?_
        exact g_iret hx hr rfl _ rfl (by decide +kernel) (ok_some h)
      · have h := ok_t h c45
        refine g_run hx [(.iload 4, 0, 0)] (pc' := 50) (lo' := [some (.ref 69), some (.ref 75), some (.int v2), some (.int v3), some (.int ((gA σ 75 60) + (-(gA σ 69 (9 + v2)))))]) (st' := [.int ((gA σ 75 60) + (-(gA σ 69 (9 + v2))))]) (σ' := s1) (by decide +kernel) rfl rfl ?_
        refine g_goto hx (off := 5) (tgt := 55) (by decide +kernel) (by decide) ?_
        exact g_iret hx hr rfl _ rfl (by decide +kernel) (ok_some h)
  · have h := ok_t h c5
    refine g_run hx [(.aload_n 0, 0, 0), (.bipush 9, 9, 0), (.iload_n 2, 0, 0), (.iadd, 0, 0)] (pc' := 13) (lo' := [some (.ref 69), some (.ref 75), some (.int v2), some (.int v3), none]) (st' := [.int (9 + v2), .ref 69, .int (gA σ 75 60)]) (σ' := σ) (by decide +kernel) rfl rfl ?_
    obtain ⟨c13, h⟩ := ok_g h
    refine g_iald hx (by decide +kernel) (i := 69) (n := 189) rfl c13 ?_
    refine g_goto hx (off := 10) (tgt := 24) (by decide +kernel) (by decide) ?_
    refine g_run hx [(.iadd, 0, 0), (.istore 4, 0, 0), (.iload 4, 0, 0), (.iconst 0, 0, 0), (.aload_n 0, 0, 0), (.iconst 0, 0, 0), (.iaload, 0, 0), (.iconst 1, 1, 0), (.isub, 0, 0)] (pc' := 35) (lo' := [some (.ref 69), some (.ref 75), some (.int v2), some (.int v3), some (.int ((gA σ 75 60) + (gA σ 69 (9 + v2))))]) (st' := [.int ((gA σ 69 0) - 1), .int 0, .int ((gA σ 75 60) + (gA σ 69 (9 + v2)))]) (σ' := σ) (by decide +kernel) rfl rfl ?_
    refine g_callS (rest := []) [.int ((gA σ 75 60) + (gA σ 69 (9 + v2))), .int 0, .int ((gA σ 69 0) - 1)] hx hc mk_m_in ln_10_156 (by decide +kernel) (by decide) (Nat.le_of_ble_eq_true rfl) (s_m_in (ok_b h)) (fun r2 s2 h => ?_)
    refine g_ifb_eq hx (off := 15) (tgt := 53) (by decide +kernel) (by decide) (fun c38 => ?_) (fun c38 => ?_)
    · have h := ok_f h c38
      refine g_run hx [(.bipush (-2), (-2), 0)] (pc' := 55) (lo' := [some (.ref 69), some (.ref 75), some (.int v2), some (.int v3), some (.int ((gA σ 75 60) + (gA σ 69 (9 + v2))))]) (st' := [.int (-2)]) (σ' := s2) (by decide +kernel) rfl rfl ?_
      exact g_iret hx hr rfl _ rfl (by decide +kernel) (ok_some h)
    · have h := ok_t h c38
      refine g_run hx [(.aload_n 1, 0, 0), (.iload 4, 0, 0)] (pc' := 44) (lo' := [some (.ref 69), some (.ref 75), some (.int v2), some (.int v3), some (.int ((gA σ 75 60) + (gA σ 69 (9 + v2))))]) (st' := [.int ((gA σ 75 60) + (gA σ 69 (9 + v2))), .ref 75]) (σ' := s2) (by decide +kernel) rfl rfl ?_
      obtain ⟨c44, h⟩ := ok_g h
      refine g_iald hx (by decide +kernel) (i := 75) (n := 63) rfl c44 ?_
      refine g_if_ne hx (off := 8) (tgt := 53) (by decide +kernel) (by decide) (fun c45 => ?_) (fun c45 => ?_)
      · have h := ok_f h c45
        refine g_run hx [(.bipush (-2), (-2), 0)] (pc' := 55) (lo' := [some (.ref 69), some (.ref 75), some (.int v2), some (.int v3), some (.int ((gA σ 75 60) + (gA σ 69 (9 + v2))))]) (st' := [.int (-2)]) (σ' := s2) (by decide +kernel) rfl rfl ?_
        exact g_iret hx hr rfl _ rfl (by decide +kernel) (ok_some h)
      · have h := ok_t h c45
        refine g_run hx [(.iload 4, 0, 0)] (pc' := 50) (lo' := [some (.ref 69), some (.ref 75), some (.int v2), some (.int v3), some (.int ((gA σ 75 60) + (gA σ 69 (9 + v2))))]) (st' := [.int ((gA σ 75 60) + (gA σ 69 (9 + v2)))]) (σ' := s2) (by decide +kernel) rfl rfl ?_
        refine g_goto hx (off := 5) (tgt := 55) (by decide +kernel) (by decide) ?_
        exact g_iret hx hr rfl _ rfl (by decide +kernel) (ok_some h)
def f_m_strideOn_L62 (N : Nat) (a0 : Nat) (a1 : Nat) (a2 : Nat) (a3 : Nat) : Nat → Int32 → Int32 → Int32 → Sg → Option (Bool × Sg)
  | 0, _, _, _, _ => none
  | n + 1, v4, v6, v7, σ =>
    if v6 ≤ v7 then
      some (true, sA σ a0 60 v4)
    else
      if vin v7 a1 then
      if (gA σ a0 v7) = 0 then
        if vin (129 + v7) a2 then
        if vin v7 a1 then
        f_m_strideOn_L62 N a0 a1 a2 a3 n v4 v6 (v7 + 1) (sA σ a0 v7 ((gA σ a3 (129 + v7)) + 1))
        else none
        else none
      else
        f_m_strideOn_L62 N a0 a1 a2 a3 n v4 v6 (v7 + 1) σ
      else none
def f_m_strideOn (N : Nat) (a0 : Nat) (a1 : Nat) (a2 : Nat) (a3 : Nat) (v2 : Int32) (v3 : Int32) (σ : Sg) : Option (Bool × Sg) :=
  (f_m_leadOf N a2 a0 a3 a1 v2 v3 σ).bind fun q1 =>
  if 0 ≤ q1.1 then
    if (gA q1.2 a0 60) ≤ q1.1 then
      if (gA q1.2 a0 60) ≤ q1.1 then
        f_m_strideOn_L62 N a0 a1 a2 a3 N q1.1 q1.1 ((gA q1.2 a0 60) + 1) q1.2
      else
        f_m_strideOn_L62 N a0 a1 a2 a3 N q1.1 (gA q1.2 a0 60) ((gA q1.2 a0 60) + 1) q1.2
    else
      if (gA q1.2 a0 60) ≤ q1.1 then
        f_m_strideOn_L62 N a0 a1 a2 a3 N q1.1 q1.1 (q1.1 + 1) q1.2
      else
        f_m_strideOn_L62 N a0 a1 a2 a3 N q1.1 (gA q1.2 a0 60) (q1.1 + 1) q1.2
  else
    some (false, q1.2)
set_option maxRecDepth 100000 in
theorem s_m_strideOn_69_75_L62 {y : EX} {N : Nat} {x : CX} {P : Bool × Sg → Prop} (hx : Cx 10 prog_12_method_45_code x) (hc : Cc y 8 2 x) (hr : Cr M_m_strideOn rvB P x) : ∀ (n : Nat) (v4 : Int32) (v6 : Int32) (v7 : Int32) (σ : Sg), ok (f_m_strideOn_L62 N 75 63 189 69 n v4 v6 v7 σ) P → G x 62 [some (.ref 69), some (.ref 75), none, none, some (.int v4), none, some (.int v6), some (.int v7)] [] σ := by
  intro n
  induction n with
  | zero => intro v4 v6 v7 σ h; exact ok_none h
  | succ n ih =>
    intro v4 v6 v7 σ h
    rw [f_m_strideOn_L62] at h
    refine g_run hx [(.iload 7, 0, 0), (.iload 6, 0, 0)] (pc' := 66) (lo' := [some (.ref 69), some (.ref 75), none, none, some (.int v4), none, some (.int v6), some (.int v7)]) (st' := [.int v6, .int v7]) (σ' := σ) (by decide +kernel) rfl rfl ?_
    refine g_ic_ge hx (off := 30) (tgt := 96) (by decide +kernel) (by decide) (fun c66 => ?_) (fun c66 => ?_)
    · have h := ok_t h c66
      refine g_run hx [(.aload_n 1, 0, 0), (.bipush 60, 60, 0), (.iload 4, 0, 0), (.iastore, 0, 0), (.iconst 1, 1, 0)] (pc' := 103) (lo' := [some (.ref 69), some (.ref 75), none, none, some (.int v4), none, some (.int v6), some (.int v7)]) (st' := [.int 1]) (σ' := sA σ 75 60 v4) (by decide +kernel) rfl rfl ?_
      exact g_zret (b := true) hx hr rfl true rfl (by decide +kernel) (ok_some h)
    · have h := ok_f h c66
      refine g_run hx [(.aload_n 1, 0, 0), (.iload 7, 0, 0)] (pc' := 72) (lo' := [some (.ref 69), some (.ref 75), none, none, some (.int v4), none, some (.int v6), some (.int v7)]) (st' := [.int v7, .ref 75]) (σ' := σ) (by decide +kernel) rfl rfl ?_
      obtain ⟨c72, h⟩ := ok_g h
      refine g_iald hx (by decide +kernel) (i := 75) (n := 63) rfl c72 ?_
      refine g_if_ne hx (off := 17) (tgt := 90) (by decide +kernel) (by decide) (fun c73 => ?_) (fun c73 => ?_)
      · have h := ok_f h c73
        refine g_run hx [(.iinc 7 1, 1, 0)] (pc' := 93) (lo' := [some (.ref 69), some (.ref 75), none, none, some (.int v4), none, some (.int v6), some (.int (v7 + 1))]) (st' := []) (σ' := σ) (by decide +kernel) rfl rfl ?_
        refine g_goto hx (off := (-31)) (tgt := 62) (by decide +kernel) (by decide) ?_
        exact ih _ _ _ _ h
      · have h := ok_t h c73
        refine g_run hx [(.aload_n 1, 0, 0), (.iload 7, 0, 0), (.aload_n 0, 0, 0), (.sipush 129, 129, 0), (.iload 7, 0, 0), (.iadd, 0, 0)] (pc' := 86) (lo' := [some (.ref 69), some (.ref 75), none, none, some (.int v4), none, some (.int v6), some (.int v7)]) (st' := [.int (129 + v7), .ref 69, .int v7, .ref 75]) (σ' := σ) (by decide +kernel) rfl rfl ?_
        obtain ⟨c86, h⟩ := ok_g h
        refine g_iald hx (by decide +kernel) (i := 69) (n := 189) rfl c86 ?_
        refine g_run hx [(.iconst 1, 1, 0), (.iadd, 0, 0)] (pc' := 89) (lo' := [some (.ref 69), some (.ref 75), none, none, some (.int v4), none, some (.int v6), some (.int v7)]) (st' := [.int ((gA σ 69 (129 + v7)) + 1), .int v7, .ref 75]) (σ' := σ) (by decide +kernel) rfl rfl ?_
        obtain ⟨c89, h⟩ := ok_g h
        refine g_iast hx (by decide +kernel) (i := 75) (n := 63) rfl c89 ?_
        refine g_run hx [(.iinc 7 1, 1, 0)] (pc' := 93) (lo' := [some (.ref 69), some (.ref 75), none, none, some (.int v4), none, some (.int v6), some (.int (v7 + 1))]) (st' := []) (σ' := sA σ 75 v7 ((gA σ 69 (129 + v7)) + 1)) (by decide +kernel) rfl rfl ?_
        refine g_goto hx (off := (-31)) (tgt := 62) (by decide +kernel) (by decide) ?_
        exact ih _ _ _ _ h
set_option maxRecDepth 100000 in
theorem s_m_strideOn_69_75 {y : EX} {N : Nat} {v2 : Int32} {v3 : Int32} {σ : Sg} {P : Bool × Sg → Prop} (h : ok (f_m_strideOn N 75 63 189 69 v2 v3 σ) P) : Ev y M_m_strideOn 2 [.ref 69, .ref 75, .int v2, .int v3] σ rvB P := by
  refine Ev.of mk_m_strideOn (Nat.le_of_ble_eq_true rfl) (fun x hx hc hr => ?_)
  have hx : Cx 10 prog_12_method_45_code x := hx
  have hc : Cc y 8 2 x := hc
  show G x 0 [some (.ref 69), some (.ref 75), some (.int v2), some (.int v3), none, none, none, none] [] σ
  unfold f_m_strideOn at h
  refine g_run hx [(.aload_n 0, 0, 0), (.aload_n 1, 0, 0), (.iload_n 2, 0, 0), (.iload_n 3, 0, 0)] (pc' := 4) (lo' := [some (.ref 69), some (.ref 75), some (.int v2), some (.int v3), none, none, none, none]) (st' := [.int v3, .int v2, .ref 75, .ref 69]) (σ' := σ) (by decide +kernel) rfl rfl ?_
  refine g_callS (rest := []) [.ref 69, .ref 75, .int v2, .int v3] hx hc mk_m_leadOf ln_10_265 (by decide +kernel) (by decide) (Nat.le_of_ble_eq_true rfl) (s_m_leadOf_69_75 (ok_b h)) (fun r1 s1 h => ?_)
  refine g_run hx [(.istore 4, 0, 0), (.iload 4, 0, 0)] (pc' := 11) (lo' := [some (.ref 69), some (.ref 75), some (.int v2), some (.int v3), some (.int r1), none, none, none]) (st' := [.int r1]) (σ' := s1) (by decide +kernel) rfl rfl ?_
  refine g_if_ge hx (off := 5) (tgt := 16) (by decide +kernel) (by decide) (fun c11 => ?_) (fun c11 => ?_)
  · have h := ok_t h c11
    refine g_run hx [(.iload 4, 0, 0), (.aload_n 1, 0, 0), (.bipush 60, 60, 0), (.iaload, 0, 0)] (pc' := 22) (lo' := [some (.ref 69), some (.ref 75), some (.int v2), some (.int v3), some (.int r1), none, none, none]) (st' := [.int (gA s1 75 60), .int r1]) (σ' := s1) (by decide +kernel) rfl rfl ?_
    refine g_ic_ge hx (off := 8) (tgt := 30) (by decide +kernel) (by decide) (fun c22 => ?_) (fun c22 => ?_)
    · have h := ok_t h c22
      refine g_run hx [(.aload_n 1, 0, 0), (.bipush 60, 60, 0), (.iaload, 0, 0), (.istore 5, 0, 0), (.iload 4, 0, 0), (.aload_n 1, 0, 0), (.bipush 60, 60, 0), (.iaload, 0, 0)] (pc' := 42) (lo' := [some (.ref 69), some (.ref 75), some (.int v2), some (.int v3), some (.int r1), some (.int (gA s1 75 60)), none, none]) (st' := [.int (gA s1 75 60), .int r1]) (σ' := s1) (by decide +kernel) rfl rfl ?_
      refine g_ic_ge hx (off := 10) (tgt := 52) (by decide +kernel) (by decide) (fun c42 => ?_) (fun c42 => ?_)
      · have h := ok_t h c42
        refine g_run hx [(.iload 4, 0, 0), (.istore 6, 0, 0), (.iload 5, 0, 0), (.iconst 1, 1, 0), (.iadd, 0, 0), (.istore 7, 0, 0)] (pc' := 62) (lo' := [some (.ref 69), some (.ref 75), some (.int v2), some (.int v3), some (.int r1), some (.int (gA s1 75 60)), some (.int r1), some (.int ((gA s1 75 60) + 1))]) (st' := []) (σ' := s1) (by decide +kernel) rfl rfl ?_
        refine g_wk (lo' := [some (.ref 69), some (.ref 75), none, none, some (.int r1), none, some (.int r1), some (.int ((gA s1 75 60) + 1))]) ⟨rfl, ⟨rfl, ⟨rfl, ⟨rfl, ⟨rfl, trivial⟩⟩⟩⟩⟩ ?_
        refine s_m_strideOn_69_75_L62 hx hc hr N _ _ _ _ h
      · have h := ok_f h c42
        refine g_run hx [(.aload_n 1, 0, 0), (.bipush 60, 60, 0), (.iaload, 0, 0)] (pc' := 49) (lo' := [some (.ref 69), some (.ref 75), some (.int v2), some (.int v3), some (.int r1), some (.int (gA s1 75 60)), none, none]) (st' := [.int (gA s1 75 60)]) (σ' := s1) (by decide +kernel) rfl rfl ?_
        refine g_goto hx (off := 5) (tgt := 54) (by decide +kernel) (by decide) ?_
        refine g_run hx [(.istore 6, 0, 0), (.iload 5, 0, 0), (.iconst 1, 1, 0), (.iadd, 0, 0), (.istore 7, 0, 0)] (pc' := 62) (lo' := [some (.ref 69), some (.ref 75), some (.int v2), some (.int v3), some (.int r1), some (.int (gA s1 75 60)), some (.int (gA s1 75 60)), some (.int ((gA s1 75 60) + 1))]) (st' := []) (σ' := s1) (by decide +kernel) rfl rfl ?_
        refine g_wk (lo' := [some (.ref 69), some (.ref 75), none, none, some (.int r1), none, some (.int (gA s1 75 60)), some (.int ((gA s1 75 60) + 1))]) ⟨rfl, ⟨rfl, ⟨rfl, ⟨rfl, ⟨rfl, trivial⟩⟩⟩⟩⟩ ?_
        refine s_m_strideOn_69_75_L62 hx hc hr N _ _ _ _ h
    · have h := ok_f h c22
      refine g_run hx [(.iload 4, 0, 0)] (pc' := 27) (lo' := [some (.ref 69), some (.ref 75), some (.int v2), some (.int v3), some (.int r1), none, none, none]) (st' := [.int r1]) (σ' := s1) (by decide +kernel) rfl rfl ?_
      refine g_goto hx (off := 7) (tgt := 34) (by decide +kernel) (by decide) ?_
      refine g_run hx [(.istore 5, 0, 0), (.iload 4, 0, 0), (.aload_n 1, 0, 0), (.bipush 60, 60, 0), (.iaload, 0, 0)] (pc' := 42) (lo' := [some (.ref 69), some (.ref 75), some (.int v2), some (.int v3), some (.int r1), some (.int r1), none, none]) (st' := [.int (gA s1 75 60), .int r1]) (σ' := s1) (by decide +kernel) rfl rfl ?_
      refine g_ic_ge hx (off := 10) (tgt := 52) (by decide +kernel) (by decide) (fun c42 => ?_) (fun c42 => ?_)
      · have h := ok_t h c42
        refine g_run hx [(.iload 4, 0, 0), (.istore 6, 0, 0), (.iload 5, 0, 0), (.iconst 1, 1, 0), (.iadd, 0, 0), (.istore 7, 0, 0)] (pc' := 62) (lo' := [some (.ref 69), some (.ref 75), some (.int v2), some (.int v3), some (.int r1), some (.int r1), some (.int r1), some (.int (r1 + 1))]) (st' := []) (σ' := s1) (by decide +kernel) rfl rfl ?_
        refine g_wk (lo' := [some (.ref 69), some (.ref 75), none, none, some (.int r1), none, some (.int r1), some (.int (r1 + 1))]) ⟨rfl, ⟨rfl, ⟨rfl, ⟨rfl, ⟨rfl, trivial⟩⟩⟩⟩⟩ ?_
        refine s_m_strideOn_69_75_L62 hx hc hr N _ _ _ _ h
      · have h := ok_f h c42
        refine g_run hx [(.aload_n 1, 0, 0), (.bipush 60, 60, 0), (.iaload, 0, 0)] (pc' := 49) (lo' := [some (.ref 69), some (.ref 75), some (.int v2), some (.int v3), some (.int r1), some (.int r1), none, none]) (st' := [.int (gA s1 75 60)]) (σ' := s1) (by decide +kernel) rfl rfl ?_
        refine g_goto hx (off := 5) (tgt := 54) (by decide +kernel) (by decide) ?_
        refine g_run hx [(.istore 6, 0, 0), (.iload 5, 0, 0), (.iconst 1, 1, 0), (.iadd, 0, 0), (.istore 7, 0, 0)] (pc' := 62) (lo' := [some (.ref 69), some (.ref 75), some (.int v2), some (.int v3), some (.int r1), some (.int r1), some (.int (gA s1 75 60)), some (.int (r1 + 1))]) (st' := []) (σ' := s1) (by decide +kernel) rfl rfl ?_
        refine g_wk (lo' := [some (.ref 69), some (.ref 75), none, none, some (.int r1), none, some (.int (gA s1 75 60)), some (.int (r1 + 1))]) ⟨rfl, ⟨rfl, ⟨rfl, ⟨rfl, ⟨rfl, trivial⟩⟩⟩⟩⟩ ?_
        refine s_m_strideOn_69_75_L62 hx hc hr N _ _ _ _ h
  · have h := ok_f h c11
    refine g_run hx [(.iconst 0, 0, 0)] (pc' := 15) (lo' := [some (.ref 69), some (.ref 75), some (.int v2), some (.int v3), some (.int r1), none, none, none]) (st' := [.int 0]) (σ' := s1) (by decide +kernel) rfl rfl ?_
    exact g_zret (b := false) hx hr rfl false rfl (by decide +kernel) (ok_some h)
def f_m_wrongBy_L40 (N : Nat) : Nat → Int32 → Int32 → Int32 → Int32 → Sg → (Int32 → Int32 → Int32 → Sg → Option (Int32 × Sg)) → Option (Int32 × Sg)
  | 0, _, _, _, _, _, _ => none
  | n + 1, v1, v2, v3, v4, σ, k86 =>
    if (gA σ 69 5) ≤ v4 then
      k86 v1 v2 v3 σ
    else
      (f_m_hasBit N v1 v4 σ).bind fun q2 =>
      if q2.1 = true then
        if vin (32 + v4) 189 then
        if (gA q2.2 69 (32 + v4)) = (v2 + 1) then
          f_m_wrongBy_L40 N n v1 v2 (v3 ^^^ 1) (v4 + 1) q2.2 k86
        else
          f_m_wrongBy_L40 N n v1 v2 v3 (v4 + 1) q2.2 k86
        else none
      else
        f_m_wrongBy_L40 N n v1 v2 v3 (v4 + 1) q2.2 k86
def f_m_wrongBy_L17 (N : Nat) : Nat → Int32 → Int32 → Sg → (Sg → Option (Int32 × Sg)) → Option (Int32 × Sg)
  | 0, _, _, _, _ => none
  | n + 1, v1, v2, σ, k116 =>
    if (gA σ 69 4) ≤ v2 then
      k116 σ
    else
      if vin (24 + v2) 189 then
      f_m_wrongBy_L40 N N v1 v2 (gA σ 69 (24 + v2)) 0 σ
        (fun (w1 : Int32) (w2 : Int32) (w3 : Int32) (t3 : Sg) =>
          (f_m_strideOn N 75 63 189 69 (w3 / 2) (w3 - w3 / 2 * 2) t3).bind fun q4 =>
          if q4.1 = true then
            f_m_wrongBy_L17 N n w1 (w2 + 1) q4.2 k116
          else
            some (100000000, q4.2))
      else none
def f_m_wrongBy_L118 (N : Nat) : Nat → Int32 → Sg → Option (Int32 × Sg)
  | 0, _, _ => none
  | n + 1, v2, σ =>
    if (gA σ 69 6) ≤ v2 then
      some ((-2), σ)
    else
      if vin (36 + (2 * v2)) 189 then
      if vin (gA σ 69 (36 + (2 * v2))) 63 then
      if vin ((36 + (2 * v2)) + 1) 189 then
      if (b2i (decide (¬ ((gA σ 75 (gA σ 69 (36 + (2 * v2)))) ≤ 0)))) = (gA σ 69 ((36 + (2 * v2)) + 1)) then
        f_m_wrongBy_L118 N n (v2 + 1) σ
      else
        some (v2, σ)
      else none
      else none
      else none
def f_m_wrongBy (N : Nat) (v1 : Int32) (σ : Sg) : Option (Int32 × Sg) :=
  (f_m_copy N 63 63 75 71 0 0 63 σ).bind fun q1 =>
  f_m_wrongBy_L17 N N v1 0 q1.2
    (fun (t5 : Sg) =>
      f_m_wrongBy_L118 N N 0 t5)
set_option maxRecDepth 100000 in
theorem s_m_wrongBy_L40 {y : EX} {N : Nat} {x : CX} {P : Int32 × Sg → Prop} (hx : Cx 10 prog_12_method_100_code x) (hc : Cc y 5 3 x) (hr : Cr M_m_wrongBy rvI P x) : ∀ (n : Nat) (v1 : Int32) (v2 : Int32) (v3 : Int32) (v4 : Int32) (σ : Sg) (k86 : Int32 → Int32 → Int32 → Sg → Option (Int32 × Sg)) (hk86 : ∀ (w1 : Int32) (w2 : Int32) (w3 : Int32) (t : Sg), ok (k86 w1 w2 w3 t) P → G x 86 [some (.ref 66), some (.int w1), some (.int w2), some (.int w3), none] [] t), ok (f_m_wrongBy_L40 N n v1 v2 v3 v4 σ k86) P → G x 40 [some (.ref 66), some (.int v1), some (.int v2), some (.int v3), some (.int v4)] [] σ := by
  intro n
  induction n with
  | zero => intro v1 v2 v3 v4 σ k86 hk86 h; exact ok_none h
  | succ n ih =>
    intro v1 v2 v3 v4 σ k86 hk86 h
    rw [f_m_wrongBy_L40] at h
    refine g_run hx [(.iload 4, 0, 0), (.aload_n 0, 0, 0), (.getfield 20, 0, 0), (.iconst 5, 5, 0), (.iaload, 0, 0)] (pc' := 48) (lo' := [some (.ref 66), some (.int v1), some (.int v2), some (.int v3), some (.int v4)]) (st' := [.int (gA σ 69 5), .int v4]) (σ' := σ) (by decide +kernel) rfl rfl ?_
    refine g_ic_ge hx (off := 38) (tgt := 86) (by decide +kernel) (by decide) (fun c48 => ?_) (fun c48 => ?_)
    · have h := ok_t h c48
      refine g_wk (lo' := [some (.ref 66), some (.int v1), some (.int v2), some (.int v3), none]) ⟨rfl, ⟨rfl, ⟨rfl, ⟨rfl, trivial⟩⟩⟩⟩ ?_
      exact hk86 _ _ _ _ h
    · have h := ok_f h c48
      refine g_run hx [(.iload_n 1, 0, 0), (.iload 4, 0, 0)] (pc' := 54) (lo' := [some (.ref 66), some (.int v1), some (.int v2), some (.int v3), some (.int v4)]) (st' := [.int v4, .int v1]) (σ' := σ) (by decide +kernel) rfl rfl ?_
      refine g_callS (rest := []) [.int v1, .int v4] hx hc mk_m_hasBit ln_10_384 (by decide +kernel) (by decide) (Nat.le_of_ble_eq_true rfl) (s_m_hasBit (ok_b h)) (fun r2 s2 h => ?_)
      refine g_ifb_eq hx (off := 23) (tgt := 80) (by decide +kernel) (by decide) (fun c57 => ?_) (fun c57 => ?_)
      · have h := ok_f h c57
        refine g_run hx [(.iinc 4 1, 1, 0)] (pc' := 83) (lo' := [some (.ref 66), some (.int v1), some (.int v2), some (.int v3), some (.int (v4 + 1))]) (st' := []) (σ' := s2) (by decide +kernel) rfl rfl ?_
        refine g_goto hx (off := (-43)) (tgt := 40) (by decide +kernel) (by decide) ?_
        exact ih _ _ _ _ _ _ hk86 h
      · have h := ok_t h c57
        refine g_run hx [(.aload_n 0, 0, 0), (.getfield 20, 0, 0), (.bipush 32, 32, 0), (.iload 4, 0, 0), (.iadd, 0, 0)] (pc' := 69) (lo' := [some (.ref 66), some (.int v1), some (.int v2), some (.int v3), some (.int v4)]) (st' := [.int (32 + v4), .ref 69]) (σ' := s2) (by decide +kernel) rfl rfl ?_
        obtain ⟨c69, h⟩ := ok_g h
        refine g_iald hx (by decide +kernel) (i := 69) (n := 189) rfl c69 ?_
        refine g_run hx [(.iload_n 2, 0, 0), (.iconst 1, 1, 0), (.iadd, 0, 0)] (pc' := 73) (lo' := [some (.ref 66), some (.int v1), some (.int v2), some (.int v3), some (.int v4)]) (st' := [.int (v2 + 1), .int (gA s2 69 (32 + v4))]) (σ' := s2) (by decide +kernel) rfl rfl ?_
        refine g_ic_ne hx (off := 7) (tgt := 80) (by decide +kernel) (by decide) (fun c73 => ?_) (fun c73 => ?_)
        · have h := ok_f h c73
          refine g_run hx [(.iinc 4 1, 1, 0)] (pc' := 83) (lo' := [some (.ref 66), some (.int v1), some (.int v2), some (.int v3), some (.int (v4 + 1))]) (st' := []) (σ' := s2) (by decide +kernel) rfl rfl ?_
          refine g_goto hx (off := (-43)) (tgt := 40) (by decide +kernel) (by decide) ?_
          exact ih _ _ _ _ _ _ hk86 h
        · have h := ok_t h c73
          refine g_run hx [(.iload_n 3, 0, 0), (.iconst 1, 1, 0), (.ixor, 0, 0), (.istore_n 3, 0, 0), (.iinc 4 1, 1, 0)] (pc' := 83) (lo' := [some (.ref 66), some (.int v1), some (.int v2), some (.int (v3 ^^^ 1)), some (.int (v4 + 1))]) (st' := []) (σ' := s2) (by decide +kernel) rfl rfl ?_
          refine g_goto hx (off := (-43)) (tgt := 40) (by decide +kernel) (by decide) ?_
          exact ih _ _ _ _ _ _ hk86 h
set_option maxRecDepth 100000 in
theorem s_m_wrongBy_L17 {y : EX} {N : Nat} {x : CX} {P : Int32 × Sg → Prop} (hx : Cx 10 prog_12_method_100_code x) (hc : Cc y 5 3 x) (hr : Cr M_m_wrongBy rvI P x) : ∀ (n : Nat) (v1 : Int32) (v2 : Int32) (σ : Sg) (k116 : Sg → Option (Int32 × Sg)) (hk116 : ∀ (t : Sg), ok (k116 t) P → G x 116 [some (.ref 66), none, none, none, none] [] t), ok (f_m_wrongBy_L17 N n v1 v2 σ k116) P → G x 17 [some (.ref 66), some (.int v1), some (.int v2), none, none] [] σ := by
  intro n
  induction n with
  | zero => intro v1 v2 σ k116 hk116 h; exact ok_none h
  | succ n ih =>
    intro v1 v2 σ k116 hk116 h
    rw [f_m_wrongBy_L17] at h
    refine g_run hx [(.iload_n 2, 0, 0), (.aload_n 0, 0, 0), (.getfield 20, 0, 0), (.iconst 4, 4, 0), (.iaload, 0, 0)] (pc' := 24) (lo' := [some (.ref 66), some (.int v1), some (.int v2), none, none]) (st' := [.int (gA σ 69 4), .int v2]) (σ' := σ) (by decide +kernel) rfl rfl ?_
    refine g_ic_ge hx (off := 92) (tgt := 116) (by decide +kernel) (by decide) (fun c24 => ?_) (fun c24 => ?_)
    · have h := ok_t h c24
      refine g_wk (lo' := [some (.ref 66), none, none, none, none]) ⟨rfl, trivial⟩ ?_
      exact hk116 _ h
    · have h := ok_f h c24
      refine g_run hx [(.aload_n 0, 0, 0), (.getfield 20, 0, 0), (.bipush 24, 24, 0), (.iload_n 2, 0, 0), (.iadd, 0, 0)] (pc' := 35) (lo' := [some (.ref 66), some (.int v1), some (.int v2), none, none]) (st' := [.int (24 + v2), .ref 69]) (σ' := σ) (by decide +kernel) rfl rfl ?_
      obtain ⟨c35, h⟩ := ok_g h
      refine g_iald hx (by decide +kernel) (i := 69) (n := 189) rfl c35 ?_
      refine g_run hx [(.istore_n 3, 0, 0), (.iconst 0, 0, 0), (.istore 4, 0, 0)] (pc' := 40) (lo' := [some (.ref 66), some (.int v1), some (.int v2), some (.int (gA σ 69 (24 + v2))), some (.int 0)]) (st' := []) (σ' := σ) (by decide +kernel) rfl rfl ?_
      refine s_m_wrongBy_L40 hx hc hr N _ _ _ _ _ _ (fun w1 w2 w3 t3 h => ?_) h
      refine g_run hx [(.aload_n 0, 0, 0), (.getfield 20, 0, 0), (.aload_n 0, 0, 0), (.getfield 38, 0, 0), (.iload_n 3, 0, 0), (.iconst 2, 2, 0), (.idiv, 0, 0), (.iload_n 3, 0, 0), (.iconst 2, 2, 0), (.irem, 0, 0)] (pc' := 100) (lo' := [some (.ref 66), some (.int w1), some (.int w2), some (.int w3), none]) (st' := [.int (w3 - w3 / 2 * 2), .int (w3 / 2), .ref 75, .ref 69]) (σ' := t3) (by decide +kernel) rfl rfl ?_
      refine g_callS (rest := []) [.ref 69, .ref 75, .int (w3 / 2), .int (w3 - w3 / 2 * 2)] hx hc mk_m_strideOn ln_10_253 (by decide +kernel) (by decide) (Nat.le_of_ble_eq_true rfl) (s_m_strideOn_69_75 (ok_b h)) (fun r4 s4 h => ?_)
      refine g_ifb_ne hx (off := 7) (tgt := 110) (by decide +kernel) (by decide) (fun c103 => ?_) (fun c103 => ?_)
      · have h := ok_t h c103
        refine g_run hx [(.iinc 2 1, 1, 0)] (pc' := 113) (lo' := [some (.ref 66), some (.int w1), some (.int (w2 + 1)), some (.int w3), none]) (st' := []) (σ' := s4) (by decide +kernel) rfl rfl ?_
        refine g_goto hx (off := (-96)) (tgt := 17) (by decide +kernel) (by decide) ?_
        refine g_wk (lo' := [some (.ref 66), some (.int w1), some (.int (w2 + 1)), none, none]) ⟨rfl, ⟨rfl, ⟨rfl, trivial⟩⟩⟩ ?_
        exact ih _ _ _ _ hk116 h
      · have h := ok_f h c103
        refine g_run hx [(.ldc_w 313, 100000000, 0)] (pc' := 109) (lo' := [some (.ref 66), some (.int w1), some (.int w2), some (.int w3), none]) (st' := [.int 100000000]) (σ' := s4) (by decide +kernel) rfl rfl ?_
        exact g_iret hx hr rfl _ rfl (by decide +kernel) (ok_some h)
set_option maxRecDepth 100000 in
theorem s_m_wrongBy_L118 {y : EX} {N : Nat} {x : CX} {P : Int32 × Sg → Prop} (hx : Cx 10 prog_12_method_100_code x) (hc : Cc y 5 3 x) (hr : Cr M_m_wrongBy rvI P x) : ∀ (n : Nat) (v2 : Int32) (σ : Sg), ok (f_m_wrongBy_L118 N n v2 σ) P → G x 118 [some (.ref 66), none, some (.int v2), none, none] [] σ := by
  intro n
  induction n with
  | zero => intro v2 σ h; exact ok_none h
  | succ n ih =>
    intro v2 σ h
    rw [f_m_wrongBy_L118] at h
    refine g_run hx [(.iload_n 2, 0, 0), (.aload_n 0, 0, 0), (.getfield 20, 0, 0), (.bipush 6, 6, 0), (.iaload, 0, 0)] (pc' := 126) (lo' := [some (.ref 66), none, some (.int v2), none, none]) (st' := [.int (gA σ 69 6), .int v2]) (σ' := σ) (by decide +kernel) rfl rfl ?_
    refine g_ic_ge hx (off := 51) (tgt := 177) (by decide +kernel) (by decide) (fun c126 => ?_) (fun c126 => ?_)
    · have h := ok_t h c126
      refine g_run hx [(.bipush (-2), (-2), 0)] (pc' := 179) (lo' := [some (.ref 66), none, some (.int v2), none, none]) (st' := [.int (-2)]) (σ' := σ) (by decide +kernel) rfl rfl ?_
      exact g_iret hx hr rfl _ rfl (by decide +kernel) (ok_some h)
    · have h := ok_f h c126
      refine g_run hx [(.aload_n 0, 0, 0), (.getfield 38, 0, 0), (.aload_n 0, 0, 0), (.getfield 20, 0, 0), (.bipush 36, 36, 0), (.iconst 2, 2, 0), (.iload_n 2, 0, 0), (.imul, 0, 0), (.iadd, 0, 0)] (pc' := 143) (lo' := [some (.ref 66), none, some (.int v2), none, none]) (st' := [.int (36 + (2 * v2)), .ref 69, .ref 75]) (σ' := σ) (by decide +kernel) rfl rfl ?_
      obtain ⟨c143, h⟩ := ok_g h
      refine g_iald hx (by decide +kernel) (i := 69) (n := 189) rfl c143 ?_
      obtain ⟨c144, h⟩ := ok_g h
      refine g_iald hx (by decide +kernel) (i := 75) (n := 63) rfl c144 ?_
      have hm : G x 153 [some (.ref 66), none, some (.int v2), none, none] [.int (b2i (decide (¬ ((gA σ 75 (gA σ 69 (36 + (2 * v2)))) ≤ 0))))] σ := by
        refine g_run hx [(.aload_n 0, 0, 0), (.getfield 20, 0, 0), (.bipush 36, 36, 0), (.iconst 2, 2, 0), (.iload_n 2, 0, 0), (.imul, 0, 0), (.iadd, 0, 0), (.iconst 1, 1, 0), (.iadd, 0, 0)] (pc' := 165) (lo' := [some (.ref 66), none, some (.int v2), none, none]) (st' := [.int ((36 + (2 * v2)) + 1), .ref 69, .int (b2i (decide (¬ ((gA σ 75 (gA σ 69 (36 + (2 * v2)))) ≤ 0))))]) (σ' := σ) (by decide +kernel) rfl rfl ?_
        obtain ⟨c165, h⟩ := ok_g h
        refine g_iald hx (by decide +kernel) (i := 69) (n := 189) rfl c165 ?_
        refine g_ic_eq hx (off := 5) (tgt := 171) (by decide +kernel) (by decide) (fun c166 => ?_) (fun c166 => ?_)
        · have h := ok_t h c166
          refine g_run hx [(.iinc 2 1, 1, 0)] (pc' := 174) (lo' := [some (.ref 66), none, some (.int (v2 + 1)), none, none]) (st' := []) (σ' := σ) (by decide +kernel) rfl rfl ?_
          refine g_goto hx (off := (-56)) (tgt := 118) (by decide +kernel) (by decide) ?_
          exact ih _ _ h
        · have h := ok_f h c166
          refine g_run hx [(.iload_n 2, 0, 0)] (pc' := 170) (lo' := [some (.ref 66), none, some (.int v2), none, none]) (st' := [.int v2]) (σ' := σ) (by decide +kernel) rfl rfl ?_
          exact g_iret hx hr rfl _ rfl (by decide +kernel) (ok_some h)
      refine g_if_le hx (off := 7) (tgt := 152) (by decide +kernel) (by decide) (fun c145 => ?_) (fun c145 => ?_)
      · refine g_run hx [(.iconst 0, 0, 0)] (pc' := 153) (lo' := [some (.ref 66), none, some (.int v2), none, none]) (st' := [.int 0]) (σ' := σ) (by decide +kernel) rfl rfl ?_
        exact g_bf (fun z => z c145) hm
      · refine g_run hx [(.iconst 1, 1, 0)] (pc' := 149) (lo' := [some (.ref 66), none, some (.int v2), none, none]) (st' := [.int 1]) (σ' := σ) (by decide +kernel) rfl rfl ?_
        refine g_goto hx (off := 4) (tgt := 153) (by decide +kernel) (by decide) ?_
        exact g_bt c145 hm
set_option maxRecDepth 100000 in
theorem s_m_wrongBy {y : EX} {N : Nat} {v1 : Int32} {σ : Sg} {P : Int32 × Sg → Prop} (h : ok (f_m_wrongBy N v1 σ) P) : Ev y M_m_wrongBy 3 [.ref 66, .int v1] σ rvI P := by
  refine Ev.of mk_m_wrongBy (Nat.le_of_ble_eq_true rfl) (fun x hx hc hr => ?_)
  have hx : Cx 10 prog_12_method_100_code x := hx
  have hc : Cc y 5 3 x := hc
  show G x 0 [some (.ref 66), some (.int v1), none, none, none] [] σ
  unfold f_m_wrongBy at h
  refine g_run hx [(.aload_n 0, 0, 0), (.getfield 26, 0, 0), (.iconst 0, 0, 0), (.aload_n 0, 0, 0), (.getfield 38, 0, 0), (.iconst 0, 0, 0), (.bipush 63, 63, 0)] (pc' := 12) (lo' := [some (.ref 66), some (.int v1), none, none, none]) (st' := [.int 63, .int 0, .ref 75, .int 0, .ref 71]) (σ' := σ) (by decide +kernel) rfl rfl ?_
  refine g_callS (rest := []) [.ref 71, .int 0, .ref 75, .int 0, .int 63] hx hc mk_m_copy ln_10_183 (by decide +kernel) (by decide) (Nat.le_of_ble_eq_true rfl) (s_m_copy_71_75 (ok_b h)) (fun r1 s1 h => ?_)
  refine g_run hx [(.iconst 0, 0, 0), (.istore_n 2, 0, 0)] (pc' := 17) (lo' := [some (.ref 66), some (.int v1), some (.int 0), none, none]) (st' := []) (σ' := s1) (by decide +kernel) rfl rfl ?_
  refine s_m_wrongBy_L17 hx hc hr N _ _ _ _ (fun t5 h => ?_) h
  refine g_run hx [(.iconst 0, 0, 0), (.istore_n 2, 0, 0)] (pc' := 118) (lo' := [some (.ref 66), none, some (.int 0), none, none]) (st' := []) (σ' := t5) (by decide +kernel) rfl rfl ?_
  refine s_m_wrongBy_L118 hx hc hr N _ _ h
def f_m_seekSets_L28 (N : Nat) : Nat → Int32 → Int32 → Int32 → Sg → (Int32 → Int32 → Sg → Option (Int32 × Sg)) → Option (Int32 × Sg)
  | 0, _, _, _, _, _ => none
  | n + 1, v1, v2, v3, σ, k46 =>
    if 4 ≤ v3 then
      k46 v1 v2 σ
    else
      if vin v3 4 then
      f_m_seekSets_L28 N n v1 v2 (v3 + 1) (sA σ 84 v3 0) k46
      else none
def f_m_seekSets_L116 (N : Nat) : Nat → Int32 → Int32 → Int32 → Int32 → Sg → (Int32 → Int32 → Int32 → Sg → Option (Int32 × Sg)) → Option (Int32 × Sg)
  | 0, _, _, _, _, _, _ => none
  | n + 1, v1, v2, v3, v4, σ, k149 =>
    if (gA σ 69 5) ≤ v4 then
      k149 v1 v2 v3 σ
    else
      if vin v4 4 then
      if vin v4 4 then
      f_m_seekSets_L116 N n v1 v2 v3 (v4 + 1) (sA σ 84 v4 ((gA σ 84 v4) + ((v3 >>> (v4 &&& 31)) &&& 1))) k149
      else none
      else none
def f_m_seekSets_L48 (N : Nat) : Nat → Int32 → Int32 → Int32 → Sg → Option (Int32 × Sg)
  | 0, _, _, _, _ => none
  | n + 1, v1, v2, v3, σ =>
    if (1 <<< ((gA σ 69 5) &&& 31)) ≤ v3 then
      if (gI σ 66 45) = 0 then
        some (v2, sI σ 66 47 0)
      else
        some (v2, σ)
    else
      (f_m_wrongBy N v3 σ).bind fun q2 =>
      if q2.1 = (-2) then
        if (gI q2.2 66 45) = v1 then
          f_m_seekSets_L116 N N v1 v3 v3 0 (sI (sI (sI q2.2 66 45 ((gI q2.2 66 45) + 1)) 66 46 ((gI (sI q2.2 66 45 ((gI q2.2 66 45) + 1)) 66 46) ||| v3)) 66 47 ((gI (sI (sI q2.2 66 45 ((gI q2.2 66 45) + 1)) 66 46 ((gI (sI q2.2 66 45 ((gI q2.2 66 45) + 1)) 66 46) ||| v3)) 66 47) &&& v3))
            (fun (w1 : Int32) (w2 : Int32) (w3 : Int32) (t4 : Sg) =>
              f_m_seekSets_L48 N n w1 w2 (w3 + 1) t4)
        else
          f_m_seekSets_L116 N N v1 v2 v3 0 (sI (sI (sI q2.2 66 45 ((gI q2.2 66 45) + 1)) 66 46 ((gI (sI q2.2 66 45 ((gI q2.2 66 45) + 1)) 66 46) ||| v3)) 66 47 ((gI (sI (sI q2.2 66 45 ((gI q2.2 66 45) + 1)) 66 46 ((gI (sI q2.2 66 45 ((gI q2.2 66 45) + 1)) 66 46) ||| v3)) 66 47) &&& v3))
            (fun (w1 : Int32) (w2 : Int32) (w3 : Int32) (t3 : Sg) =>
              f_m_seekSets_L48 N n w1 w2 (w3 + 1) t3)
      else
        f_m_seekSets_L48 N n v1 v2 (v3 + 1) q2.2
def f_m_seekSets (N : Nat) (v1 : Int32) (σ : Sg) : Option (Int32 × Sg) :=
  f_m_seekSets_L28 N N v1 (-1) 0 (sI (sI (sI σ 66 45 0) 66 46 0) 66 47 ((1 <<< ((gA (sI (sI σ 66 45 0) 66 46 0) 69 5) &&& 31)) - 1))
    (fun (w1 : Int32) (w2 : Int32) (t1 : Sg) =>
      f_m_seekSets_L48 N N w1 w2 0 t1)
set_option maxRecDepth 100000 in
theorem s_m_seekSets_L28 {y : EX} {N : Nat} {x : CX} {P : Int32 × Sg → Prop} (hx : Cx 10 prog_12_method_101_code x) (hc : Cc y 5 4 x) (hr : Cr M_m_seekSets rvI P x) : ∀ (n : Nat) (v1 : Int32) (v2 : Int32) (v3 : Int32) (σ : Sg) (k46 : Int32 → Int32 → Sg → Option (Int32 × Sg)) (hk46 : ∀ (w1 : Int32) (w2 : Int32) (t : Sg), ok (k46 w1 w2 t) P → G x 46 [some (.ref 66), some (.int w1), some (.int w2), none, none] [] t), ok (f_m_seekSets_L28 N n v1 v2 v3 σ k46) P → G x 28 [some (.ref 66), some (.int v1), some (.int v2), some (.int v3), none] [] σ := by
  intro n
  induction n with
  | zero => intro v1 v2 v3 σ k46 hk46 h; exact ok_none h
  | succ n ih =>
    intro v1 v2 v3 σ k46 hk46 h
    rw [f_m_seekSets_L28] at h
    refine g_run hx [(.iload_n 3, 0, 0), (.iconst 4, 4, 0)] (pc' := 30) (lo' := [some (.ref 66), some (.int v1), some (.int v2), some (.int v3), none]) (st' := [.int 4, .int v3]) (σ' := σ) (by decide +kernel) rfl rfl ?_
    refine g_ic_ge hx (off := 16) (tgt := 46) (by decide +kernel) (by decide) (fun c30 => ?_) (fun c30 => ?_)
    · have h := ok_t h c30
      refine g_wk (lo' := [some (.ref 66), some (.int v1), some (.int v2), none, none]) ⟨rfl, ⟨rfl, ⟨rfl, trivial⟩⟩⟩ ?_
      exact hk46 _ _ _ h
    · have h := ok_f h c30
      refine g_run hx [(.aload_n 0, 0, 0), (.getfield 65, 0, 0), (.iload_n 3, 0, 0), (.iconst 0, 0, 0)] (pc' := 39) (lo' := [some (.ref 66), some (.int v1), some (.int v2), some (.int v3), none]) (st' := [.int 0, .int v3, .ref 84]) (σ' := σ) (by decide +kernel) rfl rfl ?_
      obtain ⟨c39, h⟩ := ok_g h
      refine g_iast hx (by decide +kernel) (i := 84) (n := 4) rfl c39 ?_
      refine g_run hx [(.iinc 3 1, 1, 0)] (pc' := 43) (lo' := [some (.ref 66), some (.int v1), some (.int v2), some (.int (v3 + 1)), none]) (st' := []) (σ' := sA σ 84 v3 0) (by decide +kernel) rfl rfl ?_
      refine g_goto hx (off := (-15)) (tgt := 28) (by decide +kernel) (by decide) ?_
      exact ih _ _ _ _ _ hk46 h
set_option maxRecDepth 100000 in
theorem s_m_seekSets_L116 {y : EX} {N : Nat} {x : CX} {P : Int32 × Sg → Prop} (hx : Cx 10 prog_12_method_101_code x) (hc : Cc y 5 4 x) (hr : Cr M_m_seekSets rvI P x) : ∀ (n : Nat) (v1 : Int32) (v2 : Int32) (v3 : Int32) (v4 : Int32) (σ : Sg) (k149 : Int32 → Int32 → Int32 → Sg → Option (Int32 × Sg)) (hk149 : ∀ (w1 : Int32) (w2 : Int32) (w3 : Int32) (t : Sg), ok (k149 w1 w2 w3 t) P → G x 149 [some (.ref 66), some (.int w1), some (.int w2), some (.int w3), none] [] t), ok (f_m_seekSets_L116 N n v1 v2 v3 v4 σ k149) P → G x 116 [some (.ref 66), some (.int v1), some (.int v2), some (.int v3), some (.int v4)] [] σ := by
  intro n
  induction n with
  | zero => intro v1 v2 v3 v4 σ k149 hk149 h; exact ok_none h
  | succ n ih =>
    intro v1 v2 v3 v4 σ k149 hk149 h
    rw [f_m_seekSets_L116] at h
    refine g_run hx [(.iload 4, 0, 0), (.aload_n 0, 0, 0), (.getfield 20, 0, 0), (.iconst 5, 5, 0), (.iaload, 0, 0)] (pc' := 124) (lo' := [some (.ref 66), some (.int v1), some (.int v2), some (.int v3), some (.int v4)]) (st' := [.int (gA σ 69 5), .int v4]) (σ' := σ) (by decide +kernel) rfl rfl ?_
    refine g_ic_ge hx (off := 25) (tgt := 149) (by decide +kernel) (by decide) (fun c124 => ?_) (fun c124 => ?_)
    · have h := ok_t h c124
      refine g_wk (lo' := [some (.ref 66), some (.int v1), some (.int v2), some (.int v3), none]) ⟨rfl, ⟨rfl, ⟨rfl, ⟨rfl, trivial⟩⟩⟩⟩ ?_
      exact hk149 _ _ _ _ h
    · have h := ok_f h c124
      refine g_run hx [(.aload_n 0, 0, 0), (.getfield 65, 0, 0), (.iload 4, 0, 0), (.dup2, 0, 0)] (pc' := 134) (lo' := [some (.ref 66), some (.int v1), some (.int v2), some (.int v3), some (.int v4)]) (st' := [.int v4, .ref 84, .int v4, .ref 84]) (σ' := σ) (by decide +kernel) rfl rfl ?_
      obtain ⟨c134, h⟩ := ok_g h
      refine g_iald hx (by decide +kernel) (i := 84) (n := 4) rfl c134 ?_
      refine g_run hx [(.iload_n 3, 0, 0), (.iload 4, 0, 0), (.ishr, 0, 0), (.iconst 1, 1, 0), (.iand, 0, 0), (.iadd, 0, 0)] (pc' := 142) (lo' := [some (.ref 66), some (.int v1), some (.int v2), some (.int v3), some (.int v4)]) (st' := [.int ((gA σ 84 v4) + ((v3 >>> (v4 &&& 31)) &&& 1)), .int v4, .ref 84]) (σ' := σ) (by decide +kernel) rfl rfl ?_
      obtain ⟨c142, h⟩ := ok_g h
      refine g_iast hx (by decide +kernel) (i := 84) (n := 4) rfl c142 ?_
      refine g_run hx [(.iinc 4 1, 1, 0)] (pc' := 146) (lo' := [some (.ref 66), some (.int v1), some (.int v2), some (.int v3), some (.int (v4 + 1))]) (st' := []) (σ' := sA σ 84 v4 ((gA σ 84 v4) + ((v3 >>> (v4 &&& 31)) &&& 1))) (by decide +kernel) rfl rfl ?_
      refine g_goto hx (off := (-30)) (tgt := 116) (by decide +kernel) (by decide) ?_
      exact ih _ _ _ _ _ _ hk149 h
set_option maxRecDepth 100000 in
theorem s_m_seekSets_L48 {y : EX} {N : Nat} {x : CX} {P : Int32 × Sg → Prop} (hx : Cx 10 prog_12_method_101_code x) (hc : Cc y 5 4 x) (hr : Cr M_m_seekSets rvI P x) : ∀ (n : Nat) (v1 : Int32) (v2 : Int32) (v3 : Int32) (σ : Sg), ok (f_m_seekSets_L48 N n v1 v2 v3 σ) P → G x 48 [some (.ref 66), some (.int v1), some (.int v2), some (.int v3), none] [] σ := by
  intro n
  induction n with
  | zero => intro v1 v2 v3 σ h; exact ok_none h
  | succ n ih =>
    intro v1 v2 v3 σ h
    rw [f_m_seekSets_L48] at h
    refine g_run hx [(.iload_n 3, 0, 0), (.iconst 1, 1, 0), (.aload_n 0, 0, 0), (.getfield 20, 0, 0), (.iconst 5, 5, 0), (.iaload, 0, 0), (.ishl, 0, 0)] (pc' := 57) (lo' := [some (.ref 66), some (.int v1), some (.int v2), some (.int v3), none]) (st' := [.int (1 <<< ((gA σ 69 5) &&& 31)), .int v3]) (σ' := σ) (by decide +kernel) rfl rfl ?_
    refine g_ic_ge hx (off := 98) (tgt := 155) (by decide +kernel) (by decide) (fun c57 => ?_) (fun c57 => ?_)
    · have h := ok_t h c57
      refine g_run hx [(.aload_n 0, 0, 0), (.getfield 387, 0, 0)] (pc' := 159) (lo' := [some (.ref 66), some (.int v1), some (.int v2), some (.int v3), none]) (st' := [.int (gI σ 66 45)]) (σ' := σ) (by decide +kernel) rfl rfl ?_
      refine g_if_ne hx (off := 8) (tgt := 167) (by decide +kernel) (by decide) (fun c159 => ?_) (fun c159 => ?_)
      · have h := ok_f h c159
        refine g_run hx [(.iload_n 2, 0, 0)] (pc' := 168) (lo' := [some (.ref 66), some (.int v1), some (.int v2), some (.int v3), none]) (st' := [.int v2]) (σ' := σ) (by decide +kernel) rfl rfl ?_
        exact g_iret hx hr rfl _ rfl (by decide +kernel) (ok_some h)
      · have h := ok_t h c159
        refine g_run hx [(.aload_n 0, 0, 0), (.iconst 0, 0, 0), (.putfield 393, 0, 0), (.iload_n 2, 0, 0)] (pc' := 168) (lo' := [some (.ref 66), some (.int v1), some (.int v2), some (.int v3), none]) (st' := [.int v2]) (σ' := sI σ 66 47 0) (by decide +kernel) rfl rfl ?_
        exact g_iret hx hr rfl _ rfl (by decide +kernel) (ok_some h)
    · have h := ok_f h c57
      refine g_run hx [(.aload_n 0, 0, 0), (.iload_n 3, 0, 0)] (pc' := 62) (lo' := [some (.ref 66), some (.int v1), some (.int v2), some (.int v3), none]) (st' := [.int v3, .ref 66]) (σ' := σ) (by decide +kernel) rfl rfl ?_
      refine g_callV (rest := []) [.int v3] hx hc mk_m_wrongBy ln_10_396 rfl (by decide +kernel) (by decide) (Nat.le_of_ble_eq_true rfl) (s_m_wrongBy (ok_b h)) (fun r2 s2 h => ?_)
      refine g_run hx [(.bipush (-2), (-2), 0)] (pc' := 67) (lo' := [some (.ref 66), some (.int v1), some (.int v2), some (.int v3), none]) (st' := [.int (-2), .int r2]) (σ' := s2) (by decide +kernel) rfl rfl ?_
      refine g_ic_eq hx (off := 6) (tgt := 73) (by decide +kernel) (by decide) (fun c67 => ?_) (fun c67 => ?_)
      · have h := ok_t h c67
        refine g_run hx [(.aload_n 0, 0, 0), (.getfield 387, 0, 0), (.iload_n 1, 0, 0)] (pc' := 78) (lo' := [some (.ref 66), some (.int v1), some (.int v2), some (.int v3), none]) (st' := [.int v1, .int (gI s2 66 45)]) (σ' := s2) (by decide +kernel) rfl rfl ?_
        refine g_ic_ne hx (off := 5) (tgt := 83) (by decide +kernel) (by decide) (fun c78 => ?_) (fun c78 => ?_)
        · have h := ok_f h c78
          refine g_run hx [(.aload_n 0, 0, 0), (.dup, 0, 0), (.getfield 387, 0, 0), (.iconst 1, 1, 0), (.iadd, 0, 0), (.putfield 387, 0, 0), (.aload_n 0, 0, 0), (.dup, 0, 0), (.getfield 390, 0, 0), (.iload_n 3, 0, 0), (.ior, 0, 0), (.putfield 390, 0, 0), (.aload_n 0, 0, 0), (.dup, 0, 0), (.getfield 393, 0, 0), (.iload_n 3, 0, 0), (.iand, 0, 0), (.putfield 393, 0, 0), (.iconst 0, 0, 0), (.istore 4, 0, 0)] (pc' := 116) (lo' := [some (.ref 66), some (.int v1), some (.int v2), some (.int v3), some (.int 0)]) (st' := []) (σ' := sI (sI (sI s2 66 45 ((gI s2 66 45) + 1)) 66 46 ((gI (sI s2 66 45 ((gI s2 66 45) + 1)) 66 46) ||| v3)) 66 47 ((gI (sI (sI s2 66 45 ((gI s2 66 45) + 1)) 66 46 ((gI (sI s2 66 45 ((gI s2 66 45) + 1)) 66 46) ||| v3)) 66 47) &&& v3)) (by decide +kernel) rfl rfl ?_
          refine s_m_seekSets_L116 hx hc hr N _ _ _ _ _ _ (fun w1 w2 w3 t3 h => ?_) h
          refine g_run hx [(.iinc 3 1, 1, 0)] (pc' := 152) (lo' := [some (.ref 66), some (.int w1), some (.int w2), some (.int (w3 + 1)), none]) (st' := []) (σ' := t3) (by decide +kernel) rfl rfl ?_
          refine g_goto hx (off := (-104)) (tgt := 48) (by decide +kernel) (by decide) ?_
          exact ih _ _ _ _ h
        · have h := ok_t h c78
          refine g_run hx [(.iload_n 3, 0, 0), (.istore_n 2, 0, 0), (.aload_n 0, 0, 0), (.dup, 0, 0), (.getfield 387, 0, 0), (.iconst 1, 1, 0), (.iadd, 0, 0), (.putfield 387, 0, 0), (.aload_n 0, 0, 0), (.dup, 0, 0), (.getfield 390, 0, 0), (.iload_n 3, 0, 0), (.ior, 0, 0), (.putfield 390, 0, 0), (.aload_n 0, 0, 0), (.dup, 0, 0), (.getfield 393, 0, 0), (.iload_n 3, 0, 0), (.iand, 0, 0), (.putfield 393, 0, 0), (.iconst 0, 0, 0), (.istore 4, 0, 0)] (pc' := 116) (lo' := [some (.ref 66), some (.int v1), some (.int v3), some (.int v3), some (.int 0)]) (st' := []) (σ' := sI (sI (sI s2 66 45 ((gI s2 66 45) + 1)) 66 46 ((gI (sI s2 66 45 ((gI s2 66 45) + 1)) 66 46) ||| v3)) 66 47 ((gI (sI (sI s2 66 45 ((gI s2 66 45) + 1)) 66 46 ((gI (sI s2 66 45 ((gI s2 66 45) + 1)) 66 46) ||| v3)) 66 47) &&& v3)) (by decide +kernel) rfl rfl ?_
          refine s_m_seekSets_L116 hx hc hr N _ _ _ _ _ _ (fun w1 w2 w3 t4 h => ?_) h
          refine g_run hx [(.iinc 3 1, 1, 0)] (pc' := 152) (lo' := [some (.ref 66), some (.int w1), some (.int w2), some (.int (w3 + 1)), none]) (st' := []) (σ' := t4) (by decide +kernel) rfl rfl ?_
          refine g_goto hx (off := (-104)) (tgt := 48) (by decide +kernel) (by decide) ?_
          exact ih _ _ _ _ h
      · have h := ok_f h c67
        refine g_goto hx (off := 79) (tgt := 149) (by decide +kernel) (by decide) ?_
        refine g_run hx [(.iinc 3 1, 1, 0)] (pc' := 152) (lo' := [some (.ref 66), some (.int v1), some (.int v2), some (.int (v3 + 1)), none]) (st' := []) (σ' := s2) (by decide +kernel) rfl rfl ?_
        refine g_goto hx (off := (-104)) (tgt := 48) (by decide +kernel) (by decide) ?_
        exact ih _ _ _ _ h
set_option maxRecDepth 100000 in
theorem s_m_seekSets {y : EX} {N : Nat} {v1 : Int32} {σ : Sg} {P : Int32 × Sg → Prop} (h : ok (f_m_seekSets N v1 σ) P) : Ev y M_m_seekSets 4 [.ref 66, .int v1] σ rvI P := by
  refine Ev.of mk_m_seekSets (Nat.le_of_ble_eq_true rfl) (fun x hx hc hr => ?_)
  have hx : Cx 10 prog_12_method_101_code x := hx
  have hc : Cc y 5 4 x := hc
  show G x 0 [some (.ref 66), some (.int v1), none, none, none] [] σ
  unfold f_m_seekSets at h
  refine g_run hx [(.iconst (-1), (-1), 0), (.istore_n 2, 0, 0), (.aload_n 0, 0, 0), (.iconst 0, 0, 0), (.putfield 387, 0, 0), (.aload_n 0, 0, 0), (.iconst 0, 0, 0), (.putfield 390, 0, 0), (.aload_n 0, 0, 0), (.iconst 1, 1, 0), (.aload_n 0, 0, 0), (.getfield 20, 0, 0), (.iconst 5, 5, 0), (.iaload, 0, 0), (.ishl, 0, 0), (.iconst 1, 1, 0), (.isub, 0, 0), (.putfield 393, 0, 0), (.iconst 0, 0, 0), (.istore_n 3, 0, 0)] (pc' := 28) (lo' := [some (.ref 66), some (.int v1), some (.int (-1)), some (.int 0), none]) (st' := []) (σ' := sI (sI (sI σ 66 45 0) 66 46 0) 66 47 ((1 <<< ((gA (sI (sI σ 66 45 0) 66 46 0) 69 5) &&& 31)) - 1)) (by decide +kernel) rfl rfl ?_
  refine s_m_seekSets_L28 hx hc hr N _ _ _ _ _ (fun w1 w2 t1 h => ?_) h
  refine g_run hx [(.iconst 0, 0, 0), (.istore_n 3, 0, 0)] (pc' := 48) (lo' := [some (.ref 66), some (.int w1), some (.int w2), some (.int 0), none]) (st' := []) (σ' := t1) (by decide +kernel) rfl rfl ?_
  refine s_m_seekSets_L48 hx hc hr N _ _ _ _ h
def f_m_leavesOf (N : Nat) (v1 : Int32) (σ : Sg) : Option (Int32 × Sg) :=
  if vin v1 4 then
  if vin v1 4 then
  if (gA σ 84 v1) ≤ ((gI σ 66 45) - (gA σ 84 v1)) then
    if vin v1 4 then
    some (((gI σ 66 45) - (gA σ 84 v1)), σ)
    else none
  else
    if vin v1 4 then
    some ((gA σ 84 v1), σ)
    else none
  else none
  else none
set_option maxRecDepth 100000 in
theorem s_m_leavesOf {y : EX} {N : Nat} {v1 : Int32} {σ : Sg} {P : Int32 × Sg → Prop} (h : ok (f_m_leavesOf N v1 σ) P) : Ev y M_m_leavesOf 0 [.ref 66, .int v1] σ rvI P := by
  refine Ev.of mk_m_leavesOf (Nat.le_of_ble_eq_true rfl) (fun x hx hc hr => ?_)
  have hx : Cx 10 prog_12_method_106_code x := hx
  have hc : Cc y 2 0 x := hc
  show G x 0 [some (.ref 66), some (.int v1)] [] σ
  unfold f_m_leavesOf at h
  refine g_run hx [(.aload_n 0, 0, 0), (.getfield 65, 0, 0), (.iload_n 1, 0, 0)] (pc' := 5) (lo' := [some (.ref 66), some (.int v1)]) (st' := [.int v1, .ref 84]) (σ' := σ) (by decide +kernel) rfl rfl ?_
  obtain ⟨c5, h⟩ := ok_g h
  refine g_iald hx (by decide +kernel) (i := 84) (n := 4) rfl c5 ?_
  refine g_run hx [(.aload_n 0, 0, 0), (.getfield 387, 0, 0), (.aload_n 0, 0, 0), (.getfield 65, 0, 0), (.iload_n 1, 0, 0)] (pc' := 15) (lo' := [some (.ref 66), some (.int v1)]) (st' := [.int v1, .ref 84, .int (gI σ 66 45), .int (gA σ 84 v1)]) (σ' := σ) (by decide +kernel) rfl rfl ?_
  obtain ⟨c15, h⟩ := ok_g h
  refine g_iald hx (by decide +kernel) (i := 84) (n := 4) rfl c15 ?_
  refine g_run hx [(.isub, 0, 0)] (pc' := 17) (lo' := [some (.ref 66), some (.int v1)]) (st' := [.int ((gI σ 66 45) - (gA σ 84 v1)), .int (gA σ 84 v1)]) (σ' := σ) (by decide +kernel) rfl rfl ?_
  refine g_ic_le hx (off := 12) (tgt := 29) (by decide +kernel) (by decide) (fun c17 => ?_) (fun c17 => ?_)
  · have h := ok_t h c17
    refine g_run hx [(.aload_n 0, 0, 0), (.getfield 387, 0, 0), (.aload_n 0, 0, 0), (.getfield 65, 0, 0), (.iload_n 1, 0, 0)] (pc' := 38) (lo' := [some (.ref 66), some (.int v1)]) (st' := [.int v1, .ref 84, .int (gI σ 66 45)]) (σ' := σ) (by decide +kernel) rfl rfl ?_
    obtain ⟨c38, h⟩ := ok_g h
    refine g_iald hx (by decide +kernel) (i := 84) (n := 4) rfl c38 ?_
    refine g_run hx [(.isub, 0, 0)] (pc' := 40) (lo' := [some (.ref 66), some (.int v1)]) (st' := [.int ((gI σ 66 45) - (gA σ 84 v1))]) (σ' := σ) (by decide +kernel) rfl rfl ?_
    exact g_iret hx hr rfl _ rfl (by decide +kernel) (ok_some h)
  · have h := ok_f h c17
    refine g_run hx [(.aload_n 0, 0, 0), (.getfield 65, 0, 0), (.iload_n 1, 0, 0)] (pc' := 25) (lo' := [some (.ref 66), some (.int v1)]) (st' := [.int v1, .ref 84]) (σ' := σ) (by decide +kernel) rfl rfl ?_
    obtain ⟨c25, h⟩ := ok_g h
    refine g_iald hx (by decide +kernel) (i := 84) (n := 4) rfl c25 ?_
    refine g_goto hx (off := 14) (tgt := 40) (by decide +kernel) (by decide) ?_
    exact g_iret hx hr rfl _ rfl (by decide +kernel) (ok_some h)
def f_m_askOf_L11 (N : Nat) : Nat → Int32 → Int32 → Sg → Option (Int32 × Sg)
  | 0, _, _, _ => none
  | n + 1, v1, v2, σ =>
    if (gA σ 69 5) ≤ v2 then
      some (v1, σ)
    else
      if (gI σ 66 45) ≤ 0 then
        some (v1, σ)
      else
        if v1 < 0 then
          f_m_askOf_L11 N n v2 (v2 + 1) σ
        else
          (f_m_leavesOf N v2 σ).bind fun q2 =>
          (f_m_leavesOf N v1 q2.2).bind fun q3 =>
          if q3.1 ≤ q2.1 then
            f_m_askOf_L11 N n v1 (v2 + 1) q3.2
          else
            f_m_askOf_L11 N n v2 (v2 + 1) q3.2
def f_m_askOf (N : Nat) (σ : Sg) : Option (Int32 × Sg) :=
  (f_m_seekSets N (-1) σ).bind fun q1 =>
  f_m_askOf_L11 N N (-2) 0 q1.2
set_option maxRecDepth 100000 in
theorem s_m_askOf_L11 {y : EX} {N : Nat} {x : CX} {P : Int32 × Sg → Prop} (hx : Cx 10 prog_12_method_107_code x) (hc : Cc y 3 5 x) (hr : Cr M_m_askOf rvI P x) : ∀ (n : Nat) (v1 : Int32) (v2 : Int32) (σ : Sg), ok (f_m_askOf_L11 N n v1 v2 σ) P → G x 11 [some (.ref 66), some (.int v1), some (.int v2)] [] σ := by
  intro n
  induction n with
  | zero => intro v1 v2 σ h; exact ok_none h
  | succ n ih =>
    intro v1 v2 σ h
    rw [f_m_askOf_L11] at h
    refine g_run hx [(.iload_n 2, 0, 0), (.aload_n 0, 0, 0), (.getfield 20, 0, 0), (.iconst 5, 5, 0), (.iaload, 0, 0)] (pc' := 18) (lo' := [some (.ref 66), some (.int v1), some (.int v2)]) (st' := [.int (gA σ 69 5), .int v2]) (σ' := σ) (by decide +kernel) rfl rfl ?_
    refine g_ic_ge hx (off := 35) (tgt := 53) (by decide +kernel) (by decide) (fun c18 => ?_) (fun c18 => ?_)
    · have h := ok_t h c18
      refine g_run hx [(.iload_n 1, 0, 0)] (pc' := 54) (lo' := [some (.ref 66), some (.int v1), some (.int v2)]) (st' := [.int v1]) (σ' := σ) (by decide +kernel) rfl rfl ?_
      exact g_iret hx hr rfl _ rfl (by decide +kernel) (ok_some h)
    · have h := ok_f h c18
      refine g_run hx [(.aload_n 0, 0, 0), (.getfield 387, 0, 0)] (pc' := 25) (lo' := [some (.ref 66), some (.int v1), some (.int v2)]) (st' := [.int (gI σ 66 45)]) (σ' := σ) (by decide +kernel) rfl rfl ?_
      refine g_if_le hx (off := 28) (tgt := 53) (by decide +kernel) (by decide) (fun c25 => ?_) (fun c25 => ?_)
      · have h := ok_t h c25
        refine g_run hx [(.iload_n 1, 0, 0)] (pc' := 54) (lo' := [some (.ref 66), some (.int v1), some (.int v2)]) (st' := [.int v1]) (σ' := σ) (by decide +kernel) rfl rfl ?_
        exact g_iret hx hr rfl _ rfl (by decide +kernel) (ok_some h)
      · have h := ok_f h c25
        refine g_run hx [(.iload_n 1, 0, 0)] (pc' := 29) (lo' := [some (.ref 66), some (.int v1), some (.int v2)]) (st' := [.int v1]) (σ' := σ) (by decide +kernel) rfl rfl ?_
        refine g_if_lt hx (off := 16) (tgt := 45) (by decide +kernel) (by decide) (fun c29 => ?_) (fun c29 => ?_)
        · have h := ok_t h c29
          refine g_run hx [(.iload_n 2, 0, 0), (.istore_n 1, 0, 0), (.iinc 2 1, 1, 0)] (pc' := 50) (lo' := [some (.ref 66), some (.int v2), some (.int (v2 + 1))]) (st' := []) (σ' := σ) (by decide +kernel) rfl rfl ?_
          refine g_goto hx (off := (-39)) (tgt := 11) (by decide +kernel) (by decide) ?_
          exact ih _ _ _ h
        · have h := ok_f h c29
          refine g_run hx [(.aload_n 0, 0, 0), (.iload_n 2, 0, 0)] (pc' := 34) (lo' := [some (.ref 66), some (.int v1), some (.int v2)]) (st' := [.int v2, .ref 66]) (σ' := σ) (by decide +kernel) rfl rfl ?_
          refine g_callV (rest := []) [.int v2] hx hc mk_m_leavesOf ln_10_402 rfl (by decide +kernel) (by decide) (Nat.le_of_ble_eq_true rfl) (s_m_leavesOf (ok_b h)) (fun r2 s2 h => ?_)
          refine g_run hx [(.aload_n 0, 0, 0), (.iload_n 1, 0, 0)] (pc' := 39) (lo' := [some (.ref 66), some (.int v1), some (.int v2)]) (st' := [.int v1, .ref 66, .int r2]) (σ' := s2) (by decide +kernel) rfl rfl ?_
          refine g_callV (rest := [.int r2]) [.int v1] hx hc mk_m_leavesOf ln_10_402 rfl (by decide +kernel) (by decide) (Nat.le_of_ble_eq_true rfl) (s_m_leavesOf (ok_b h)) (fun r3 s3 h => ?_)
          refine g_ic_ge hx (off := 5) (tgt := 47) (by decide +kernel) (by decide) (fun c42 => ?_) (fun c42 => ?_)
          · have h := ok_t h c42
            refine g_run hx [(.iinc 2 1, 1, 0)] (pc' := 50) (lo' := [some (.ref 66), some (.int v1), some (.int (v2 + 1))]) (st' := []) (σ' := s3) (by decide +kernel) rfl rfl ?_
            refine g_goto hx (off := (-39)) (tgt := 11) (by decide +kernel) (by decide) ?_
            exact ih _ _ _ h
          · have h := ok_f h c42
            refine g_run hx [(.iload_n 2, 0, 0), (.istore_n 1, 0, 0), (.iinc 2 1, 1, 0)] (pc' := 50) (lo' := [some (.ref 66), some (.int v2), some (.int (v2 + 1))]) (st' := []) (σ' := s3) (by decide +kernel) rfl rfl ?_
            refine g_goto hx (off := (-39)) (tgt := 11) (by decide +kernel) (by decide) ?_
            exact ih _ _ _ h
set_option maxRecDepth 100000 in
theorem s_m_askOf {y : EX} {N : Nat} {σ : Sg} {P : Int32 × Sg → Prop} (h : ok (f_m_askOf N σ) P) : Ev y M_m_askOf 5 [.ref 66] σ rvI P := by
  refine Ev.of mk_m_askOf (Nat.le_of_ble_eq_true rfl) (fun x hx hc hr => ?_)
  have hx : Cx 10 prog_12_method_107_code x := hx
  have hc : Cc y 3 5 x := hc
  show G x 0 [some (.ref 66), none, none] [] σ
  unfold f_m_askOf at h
  refine g_run hx [(.aload_n 0, 0, 0), (.iconst (-1), (-1), 0)] (pc' := 2) (lo' := [some (.ref 66), none, none]) (st' := [.int (-1), .ref 66]) (σ' := σ) (by decide +kernel) rfl rfl ?_
  refine g_callV (rest := []) [.int (-1)] hx hc mk_m_seekSets ln_10_399 rfl (by decide +kernel) (by decide) (Nat.le_of_ble_eq_true rfl) (s_m_seekSets (ok_b h)) (fun r1 s1 h => ?_)
  refine g_run hx [(.pop, 0, 0), (.bipush (-2), (-2), 0), (.istore_n 1, 0, 0), (.iconst 0, 0, 0), (.istore_n 2, 0, 0)] (pc' := 11) (lo' := [some (.ref 66), some (.int (-2)), some (.int 0)]) (st' := []) (σ' := s1) (by decide +kernel) rfl rfl ?_
  refine s_m_askOf_L11 hx hc hr N _ _ _ h
def f_m_ask (N : Nat) (σ : Sg) : Option (Int32 × Sg) :=
  (f_m_anew N σ).bind fun q1 =>
  if (gI q1.2 66 14) = 0 then
    (f_m_no N 1 q1.2).bind fun q2 =>
    some (q2.1, q2.2)
  else
    (f_m_askOf N q1.2).bind fun q3 =>
    some (q3.1, q3.2)
set_option maxRecDepth 100000 in
theorem s_m_ask {y : EX} {N : Nat} {σ : Sg} {P : Int32 × Sg → Prop} (h : ok (f_m_ask N σ) P) : Ev y M_m_ask 6 [.ref 66] σ rvI P := by
  refine Ev.of mk_m_ask (Nat.le_of_ble_eq_true rfl) (fun x hx hc hr => ?_)
  have hx : Cx 10 prog_12_method_108_code x := hx
  have hc : Cc y 1 6 x := hc
  show G x 0 [some (.ref 66)] [] σ
  unfold f_m_ask at h
  refine g_run hx [(.aload_n 0, 0, 0)] (pc' := 1) (lo' := [some (.ref 66)]) (st' := [.ref 66]) (σ' := σ) (by decide +kernel) rfl rfl ?_
  refine g_callV (rest := []) [] hx hc mk_m_anew ln_10_174 rfl (by decide +kernel) (by decide) (Nat.le_of_ble_eq_true rfl) (s_m_anew (ok_b h)) (fun r1 s1 h => ?_)
  refine g_run hx [(.aload_n 0, 0, 0), (.getfield 187, 0, 0)] (pc' := 8) (lo' := [some (.ref 66)]) (st' := [.int (gI s1 66 14)]) (σ' := s1) (by decide +kernel) rfl rfl ?_
  refine g_if_eq hx (off := 10) (tgt := 18) (by decide +kernel) (by decide) (fun c8 => ?_) (fun c8 => ?_)
  · have h := ok_t h c8
    refine g_run hx [(.aload_n 0, 0, 0), (.iconst 1, 1, 0)] (pc' := 20) (lo' := [some (.ref 66)]) (st' := [.int 1, .ref 66]) (σ' := s1) (by decide +kernel) rfl rfl ?_
    refine g_callV (rest := []) [.int 1] hx hc mk_m_no ln_10_177 rfl (by decide +kernel) (by decide) (Nat.le_of_ble_eq_true rfl) (s_m_no (ok_b h)) (fun r2 s2 h => ?_)
    exact g_iret hx hr rfl _ rfl (by decide +kernel) (ok_some h)
  · have h := ok_f h c8
    refine g_run hx [(.aload_n 0, 0, 0)] (pc' := 12) (lo' := [some (.ref 66)]) (st' := [.ref 66]) (σ' := s1) (by decide +kernel) rfl rfl ?_
    refine g_callV (rest := []) [] hx hc mk_m_askOf ln_10_405 rfl (by decide +kernel) (by decide) (Nat.le_of_ble_eq_true rfl) (s_m_askOf (ok_b h)) (fun r3 s3 h => ?_)
    refine g_goto hx (off := 8) (tgt := 23) (by decide +kernel) (by decide) ?_
    exact g_iret hx hr rfl _ rfl (by decide +kernel) (ok_some h)
def f_m_askLeaves (N : Nat) (σ : Sg) : Option (Int32 × Sg) :=
  (f_m_anew N σ).bind fun q1 =>
  if (gI q1.2 66 14) = 0 then
    (f_m_no N 1 q1.2).bind fun q4 =>
    some (q4.1, q4.2)
  else
    (f_m_askOf N q1.2).bind fun q2 =>
    if 0 ≤ q2.1 then
      (f_m_leavesOf N q2.1 q2.2).bind fun q3 =>
      some (q3.1, q3.2)
    else
      some ((-2), q2.2)
set_option maxRecDepth 100000 in
theorem s_m_askLeaves {y : EX} {N : Nat} {σ : Sg} {P : Int32 × Sg → Prop} (h : ok (f_m_askLeaves N σ) P) : Ev y M_m_askLeaves 6 [.ref 66] σ rvI P := by
  refine Ev.of mk_m_askLeaves (Nat.le_of_ble_eq_true rfl) (fun x hx hc hr => ?_)
  have hx : Cx 10 prog_12_method_109_code x := hx
  have hc : Cc y 2 6 x := hc
  show G x 0 [some (.ref 66), none] [] σ
  unfold f_m_askLeaves at h
  refine g_run hx [(.aload_n 0, 0, 0)] (pc' := 1) (lo' := [some (.ref 66), none]) (st' := [.ref 66]) (σ' := σ) (by decide +kernel) rfl rfl ?_
  refine g_callV (rest := []) [] hx hc mk_m_anew ln_10_174 rfl (by decide +kernel) (by decide) (Nat.le_of_ble_eq_true rfl) (s_m_anew (ok_b h)) (fun r1 s1 h => ?_)
  refine g_run hx [(.aload_n 0, 0, 0), (.getfield 187, 0, 0)] (pc' := 8) (lo' := [some (.ref 66), none]) (st' := [.int (gI s1 66 14)]) (σ' := s1) (by decide +kernel) rfl rfl ?_
  refine g_if_ne hx (off := 9) (tgt := 17) (by decide +kernel) (by decide) (fun c8 => ?_) (fun c8 => ?_)
  · have h := ok_f h c8
    refine g_run hx [(.aload_n 0, 0, 0)] (pc' := 18) (lo' := [some (.ref 66), none]) (st' := [.ref 66]) (σ' := s1) (by decide +kernel) rfl rfl ?_
    refine g_callV (rest := []) [] hx hc mk_m_askOf ln_10_405 rfl (by decide +kernel) (by decide) (Nat.le_of_ble_eq_true rfl) (s_m_askOf (ok_b h)) (fun r2 s2 h => ?_)
    refine g_run hx [(.istore_n 1, 0, 0), (.iload_n 1, 0, 0)] (pc' := 23) (lo' := [some (.ref 66), some (.int r2)]) (st' := [.int r2]) (σ' := s2) (by decide +kernel) rfl rfl ?_
    refine g_if_ge hx (off := 8) (tgt := 31) (by decide +kernel) (by decide) (fun c23 => ?_) (fun c23 => ?_)
    · have h := ok_t h c23
      refine g_run hx [(.aload_n 0, 0, 0), (.iload_n 1, 0, 0)] (pc' := 33) (lo' := [some (.ref 66), some (.int r2)]) (st' := [.int r2, .ref 66]) (σ' := s2) (by decide +kernel) rfl rfl ?_
      refine g_callV (rest := []) [.int r2] hx hc mk_m_leavesOf ln_10_402 rfl (by decide +kernel) (by decide) (Nat.le_of_ble_eq_true rfl) (s_m_leavesOf (ok_b h)) (fun r3 s3 h => ?_)
      exact g_iret hx hr rfl _ rfl (by decide +kernel) (ok_some h)
    · have h := ok_f h c23
      refine g_run hx [(.bipush (-2), (-2), 0)] (pc' := 28) (lo' := [some (.ref 66), some (.int r2)]) (st' := [.int (-2)]) (σ' := s2) (by decide +kernel) rfl rfl ?_
      refine g_goto hx (off := 8) (tgt := 36) (by decide +kernel) (by decide) ?_
      exact g_iret hx hr rfl _ rfl (by decide +kernel) (ok_some h)
  · have h := ok_t h c8
    refine g_run hx [(.aload_n 0, 0, 0), (.iconst 1, 1, 0)] (pc' := 13) (lo' := [some (.ref 66), none]) (st' := [.int 1, .ref 66]) (σ' := s1) (by decide +kernel) rfl rfl ?_
    refine g_callV (rest := []) [.int 1] hx hc mk_m_no ln_10_177 rfl (by decide +kernel) (by decide) (Nat.le_of_ble_eq_true rfl) (s_m_no (ok_b h)) (fun r4 s4 h => ?_)
    exact g_iret hx hr rfl _ rfl (by decide +kernel) (ok_some h)
set_option maxRecDepth 100000 in
theorem s_m_copy_77_74_L3 {y : EX} {N : Nat} {x : CX} {P : Unit × Sg → Prop} (hx : Cx 10 prog_12_method_8_code x) (hc : Cc y 6 0 x) (hr : Cr M_m_copy rvN P x) : ∀ (n : Nat) (v1 : Int32) (v3 : Int32) (v4 : Int32) (v5 : Int32) (σ : Sg), ok (f_m_copy_L3 N 189 63 74 77 n v1 v3 v4 v5 σ) P → G x 3 [some (.ref 77), some (.int v1), some (.ref 74), some (.int v3), some (.int v4), some (.int v5)] [] σ := by
  intro n
  induction n with
  | zero => intro v1 v3 v4 v5 σ h; exact ok_none h
  | succ n ih =>
    intro v1 v3 v4 v5 σ h
    rw [f_m_copy_L3] at h
    refine g_run hx [(.iload 5, 0, 0), (.iload 4, 0, 0)] (pc' := 7) (lo' := [some (.ref 77), some (.int v1), some (.ref 74), some (.int v3), some (.int v4), some (.int v5)]) (st' := [.int v4, .int v5]) (σ' := σ) (by decide +kernel) rfl rfl ?_
    refine g_ic_ge hx (off := 21) (tgt := 28) (by decide +kernel) (by decide) (fun c7 => ?_) (fun c7 => ?_)
    · have h := ok_t h c7
      exact g_vret hx hr rfl () rfl (by decide +kernel) (ok_some h)
    · have h := ok_f h c7
      refine g_run hx [(.aload_n 2, 0, 0), (.iload_n 3, 0, 0), (.iload 5, 0, 0), (.iadd, 0, 0), (.aload_n 0, 0, 0), (.iload_n 1, 0, 0), (.iload 5, 0, 0), (.iadd, 0, 0)] (pc' := 20) (lo' := [some (.ref 77), some (.int v1), some (.ref 74), some (.int v3), some (.int v4), some (.int v5)]) (st' := [.int (v1 + v5), .ref 77, .int (v3 + v5), .ref 74]) (σ' := σ) (by decide +kernel) rfl rfl ?_
      obtain ⟨c20, h⟩ := ok_g h
      refine g_iald hx (by decide +kernel) (i := 77) (n := 189) rfl c20 ?_
      obtain ⟨c21, h⟩ := ok_g h
      refine g_iast hx (by decide +kernel) (i := 74) (n := 63) rfl c21 ?_
      refine g_run hx [(.iinc 5 1, 1, 0)] (pc' := 25) (lo' := [some (.ref 77), some (.int v1), some (.ref 74), some (.int v3), some (.int v4), some (.int (v5 + 1))]) (st' := []) (σ' := sA σ 74 (v3 + v5) (gA σ 77 (v1 + v5))) (by decide +kernel) rfl rfl ?_
      refine g_goto hx (off := (-22)) (tgt := 3) (by decide +kernel) (by decide) ?_
      exact ih _ _ _ _ _ h
set_option maxRecDepth 100000 in
theorem s_m_copy_77_74 {y : EX} {N : Nat} {v1 : Int32} {v3 : Int32} {v4 : Int32} {σ : Sg} {P : Unit × Sg → Prop} (h : ok (f_m_copy N 189 63 74 77 v1 v3 v4 σ) P) : Ev y M_m_copy 0 [.ref 77, .int v1, .ref 74, .int v3, .int v4] σ rvN P := by
  refine Ev.of mk_m_copy (Nat.le_of_ble_eq_true rfl) (fun x hx hc hr => ?_)
  have hx : Cx 10 prog_12_method_8_code x := hx
  have hc : Cc y 6 0 x := hc
  show G x 0 [some (.ref 77), some (.int v1), some (.ref 74), some (.int v3), some (.int v4), none] [] σ
  unfold f_m_copy at h
  refine g_run hx [(.iconst 0, 0, 0), (.istore 5, 0, 0)] (pc' := 3) (lo' := [some (.ref 77), some (.int v1), some (.ref 74), some (.int v3), some (.int v4), some (.int 0)]) (st' := []) (σ' := σ) (by decide +kernel) rfl rfl ?_
  refine s_m_copy_77_74_L3 hx hc hr N _ _ _ _ _ h
def f_m_isNot (N : Nat) (v1 : Int32) (σ : Sg) : Option (Bool × Sg) :=
  some (false, sI σ 66 11 v1)
set_option maxRecDepth 100000 in
theorem s_m_isNot {y : EX} {N : Nat} {v1 : Int32} {σ : Sg} {P : Bool × Sg → Prop} (h : ok (f_m_isNot N v1 σ) P) : Ev y M_m_isNot 0 [.ref 66, .int v1] σ rvB P := by
  refine Ev.of mk_m_isNot (Nat.le_of_ble_eq_true rfl) (fun x hx hc hr => ?_)
  have hx : Cx 10 prog_12_method_5_code x := hx
  have hc : Cc y 2 0 x := hc
  show G x 0 [some (.ref 66), some (.int v1)] [] σ
  unfold f_m_isNot at h
  refine g_run hx [(.aload_n 0, 0, 0), (.iload_n 1, 0, 0), (.putfield 71, 0, 0), (.iconst 0, 0, 0)] (pc' := 6) (lo' := [some (.ref 66), some (.int v1)]) (st' := [.int 0]) (σ' := sI σ 66 11 v1) (by decide +kernel) rfl rfl ?_
  exact g_zret (b := false) hx hr rfl false rfl (by decide +kernel) (ok_some h)
def f_m_back (N : Nat) (v1 : Int32) (σ : Sg) : Option (Bool × Sg) :=
  (f_m_anew N σ).bind fun q1 =>
  (f_m_in N v1 0 ((gI q1.2 66 25) - 1) q1.2).bind fun q2 =>
  if q2.1 = true then
    (f_m_copy N 189 63 74 77 (63 * v1) 0 63 q2.2).bind fun q3 =>
    some (true, sI q3.2 66 24 0)
  else
    (f_m_isNot N 1 q2.2).bind fun q4 =>
    some (q4.1, q4.2)
set_option maxRecDepth 100000 in
theorem s_m_back {y : EX} {N : Nat} {v1 : Int32} {σ : Sg} {P : Bool × Sg → Prop} (h : ok (f_m_back N v1 σ) P) : Ev y M_m_back 1 [.ref 66, .int v1] σ rvB P := by
  refine Ev.of mk_m_back (Nat.le_of_ble_eq_true rfl) (fun x hx hc hr => ?_)
  have hx : Cx 10 prog_12_method_127_code x := hx
  have hc : Cc y 2 1 x := hc
  show G x 0 [some (.ref 66), some (.int v1)] [] σ
  unfold f_m_back at h
  refine g_run hx [(.aload_n 0, 0, 0)] (pc' := 1) (lo' := [some (.ref 66), some (.int v1)]) (st' := [.ref 66]) (σ' := σ) (by decide +kernel) rfl rfl ?_
  refine g_callV (rest := []) [] hx hc mk_m_anew ln_10_174 rfl (by decide +kernel) (by decide) (Nat.le_of_ble_eq_true rfl) (s_m_anew (ok_b h)) (fun r1 s1 h => ?_)
  refine g_run hx [(.iload_n 1, 0, 0), (.iconst 0, 0, 0), (.aload_n 0, 0, 0), (.getfield 193, 0, 0), (.iconst 1, 1, 0), (.isub, 0, 0)] (pc' := 12) (lo' := [some (.ref 66), some (.int v1)]) (st' := [.int ((gI s1 66 25) - 1), .int 0, .int v1]) (σ' := s1) (by decide +kernel) rfl rfl ?_
  refine g_callS (rest := []) [.int v1, .int 0, .int ((gI s1 66 25) - 1)] hx hc mk_m_in ln_10_156 (by decide +kernel) (by decide) (Nat.le_of_ble_eq_true rfl) (s_m_in (ok_b h)) (fun r2 s2 h => ?_)
  refine g_ifb_ne hx (off := 9) (tgt := 24) (by decide +kernel) (by decide) (fun c15 => ?_) (fun c15 => ?_)
  · have h := ok_t h c15
    refine g_run hx [(.aload_n 0, 0, 0), (.getfield 44, 0, 0), (.bipush 63, 63, 0), (.iload_n 1, 0, 0), (.imul, 0, 0), (.aload_n 0, 0, 0), (.getfield 35, 0, 0), (.iconst 0, 0, 0), (.bipush 63, 63, 0)] (pc' := 39) (lo' := [some (.ref 66), some (.int v1)]) (st' := [.int 63, .int 0, .ref 74, .int (63 * v1), .ref 77]) (σ' := s2) (by decide +kernel) rfl rfl ?_
    refine g_callS (rest := []) [.ref 77, .int (63 * v1), .ref 74, .int 0, .int 63] hx hc mk_m_copy ln_10_183 (by decide +kernel) (by decide) (Nat.le_of_ble_eq_true rfl) (s_m_copy_77_74 (ok_b h)) (fun r3 s3 h => ?_)
    refine g_run hx [(.aload_n 0, 0, 0), (.iconst 0, 0, 0), (.putfield 190, 0, 0), (.iconst 1, 1, 0)] (pc' := 48) (lo' := [some (.ref 66), some (.int v1)]) (st' := [.int 1]) (σ' := sI s3 66 24 0) (by decide +kernel) rfl rfl ?_
    exact g_zret (b := true) hx hr rfl true rfl (by decide +kernel) (ok_some h)
  · have h := ok_f h c15
    refine g_run hx [(.aload_n 0, 0, 0), (.iconst 1, 1, 0)] (pc' := 20) (lo' := [some (.ref 66), some (.int v1)]) (st' := [.int 1, .ref 66]) (σ' := s2) (by decide +kernel) rfl rfl ?_
    refine g_callV (rest := []) [.int 1] hx hc mk_m_isNot ln_10_440 rfl (by decide +kernel) (by decide) (Nat.le_of_ble_eq_true rfl) (s_m_isNot (ok_b h)) (fun r4 s4 h => ?_)
    exact g_zret hx hr rfl _ rfl (by decide +kernel) (ok_some h)
def f_m_isCell (N : Nat) (v1 : Int32) (σ : Sg) : Option (Bool × Sg) :=
  if (gI σ 66 14) = 0 then
    some (false, σ)
  else
    (f_m_in N v1 0 ((gA σ 69 0) - 1) σ).bind fun q1 =>
    if q1.1 = true then
      some (true, q1.2)
    else
      some (false, q1.2)
set_option maxRecDepth 100000 in
theorem s_m_isCell {y : EX} {N : Nat} {v1 : Int32} {σ : Sg} {P : Bool × Sg → Prop} (h : ok (f_m_isCell N v1 σ) P) : Ev y M_m_isCell 1 [.ref 66, .int v1] σ rvB P := by
  refine Ev.of mk_m_isCell (Nat.le_of_ble_eq_true rfl) (fun x hx hc hr => ?_)
  have hx : Cx 10 prog_12_method_39_code x := hx
  have hc : Cc y 2 1 x := hc
  show G x 0 [some (.ref 66), some (.int v1)] [] σ
  unfold f_m_isCell at h
  refine g_run hx [(.aload_n 0, 0, 0), (.getfield 187, 0, 0)] (pc' := 4) (lo' := [some (.ref 66), some (.int v1)]) (st' := [.int (gI σ 66 14)]) (σ' := σ) (by decide +kernel) rfl rfl ?_
  refine g_if_eq hx (off := 23) (tgt := 27) (by decide +kernel) (by decide) (fun c4 => ?_) (fun c4 => ?_)
  · have h := ok_t h c4
    refine g_run hx [(.iconst 0, 0, 0)] (pc' := 28) (lo' := [some (.ref 66), some (.int v1)]) (st' := [.int 0]) (σ' := σ) (by decide +kernel) rfl rfl ?_
    exact g_zret (b := false) hx hr rfl false rfl (by decide +kernel) (ok_some h)
  · have h := ok_f h c4
    refine g_run hx [(.iload_n 1, 0, 0), (.iconst 0, 0, 0), (.aload_n 0, 0, 0), (.getfield 20, 0, 0), (.iconst 0, 0, 0), (.iaload, 0, 0), (.iconst 1, 1, 0), (.isub, 0, 0)] (pc' := 17) (lo' := [some (.ref 66), some (.int v1)]) (st' := [.int ((gA σ 69 0) - 1), .int 0, .int v1]) (σ' := σ) (by decide +kernel) rfl rfl ?_
    refine g_callS (rest := []) [.int v1, .int 0, .int ((gA σ 69 0) - 1)] hx hc mk_m_in ln_10_156 (by decide +kernel) (by decide) (Nat.le_of_ble_eq_true rfl) (s_m_in (ok_b h)) (fun r1 s1 h => ?_)
    refine g_ifb_eq hx (off := 7) (tgt := 27) (by decide +kernel) (by decide) (fun c20 => ?_) (fun c20 => ?_)
    · have h := ok_f h c20
      refine g_run hx [(.iconst 0, 0, 0)] (pc' := 28) (lo' := [some (.ref 66), some (.int v1)]) (st' := [.int 0]) (σ' := s1) (by decide +kernel) rfl rfl ?_
      exact g_zret (b := false) hx hr rfl false rfl (by decide +kernel) (ok_some h)
    · have h := ok_t h c20
      refine g_run hx [(.iconst 1, 1, 0)] (pc' := 24) (lo' := [some (.ref 66), some (.int v1)]) (st' := [.int 1]) (σ' := s1) (by decide +kernel) rfl rfl ?_
      refine g_goto hx (off := 4) (tgt := 28) (by decide +kernel) (by decide) ?_
      exact g_zret (b := true) hx hr rfl true rfl (by decide +kernel) (ok_some h)
set_option maxRecDepth 100000 in
theorem s_m_copy_74_75_L3 {y : EX} {N : Nat} {x : CX} {P : Unit × Sg → Prop} (hx : Cx 10 prog_12_method_8_code x) (hc : Cc y 6 0 x) (hr : Cr M_m_copy rvN P x) : ∀ (n : Nat) (v1 : Int32) (v3 : Int32) (v4 : Int32) (v5 : Int32) (σ : Sg), ok (f_m_copy_L3 N 63 63 75 74 n v1 v3 v4 v5 σ) P → G x 3 [some (.ref 74), some (.int v1), some (.ref 75), some (.int v3), some (.int v4), some (.int v5)] [] σ := by
  intro n
  induction n with
  | zero => intro v1 v3 v4 v5 σ h; exact ok_none h
  | succ n ih =>
    intro v1 v3 v4 v5 σ h
    rw [f_m_copy_L3] at h
    refine g_run hx [(.iload 5, 0, 0), (.iload 4, 0, 0)] (pc' := 7) (lo' := [some (.ref 74), some (.int v1), some (.ref 75), some (.int v3), some (.int v4), some (.int v5)]) (st' := [.int v4, .int v5]) (σ' := σ) (by decide +kernel) rfl rfl ?_
    refine g_ic_ge hx (off := 21) (tgt := 28) (by decide +kernel) (by decide) (fun c7 => ?_) (fun c7 => ?_)
    · have h := ok_t h c7
      exact g_vret hx hr rfl () rfl (by decide +kernel) (ok_some h)
    · have h := ok_f h c7
      refine g_run hx [(.aload_n 2, 0, 0), (.iload_n 3, 0, 0), (.iload 5, 0, 0), (.iadd, 0, 0), (.aload_n 0, 0, 0), (.iload_n 1, 0, 0), (.iload 5, 0, 0), (.iadd, 0, 0)] (pc' := 20) (lo' := [some (.ref 74), some (.int v1), some (.ref 75), some (.int v3), some (.int v4), some (.int v5)]) (st' := [.int (v1 + v5), .ref 74, .int (v3 + v5), .ref 75]) (σ' := σ) (by decide +kernel) rfl rfl ?_
      obtain ⟨c20, h⟩ := ok_g h
      refine g_iald hx (by decide +kernel) (i := 74) (n := 63) rfl c20 ?_
      obtain ⟨c21, h⟩ := ok_g h
      refine g_iast hx (by decide +kernel) (i := 75) (n := 63) rfl c21 ?_
      refine g_run hx [(.iinc 5 1, 1, 0)] (pc' := 25) (lo' := [some (.ref 74), some (.int v1), some (.ref 75), some (.int v3), some (.int v4), some (.int (v5 + 1))]) (st' := []) (σ' := sA σ 75 (v3 + v5) (gA σ 74 (v1 + v5))) (by decide +kernel) rfl rfl ?_
      refine g_goto hx (off := (-22)) (tgt := 3) (by decide +kernel) (by decide) ?_
      exact ih _ _ _ _ _ h
set_option maxRecDepth 100000 in
theorem s_m_copy_74_75 {y : EX} {N : Nat} {v1 : Int32} {v3 : Int32} {v4 : Int32} {σ : Sg} {P : Unit × Sg → Prop} (h : ok (f_m_copy N 63 63 75 74 v1 v3 v4 σ) P) : Ev y M_m_copy 0 [.ref 74, .int v1, .ref 75, .int v3, .int v4] σ rvN P := by
  refine Ev.of mk_m_copy (Nat.le_of_ble_eq_true rfl) (fun x hx hc hr => ?_)
  have hx : Cx 10 prog_12_method_8_code x := hx
  have hc : Cc y 6 0 x := hc
  show G x 0 [some (.ref 74), some (.int v1), some (.ref 75), some (.int v3), some (.int v4), none] [] σ
  unfold f_m_copy at h
  refine g_run hx [(.iconst 0, 0, 0), (.istore 5, 0, 0)] (pc' := 3) (lo' := [some (.ref 74), some (.int v1), some (.ref 75), some (.int v3), some (.int v4), some (.int 0)]) (st' := []) (σ' := σ) (by decide +kernel) rfl rfl ?_
  refine s_m_copy_74_75_L3 hx hc hr N _ _ _ _ _ h
def f_m_begin (N : Nat) (σ : Sg) : Option (Unit × Sg) :=
  (f_m_copy N 63 63 75 74 0 0 63 σ).bind fun q1 =>
  some ((), q1.2)
set_option maxRecDepth 100000 in
theorem s_m_begin {y : EX} {N : Nat} {σ : Sg} {P : Unit × Sg → Prop} (h : ok (f_m_begin N σ) P) : Ev y M_m_begin 1 [.ref 66] σ rvN P := by
  refine Ev.of mk_m_begin (Nat.le_of_ble_eq_true rfl) (fun x hx hc hr => ?_)
  have hx : Cx 10 prog_12_method_50_code x := hx
  have hc : Cc y 1 1 x := hc
  show G x 0 [some (.ref 66)] [] σ
  unfold f_m_begin at h
  refine g_run hx [(.aload_n 0, 0, 0), (.getfield 35, 0, 0), (.iconst 0, 0, 0), (.aload_n 0, 0, 0), (.getfield 38, 0, 0), (.iconst 0, 0, 0), (.bipush 63, 63, 0)] (pc' := 12) (lo' := [some (.ref 66)]) (st' := [.int 63, .int 0, .ref 75, .int 0, .ref 74]) (σ' := σ) (by decide +kernel) rfl rfl ?_
  refine g_callS (rest := []) [.ref 74, .int 0, .ref 75, .int 0, .int 63] hx hc mk_m_copy ln_10_183 (by decide +kernel) (by decide) (Nat.le_of_ble_eq_true rfl) (s_m_copy_74_75 (ok_b h)) (fun r1 s1 h => ?_)
  exact g_vret hx hr rfl () rfl (by decide +kernel) (ok_some h)
def f_m_yearOn_L9 (N : Nat) (a0 : Nat) (a1 : Nat) (a2 : Nat) (a3 : Nat) (a4 : Nat) (a5 : Nat) (a6 : Nat) : Nat → Int32 → Int32 → Sg → (Int32 → Sg → Option (Int32 × Sg)) → Option (Int32 × Sg)
  | 0, _, _, _, _ => none
  | n + 1, v2, v3, σ, k34 =>
    if (gA σ a0 0) ≤ v3 then
      k34 v2 σ
    else
      if vin v3 a1 then
      if vin v3 a2 then
      f_m_yearOn_L9 N a0 a1 a2 a3 a4 a5 a6 n v2 (v3 + 1) (sA σ a3 v3 (gA σ a4 v3)) k34
      else none
      else none
def f_m_yearOn_L36 (N : Nat) (a0 : Nat) (a1 : Nat) (a2 : Nat) (a3 : Nat) (a4 : Nat) (a5 : Nat) (a6 : Nat) : Nat → Int32 → Int32 → Sg → Option (Int32 × Sg)
  | 0, _, _, _ => none
  | n + 1, v2, v3, σ =>
    if (gA σ a0 0) ≤ v3 then
      some (v2, sA σ a4 62 ((gA σ a4 62) + 1))
    else
      if v3 ≤ 0 then
        if (gA σ a0 0) ≤ (v3 + 1) then
          if vin v3 a2 then
          if (gA σ a3 v3) = 0 then
            f_m_yearOn_L36 N a0 a1 a2 a3 a4 a5 a6 n v2 (v3 + 1) σ
          else
            f_m_yearOn_L36 N a0 a1 a2 a3 a4 a5 a6 n v2 (v3 + 1) σ
          else none
        else
          if vin (v3 + 1) a2 then
          if (gA σ a3 (v3 + 1)) = 0 then
            if vin v3 a2 then
            if (gA σ a3 v3) = 0 then
              f_m_yearOn_L36 N a0 a1 a2 a3 a4 a5 a6 n v2 (v3 + 1) σ
            else
              if vin (129 + v3) a5 then
              if (gA σ a0 (129 + v3)) = 1 then
                f_m_yearOn_L36 N a0 a1 a2 a3 a4 a5 a6 n v2 (v3 + 1) σ
              else
                if vin v3 a1 then
                if vin v3 a1 then
                if vin v3 a1 then
                if (gA (sI (sA σ a4 v3 ((gA σ a4 v3) - 1)) a6 27 1) a4 v3) = 0 then
                  f_m_yearOn_L36 N a0 a1 a2 a3 a4 a5 a6 n (v2 + 1) (v3 + 1) (sI (sA σ a4 v3 ((gA σ a4 v3) - 1)) a6 27 1)
                else
                  f_m_yearOn_L36 N a0 a1 a2 a3 a4 a5 a6 n (v2 + 0) (v3 + 1) (sI (sA σ a4 v3 ((gA σ a4 v3) - 1)) a6 27 1)
                else none
                else none
                else none
              else none
            else none
          else
            if vin v3 a2 then
            if (gA σ a3 v3) = 0 then
              f_m_yearOn_L36 N a0 a1 a2 a3 a4 a5 a6 n v2 (v3 + 1) σ
            else
              f_m_yearOn_L36 N a0 a1 a2 a3 a4 a5 a6 n v2 (v3 + 1) σ
            else none
          else none
      else
        if vin (v3 - 1) a2 then
        if (gA σ a3 (v3 - 1)) = 0 then
          if vin v3 a2 then
          if (gA σ a3 v3) = 0 then
            f_m_yearOn_L36 N a0 a1 a2 a3 a4 a5 a6 n v2 (v3 + 1) σ
          else
            if vin (129 + v3) a5 then
            if (gA σ a0 (129 + v3)) = 1 then
              f_m_yearOn_L36 N a0 a1 a2 a3 a4 a5 a6 n v2 (v3 + 1) σ
            else
              if vin v3 a1 then
              if vin v3 a1 then
              if vin v3 a1 then
              if (gA (sI (sA σ a4 v3 ((gA σ a4 v3) - 1)) a6 27 1) a4 v3) = 0 then
                f_m_yearOn_L36 N a0 a1 a2 a3 a4 a5 a6 n (v2 + 1) (v3 + 1) (sI (sA σ a4 v3 ((gA σ a4 v3) - 1)) a6 27 1)
              else
                f_m_yearOn_L36 N a0 a1 a2 a3 a4 a5 a6 n (v2 + 0) (v3 + 1) (sI (sA σ a4 v3 ((gA σ a4 v3) - 1)) a6 27 1)
              else none
              else none
              else none
            else none
          else none
        else
          if (gA σ a0 0) ≤ (v3 + 1) then
            if vin v3 a2 then
            if (gA σ a3 v3) = 0 then
              f_m_yearOn_L36 N a0 a1 a2 a3 a4 a5 a6 n v2 (v3 + 1) σ
            else
              f_m_yearOn_L36 N a0 a1 a2 a3 a4 a5 a6 n v2 (v3 + 1) σ
            else none
          else
            if vin (v3 + 1) a2 then
            if (gA σ a3 (v3 + 1)) = 0 then
              if vin v3 a2 then
              if (gA σ a3 v3) = 0 then
                f_m_yearOn_L36 N a0 a1 a2 a3 a4 a5 a6 n v2 (v3 + 1) σ
              else
                if vin (129 + v3) a5 then
                if (gA σ a0 (129 + v3)) = 1 then
                  f_m_yearOn_L36 N a0 a1 a2 a3 a4 a5 a6 n v2 (v3 + 1) σ
                else
                  if vin v3 a1 then
                  if vin v3 a1 then
                  if vin v3 a1 then
                  if (gA (sI (sA σ a4 v3 ((gA σ a4 v3) - 1)) a6 27 1) a4 v3) = 0 then
                    f_m_yearOn_L36 N a0 a1 a2 a3 a4 a5 a6 n (v2 + 1) (v3 + 1) (sI (sA σ a4 v3 ((gA σ a4 v3) - 1)) a6 27 1)
                  else
                    f_m_yearOn_L36 N a0 a1 a2 a3 a4 a5 a6 n (v2 + 0) (v3 + 1) (sI (sA σ a4 v3 ((gA σ a4 v3) - 1)) a6 27 1)
                  else none
                  else none
                  else none
                else none
              else none
            else
              if vin v3 a2 then
              if (gA σ a3 v3) = 0 then
                f_m_yearOn_L36 N a0 a1 a2 a3 a4 a5 a6 n v2 (v3 + 1) σ
              else
                f_m_yearOn_L36 N a0 a1 a2 a3 a4 a5 a6 n v2 (v3 + 1) σ
              else none
            else none
        else none
def f_m_yearOn (N : Nat) (a0 : Nat) (a1 : Nat) (a2 : Nat) (a3 : Nat) (a4 : Nat) (a5 : Nat) (a6 : Nat) (σ : Sg) : Option (Int32 × Sg) :=
  f_m_yearOn_L9 N a0 a1 a2 a3 a4 a5 a6 N 0 0 (sI σ a6 27 0)
    (fun (w2 : Int32) (t1 : Sg) =>
      f_m_yearOn_L36 N a0 a1 a2 a3 a4 a5 a6 N w2 0 t1)
set_option maxRecDepth 100000 in
theorem s_m_yearOn_66_75_L9 {y : EX} {N : Nat} {x : CX} {P : Int32 × Sg → Prop} (hx : Cx 10 prog_12_method_47_code x) (hc : Cc y 5 0 x) (hr : Cr M_m_yearOn rvI P x) : ∀ (n : Nat) (v2 : Int32) (v3 : Int32) (σ : Sg) (k34 : Int32 → Sg → Option (Int32 × Sg)) (hk34 : ∀ (w2 : Int32) (t : Sg), ok (k34 w2 t) P → G x 34 [some (.ref 66), some (.ref 75), some (.int w2), none, none] [] t), ok (f_m_yearOn_L9 N 69 63 60 78 75 189 66 n v2 v3 σ k34) P → G x 9 [some (.ref 66), some (.ref 75), some (.int v2), some (.int v3), none] [] σ := by
  intro n
  induction n with
  | zero => intro v2 v3 σ k34 hk34 h; exact ok_none h
  | succ n ih =>
    intro v2 v3 σ k34 hk34 h
    rw [f_m_yearOn_L9] at h
    refine g_run hx [(.iload_n 3, 0, 0), (.aload_n 0, 0, 0), (.getfield 20, 0, 0), (.iconst 0, 0, 0), (.iaload, 0, 0)] (pc' := 16) (lo' := [some (.ref 66), some (.ref 75), some (.int v2), some (.int v3), none]) (st' := [.int (gA σ 69 0), .int v3]) (σ' := σ) (by decide +kernel) rfl rfl ?_
    refine g_ic_ge hx (off := 18) (tgt := 34) (by decide +kernel) (by decide) (fun c16 => ?_) (fun c16 => ?_)
    · have h := ok_t h c16
      refine g_wk (lo' := [some (.ref 66), some (.ref 75), some (.int v2), none, none]) ⟨rfl, ⟨rfl, ⟨rfl, trivial⟩⟩⟩ ?_
      exact hk34 _ _ h
    · have h := ok_f h c16
      refine g_run hx [(.aload_n 0, 0, 0), (.getfield 47, 0, 0), (.iload_n 3, 0, 0), (.aload_n 1, 0, 0), (.iload_n 3, 0, 0)] (pc' := 26) (lo' := [some (.ref 66), some (.ref 75), some (.int v2), some (.int v3), none]) (st' := [.int v3, .ref 75, .int v3, .ref 78]) (σ' := σ) (by decide +kernel) rfl rfl ?_
      obtain ⟨c26, h⟩ := ok_g h
      refine g_iald hx (by decide +kernel) (i := 75) (n := 63) rfl c26 ?_
      obtain ⟨c27, h⟩ := ok_g h
      refine g_iast hx (by decide +kernel) (i := 78) (n := 60) rfl c27 ?_
      refine g_run hx [(.iinc 3 1, 1, 0)] (pc' := 31) (lo' := [some (.ref 66), some (.ref 75), some (.int v2), some (.int (v3 + 1)), none]) (st' := []) (σ' := sA σ 78 v3 (gA σ 75 v3)) (by decide +kernel) rfl rfl ?_
      refine g_goto hx (off := (-22)) (tgt := 9) (by decide +kernel) (by decide) ?_
      exact ih _ _ _ _ hk34 h
set_option maxRecDepth 100000 in
theorem s_m_yearOn_66_75_L36 {y : EX} {N : Nat} {x : CX} {P : Int32 × Sg → Prop} (hx : Cx 10 prog_12_method_47_code x) (hc : Cc y 5 0 x) (hr : Cr M_m_yearOn rvI P x) : ∀ (n : Nat) (v2 : Int32) (v3 : Int32) (σ : Sg), ok (f_m_yearOn_L36 N 69 63 60 78 75 189 66 n v2 v3 σ) P → G x 36 [some (.ref 66), some (.ref 75), some (.int v2), some (.int v3), none] [] σ := by
  intro n
  induction n with
  | zero => intro v2 v3 σ h; exact ok_none h
  | succ n ih =>
    intro v2 v3 σ h
    rw [f_m_yearOn_L36] at h
    refine g_run hx [(.iload_n 3, 0, 0), (.aload_n 0, 0, 0), (.getfield 20, 0, 0), (.iconst 0, 0, 0), (.iaload, 0, 0)] (pc' := 43) (lo' := [some (.ref 66), some (.ref 75), some (.int v2), some (.int v3), none]) (st' := [.int (gA σ 69 0), .int v3]) (σ' := σ) (by decide +kernel) rfl rfl ?_
    refine g_ic_ge hx (off := 111) (tgt := 154) (by decide +kernel) (by decide) (fun c43 => ?_) (fun c43 => ?_)
    · have h := ok_t h c43
      refine g_run hx [(.aload_n 1, 0, 0), (.bipush 62, 62, 0), (.dup2, 0, 0), (.iaload, 0, 0), (.iconst 1, 1, 0), (.iadd, 0, 0), (.iastore, 0, 0), (.iload_n 2, 0, 0)] (pc' := 163) (lo' := [some (.ref 66), some (.ref 75), some (.int v2), some (.int v3), none]) (st' := [.int v2]) (σ' := sA σ 75 62 ((gA σ 75 62) + 1)) (by decide +kernel) rfl rfl ?_
      exact g_iret hx hr rfl _ rfl (by decide +kernel) (ok_some h)
    · have h := ok_f h c43
      refine g_run hx [(.iload_n 3, 0, 0)] (pc' := 47) (lo' := [some (.ref 66), some (.ref 75), some (.int v2), some (.int v3), none]) (st' := [.int v3]) (σ' := σ) (by decide +kernel) rfl rfl ?_
      refine g_if_le hx (off := 14) (tgt := 61) (by decide +kernel) (by decide) (fun c47 => ?_) (fun c47 => ?_)
      · have h := ok_t h c47
        refine g_run hx [(.iload_n 3, 0, 0), (.iconst 1, 1, 0), (.iadd, 0, 0), (.aload_n 0, 0, 0), (.getfield 20, 0, 0), (.iconst 0, 0, 0), (.iaload, 0, 0)] (pc' := 70) (lo' := [some (.ref 66), some (.ref 75), some (.int v2), some (.int v3), none]) (st' := [.int (gA σ 69 0), .int (v3 + 1)]) (σ' := σ) (by decide +kernel) rfl rfl ?_
        refine g_ic_ge hx (off := 18) (tgt := 88) (by decide +kernel) (by decide) (fun c70 => ?_) (fun c70 => ?_)
        · have h := ok_t h c70
          refine g_run hx [(.iconst 0, 0, 0), (.istore 4, 0, 0), (.aload_n 0, 0, 0), (.getfield 47, 0, 0), (.iload_n 3, 0, 0)] (pc' := 96) (lo' := [some (.ref 66), some (.ref 75), some (.int v2), some (.int v3), some (.int 0)]) (st' := [.int v3, .ref 78]) (σ' := σ) (by decide +kernel) rfl rfl ?_
          obtain ⟨c96, h⟩ := ok_g h
          refine g_iald hx (by decide +kernel) (i := 78) (n := 60) rfl c96 ?_
          refine g_if_eq hx (off := 51) (tgt := 148) (by decide +kernel) (by decide) (fun c97 => ?_) (fun c97 => ?_)
          · have h := ok_t h c97
            refine g_run hx [(.iinc 3 1, 1, 0)] (pc' := 151) (lo' := [some (.ref 66), some (.ref 75), some (.int v2), some (.int (v3 + 1)), some (.int 0)]) (st' := []) (σ' := σ) (by decide +kernel) rfl rfl ?_
            refine g_goto hx (off := (-115)) (tgt := 36) (by decide +kernel) (by decide) ?_
            refine g_wk (lo' := [some (.ref 66), some (.ref 75), some (.int v2), some (.int (v3 + 1)), none]) ⟨rfl, ⟨rfl, ⟨rfl, ⟨rfl, trivial⟩⟩⟩⟩ ?_
            exact ih _ _ _ h
          · have h := ok_f h c97
            refine g_run hx [(.iload 4, 0, 0)] (pc' := 102) (lo' := [some (.ref 66), some (.ref 75), some (.int v2), some (.int v3), some (.int 0)]) (st' := [.int 0]) (σ' := σ) (by decide +kernel) rfl rfl ?_
            refine g_if_eq hx (off := 46) (tgt := 148) (by decide +kernel) (by decide) (fun _ => ?_) (fun c => absurd c (by decide))
            refine g_run hx [(.iinc 3 1, 1, 0)] (pc' := 151) (lo' := [some (.ref 66), some (.ref 75), some (.int v2), some (.int (v3 + 1)), some (.int 0)]) (st' := []) (σ' := σ) (by decide +kernel) rfl rfl ?_
            refine g_goto hx (off := (-115)) (tgt := 36) (by decide +kernel) (by decide) ?_
            refine g_wk (lo' := [some (.ref 66), some (.ref 75), some (.int v2), some (.int (v3 + 1)), none]) ⟨rfl, ⟨rfl, ⟨rfl, ⟨rfl, trivial⟩⟩⟩⟩ ?_
            exact ih _ _ _ h
        · have h := ok_f h c70
          refine g_run hx [(.aload_n 0, 0, 0), (.getfield 47, 0, 0), (.iload_n 3, 0, 0), (.iconst 1, 1, 0), (.iadd, 0, 0)] (pc' := 80) (lo' := [some (.ref 66), some (.ref 75), some (.int v2), some (.int v3), none]) (st' := [.int (v3 + 1), .ref 78]) (σ' := σ) (by decide +kernel) rfl rfl ?_
          obtain ⟨c80, h⟩ := ok_g h
          refine g_iald hx (by decide +kernel) (i := 78) (n := 60) rfl c80 ?_
          refine g_if_ne hx (off := 7) (tgt := 88) (by decide +kernel) (by decide) (fun c81 => ?_) (fun c81 => ?_)
          · have h := ok_f h c81
            refine g_run hx [(.iconst 0, 0, 0), (.istore 4, 0, 0), (.aload_n 0, 0, 0), (.getfield 47, 0, 0), (.iload_n 3, 0, 0)] (pc' := 96) (lo' := [some (.ref 66), some (.ref 75), some (.int v2), some (.int v3), some (.int 0)]) (st' := [.int v3, .ref 78]) (σ' := σ) (by decide +kernel) rfl rfl ?_
            obtain ⟨c96, h⟩ := ok_g h
            refine g_iald hx (by decide +kernel) (i := 78) (n := 60) rfl c96 ?_
            refine g_if_eq hx (off := 51) (tgt := 148) (by decide +kernel) (by decide) (fun c97 => ?_) (fun c97 => ?_)
            · have h := ok_t h c97
              refine g_run hx [(.iinc 3 1, 1, 0)] (pc' := 151) (lo' := [some (.ref 66), some (.ref 75), some (.int v2), some (.int (v3 + 1)), some (.int 0)]) (st' := []) (σ' := σ) (by decide +kernel) rfl rfl ?_
              refine g_goto hx (off := (-115)) (tgt := 36) (by decide +kernel) (by decide) ?_
              refine g_wk (lo' := [some (.ref 66), some (.ref 75), some (.int v2), some (.int (v3 + 1)), none]) ⟨rfl, ⟨rfl, ⟨rfl, ⟨rfl, trivial⟩⟩⟩⟩ ?_
              exact ih _ _ _ h
            · have h := ok_f h c97
              refine g_run hx [(.iload 4, 0, 0)] (pc' := 102) (lo' := [some (.ref 66), some (.ref 75), some (.int v2), some (.int v3), some (.int 0)]) (st' := [.int 0]) (σ' := σ) (by decide +kernel) rfl rfl ?_
              refine g_if_eq hx (off := 46) (tgt := 148) (by decide +kernel) (by decide) (fun _ => ?_) (fun c => absurd c (by decide))
              refine g_run hx [(.iinc 3 1, 1, 0)] (pc' := 151) (lo' := [some (.ref 66), some (.ref 75), some (.int v2), some (.int (v3 + 1)), some (.int 0)]) (st' := []) (σ' := σ) (by decide +kernel) rfl rfl ?_
              refine g_goto hx (off := (-115)) (tgt := 36) (by decide +kernel) (by decide) ?_
              refine g_wk (lo' := [some (.ref 66), some (.ref 75), some (.int v2), some (.int (v3 + 1)), none]) ⟨rfl, ⟨rfl, ⟨rfl, ⟨rfl, trivial⟩⟩⟩⟩ ?_
              exact ih _ _ _ h
          · have h := ok_t h c81
            refine g_run hx [(.iconst 1, 1, 0)] (pc' := 85) (lo' := [some (.ref 66), some (.ref 75), some (.int v2), some (.int v3), none]) (st' := [.int 1]) (σ' := σ) (by decide +kernel) rfl rfl ?_
            refine g_goto hx (off := 4) (tgt := 89) (by decide +kernel) (by decide) ?_
            refine g_run hx [(.istore 4, 0, 0), (.aload_n 0, 0, 0), (.getfield 47, 0, 0), (.iload_n 3, 0, 0)] (pc' := 96) (lo' := [some (.ref 66), some (.ref 75), some (.int v2), some (.int v3), some (.int 1)]) (st' := [.int v3, .ref 78]) (σ' := σ) (by decide +kernel) rfl rfl ?_
            obtain ⟨c96, h⟩ := ok_g h
            refine g_iald hx (by decide +kernel) (i := 78) (n := 60) rfl c96 ?_
            refine g_if_eq hx (off := 51) (tgt := 148) (by decide +kernel) (by decide) (fun c97 => ?_) (fun c97 => ?_)
            · have h := ok_t h c97
              refine g_run hx [(.iinc 3 1, 1, 0)] (pc' := 151) (lo' := [some (.ref 66), some (.ref 75), some (.int v2), some (.int (v3 + 1)), some (.int 1)]) (st' := []) (σ' := σ) (by decide +kernel) rfl rfl ?_
              refine g_goto hx (off := (-115)) (tgt := 36) (by decide +kernel) (by decide) ?_
              refine g_wk (lo' := [some (.ref 66), some (.ref 75), some (.int v2), some (.int (v3 + 1)), none]) ⟨rfl, ⟨rfl, ⟨rfl, ⟨rfl, trivial⟩⟩⟩⟩ ?_
              exact ih _ _ _ h
            · have h := ok_f h c97
              refine g_run hx [(.iload 4, 0, 0)] (pc' := 102) (lo' := [some (.ref 66), some (.ref 75), some (.int v2), some (.int v3), some (.int 1)]) (st' := [.int 1]) (σ' := σ) (by decide +kernel) rfl rfl ?_
              refine g_if_eq hx (off := 46) (tgt := 148) (by decide +kernel) (by decide) (fun c => absurd c (by decide)) (fun _ => ?_)
              refine g_run hx [(.aload_n 0, 0, 0), (.getfield 20, 0, 0), (.sipush 129, 129, 0), (.iload_n 3, 0, 0), (.iadd, 0, 0)] (pc' := 114) (lo' := [some (.ref 66), some (.ref 75), some (.int v2), some (.int v3), some (.int 1)]) (st' := [.int (129 + v3), .ref 69]) (σ' := σ) (by decide +kernel) rfl rfl ?_
              obtain ⟨c114, h⟩ := ok_g h
              refine g_iald hx (by decide +kernel) (i := 69) (n := 189) rfl c114 ?_
              refine g_run hx [(.iconst 1, 1, 0)] (pc' := 116) (lo' := [some (.ref 66), some (.ref 75), some (.int v2), some (.int v3), some (.int 1)]) (st' := [.int 1, .int (gA σ 69 (129 + v3))]) (σ' := σ) (by decide +kernel) rfl rfl ?_
              refine g_ic_ne hx (off := 6) (tgt := 122) (by decide +kernel) (by decide) (fun c116 => ?_) (fun c116 => ?_)
              · have h := ok_f h c116
                refine g_run hx [(.aload_n 1, 0, 0), (.iload_n 3, 0, 0), (.dup2, 0, 0)] (pc' := 125) (lo' := [some (.ref 66), some (.ref 75), some (.int v2), some (.int v3), some (.int 1)]) (st' := [.int v3, .ref 75, .int v3, .ref 75]) (σ' := σ) (by decide +kernel) rfl rfl ?_
                obtain ⟨c125, h⟩ := ok_g h
                refine g_iald hx (by decide +kernel) (i := 75) (n := 63) rfl c125 ?_
                refine g_run hx [(.iconst 1, 1, 0), (.isub, 0, 0)] (pc' := 128) (lo' := [some (.ref 66), some (.ref 75), some (.int v2), some (.int v3), some (.int 1)]) (st' := [.int ((gA σ 75 v3) - 1), .int v3, .ref 75]) (σ' := σ) (by decide +kernel) rfl rfl ?_
                obtain ⟨c128, h⟩ := ok_g h
                refine g_iast hx (by decide +kernel) (i := 75) (n := 63) rfl c128 ?_
                refine g_run hx [(.aload_n 0, 0, 0), (.iconst 1, 1, 0), (.putfield 269, 0, 0), (.iload_n 2, 0, 0), (.aload_n 1, 0, 0), (.iload_n 3, 0, 0)] (pc' := 137) (lo' := [some (.ref 66), some (.ref 75), some (.int v2), some (.int v3), some (.int 1)]) (st' := [.int v3, .ref 75, .int v2]) (σ' := sI (sA σ 75 v3 ((gA σ 75 v3) - 1)) 66 27 1) (by decide +kernel) rfl rfl ?_
                obtain ⟨c137, h⟩ := ok_g h
                refine g_iald hx (by decide +kernel) (i := 75) (n := 63) rfl c137 ?_
                refine g_if_ne hx (off := 7) (tgt := 145) (by decide +kernel) (by decide) (fun c138 => ?_) (fun c138 => ?_)
                · have h := ok_f h c138
                  refine g_run hx [(.iconst 0, 0, 0), (.iadd, 0, 0), (.istore_n 2, 0, 0), (.iinc 3 1, 1, 0)] (pc' := 151) (lo' := [some (.ref 66), some (.ref 75), some (.int (v2 + 0)), some (.int (v3 + 1)), some (.int 1)]) (st' := []) (σ' := sI (sA σ 75 v3 ((gA σ 75 v3) - 1)) 66 27 1) (by decide +kernel) rfl rfl ?_
                  refine g_goto hx (off := (-115)) (tgt := 36) (by decide +kernel) (by decide) ?_
                  refine g_wk (lo' := [some (.ref 66), some (.ref 75), some (.int (v2 + 0)), some (.int (v3 + 1)), none]) ⟨rfl, ⟨rfl, ⟨rfl, ⟨rfl, trivial⟩⟩⟩⟩ ?_
                  exact ih _ _ _ h
                · have h := ok_t h c138
                  refine g_run hx [(.iconst 1, 1, 0)] (pc' := 142) (lo' := [some (.ref 66), some (.ref 75), some (.int v2), some (.int v3), some (.int 1)]) (st' := [.int 1, .int v2]) (σ' := sI (sA σ 75 v3 ((gA σ 75 v3) - 1)) 66 27 1) (by decide +kernel) rfl rfl ?_
                  refine g_goto hx (off := 4) (tgt := 146) (by decide +kernel) (by decide) ?_
                  refine g_run hx [(.iadd, 0, 0), (.istore_n 2, 0, 0), (.iinc 3 1, 1, 0)] (pc' := 151) (lo' := [some (.ref 66), some (.ref 75), some (.int (v2 + 1)), some (.int (v3 + 1)), some (.int 1)]) (st' := []) (σ' := sI (sA σ 75 v3 ((gA σ 75 v3) - 1)) 66 27 1) (by decide +kernel) rfl rfl ?_
                  refine g_goto hx (off := (-115)) (tgt := 36) (by decide +kernel) (by decide) ?_
                  refine g_wk (lo' := [some (.ref 66), some (.ref 75), some (.int (v2 + 1)), some (.int (v3 + 1)), none]) ⟨rfl, ⟨rfl, ⟨rfl, ⟨rfl, trivial⟩⟩⟩⟩ ?_
                  exact ih _ _ _ h
              · have h := ok_t h c116
                refine g_goto hx (off := 29) (tgt := 148) (by decide +kernel) (by decide) ?_
                refine g_run hx [(.iinc 3 1, 1, 0)] (pc' := 151) (lo' := [some (.ref 66), some (.ref 75), some (.int v2), some (.int (v3 + 1)), some (.int 1)]) (st' := []) (σ' := σ) (by decide +kernel) rfl rfl ?_
                refine g_goto hx (off := (-115)) (tgt := 36) (by decide +kernel) (by decide) ?_
                refine g_wk (lo' := [some (.ref 66), some (.ref 75), some (.int v2), some (.int (v3 + 1)), none]) ⟨rfl, ⟨rfl, ⟨rfl, ⟨rfl, trivial⟩⟩⟩⟩ ?_
                exact ih _ _ _ h
      · have h := ok_f h c47
        refine g_run hx [(.aload_n 0, 0, 0), (.getfield 47, 0, 0), (.iload_n 3, 0, 0), (.iconst 1, 1, 0), (.isub, 0, 0)] (pc' := 57) (lo' := [some (.ref 66), some (.ref 75), some (.int v2), some (.int v3), none]) (st' := [.int (v3 - 1), .ref 78]) (σ' := σ) (by decide +kernel) rfl rfl ?_
        obtain ⟨c57, h⟩ := ok_g h
        refine g_iald hx (by decide +kernel) (i := 78) (n := 60) rfl c57 ?_
        refine g_if_eq hx (off := 26) (tgt := 84) (by decide +kernel) (by decide) (fun c58 => ?_) (fun c58 => ?_)
        · have h := ok_t h c58
          refine g_run hx [(.iconst 1, 1, 0)] (pc' := 85) (lo' := [some (.ref 66), some (.ref 75), some (.int v2), some (.int v3), none]) (st' := [.int 1]) (σ' := σ) (by decide +kernel) rfl rfl ?_
          refine g_goto hx (off := 4) (tgt := 89) (by decide +kernel) (by decide) ?_
          refine g_run hx [(.istore 4, 0, 0), (.aload_n 0, 0, 0), (.getfield 47, 0, 0), (.iload_n 3, 0, 0)] (pc' := 96) (lo' := [some (.ref 66), some (.ref 75), some (.int v2), some (.int v3), some (.int 1)]) (st' := [.int v3, .ref 78]) (σ' := σ) (by decide +kernel) rfl rfl ?_
          obtain ⟨c96, h⟩ := ok_g h
          refine g_iald hx (by decide +kernel) (i := 78) (n := 60) rfl c96 ?_
          refine g_if_eq hx (off := 51) (tgt := 148) (by decide +kernel) (by decide) (fun c97 => ?_) (fun c97 => ?_)
          · have h := ok_t h c97
            refine g_run hx [(.iinc 3 1, 1, 0)] (pc' := 151) (lo' := [some (.ref 66), some (.ref 75), some (.int v2), some (.int (v3 + 1)), some (.int 1)]) (st' := []) (σ' := σ) (by decide +kernel) rfl rfl ?_
            refine g_goto hx (off := (-115)) (tgt := 36) (by decide +kernel) (by decide) ?_
            refine g_wk (lo' := [some (.ref 66), some (.ref 75), some (.int v2), some (.int (v3 + 1)), none]) ⟨rfl, ⟨rfl, ⟨rfl, ⟨rfl, trivial⟩⟩⟩⟩ ?_
            exact ih _ _ _ h
          · have h := ok_f h c97
            refine g_run hx [(.iload 4, 0, 0)] (pc' := 102) (lo' := [some (.ref 66), some (.ref 75), some (.int v2), some (.int v3), some (.int 1)]) (st' := [.int 1]) (σ' := σ) (by decide +kernel) rfl rfl ?_
            refine g_if_eq hx (off := 46) (tgt := 148) (by decide +kernel) (by decide) (fun c => absurd c (by decide)) (fun _ => ?_)
            refine g_run hx [(.aload_n 0, 0, 0), (.getfield 20, 0, 0), (.sipush 129, 129, 0), (.iload_n 3, 0, 0), (.iadd, 0, 0)] (pc' := 114) (lo' := [some (.ref 66), some (.ref 75), some (.int v2), some (.int v3), some (.int 1)]) (st' := [.int (129 + v3), .ref 69]) (σ' := σ) (by decide +kernel) rfl rfl ?_
            obtain ⟨c114, h⟩ := ok_g h
            refine g_iald hx (by decide +kernel) (i := 69) (n := 189) rfl c114 ?_
            refine g_run hx [(.iconst 1, 1, 0)] (pc' := 116) (lo' := [some (.ref 66), some (.ref 75), some (.int v2), some (.int v3), some (.int 1)]) (st' := [.int 1, .int (gA σ 69 (129 + v3))]) (σ' := σ) (by decide +kernel) rfl rfl ?_
            refine g_ic_ne hx (off := 6) (tgt := 122) (by decide +kernel) (by decide) (fun c116 => ?_) (fun c116 => ?_)
            · have h := ok_f h c116
              refine g_run hx [(.aload_n 1, 0, 0), (.iload_n 3, 0, 0), (.dup2, 0, 0)] (pc' := 125) (lo' := [some (.ref 66), some (.ref 75), some (.int v2), some (.int v3), some (.int 1)]) (st' := [.int v3, .ref 75, .int v3, .ref 75]) (σ' := σ) (by decide +kernel) rfl rfl ?_
              obtain ⟨c125, h⟩ := ok_g h
              refine g_iald hx (by decide +kernel) (i := 75) (n := 63) rfl c125 ?_
              refine g_run hx [(.iconst 1, 1, 0), (.isub, 0, 0)] (pc' := 128) (lo' := [some (.ref 66), some (.ref 75), some (.int v2), some (.int v3), some (.int 1)]) (st' := [.int ((gA σ 75 v3) - 1), .int v3, .ref 75]) (σ' := σ) (by decide +kernel) rfl rfl ?_
              obtain ⟨c128, h⟩ := ok_g h
              refine g_iast hx (by decide +kernel) (i := 75) (n := 63) rfl c128 ?_
              refine g_run hx [(.aload_n 0, 0, 0), (.iconst 1, 1, 0), (.putfield 269, 0, 0), (.iload_n 2, 0, 0), (.aload_n 1, 0, 0), (.iload_n 3, 0, 0)] (pc' := 137) (lo' := [some (.ref 66), some (.ref 75), some (.int v2), some (.int v3), some (.int 1)]) (st' := [.int v3, .ref 75, .int v2]) (σ' := sI (sA σ 75 v3 ((gA σ 75 v3) - 1)) 66 27 1) (by decide +kernel) rfl rfl ?_
              obtain ⟨c137, h⟩ := ok_g h
              refine g_iald hx (by decide +kernel) (i := 75) (n := 63) rfl c137 ?_
              refine g_if_ne hx (off := 7) (tgt := 145) (by decide +kernel) (by decide) (fun c138 => ?_) (fun c138 => ?_)
              · have h := ok_f h c138
                refine g_run hx [(.iconst 0, 0, 0), (.iadd, 0, 0), (.istore_n 2, 0, 0), (.iinc 3 1, 1, 0)] (pc' := 151) (lo' := [some (.ref 66), some (.ref 75), some (.int (v2 + 0)), some (.int (v3 + 1)), some (.int 1)]) (st' := []) (σ' := sI (sA σ 75 v3 ((gA σ 75 v3) - 1)) 66 27 1) (by decide +kernel) rfl rfl ?_
                refine g_goto hx (off := (-115)) (tgt := 36) (by decide +kernel) (by decide) ?_
                refine g_wk (lo' := [some (.ref 66), some (.ref 75), some (.int (v2 + 0)), some (.int (v3 + 1)), none]) ⟨rfl, ⟨rfl, ⟨rfl, ⟨rfl, trivial⟩⟩⟩⟩ ?_
                exact ih _ _ _ h
              · have h := ok_t h c138
                refine g_run hx [(.iconst 1, 1, 0)] (pc' := 142) (lo' := [some (.ref 66), some (.ref 75), some (.int v2), some (.int v3), some (.int 1)]) (st' := [.int 1, .int v2]) (σ' := sI (sA σ 75 v3 ((gA σ 75 v3) - 1)) 66 27 1) (by decide +kernel) rfl rfl ?_
                refine g_goto hx (off := 4) (tgt := 146) (by decide +kernel) (by decide) ?_
                refine g_run hx [(.iadd, 0, 0), (.istore_n 2, 0, 0), (.iinc 3 1, 1, 0)] (pc' := 151) (lo' := [some (.ref 66), some (.ref 75), some (.int (v2 + 1)), some (.int (v3 + 1)), some (.int 1)]) (st' := []) (σ' := sI (sA σ 75 v3 ((gA σ 75 v3) - 1)) 66 27 1) (by decide +kernel) rfl rfl ?_
                refine g_goto hx (off := (-115)) (tgt := 36) (by decide +kernel) (by decide) ?_
                refine g_wk (lo' := [some (.ref 66), some (.ref 75), some (.int (v2 + 1)), some (.int (v3 + 1)), none]) ⟨rfl, ⟨rfl, ⟨rfl, ⟨rfl, trivial⟩⟩⟩⟩ ?_
                exact ih _ _ _ h
            · have h := ok_t h c116
              refine g_goto hx (off := 29) (tgt := 148) (by decide +kernel) (by decide) ?_
              refine g_run hx [(.iinc 3 1, 1, 0)] (pc' := 151) (lo' := [some (.ref 66), some (.ref 75), some (.int v2), some (.int (v3 + 1)), some (.int 1)]) (st' := []) (σ' := σ) (by decide +kernel) rfl rfl ?_
              refine g_goto hx (off := (-115)) (tgt := 36) (by decide +kernel) (by decide) ?_
              refine g_wk (lo' := [some (.ref 66), some (.ref 75), some (.int v2), some (.int (v3 + 1)), none]) ⟨rfl, ⟨rfl, ⟨rfl, ⟨rfl, trivial⟩⟩⟩⟩ ?_
              exact ih _ _ _ h
        · have h := ok_f h c58
          refine g_run hx [(.iload_n 3, 0, 0), (.iconst 1, 1, 0), (.iadd, 0, 0), (.aload_n 0, 0, 0), (.getfield 20, 0, 0), (.iconst 0, 0, 0), (.iaload, 0, 0)] (pc' := 70) (lo' := [some (.ref 66), some (.ref 75), some (.int v2), some (.int v3), none]) (st' := [.int (gA σ 69 0), .int (v3 + 1)]) (σ' := σ) (by decide +kernel) rfl rfl ?_
          refine g_ic_ge hx (off := 18) (tgt := 88) (by decide +kernel) (by decide) (fun c70 => ?_) (fun c70 => ?_)
          · have h := ok_t h c70
            refine g_run hx [(.iconst 0, 0, 0), (.istore 4, 0, 0), (.aload_n 0, 0, 0), (.getfield 47, 0, 0), (.iload_n 3, 0, 0)] (pc' := 96) (lo' := [some (.ref 66), some (.ref 75), some (.int v2), some (.int v3), some (.int 0)]) (st' := [.int v3, .ref 78]) (σ' := σ) (by decide +kernel) rfl rfl ?_
            obtain ⟨c96, h⟩ := ok_g h
            refine g_iald hx (by decide +kernel) (i := 78) (n := 60) rfl c96 ?_
            refine g_if_eq hx (off := 51) (tgt := 148) (by decide +kernel) (by decide) (fun c97 => ?_) (fun c97 => ?_)
            · have h := ok_t h c97
              refine g_run hx [(.iinc 3 1, 1, 0)] (pc' := 151) (lo' := [some (.ref 66), some (.ref 75), some (.int v2), some (.int (v3 + 1)), some (.int 0)]) (st' := []) (σ' := σ) (by decide +kernel) rfl rfl ?_
              refine g_goto hx (off := (-115)) (tgt := 36) (by decide +kernel) (by decide) ?_
              refine g_wk (lo' := [some (.ref 66), some (.ref 75), some (.int v2), some (.int (v3 + 1)), none]) ⟨rfl, ⟨rfl, ⟨rfl, ⟨rfl, trivial⟩⟩⟩⟩ ?_
              exact ih _ _ _ h
            · have h := ok_f h c97
              refine g_run hx [(.iload 4, 0, 0)] (pc' := 102) (lo' := [some (.ref 66), some (.ref 75), some (.int v2), some (.int v3), some (.int 0)]) (st' := [.int 0]) (σ' := σ) (by decide +kernel) rfl rfl ?_
              refine g_if_eq hx (off := 46) (tgt := 148) (by decide +kernel) (by decide) (fun _ => ?_) (fun c => absurd c (by decide))
              refine g_run hx [(.iinc 3 1, 1, 0)] (pc' := 151) (lo' := [some (.ref 66), some (.ref 75), some (.int v2), some (.int (v3 + 1)), some (.int 0)]) (st' := []) (σ' := σ) (by decide +kernel) rfl rfl ?_
              refine g_goto hx (off := (-115)) (tgt := 36) (by decide +kernel) (by decide) ?_
              refine g_wk (lo' := [some (.ref 66), some (.ref 75), some (.int v2), some (.int (v3 + 1)), none]) ⟨rfl, ⟨rfl, ⟨rfl, ⟨rfl, trivial⟩⟩⟩⟩ ?_
              exact ih _ _ _ h
          · have h := ok_f h c70
            refine g_run hx [(.aload_n 0, 0, 0), (.getfield 47, 0, 0), (.iload_n 3, 0, 0), (.iconst 1, 1, 0), (.iadd, 0, 0)] (pc' := 80) (lo' := [some (.ref 66), some (.ref 75), some (.int v2), some (.int v3), none]) (st' := [.int (v3 + 1), .ref 78]) (σ' := σ) (by decide +kernel) rfl rfl ?_
            obtain ⟨c80, h⟩ := ok_g h
            refine g_iald hx (by decide +kernel) (i := 78) (n := 60) rfl c80 ?_
            refine g_if_ne hx (off := 7) (tgt := 88) (by decide +kernel) (by decide) (fun c81 => ?_) (fun c81 => ?_)
            · have h := ok_f h c81
              refine g_run hx [(.iconst 0, 0, 0), (.istore 4, 0, 0), (.aload_n 0, 0, 0), (.getfield 47, 0, 0), (.iload_n 3, 0, 0)] (pc' := 96) (lo' := [some (.ref 66), some (.ref 75), some (.int v2), some (.int v3), some (.int 0)]) (st' := [.int v3, .ref 78]) (σ' := σ) (by decide +kernel) rfl rfl ?_
              obtain ⟨c96, h⟩ := ok_g h
              refine g_iald hx (by decide +kernel) (i := 78) (n := 60) rfl c96 ?_
              refine g_if_eq hx (off := 51) (tgt := 148) (by decide +kernel) (by decide) (fun c97 => ?_) (fun c97 => ?_)
              · have h := ok_t h c97
                refine g_run hx [(.iinc 3 1, 1, 0)] (pc' := 151) (lo' := [some (.ref 66), some (.ref 75), some (.int v2), some (.int (v3 + 1)), some (.int 0)]) (st' := []) (σ' := σ) (by decide +kernel) rfl rfl ?_
                refine g_goto hx (off := (-115)) (tgt := 36) (by decide +kernel) (by decide) ?_
                refine g_wk (lo' := [some (.ref 66), some (.ref 75), some (.int v2), some (.int (v3 + 1)), none]) ⟨rfl, ⟨rfl, ⟨rfl, ⟨rfl, trivial⟩⟩⟩⟩ ?_
                exact ih _ _ _ h
              · have h := ok_f h c97
                refine g_run hx [(.iload 4, 0, 0)] (pc' := 102) (lo' := [some (.ref 66), some (.ref 75), some (.int v2), some (.int v3), some (.int 0)]) (st' := [.int 0]) (σ' := σ) (by decide +kernel) rfl rfl ?_
                refine g_if_eq hx (off := 46) (tgt := 148) (by decide +kernel) (by decide) (fun _ => ?_) (fun c => absurd c (by decide))
                refine g_run hx [(.iinc 3 1, 1, 0)] (pc' := 151) (lo' := [some (.ref 66), some (.ref 75), some (.int v2), some (.int (v3 + 1)), some (.int 0)]) (st' := []) (σ' := σ) (by decide +kernel) rfl rfl ?_
                refine g_goto hx (off := (-115)) (tgt := 36) (by decide +kernel) (by decide) ?_
                refine g_wk (lo' := [some (.ref 66), some (.ref 75), some (.int v2), some (.int (v3 + 1)), none]) ⟨rfl, ⟨rfl, ⟨rfl, ⟨rfl, trivial⟩⟩⟩⟩ ?_
                exact ih _ _ _ h
            · have h := ok_t h c81
              refine g_run hx [(.iconst 1, 1, 0)] (pc' := 85) (lo' := [some (.ref 66), some (.ref 75), some (.int v2), some (.int v3), none]) (st' := [.int 1]) (σ' := σ) (by decide +kernel) rfl rfl ?_
              refine g_goto hx (off := 4) (tgt := 89) (by decide +kernel) (by decide) ?_
              refine g_run hx [(.istore 4, 0, 0), (.aload_n 0, 0, 0), (.getfield 47, 0, 0), (.iload_n 3, 0, 0)] (pc' := 96) (lo' := [some (.ref 66), some (.ref 75), some (.int v2), some (.int v3), some (.int 1)]) (st' := [.int v3, .ref 78]) (σ' := σ) (by decide +kernel) rfl rfl ?_
              obtain ⟨c96, h⟩ := ok_g h
              refine g_iald hx (by decide +kernel) (i := 78) (n := 60) rfl c96 ?_
              refine g_if_eq hx (off := 51) (tgt := 148) (by decide +kernel) (by decide) (fun c97 => ?_) (fun c97 => ?_)
              · have h := ok_t h c97
                refine g_run hx [(.iinc 3 1, 1, 0)] (pc' := 151) (lo' := [some (.ref 66), some (.ref 75), some (.int v2), some (.int (v3 + 1)), some (.int 1)]) (st' := []) (σ' := σ) (by decide +kernel) rfl rfl ?_
                refine g_goto hx (off := (-115)) (tgt := 36) (by decide +kernel) (by decide) ?_
                refine g_wk (lo' := [some (.ref 66), some (.ref 75), some (.int v2), some (.int (v3 + 1)), none]) ⟨rfl, ⟨rfl, ⟨rfl, ⟨rfl, trivial⟩⟩⟩⟩ ?_
                exact ih _ _ _ h
              · have h := ok_f h c97
                refine g_run hx [(.iload 4, 0, 0)] (pc' := 102) (lo' := [some (.ref 66), some (.ref 75), some (.int v2), some (.int v3), some (.int 1)]) (st' := [.int 1]) (σ' := σ) (by decide +kernel) rfl rfl ?_
                refine g_if_eq hx (off := 46) (tgt := 148) (by decide +kernel) (by decide) (fun c => absurd c (by decide)) (fun _ => ?_)
                refine g_run hx [(.aload_n 0, 0, 0), (.getfield 20, 0, 0), (.sipush 129, 129, 0), (.iload_n 3, 0, 0), (.iadd, 0, 0)] (pc' := 114) (lo' := [some (.ref 66), some (.ref 75), some (.int v2), some (.int v3), some (.int 1)]) (st' := [.int (129 + v3), .ref 69]) (σ' := σ) (by decide +kernel) rfl rfl ?_
                obtain ⟨c114, h⟩ := ok_g h
                refine g_iald hx (by decide +kernel) (i := 69) (n := 189) rfl c114 ?_
                refine g_run hx [(.iconst 1, 1, 0)] (pc' := 116) (lo' := [some (.ref 66), some (.ref 75), some (.int v2), some (.int v3), some (.int 1)]) (st' := [.int 1, .int (gA σ 69 (129 + v3))]) (σ' := σ) (by decide +kernel) rfl rfl ?_
                refine g_ic_ne hx (off := 6) (tgt := 122) (by decide +kernel) (by decide) (fun c116 => ?_) (fun c116 => ?_)
                · have h := ok_f h c116
                  refine g_run hx [(.aload_n 1, 0, 0), (.iload_n 3, 0, 0), (.dup2, 0, 0)] (pc' := 125) (lo' := [some (.ref 66), some (.ref 75), some (.int v2), some (.int v3), some (.int 1)]) (st' := [.int v3, .ref 75, .int v3, .ref 75]) (σ' := σ) (by decide +kernel) rfl rfl ?_
                  obtain ⟨c125, h⟩ := ok_g h
                  refine g_iald hx (by decide +kernel) (i := 75) (n := 63) rfl c125 ?_
                  refine g_run hx [(.iconst 1, 1, 0), (.isub, 0, 0)] (pc' := 128) (lo' := [some (.ref 66), some (.ref 75), some (.int v2), some (.int v3), some (.int 1)]) (st' := [.int ((gA σ 75 v3) - 1), .int v3, .ref 75]) (σ' := σ) (by decide +kernel) rfl rfl ?_
                  obtain ⟨c128, h⟩ := ok_g h
                  refine g_iast hx (by decide +kernel) (i := 75) (n := 63) rfl c128 ?_
                  refine g_run hx [(.aload_n 0, 0, 0), (.iconst 1, 1, 0), (.putfield 269, 0, 0), (.iload_n 2, 0, 0), (.aload_n 1, 0, 0), (.iload_n 3, 0, 0)] (pc' := 137) (lo' := [some (.ref 66), some (.ref 75), some (.int v2), some (.int v3), some (.int 1)]) (st' := [.int v3, .ref 75, .int v2]) (σ' := sI (sA σ 75 v3 ((gA σ 75 v3) - 1)) 66 27 1) (by decide +kernel) rfl rfl ?_
                  obtain ⟨c137, h⟩ := ok_g h
                  refine g_iald hx (by decide +kernel) (i := 75) (n := 63) rfl c137 ?_
                  refine g_if_ne hx (off := 7) (tgt := 145) (by decide +kernel) (by decide) (fun c138 => ?_) (fun c138 => ?_)
                  · have h := ok_f h c138
                    refine g_run hx [(.iconst 0, 0, 0), (.iadd, 0, 0), (.istore_n 2, 0, 0), (.iinc 3 1, 1, 0)] (pc' := 151) (lo' := [some (.ref 66), some (.ref 75), some (.int (v2 + 0)), some (.int (v3 + 1)), some (.int 1)]) (st' := []) (σ' := sI (sA σ 75 v3 ((gA σ 75 v3) - 1)) 66 27 1) (by decide +kernel) rfl rfl ?_
                    refine g_goto hx (off := (-115)) (tgt := 36) (by decide +kernel) (by decide) ?_
                    refine g_wk (lo' := [some (.ref 66), some (.ref 75), some (.int (v2 + 0)), some (.int (v3 + 1)), none]) ⟨rfl, ⟨rfl, ⟨rfl, ⟨rfl, trivial⟩⟩⟩⟩ ?_
                    exact ih _ _ _ h
                  · have h := ok_t h c138
                    refine g_run hx [(.iconst 1, 1, 0)] (pc' := 142) (lo' := [some (.ref 66), some (.ref 75), some (.int v2), some (.int v3), some (.int 1)]) (st' := [.int 1, .int v2]) (σ' := sI (sA σ 75 v3 ((gA σ 75 v3) - 1)) 66 27 1) (by decide +kernel) rfl rfl ?_
                    refine g_goto hx (off := 4) (tgt := 146) (by decide +kernel) (by decide) ?_
                    refine g_run hx [(.iadd, 0, 0), (.istore_n 2, 0, 0), (.iinc 3 1, 1, 0)] (pc' := 151) (lo' := [some (.ref 66), some (.ref 75), some (.int (v2 + 1)), some (.int (v3 + 1)), some (.int 1)]) (st' := []) (σ' := sI (sA σ 75 v3 ((gA σ 75 v3) - 1)) 66 27 1) (by decide +kernel) rfl rfl ?_
                    refine g_goto hx (off := (-115)) (tgt := 36) (by decide +kernel) (by decide) ?_
                    refine g_wk (lo' := [some (.ref 66), some (.ref 75), some (.int (v2 + 1)), some (.int (v3 + 1)), none]) ⟨rfl, ⟨rfl, ⟨rfl, ⟨rfl, trivial⟩⟩⟩⟩ ?_
                    exact ih _ _ _ h
                · have h := ok_t h c116
                  refine g_goto hx (off := 29) (tgt := 148) (by decide +kernel) (by decide) ?_
                  refine g_run hx [(.iinc 3 1, 1, 0)] (pc' := 151) (lo' := [some (.ref 66), some (.ref 75), some (.int v2), some (.int (v3 + 1)), some (.int 1)]) (st' := []) (σ' := σ) (by decide +kernel) rfl rfl ?_
                  refine g_goto hx (off := (-115)) (tgt := 36) (by decide +kernel) (by decide) ?_
                  refine g_wk (lo' := [some (.ref 66), some (.ref 75), some (.int v2), some (.int (v3 + 1)), none]) ⟨rfl, ⟨rfl, ⟨rfl, ⟨rfl, trivial⟩⟩⟩⟩ ?_
                  exact ih _ _ _ h
set_option maxRecDepth 100000 in
theorem s_m_yearOn_66_75 {y : EX} {N : Nat} {σ : Sg} {P : Int32 × Sg → Prop} (h : ok (f_m_yearOn N 69 63 60 78 75 189 66 σ) P) : Ev y M_m_yearOn 0 [.ref 66, .ref 75] σ rvI P := by
  refine Ev.of mk_m_yearOn (Nat.le_of_ble_eq_true rfl) (fun x hx hc hr => ?_)
  have hx : Cx 10 prog_12_method_47_code x := hx
  have hc : Cc y 5 0 x := hc
  show G x 0 [some (.ref 66), some (.ref 75), none, none, none] [] σ
  unfold f_m_yearOn at h
  refine g_run hx [(.iconst 0, 0, 0), (.istore_n 2, 0, 0), (.aload_n 0, 0, 0), (.iconst 0, 0, 0), (.putfield 269, 0, 0), (.iconst 0, 0, 0), (.istore_n 3, 0, 0)] (pc' := 9) (lo' := [some (.ref 66), some (.ref 75), some (.int 0), some (.int 0), none]) (st' := []) (σ' := sI σ 66 27 0) (by decide +kernel) rfl rfl ?_
  refine s_m_yearOn_66_75_L9 hx hc hr N _ _ _ _ (fun w2 t1 h => ?_) h
  refine g_run hx [(.iconst 0, 0, 0), (.istore_n 3, 0, 0)] (pc' := 36) (lo' := [some (.ref 66), some (.ref 75), some (.int w2), some (.int 0), none]) (st' := []) (σ' := t1) (by decide +kernel) rfl rfl ?_
  refine s_m_yearOn_66_75_L36 hx hc hr N _ _ _ h
