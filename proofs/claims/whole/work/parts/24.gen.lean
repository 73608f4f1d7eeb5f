def f_m_find_L44 (N : Nat) : Nat → Int32 → Int32 → Int32 → Sg → (Int32 → Int32 → Sg → Option (Int32 × Sg)) → Option (Int32 × Sg)
  | 0, _, _, _, _, _ => none
  | n + 1, v1, v2, v3, σ, k91 =>
    if (gI σ 66 8) ≤ v3 then
      k91 v1 v2 σ
    else
      if v2 = 0 then
        k91 v1 v2 σ
      else
        if vin ((57 + (8 * v1)) + v3) 189 then
        if vin v3 8 then
        if (gA σ 70 ((57 + (8 * v1)) + v3)) = (gA σ 68 v3) then
          f_m_find_L44 N n v1 1 (v3 + 1) σ k91
        else
          f_m_find_L44 N n v1 0 (v3 + 1) σ k91
        else none
        else none
def f_m_find_L2 (N : Nat) : Nat → Int32 → Sg → Option (Int32 × Sg)
  | 0, _, _ => none
  | n + 1, v1, σ =>
    if 9 ≤ v1 then
      some ((-1), σ)
    else
      if vin (48 + v1) 189 then
      if (gA σ 70 (48 + v1)) ≤ 0 then
        f_m_find_L44 N N v1 0 0 σ
          (fun (w1 : Int32) (w2 : Int32) (t1 : Sg) =>
            if w2 = 0 then
              f_m_find_L2 N n (w1 + 1) t1
            else
              some (w1, t1))
      else
        if vin (48 + v1) 189 then
        if (gA σ 70 (48 + v1)) = (gI σ 66 8) then
          f_m_find_L44 N N v1 1 0 σ
            (fun (w1 : Int32) (w2 : Int32) (t3 : Sg) =>
              if w2 = 0 then
                f_m_find_L2 N n (w1 + 1) t3
              else
                some (w1, t3))
        else
          f_m_find_L44 N N v1 0 0 σ
            (fun (w1 : Int32) (w2 : Int32) (t2 : Sg) =>
              if w2 = 0 then
                f_m_find_L2 N n (w1 + 1) t2
              else
                some (w1, t2))
        else none
      else none
def f_m_find (N : Nat) (σ : Sg) : Option (Int32 × Sg) :=
  f_m_find_L2 N N 0 σ
set_option maxRecDepth 100000 in
theorem s_m_find_L44 {y : EX} {N : Nat} {x : CX} {P : Int32 × Sg → Prop} (hx : Cx 10 prog_12_method_20_code x) (hc : Cc y 4 0 x) (hr : Cr M_m_find rvI P x) : ∀ (n : Nat) (v1 : Int32) (v2 : Int32) (v3 : Int32) (σ : Sg) (k91 : Int32 → Int32 → Sg → Option (Int32 × Sg)) (hk91 : ∀ (w1 : Int32) (w2 : Int32) (t : Sg), ok (k91 w1 w2 t) P → G x 91 [some (.ref 66), some (.int w1), some (.int w2), none] [] t), ok (f_m_find_L44 N n v1 v2 v3 σ k91) P → G x 44 [some (.ref 66), some (.int v1), some (.int v2), some (.int v3)] [] σ := by
  intro n
  induction n with
  | zero => intro v1 v2 v3 σ k91 hk91 h; exact ok_none h
  | succ n ih =>
    intro v1 v2 v3 σ k91 hk91 h
    rw [f_m_find_L44] at h
    refine g_run hx [(.iload_n 3, 0, 0), (.aload_n 0, 0, 0), (.getfield 90, 0, 0)] (pc' := 49) (lo' := [some (.ref 66), some (.int v1), some (.int v2), some (.int v3)]) (st' := [.int (gI σ 66 8), .int v3]) (σ' := σ) (by decide +kernel) rfl rfl ?_
    refine g_ic_ge hx (off := 42) (tgt := 91) (by decide +kernel) (by decide) (fun c49 => ?_) (fun c49 => ?_)
    · have h := ok_t h c49
      refine g_wk (lo' := [some (.ref 66), some (.int v1), some (.int v2), none]) ⟨rfl, ⟨rfl, ⟨rfl, trivial⟩⟩⟩ ?_
      exact hk91 _ _ _ h
    · have h := ok_f h c49
      refine g_run hx [(.iload_n 2, 0, 0)] (pc' := 53) (lo' := [some (.ref 66), some (.int v1), some (.int v2), some (.int v3)]) (st' := [.int v2]) (σ' := σ) (by decide +kernel) rfl rfl ?_
      refine g_if_eq hx (off := 38) (tgt := 91) (by decide +kernel) (by decide) (fun c53 => ?_) (fun c53 => ?_)
      · have h := ok_t h c53
        refine g_wk (lo' := [some (.ref 66), some (.int v1), some (.int v2), none]) ⟨rfl, ⟨rfl, ⟨rfl, trivial⟩⟩⟩ ?_
        exact hk91 _ _ _ h
      · have h := ok_f h c53
        refine g_run hx [(.aload_n 0, 0, 0), (.getfield 23, 0, 0), (.bipush 57, 57, 0), (.bipush 8, 8, 0), (.iload_n 1, 0, 0), (.imul, 0, 0), (.iadd, 0, 0), (.iload_n 3, 0, 0), (.iadd, 0, 0)] (pc' := 69) (lo' := [some (.ref 66), some (.int v1), some (.int v2), some (.int v3)]) (st' := [.int ((57 + (8 * v1)) + v3), .ref 70]) (σ' := σ) (by decide +kernel) rfl rfl ?_
        obtain ⟨c69, h⟩ := ok_g h
        refine g_iald hx (by decide +kernel) (i := 70) (n := 189) rfl c69 ?_
        refine g_run hx [(.aload_n 0, 0, 0), (.getfield 17, 0, 0), (.iload_n 3, 0, 0)] (pc' := 75) (lo' := [some (.ref 66), some (.int v1), some (.int v2), some (.int v3)]) (st' := [.int v3, .ref 68, .int (gA σ 70 ((57 + (8 * v1)) + v3))]) (σ' := σ) (by decide +kernel) rfl rfl ?_
        obtain ⟨c75, h⟩ := ok_g h
        refine g_iald hx (by decide +kernel) (i := 68) (n := 8) rfl c75 ?_
        refine g_ic_ne hx (off := 7) (tgt := 83) (by decide +kernel) (by decide) (fun c76 => ?_) (fun c76 => ?_)
        · have h := ok_f h c76
          refine g_run hx [(.iconst 0, 0, 0), (.istore_n 2, 0, 0), (.iinc 3 1, 1, 0)] (pc' := 88) (lo' := [some (.ref 66), some (.int v1), some (.int 0), some (.int (v3 + 1))]) (st' := []) (σ' := σ) (by decide +kernel) rfl rfl ?_
          refine g_goto hx (off := (-44)) (tgt := 44) (by decide +kernel) (by decide) ?_
          exact ih _ _ _ _ _ hk91 h
        · have h := ok_t h c76
          refine g_run hx [(.iconst 1, 1, 0)] (pc' := 80) (lo' := [some (.ref 66), some (.int v1), some (.int v2), some (.int v3)]) (st' := [.int 1]) (σ' := σ) (by decide +kernel) rfl rfl ?_
          refine g_goto hx (off := 4) (tgt := 84) (by decide +kernel) (by decide) ?_
          refine g_run hx [(.istore_n 2, 0, 0), (.iinc 3 1, 1, 0)] (pc' := 88) (lo' := [some (.ref 66), some (.int v1), some (.int 1), some (.int (v3 + 1))]) (st' := []) (σ' := σ) (by decide +kernel) rfl rfl ?_
          refine g_goto hx (off := (-44)) (tgt := 44) (by decide +kernel) (by decide) ?_
          exact ih _ _ _ _ _ hk91 h
set_option maxRecDepth 100000 in
theorem s_m_find_L2 {y : EX} {N : Nat} {x : CX} {P : Int32 × Sg → Prop} (hx : Cx 10 prog_12_method_20_code x) (hc : Cc y 4 0 x) (hr : Cr M_m_find rvI P x) : ∀ (n : Nat) (v1 : Int32) (σ : Sg), ok (f_m_find_L2 N n v1 σ) P → G x 2 [some (.ref 66), some (.int v1), none, none] [] σ := by
  intro n
  induction n with
  | zero => intro v1 σ h; exact ok_none h
  | succ n ih =>
    intro v1 σ h
    rw [f_m_find_L2] at h
    refine g_run hx [(.iload_n 1, 0, 0), (.bipush 9, 9, 0)] (pc' := 5) (lo' := [some (.ref 66), some (.int v1), none, none]) (st' := [.int 9, .int v1]) (σ' := σ) (by decide +kernel) rfl rfl ?_
    refine g_ic_ge hx (off := 98) (tgt := 103) (by decide +kernel) (by decide) (fun c5 => ?_) (fun c5 => ?_)
    · have h := ok_t h c5
      refine g_run hx [(.iconst (-1), (-1), 0)] (pc' := 104) (lo' := [some (.ref 66), some (.int v1), none, none]) (st' := [.int (-1)]) (σ' := σ) (by decide +kernel) rfl rfl ?_
      exact g_iret hx hr rfl _ rfl (by decide +kernel) (ok_some h)
    · have h := ok_f h c5
      refine g_run hx [(.aload_n 0, 0, 0), (.getfield 23, 0, 0), (.bipush 48, 48, 0), (.iload_n 1, 0, 0), (.iadd, 0, 0)] (pc' := 16) (lo' := [some (.ref 66), some (.int v1), none, none]) (st' := [.int (48 + v1), .ref 70]) (σ' := σ) (by decide +kernel) rfl rfl ?_
      obtain ⟨c16, h⟩ := ok_g h
      refine g_iald hx (by decide +kernel) (i := 70) (n := 189) rfl c16 ?_
      refine g_if_le hx (off := 23) (tgt := 40) (by decide +kernel) (by decide) (fun c17 => ?_) (fun c17 => ?_)
      · have h := ok_t h c17
        refine g_run hx [(.iconst 0, 0, 0), (.istore_n 2, 0, 0), (.iconst 0, 0, 0), (.istore_n 3, 0, 0)] (pc' := 44) (lo' := [some (.ref 66), some (.int v1), some (.int 0), some (.int 0)]) (st' := []) (σ' := σ) (by decide +kernel) rfl rfl ?_
        refine s_m_find_L44 hx hc hr N _ _ _ _ _ (fun w1 w2 t1 h => ?_) h
        refine g_run hx [(.iload_n 2, 0, 0)] (pc' := 92) (lo' := [some (.ref 66), some (.int w1), some (.int w2), none]) (st' := [.int w2]) (σ' := t1) (by decide +kernel) rfl rfl ?_
        refine g_if_eq hx (off := 5) (tgt := 97) (by decide +kernel) (by decide) (fun c92 => ?_) (fun c92 => ?_)
        · have h := ok_t h c92
          refine g_run hx [(.iinc 1 1, 1, 0)] (pc' := 100) (lo' := [some (.ref 66), some (.int (w1 + 1)), some (.int w2), none]) (st' := []) (σ' := t1) (by decide +kernel) rfl rfl ?_
          refine g_goto hx (off := (-98)) (tgt := 2) (by decide +kernel) (by decide) ?_
          refine g_wk (lo' := [some (.ref 66), some (.int (w1 + 1)), none, none]) ⟨rfl, ⟨rfl, trivial⟩⟩ ?_
          exact ih _ _ h
        · have h := ok_f h c92
          refine g_run hx [(.iload_n 1, 0, 0)] (pc' := 96) (lo' := [some (.ref 66), some (.int w1), some (.int w2), none]) (st' := [.int w1]) (σ' := t1) (by decide +kernel) rfl rfl ?_
          exact g_iret hx hr rfl _ rfl (by decide +kernel) (ok_some h)
      · have h := ok_f h c17
        refine g_run hx [(.aload_n 0, 0, 0), (.getfield 23, 0, 0), (.bipush 48, 48, 0), (.iload_n 1, 0, 0), (.iadd, 0, 0)] (pc' := 28) (lo' := [some (.ref 66), some (.int v1), none, none]) (st' := [.int (48 + v1), .ref 70]) (σ' := σ) (by decide +kernel) rfl rfl ?_
        obtain ⟨c28, h⟩ := ok_g h
        refine g_iald hx (by decide +kernel) (i := 70) (n := 189) rfl c28 ?_
        refine g_run hx [(.aload_n 0, 0, 0), (.getfield 90, 0, 0)] (pc' := 33) (lo' := [some (.ref 66), some (.int v1), none, none]) (st' := [.int (gI σ 66 8), .int (gA σ 70 (48 + v1))]) (σ' := σ) (by decide +kernel) rfl rfl ?_
        refine g_ic_ne hx (off := 7) (tgt := 40) (by decide +kernel) (by decide) (fun c33 => ?_) (fun c33 => ?_)
        · have h := ok_f h c33
          refine g_run hx [(.iconst 0, 0, 0), (.istore_n 2, 0, 0), (.iconst 0, 0, 0), (.istore_n 3, 0, 0)] (pc' := 44) (lo' := [some (.ref 66), some (.int v1), some (.int 0), some (.int 0)]) (st' := []) (σ' := σ) (by decide +kernel) rfl rfl ?_
          refine s_m_find_L44 hx hc hr N _ _ _ _ _ (fun w1 w2 t2 h => ?_) h
          refine g_run hx [(.iload_n 2, 0, 0)] (pc' := 92) (lo' := [some (.ref 66), some (.int w1), some (.int w2), none]) (st' := [.int w2]) (σ' := t2) (by decide +kernel) rfl rfl ?_
          refine g_if_eq hx (off := 5) (tgt := 97) (by decide +kernel) (by decide) (fun c92 => ?_) (fun c92 => ?_)
          · have h := ok_t h c92
            refine g_run hx [(.iinc 1 1, 1, 0)] (pc' := 100) (lo' := [some (.ref 66), some (.int (w1 + 1)), some (.int w2), none]) (st' := []) (σ' := t2) (by decide +kernel) rfl rfl ?_
            refine g_goto hx (off := (-98)) (tgt := 2) (by decide +kernel) (by decide) ?_
            refine g_wk (lo' := [some (.ref 66), some (.int (w1 + 1)), none, none]) ⟨rfl, ⟨rfl, trivial⟩⟩ ?_
            exact ih _ _ h
          · have h := ok_f h c92
            refine g_run hx [(.iload_n 1, 0, 0)] (pc' := 96) (lo' := [some (.ref 66), some (.int w1), some (.int w2), none]) (st' := [.int w1]) (σ' := t2) (by decide +kernel) rfl rfl ?_
            exact g_iret hx hr rfl _ rfl (by decide +kernel) (ok_some h)
        · have h := ok_t h c33
          refine g_run hx [(.iconst 1, 1, 0)] (pc' := 37) (lo' := [some (.ref 66), some (.int v1), none, none]) (st' := [.int 1]) (σ' := σ) (by decide +kernel) rfl rfl ?_
          refine g_goto hx (off := 4) (tgt := 41) (by decide +kernel) (by decide) ?_
          refine g_run hx [(.istore_n 2, 0, 0), (.iconst 0, 0, 0), (.istore_n 3, 0, 0)] (pc' := 44) (lo' := [some (.ref 66), some (.int v1), some (.int 1), some (.int 0)]) (st' := []) (σ' := σ) (by decide +kernel) rfl rfl ?_
          refine s_m_find_L44 hx hc hr N _ _ _ _ _ (fun w1 w2 t3 h => ?_) h
          refine g_run hx [(.iload_n 2, 0, 0)] (pc' := 92) (lo' := [some (.ref 66), some (.int w1), some (.int w2), none]) (st' := [.int w2]) (σ' := t3) (by decide +kernel) rfl rfl ?_
          refine g_if_eq hx (off := 5) (tgt := 97) (by decide +kernel) (by decide) (fun c92 => ?_) (fun c92 => ?_)
          · have h := ok_t h c92
            refine g_run hx [(.iinc 1 1, 1, 0)] (pc' := 100) (lo' := [some (.ref 66), some (.int (w1 + 1)), some (.int w2), none]) (st' := []) (σ' := t3) (by decide +kernel) rfl rfl ?_
            refine g_goto hx (off := (-98)) (tgt := 2) (by decide +kernel) (by decide) ?_
            refine g_wk (lo' := [some (.ref 66), some (.int (w1 + 1)), none, none]) ⟨rfl, ⟨rfl, trivial⟩⟩ ?_
            exact ih _ _ h
          · have h := ok_f h c92
            refine g_run hx [(.iload_n 1, 0, 0)] (pc' := 96) (lo' := [some (.ref 66), some (.int w1), some (.int w2), none]) (st' := [.int w1]) (σ' := t3) (by decide +kernel) rfl rfl ?_
            exact g_iret hx hr rfl _ rfl (by decide +kernel) (ok_some h)
set_option maxRecDepth 100000 in
theorem s_m_find {y : EX} {N : Nat} {σ : Sg} {P : Int32 × Sg → Prop} (h : ok (f_m_find N σ) P) : Ev y M_m_find 0 [.ref 66] σ rvI P := by
  refine Ev.of mk_m_find (Nat.le_of_ble_eq_true rfl) (fun x hx hc hr => ?_)
  have hx : Cx 10 prog_12_method_20_code x := hx
  have hc : Cc y 4 0 x := hc
  show G x 0 [some (.ref 66), none, none, none] [] σ
  unfold f_m_find at h
  refine g_run hx [(.iconst 0, 0, 0), (.istore_n 1, 0, 0)] (pc' := 2) (lo' := [some (.ref 66), some (.int 0), none, none]) (st' := []) (σ' := σ) (by decide +kernel) rfl rfl ?_
  refine s_m_find_L2 hx hc hr N _ _ h
set_option maxRecDepth 100000 in
theorem s_m_leadOf_70_73 {y : EX} {N : Nat} {v2 : Int32} {v3 : Int32} {σ : Sg} {P : Int32 × Sg → Prop} (h : ok (f_m_leadOf N 189 73 70 63 v2 v3 σ) P) : Ev y M_m_leadOf 1 [.ref 70, .ref 73, .int v2, .int v3] σ rvI P := by
  refine Ev.of mk_m_leadOf (Nat.le_of_ble_eq_true rfl) (fun x hx hc hr => ?_)
  have hx : Cx 10 prog_12_method_44_code x := hx
  have hc : Cc y 5 1 x := hc
  show G x 0 [some (.ref 70), some (.ref 73), some (.int v2), some (.int v3), none] [] σ
  unfold f_m_leadOf at h
  refine g_run hx [(.aload_n 1, 0, 0), (.bipush 60, 60, 0), (.iaload, 0, 0), (.iload_n 3, 0, 0)] (pc' := 5) (lo' := [some (.ref 70), some (.ref 73), some (.int v2), some (.int v3), none]) (st' := [.int v3, .int (gA σ 73 60)]) (σ' := σ) (by decide +kernel) rfl rfl ?_
  refine g_if_ne hx (off := 12) (tgt := 17) (by decide +kernel) (by decide) (fun c5 => ?_) (fun c5 => ?_)
  · have h := ok_f h c5
    refine g_run hx [(.aload_n 0, 0, 0), (.bipush 9, 9, 0), (.iload_n 2, 0, 0), (.iadd, 0, 0)] (pc' := 22) (lo' := [some (.ref 70), some (.ref 73), some (.int v2), some (.int v3), none]) (st' := [.int (9 + v2), .ref 70, .int (gA σ 73 60)]) (σ' := σ) (by decide +kernel) rfl rfl ?_
    obtain ⟨c22, h⟩ := ok_g h
    refine g_iald hx (by decide +kernel) (i := 70) (n := 189) rfl c22 ?_
    refine g_run hx [(.ineg, 0, 0), (.iadd, 0, 0), (.istore 4, 0, 0), (.iload 4, 0, 0), (.iconst 0, 0, 0), (.aload_n 0, 0, 0), (.iconst 0, 0, 0), (.iaload, 0, 0), (.iconst 1, 1, 0), (.isub, 0, 0)] (pc' := 35) (lo' := [some (.ref 70), some (.ref 73), some (.int v2), some (.int v3), some (.int ((gA σ 73 60) + (-(gA σ 70 (9 + v2)))))]) (st' := [.int ((gA σ 70 0) - 1), .int 0, .int ((gA σ 73 60) + (-(gA σ 70 (9 + v2))))]) (σ' := σ) (by decide +kernel) rfl rfl ?_
    refine g_callS (rest := []) [.int ((gA σ 73 60) + (-(gA σ 70 (9 + v2)))), .int 0, .int ((gA σ 70 0) - 1)] hx hc mk_m_in ln_10_156 (by decide +kernel) (by decide) (Nat.le_of_ble_eq_true rfl) (s_m_in (ok_b h)) (fun r1 s1 h => ?_)
    refine g_ifb_eq hx (off := 15) (tgt := 53) (by decide +kernel) (by decide) (fun c38 => ?_) (fun c38 => ?_)
    · have h := ok_f h c38
      refine g_run hx [(.bipush (-2), (-2), 0)] (pc' := 55) (lo' := [some (.ref 70), some (.ref 73), some (.int v2), some (.int v3), some (.int ((gA σ 73 60) + (-(gA σ 70 (9 + v2)))))]) (st' := [.int (-2)]) (σ' := s1) (by decide +kernel) rfl rfl ?_
      exact g_iret hx hr rfl _ rfl (by decide +kernel) (ok_some h)
    · have h := ok_t h c38
      refine g_run hx [(.aload_n 1, 0, 0), (.iload 4, 0, 0)] (pc' := 44) (lo' := [some (.ref 70), some (.ref 73), some (.int v2), some (.int v3), some (.int ((gA σ 73 60) + (-(gA σ 70 (9 + v2)))))]) (st' := [.int ((gA σ 73 60) + (-(gA σ 70 (9 + v2)))), .ref 73]) (σ' := s1) (by decide +kernel) rfl rfl ?_
      obtain ⟨c44, h⟩ := ok_g h
      refine g_iald hx (by decide +kernel) (i := 73) (n := 63) rfl c44 ?_
      refine g_if_ne hx (off := 8) (tgt := 53) (by decide +kernel) (by decide) (fun c45 => ?_) (fun c45 => ?_)
      · have h := ok_f h c45
        refine g_run hx [(.bipush (-2), (-2), 0)] (pc' := 55) (lo' := [some (.ref 70), some (.ref 73), some (.int v2), some (.int v3), some (.int ((gA σ 73 60) + (-(gA σ 70 (9 + v2)))))]) (st' := [.int (-2)]) (σ' := s1) (by decide +kernel) rfl rfl ?_
        exact g_iret hx hr rfl _ rfl (by decide +kernel) (ok_some h)
      · have h := ok_t h c45
        refine g_run hx [(.iload 4, 0, 0)] (pc' := 50) (lo' := [some (.ref 70), some (.ref 73), some (.int v2), some (.int v3), some (.int ((gA σ 73 60) + (-(gA σ 70 (9 + v2)))))]) (st' := [.int ((gA σ 73 60) + (-(gA σ 70 (9 + v2))))]) (σ' := s1) (by decide +kernel) rfl rfl ?_
        refine g_goto hx (off := 5) (tgt := 55) (by decide +kernel) (by decide) ?_
        exact g_iret hx hr rfl _ rfl (by decide +kernel) (ok_some h)
  · have h := ok_t h c5
    refine g_run hx [(.aload_n 0, 0, 0), (.bipush 9, 9, 0), (.iload_n 2, 0, 0), (.iadd, 0, 0)] (pc' := 13) (lo' := [some (.ref 70), some (.ref 73), some (.int v2), some (.int v3), none]) (st' := [.int (9 + v2), .ref 70, .int (gA σ 73 60)]) (σ' := σ) (by decide +kernel) rfl rfl ?_
    obtain ⟨c13, h⟩ := ok_g h
    refine g_iald hx (by decide +kernel) (i := 70) (n := 189) rfl c13 ?_
    refine g_goto hx (off := 10) (tgt := 24) (by decide +kernel) (by decide) ?_
    refine g_run hx [(.iadd, 0, 0), (.istore 4, 0, 0), (.iload 4, 0, 0), (.iconst 0, 0, 0), (.aload_n 0, 0, 0), (.iconst 0, 0, 0), (.iaload, 0, 0), (.iconst 1, 1, 0), (.isub, 0, 0)] (pc' := 35) (lo' := [some (.ref 70), some (.ref 73), some (.int v2), some (.int v3), some (.int ((gA σ 73 60) + (gA σ 70 (9 + v2))))]) (st' := [.int ((gA σ 70 0) - 1), .int 0, .int ((gA σ 73 60) + (gA σ 70 (9 + v2)))]) (σ' := σ) (by decide +kernel) rfl rfl ?_
    refine g_callS (rest := []) [.int ((gA σ 73 60) + (gA σ 70 (9 + v2))), .int 0, .int ((gA σ 70 0) - 1)] hx hc mk_m_in ln_10_156 (by decide +kernel) (by decide) (Nat.le_of_ble_eq_true rfl) (s_m_in (ok_b h)) (fun r2 s2 h => ?_)
    refine g_ifb_eq hx (off := 15) (tgt := 53) (by decide +kernel) (by decide) (fun c38 => ?_) (fun c38 => ?_)
    · have h := ok_f h c38
      refine g_run hx [(.bipush (-2), (-2), 0)] (pc' := 55) (lo' := [some (.ref 70), some (.ref 73), some (.int v2), some (.int v3), some (.int ((gA σ 73 60) + (gA σ 70 (9 + v2))))]) (st' := [.int (-2)]) (σ' := s2) (by decide +kernel) rfl rfl ?_
      exact g_iret hx hr rfl _ rfl (by decide +kernel) (ok_some h)
    · have h := ok_t h c38
      refine g_run hx [(.aload_n 1, 0, 0), (.iload 4, 0, 0)] (pc' := 44) (lo' := [some (.ref 70), some (.ref 73), some (.int v2), some (.int v3), some (.int ((gA σ 73 60) + (gA σ 70 (9 + v2))))]) (st' := [.int ((gA σ 73 60) + (gA σ 70 (9 + v2))), .ref 73]) (σ' := s2) (by decide +kernel) rfl rfl ?_
      obtain ⟨c44, h⟩ := ok_g h
      refine g_iald hx (by decide +kernel) (i := 73) (n := 63) rfl c44 ?_
      refine g_if_ne hx (off := 8) (tgt := 53) (by decide +kernel) (by decide) (fun c45 => ?_) (fun c45 => ?_)
      · have h := ok_f h c45
        refine g_run hx [(.bipush (-2), (-2), 0)] (pc' := 55) (lo' := [some (.ref 70), some (.ref 73), some (.int v2), some (.int v3), some (.int ((gA σ 73 60) + (gA σ 70 (9 + v2))))]) (st' := [.int (-2)]) (σ' := s2) (by decide +kernel) rfl rfl ?_
        exact g_iret hx hr rfl _ rfl (by decide +kernel) (ok_some h)
      · have h := ok_t h c45
        refine g_run hx [(.iload 4, 0, 0)] (pc' := 50) (lo' := [some (.ref 70), some (.ref 73), some (.int v2), some (.int v3), some (.int ((gA σ 73 60) + (gA σ 70 (9 + v2))))]) (st' := [.int ((gA σ 73 60) + (gA σ 70 (9 + v2)))]) (σ' := s2) (by decide +kernel) rfl rfl ?_
        refine g_goto hx (off := 5) (tgt := 55) (by decide +kernel) (by decide) ?_
        exact g_iret hx hr rfl _ rfl (by decide +kernel) (ok_some h)
set_option maxRecDepth 100000 in
theorem s_m_strideOn_70_73_L62 {y : EX} {N : Nat} {x : CX} {P : Bool × Sg → Prop} (hx : Cx 10 prog_12_method_45_code x) (hc : Cc y 8 2 x) (hr : Cr M_m_strideOn rvB P x) : ∀ (n : Nat) (v4 : Int32) (v6 : Int32) (v7 : Int32) (σ : Sg), ok (f_m_strideOn_L62 N 73 63 189 70 n v4 v6 v7 σ) P → G x 62 [some (.ref 70), some (.ref 73), none, none, some (.int v4), none, some (.int v6), some (.int v7)] [] σ := by
  intro n
  induction n with
  | zero => intro v4 v6 v7 σ h; exact ok_none h
  | succ n ih =>
    intro v4 v6 v7 σ h
    rw [f_m_strideOn_L62] at h
    refine g_run hx [(.iload 7, 0, 0), (.iload 6, 0, 0)] (pc' := 66) (lo' := [some (.ref 70), some (.ref 73), none, none, some (.int v4), none, some (.int v6), some (.int v7)]) (st' := [.int v6, .int v7]) (σ' := σ) (by decide +kernel) rfl rfl ?_
    refine g_ic_ge hx (off := 30) (tgt := 96) (by decide +kernel) (by decide) (fun c66 => ?_) (fun c66 => ?_)
    · have h := ok_t h c66
      refine g_run hx [(.aload_n 1, 0, 0), (.bipush 60, 60, 0), (.iload 4, 0, 0), (.iastore, 0, 0), (.iconst 1, 1, 0)] (pc' := 103) (lo' := [some (.ref 70), some (.ref 73), none, none, some (.int v4), none, some (.int v6), some (.int v7)]) (st' := [.int 1]) (σ' := sA σ 73 60 v4) (by decide +kernel) rfl rfl ?_
      exact g_zret (b := true) hx hr rfl true rfl (by decide +kernel) (ok_some h)
    · have h := ok_f h c66
      refine g_run hx [(.aload_n 1, 0, 0), (.iload 7, 0, 0)] (pc' := 72) (lo' := [some (.ref 70), some (.ref 73), none, none, some (.int v4), none, some (.int v6), some (.int v7)]) (st' := [.int v7, .ref 73]) (σ' := σ) (by decide +kernel) rfl rfl ?_
      obtain ⟨c72, h⟩ := ok_g h
      refine g_iald hx (by decide +kernel) (i := 73) (n := 63) rfl c72 ?_
      refine g_if_ne hx (off := 17) (tgt := 90) (by decide +kernel) (by decide) (fun c73 => ?_) (fun c73 => ?_)
      · have h := ok_f h c73
        refine g_run hx [(.iinc 7 1, 1, 0)] (pc' := 93) (lo' := [some (.ref 70), some (.ref 73), none, none, some (.int v4), none, some (.int v6), some (.int (v7 + 1))]) (st' := []) (σ' := σ) (by decide +kernel) rfl rfl ?_
        refine g_goto hx (off := (-31)) (tgt := 62) (by decide +kernel) (by decide) ?_
        exact ih _ _ _ _ h
      · have h := ok_t h c73
        refine g_run hx [(.aload_n 1, 0, 0), (.iload 7, 0, 0), (.aload_n 0, 0, 0), (.sipush 129, 129, 0), (.iload 7, 0, 0), (.iadd, 0, 0)] (pc' := 86) (lo' := [some (.ref 70), some (.ref 73), none, none, some (.int v4), none, some (.int v6), some (.int v7)]) (st' := [.int (129 + v7), .ref 70, .int v7, .ref 73]) (σ' := σ) (by decide +kernel) rfl rfl ?_
        obtain ⟨c86, h⟩ := ok_g h
        refine g_iald hx (by decide +kernel) (i := 70) (n := 189) rfl c86 ?_
        refine g_run hx [(.iconst 1, 1, 0), (.iadd, 0, 0)] (pc' := 89) (lo' := [some (.ref 70), some (.ref 73), none, none, some (.int v4), none, some (.int v6), some (.int v7)]) (st' := [.int ((gA σ 70 (129 + v7)) + 1), .int v7, .ref 73]) (σ' := σ) (by decide +kernel) rfl rfl ?_
        obtain ⟨c89, h⟩ := ok_g h
        refine g_iast hx (by decide +kernel) (i := 73) (n := 63) rfl c89 ?_
        refine g_run hx [(.iinc 7 1, 1, 0)] (pc' := 93) (lo' := [some (.ref 70), some (.ref 73), none, none, some (.int v4), none, some (.int v6), some (.int (v7 + 1))]) (st' := []) (σ' := sA σ 73 v7 ((gA σ 70 (129 + v7)) + 1)) (by decide +kernel) rfl rfl ?_
        refine g_goto hx (off := (-31)) (tgt := 62) (by decide +kernel) (by decide) ?_
        exact ih _ _ _ _ h
set_option maxRecDepth 100000 in
theorem s_m_strideOn_70_73 {y : EX} {N : Nat} {v2 : Int32} {v3 : Int32} {σ : Sg} {P : Bool × Sg → Prop} (h : ok (f_m_strideOn N 73 63 189 70 v2 v3 σ) P) : Ev y M_m_strideOn 2 [.ref 70, .ref 73, .int v2, .int v3] σ rvB P := by
  refine Ev.of mk_m_strideOn (Nat.le_of_ble_eq_true rfl) (fun x hx hc hr => ?_)
  have hx : Cx 10 prog_12_method_45_code x := hx
  have hc : Cc y 8 2 x := hc
  show G x 0 [some (.ref 70), some (.ref 73), some (.int v2), some (.int v3), none, none, none, none] [] σ
  unfold f_m_strideOn at h
  refine g_run hx [(.aload_n 0, 0, 0), (.aload_n 1, 0, 0), (.iload_n 2, 0, 0), (.iload_n 3, 0, 0)] (pc' := 4) (lo' := [some (.ref 70), some (.ref 73), some (.int v2), some (.int v3), none, none, none, none]) (st' := [.int v3, .int v2, .ref 73, .ref 70]) (σ' := σ) (by decide +kernel) rfl rfl ?_
  refine g_callS (rest := []) [.ref 70, .ref 73, .int v2, .int v3] hx hc mk_m_leadOf ln_10_265 (by decide +kernel) (by decide) (Nat.le_of_ble_eq_true rfl) (s_m_leadOf_70_73 (ok_b h)) (fun r1 s1 h => ?_)
  refine g_run hx [(.istore 4, 0, 0), (.iload 4, 0, 0)] (pc' := 11) (lo' := [some (.ref 70), some (.ref 73), some (.int v2), some (.int v3), some (.int r1), none, none, none]) (st' := [.int r1]) (σ' := s1) (by decide +kernel) rfl rfl ?_
  refine g_if_ge hx (off := 5) (tgt := 16) (by decide +kernel) (by decide) (fun c11 => ?_) (fun c11 => ?_)
  · have h := ok_t h c11
    refine g_run hx [(.iload 4, 0, 0), (.aload_n 1, 0, 0), (.bipush 60, 60, 0), (.iaload, 0, 0)] (pc' := 22) (lo' := [some (.ref 70), some (.ref 73), some (.int v2), some (.int v3), some (.int r1), none, none, none]) (st' := [.int (gA s1 73 60), .int r1]) (σ' := s1) (by decide +kernel) rfl rfl ?_
    refine g_ic_ge hx (off := 8) (tgt := 30) (by decide +kernel) (by decide) (fun c22 => ?_) (fun c22 => ?_)
    · have h := ok_t h c22
      refine g_run hx [(.aload_n 1, 0, 0), (.bipush 60, 60, 0), (.iaload, 0, 0), (.istore 5, 0, 0), (.iload 4, 0, 0), (.aload_n 1, 0, 0), (.bipush 60, 60, 0), (.iaload, 0, 0)] (pc' := 42) (lo' := [some (.ref 70), some (.ref 73), some (.int v2), some (.int v3), some (.int r1), some (.int (gA s1 73 60)), none, none]) (st' := [.int (gA s1 73 60), .int r1]) (σ' := s1) (by decide +kernel) rfl rfl ?_
      refine g_ic_ge hx (off := 10) (tgt := 52) (by decide +kernel) (by decide) (fun c42 => ?_) (fun c42 => ?_)
      · have h := ok_t h c42
        refine g_run hx [(.iload 4, 0, 0), (.istore 6, 0, 0), (.iload 5, 0, 0), (.iconst 1, 1, 0), (.iadd, 0, 0), (.istore 7, 0, 0)] (pc' := 62) (lo' := [some (.ref 70), some (.ref 73), some (.int v2), some (.int v3), some (.int r1), some (.int (gA s1 73 60)), some (.int r1), some (.int ((gA s1 73 60) + 1))]) (st' := []) (σ' := s1) (by decide +kernel) rfl rfl ?_
        refine g_wk (lo' := [some (.ref 70), some (.ref 73), none, none, some (.int r1), none, some (.int r1), some (.int ((gA s1 73 60) + 1))]) ⟨rfl, ⟨rfl, ⟨rfl, ⟨rfl, ⟨rfl, trivial⟩⟩⟩⟩⟩ ?_
        refine s_m_strideOn_70_73_L62 hx hc hr N _ _ _ _ h
      · have h := ok_f h c42
        refine g_run hx [(.aload_n 1, 0, 0), (.bipush 60, 60, 0), (.iaload, 0, 0)] (pc' := 49) (lo' := [some (.ref 70), some (.ref 73), some (.int v2), some (.int v3), some (.int r1), some (.int (gA s1 73 60)), none, none]) (st' := [.int (gA s1 73 60)]) (σ' := s1) (by decide +kernel) rfl rfl ?_
        refine g_goto hx (off := 5) (tgt := 54) (by decide +kernel) (by decide) ?_
        refine g_run hx [(.istore 6, 0, 0), (.iload 5, 0, 0), (.iconst 1, 1, 0), (.iadd, 0, 0), (.istore 7, 0, 0)] (pc' := 62) (lo' := [some (.ref 70), some (.ref 73), some (.int v2), some (.int v3), some (.int r1), some (.int (gA s1 73 60)), some (.int (gA s1 73 60)), some (.int ((gA s1 73 60) + 1))]) (st' := []) (σ' := s1) (by decide +kernel) rfl rfl ?_
        refine g_wk (lo' := [some (.ref 70), some (.ref 73), none, none, some (.int r1), none, some (.int (gA s1 73 60)), some (.int ((gA s1 73 60) + 1))]) ⟨rfl, ⟨rfl, ⟨rfl, ⟨rfl, ⟨rfl, trivial⟩⟩⟩⟩⟩ ?_
        refine s_m_strideOn_70_73_L62 hx hc hr N _ _ _ _ h
    · have h := ok_f h c22
      refine g_run hx [(.iload 4, 0, 0)] (pc' := 27) (lo' := [some (.ref 70), some (.ref 73), some (.int v2), some (.int v3), some (.int r1), none, none, none]) (st' := [.int r1]) (σ' := s1) (by decide +kernel) rfl rfl ?_
      refine g_goto hx (off := 7) (tgt := 34) (by decide +kernel) (by decide) ?_
      refine g_run hx [(.istore 5, 0, 0), (.iload 4, 0, 0), (.aload_n 1, 0, 0), (.bipush 60, 60, 0), (.iaload, 0, 0)] (pc' := 42) (lo' := [some (.ref 70), some (.ref 73), some (.int v2), some (.int v3), some (.int r1), some (.int r1), none, none]) (st' := [.int (gA s1 73 60), .int r1]) (σ' := s1) (by decide +kernel) rfl rfl ?_
      refine g_ic_ge hx (off := 10) (tgt := 52) (by decide +kernel) (by decide) (fun c42 => ?_) (fun c42 => ?_)
      · have h := ok_t h c42
        refine g_run hx [(.iload 4, 0, 0), (.istore 6, 0, 0), (.iload 5, 0, 0), (.iconst 1, 1, 0), (.iadd, 0, 0), (.istore 7, 0, 0)] (pc' := 62) (lo' := [some (.ref 70), some (.ref 73), some (.int v2), some (.int v3), some (.int r1), some (.int r1), some (.int r1), some (.int (r1 + 1))]) (st' := []) (σ' := s1) (by decide +kernel) rfl rfl ?_
        refine g_wk (lo' := [some (.ref 70), some (.ref 73), none, none, some (.int r1), none, some (.int r1), some (.int (r1 + 1))]) ⟨rfl, ⟨rfl, ⟨rfl, ⟨rfl, ⟨rfl, trivial⟩⟩⟩⟩⟩ ?_
        refine s_m_strideOn_70_73_L62 hx hc hr N _ _ _ _ h
      · have h := ok_f h c42
        refine g_run hx [(.aload_n 1, 0, 0), (.bipush 60, 60, 0), (.iaload, 0, 0)] (pc' := 49) (lo' := [some (.ref 70), some (.ref 73), some (.int v2), some (.int v3), some (.int r1), some (.int r1), none, none]) (st' := [.int (gA s1 73 60)]) (σ' := s1) (by decide +kernel) rfl rfl ?_
        refine g_goto hx (off := 5) (tgt := 54) (by decide +kernel) (by decide) ?_
        refine g_run hx [(.istore 6, 0, 0), (.iload 5, 0, 0), (.iconst 1, 1, 0), (.iadd, 0, 0), (.istore 7, 0, 0)] (pc' := 62) (lo' := [some (.ref 70), some (.ref 73), some (.int v2), some (.int v3), some (.int r1), some (.int r1), some (.int (gA s1 73 60)), some (.int (r1 + 1))]) (st' := []) (σ' := s1) (by decide +kernel) rfl rfl ?_
        refine g_wk (lo' := [some (.ref 70), some (.ref 73), none, none, some (.int r1), none, some (.int (gA s1 73 60)), some (.int (r1 + 1))]) ⟨rfl, ⟨rfl, ⟨rfl, ⟨rfl, ⟨rfl, trivial⟩⟩⟩⟩⟩ ?_
        refine s_m_strideOn_70_73_L62 hx hc hr N _ _ _ _ h
  · have h := ok_f h c11
    refine g_run hx [(.iconst 0, 0, 0)] (pc' := 15) (lo' := [some (.ref 70), some (.ref 73), some (.int v2), some (.int v3), some (.int r1), none, none, none]) (st' := [.int 0]) (σ' := s1) (by decide +kernel) rfl rfl ?_
    exact g_zret (b := false) hx hr rfl false rfl (by decide +kernel) (ok_some h)
def f_m_strideLine (N : Nat) (σ : Sg) : Option (Unit × Sg) :=
  if (gI σ 66 13) = 0 then
    (f_m_mustName N σ).bind fun q1 =>
    if (gI q1.2 66 13) = 0 then
      (f_m_find N q1.2).bind fun q2 =>
      (f_m_in N q2.1 0 2 q2.2).bind fun q3 =>
      if q3.1 = true then
        (f_m_pass N q3.2).bind fun q4 =>
        (f_m_isWord N 16 q4.2).bind fun q5 =>
        if q5.1 = true then
          if (gI q5.2 66 13) = 0 then
            (f_m_strideOn N 73 63 189 70 q2.1 0 q5.2).bind fun q19 =>
            if q19.1 = true then
              (f_m_pass N q19.2).bind fun q20 =>
              if (gI q20.2 66 13) = 0 then
                if vin (24 + (gA q20.2 70 4)) 189 then
                some ((), sA (sA q20.2 70 (24 + (gA q20.2 70 4)) ((2 * q2.1) + 0)) 70 4 ((gA (sA q20.2 70 (24 + (gA q20.2 70 4)) ((2 * q2.1) + 0)) 70 4) + 1))
                else none
              else
                some ((), q20.2)
            else
              (f_m_wrong N 7 (gI q19.2 66 4) q19.2).bind fun q21 =>
              (f_m_pass N q21.2).bind fun q22 =>
              if (gI q22.2 66 13) = 0 then
                if vin (24 + (gA q22.2 70 4)) 189 then
                some ((), sA (sA q22.2 70 (24 + (gA q22.2 70 4)) ((2 * q2.1) + 0)) 70 4 ((gA (sA q22.2 70 (24 + (gA q22.2 70 4)) ((2 * q2.1) + 0)) 70 4) + 1))
                else none
              else
                some ((), q22.2)
          else
            (f_m_pass N q5.2).bind fun q18 =>
            if (gI q18.2 66 13) = 0 then
              if vin (24 + (gA q18.2 70 4)) 189 then
              some ((), sA (sA q18.2 70 (24 + (gA q18.2 70 4)) ((2 * q2.1) + 0)) 70 4 ((gA (sA q18.2 70 (24 + (gA q18.2 70 4)) ((2 * q2.1) + 0)) 70 4) + 1))
              else none
            else
              some ((), q18.2)
        else
          (f_m_isWord N 17 q5.2).bind fun q6 =>
          if q6.1 = true then
            if (gI q6.2 66 13) = 0 then
              (f_m_strideOn N 73 63 189 70 q2.1 1 q6.2).bind fun q14 =>
              if q14.1 = true then
                (f_m_pass N q14.2).bind fun q15 =>
                if (gI q15.2 66 13) = 0 then
                  if vin (24 + (gA q15.2 70 4)) 189 then
                  some ((), sA (sA q15.2 70 (24 + (gA q15.2 70 4)) ((2 * q2.1) + 1)) 70 4 ((gA (sA q15.2 70 (24 + (gA q15.2 70 4)) ((2 * q2.1) + 1)) 70 4) + 1))
                  else none
                else
                  some ((), q15.2)
              else
                (f_m_wrong N 7 (gI q14.2 66 4) q14.2).bind fun q16 =>
                (f_m_pass N q16.2).bind fun q17 =>
                if (gI q17.2 66 13) = 0 then
                  if vin (24 + (gA q17.2 70 4)) 189 then
                  some ((), sA (sA q17.2 70 (24 + (gA q17.2 70 4)) ((2 * q2.1) + 1)) 70 4 ((gA (sA q17.2 70 (24 + (gA q17.2 70 4)) ((2 * q2.1) + 1)) 70 4) + 1))
                  else none
                else
                  some ((), q17.2)
            else
              (f_m_pass N q6.2).bind fun q13 =>
              if (gI q13.2 66 13) = 0 then
                if vin (24 + (gA q13.2 70 4)) 189 then
                some ((), sA (sA q13.2 70 (24 + (gA q13.2 70 4)) ((2 * q2.1) + 1)) 70 4 ((gA (sA q13.2 70 (24 + (gA q13.2 70 4)) ((2 * q2.1) + 1)) 70 4) + 1))
                else none
              else
                some ((), q13.2)
          else
            (f_m_wrong N 1 (gI q6.2 66 4) q6.2).bind fun q7 =>
            if (gI q7.2 66 13) = 0 then
              (f_m_strideOn N 73 63 189 70 q2.1 (-1) q7.2).bind fun q9 =>
              if q9.1 = true then
                (f_m_pass N q9.2).bind fun q10 =>
                if (gI q10.2 66 13) = 0 then
                  if vin (24 + (gA q10.2 70 4)) 189 then
                  some ((), sA (sA q10.2 70 (24 + (gA q10.2 70 4)) ((2 * q2.1) + (-1))) 70 4 ((gA (sA q10.2 70 (24 + (gA q10.2 70 4)) ((2 * q2.1) + (-1))) 70 4) + 1))
                  else none
                else
                  some ((), q10.2)
              else
                (f_m_wrong N 7 (gI q9.2 66 4) q9.2).bind fun q11 =>
                (f_m_pass N q11.2).bind fun q12 =>
                if (gI q12.2 66 13) = 0 then
                  if vin (24 + (gA q12.2 70 4)) 189 then
                  some ((), sA (sA q12.2 70 (24 + (gA q12.2 70 4)) ((2 * q2.1) + (-1))) 70 4 ((gA (sA q12.2 70 (24 + (gA q12.2 70 4)) ((2 * q2.1) + (-1))) 70 4) + 1))
                  else none
                else
                  some ((), q12.2)
            else
              (f_m_pass N q7.2).bind fun q8 =>
              if (gI q8.2 66 13) = 0 then
                if vin (24 + (gA q8.2 70 4)) 189 then
                some ((), sA (sA q8.2 70 (24 + (gA q8.2 70 4)) ((2 * q2.1) + (-1))) 70 4 ((gA (sA q8.2 70 (24 + (gA q8.2 70 4)) ((2 * q2.1) + (-1))) 70 4) + 1))
                else none
              else
                some ((), q8.2)
      else
        (f_m_wrong N 2 (gI q3.2 66 4) q3.2).bind fun q23 =>
        (f_m_pass N q23.2).bind fun q24 =>
        (f_m_isWord N 16 q24.2).bind fun q25 =>
        if q25.1 = true then
          if (gI q25.2 66 13) = 0 then
            (f_m_strideOn N 73 63 189 70 q2.1 0 q25.2).bind fun q39 =>
            if q39.1 = true then
              (f_m_pass N q39.2).bind fun q40 =>
              if (gI q40.2 66 13) = 0 then
                if vin (24 + (gA q40.2 70 4)) 189 then
                some ((), sA (sA q40.2 70 (24 + (gA q40.2 70 4)) ((2 * q2.1) + 0)) 70 4 ((gA (sA q40.2 70 (24 + (gA q40.2 70 4)) ((2 * q2.1) + 0)) 70 4) + 1))
                else none
              else
                some ((), q40.2)
            else
              (f_m_wrong N 7 (gI q39.2 66 4) q39.2).bind fun q41 =>
              (f_m_pass N q41.2).bind fun q42 =>
              if (gI q42.2 66 13) = 0 then
                if vin (24 + (gA q42.2 70 4)) 189 then
                some ((), sA (sA q42.2 70 (24 + (gA q42.2 70 4)) ((2 * q2.1) + 0)) 70 4 ((gA (sA q42.2 70 (24 + (gA q42.2 70 4)) ((2 * q2.1) + 0)) 70 4) + 1))
                else none
              else
                some ((), q42.2)
          else
            (f_m_pass N q25.2).bind fun q38 =>
            if (gI q38.2 66 13) = 0 then
              if vin (24 + (gA q38.2 70 4)) 189 then
              some ((), sA (sA q38.2 70 (24 + (gA q38.2 70 4)) ((2 * q2.1) + 0)) 70 4 ((gA (sA q38.2 70 (24 + (gA q38.2 70 4)) ((2 * q2.1) + 0)) 70 4) + 1))
              else none
            else
              some ((), q38.2)
        else
          (f_m_isWord N 17 q25.2).bind fun q26 =>
          if q26.1 = true then
            if (gI q26.2 66 13) = 0 then
              (f_m_strideOn N 73 63 189 70 q2.1 1 q26.2).bind fun q34 =>
              if q34.1 = true then
                (f_m_pass N q34.2).bind fun q35 =>
                if (gI q35.2 66 13) = 0 then
                  if vin (24 + (gA q35.2 70 4)) 189 then
                  some ((), sA (sA q35.2 70 (24 + (gA q35.2 70 4)) ((2 * q2.1) + 1)) 70 4 ((gA (sA q35.2 70 (24 + (gA q35.2 70 4)) ((2 * q2.1) + 1)) 70 4) + 1))
                  else none
                else
                  some ((), q35.2)
              else
                (f_m_wrong N 7 (gI q34.2 66 4) q34.2).bind fun q36 =>
                (f_m_pass N q36.2).bind fun q37 =>
                if (gI q37.2 66 13) = 0 then
                  if vin (24 + (gA q37.2 70 4)) 189 then
                  some ((), sA (sA q37.2 70 (24 + (gA q37.2 70 4)) ((2 * q2.1) + 1)) 70 4 ((gA (sA q37.2 70 (24 + (gA q37.2 70 4)) ((2 * q2.1) + 1)) 70 4) + 1))
                  else none
                else
                  some ((), q37.2)
            else
              (f_m_pass N q26.2).bind fun q33 =>
              if (gI q33.2 66 13) = 0 then
                if vin (24 + (gA q33.2 70 4)) 189 then
                some ((), sA (sA q33.2 70 (24 + (gA q33.2 70 4)) ((2 * q2.1) + 1)) 70 4 ((gA (sA q33.2 70 (24 + (gA q33.2 70 4)) ((2 * q2.1) + 1)) 70 4) + 1))
                else none
              else
                some ((), q33.2)
          else
            (f_m_wrong N 1 (gI q26.2 66 4) q26.2).bind fun q27 =>
            if (gI q27.2 66 13) = 0 then
              (f_m_strideOn N 73 63 189 70 q2.1 (-1) q27.2).bind fun q29 =>
              if q29.1 = true then
                (f_m_pass N q29.2).bind fun q30 =>
                if (gI q30.2 66 13) = 0 then
                  if vin (24 + (gA q30.2 70 4)) 189 then
                  some ((), sA (sA q30.2 70 (24 + (gA q30.2 70 4)) ((2 * q2.1) + (-1))) 70 4 ((gA (sA q30.2 70 (24 + (gA q30.2 70 4)) ((2 * q2.1) + (-1))) 70 4) + 1))
                  else none
                else
                  some ((), q30.2)
              else
                (f_m_wrong N 7 (gI q29.2 66 4) q29.2).bind fun q31 =>
                (f_m_pass N q31.2).bind fun q32 =>
                if (gI q32.2 66 13) = 0 then
                  if vin (24 + (gA q32.2 70 4)) 189 then
                  some ((), sA (sA q32.2 70 (24 + (gA q32.2 70 4)) ((2 * q2.1) + (-1))) 70 4 ((gA (sA q32.2 70 (24 + (gA q32.2 70 4)) ((2 * q2.1) + (-1))) 70 4) + 1))
                  else none
                else
                  some ((), q32.2)
            else
              (f_m_pass N q27.2).bind fun q28 =>
              if (gI q28.2 66 13) = 0 then
                if vin (24 + (gA q28.2 70 4)) 189 then
                some ((), sA (sA q28.2 70 (24 + (gA q28.2 70 4)) ((2 * q2.1) + (-1))) 70 4 ((gA (sA q28.2 70 (24 + (gA q28.2 70 4)) ((2 * q2.1) + (-1))) 70 4) + 1))
                else none
              else
                some ((), q28.2)
    else
      some ((), q1.2)
  else
    some ((), σ)
set_option maxRecDepth 100000 in
theorem s_m_strideLine {y : EX} {N : Nat} {σ : Sg} {P : Unit × Sg → Prop} (h : ok (f_m_strideLine N σ) P) : Ev y M_m_strideLine 6 [.ref 66] σ rvN P := by
  refine Ev.of mk_m_strideLine (Nat.le_of_ble_eq_true rfl) (fun x hx hc hr => ?_)
  have hx : Cx 10 prog_12_method_34_code x := hx
  have hc : Cc y 3 6 x := hc
  show G x 0 [some (.ref 66), none, none] [] σ
  unfold f_m_strideLine at h
  refine g_run hx [(.aload_n 0, 0, 0), (.getfield 106, 0, 0)] (pc' := 4) (lo' := [some (.ref 66), none, none]) (st' := [.int (gI σ 66 13)]) (σ' := σ) (by decide +kernel) rfl rfl ?_
  refine g_if_eq hx (off := 4) (tgt := 8) (by decide +kernel) (by decide) (fun c4 => ?_) (fun c4 => ?_)
  · have h := ok_t h c4
    refine g_run hx [(.aload_n 0, 0, 0)] (pc' := 9) (lo' := [some (.ref 66), none, none]) (st' := [.ref 66]) (σ' := σ) (by decide +kernel) rfl rfl ?_
    refine g_callV (rest := []) [] hx hc mk_m_mustName ln_10_150 rfl (by decide +kernel) (by decide) (Nat.le_of_ble_eq_true rfl) (s_m_mustName (ok_b h)) (fun r1 s1 h => ?_)
    refine g_run hx [(.aload_n 0, 0, 0), (.getfield 106, 0, 0)] (pc' := 16) (lo' := [some (.ref 66), none, none]) (st' := [.int (gI s1 66 13)]) (σ' := s1) (by decide +kernel) rfl rfl ?_
    refine g_if_eq hx (off := 4) (tgt := 20) (by decide +kernel) (by decide) (fun c16 => ?_) (fun c16 => ?_)
    · have h := ok_t h c16
      refine g_run hx [(.aload_n 0, 0, 0)] (pc' := 21) (lo' := [some (.ref 66), none, none]) (st' := [.ref 66]) (σ' := s1) (by decide +kernel) rfl rfl ?_
      refine g_callV (rest := []) [] hx hc mk_m_find ln_10_153 rfl (by decide +kernel) (by decide) (Nat.le_of_ble_eq_true rfl) (s_m_find (ok_b h)) (fun r2 s2 h => ?_)
      refine g_run hx [(.istore_n 1, 0, 0), (.iload_n 1, 0, 0), (.iconst 0, 0, 0), (.iconst 2, 2, 0)] (pc' := 28) (lo' := [some (.ref 66), some (.int r2), none]) (st' := [.int 2, .int 0, .int r2]) (σ' := s2) (by decide +kernel) rfl rfl ?_
      refine g_callS (rest := []) [.int r2, .int 0, .int 2] hx hc mk_m_in ln_10_156 (by decide +kernel) (by decide) (Nat.le_of_ble_eq_true rfl) (s_m_in (ok_b h)) (fun r3 s3 h => ?_)
      refine g_ifb_ne hx (off := 12) (tgt := 43) (by decide +kernel) (by decide) (fun c31 => ?_) (fun c31 => ?_)
      · have h := ok_t h c31
        refine g_run hx [(.aload_n 0, 0, 0)] (pc' := 44) (lo' := [some (.ref 66), some (.int r2), none]) (st' := [.ref 66]) (σ' := s3) (by decide +kernel) rfl rfl ?_
        refine g_callV (rest := []) [] hx hc mk_m_pass ln_10_164 rfl (by decide +kernel) (by decide) (Nat.le_of_ble_eq_true rfl) (s_m_pass (ok_b h)) (fun r4 s4 h => ?_)
        refine g_run hx [(.aload_n 0, 0, 0)] (pc' := 48) (lo' := [some (.ref 66), some (.int r2), none]) (st' := [.ref 66]) (σ' := s4) (by decide +kernel) rfl rfl ?_
        refine g_ldcS (idx := 249) (sid := 16) hx hc (by decide) (by decide +kernel) ?_
        refine g_callV (rest := []) [.ref (100 + 16)] hx hc mk_m_isWord ln_10_123 rfl (by decide +kernel) (by decide) (Nat.le_of_ble_eq_true rfl) (s_m_isWord (by decide) (ok_b h)) (fun r5 s5 h => ?_)
        refine g_ifb_eq hx (off := 7) (tgt := 60) (by decide +kernel) (by decide) (fun c53 => ?_) (fun c53 => ?_)
        · have h := ok_f h c53
          refine g_run hx [(.aload_n 0, 0, 0)] (pc' := 61) (lo' := [some (.ref 66), some (.int r2), none]) (st' := [.ref 66]) (σ' := s5) (by decide +kernel) rfl rfl ?_
          refine g_ldcS (idx := 251) (sid := 17) hx hc (by decide) (by decide +kernel) ?_
          refine g_callV (rest := []) [.ref (100 + 17)] hx hc mk_m_isWord ln_10_123 rfl (by decide +kernel) (by decide) (Nat.le_of_ble_eq_true rfl) (s_m_isWord (by decide) (ok_b h)) (fun r6 s6 h => ?_)
          refine g_ifb_eq hx (off := 7) (tgt := 73) (by decide +kernel) (by decide) (fun c66 => ?_) (fun c66 => ?_)
          · have h := ok_f h c66
            refine g_run hx [(.iconst (-1), (-1), 0), (.istore_n 2, 0, 0), (.iload_n 2, 0, 0)] (pc' := 76) (lo' := [some (.ref 66), some (.int r2), some (.int (-1))]) (st' := [.int (-1)]) (σ' := s6) (by decide +kernel) rfl rfl ?_
            refine g_if_ge hx (off := 12) (tgt := 88) (by decide +kernel) (by decide) (fun c => absurd c (by decide)) (fun _ => ?_)
            refine g_run hx [(.aload_n 0, 0, 0), (.iconst 1, 1, 0), (.aload_n 0, 0, 0), (.getfield 87, 0, 0)] (pc' := 85) (lo' := [some (.ref 66), some (.int r2), some (.int (-1))]) (st' := [.int (gI s6 66 4), .int 1, .ref 66]) (σ' := s6) (by decide +kernel) rfl rfl ?_
            refine g_callV (rest := []) [.int 1, .int (gI s6 66 4)] hx hc mk_m_wrong ln_10_133 rfl (by decide +kernel) (by decide) (Nat.le_of_ble_eq_true rfl) (s_m_wrong (ok_b h)) (fun r7 s7 h => ?_)
            refine g_run hx [(.aload_n 0, 0, 0), (.getfield 106, 0, 0)] (pc' := 92) (lo' := [some (.ref 66), some (.int r2), some (.int (-1))]) (st' := [.int (gI s7 66 13)]) (σ' := s7) (by decide +kernel) rfl rfl ?_
            refine g_if_ne hx (off := 29) (tgt := 121) (by decide +kernel) (by decide) (fun c92 => ?_) (fun c92 => ?_)
            · have h := ok_f h c92
              refine g_run hx [(.aload_n 0, 0, 0)] (pc' := 122) (lo' := [some (.ref 66), some (.int r2), some (.int (-1))]) (st' := [.ref 66]) (σ' := s7) (by decide +kernel) rfl rfl ?_
              refine g_callV (rest := []) [] hx hc mk_m_pass ln_10_164 rfl (by decide +kernel) (by decide) (Nat.le_of_ble_eq_true rfl) (s_m_pass (ok_b h)) (fun r8 s8 h => ?_)
              refine g_run hx [(.aload_n 0, 0, 0), (.getfield 106, 0, 0)] (pc' := 129) (lo' := [some (.ref 66), some (.int r2), some (.int (-1))]) (st' := [.int (gI s8 66 13)]) (σ' := s8) (by decide +kernel) rfl rfl ?_
              refine g_if_eq hx (off := 4) (tgt := 133) (by decide +kernel) (by decide) (fun c129 => ?_) (fun c129 => ?_)
              · have h := ok_t h c129
                refine g_run hx [(.aload_n 0, 0, 0), (.getfield 23, 0, 0), (.bipush 24, 24, 0), (.aload_n 0, 0, 0), (.getfield 23, 0, 0), (.iconst 4, 4, 0), (.iaload, 0, 0), (.iadd, 0, 0), (.iconst 2, 2, 0), (.iload_n 1, 0, 0), (.imul, 0, 0), (.iload_n 2, 0, 0), (.iadd, 0, 0)] (pc' := 151) (lo' := [some (.ref 66), some (.int r2), some (.int (-1))]) (st' := [.int ((2 * r2) + (-1)), .int (24 + (gA s8 70 4)), .ref 70]) (σ' := s8) (by decide +kernel) rfl rfl ?_
                obtain ⟨c151, h⟩ := ok_g h
                refine g_iast hx (by decide +kernel) (i := 70) (n := 189) rfl c151 ?_
                refine g_run hx [(.aload_n 0, 0, 0), (.getfield 23, 0, 0), (.iconst 4, 4, 0), (.dup2, 0, 0), (.iaload, 0, 0), (.iconst 1, 1, 0), (.iadd, 0, 0), (.iastore, 0, 0)] (pc' := 162) (lo' := [some (.ref 66), some (.int r2), some (.int (-1))]) (st' := []) (σ' := sA (sA s8 70 (24 + (gA s8 70 4)) ((2 * r2) + (-1))) 70 4 ((gA (sA s8 70 (24 + (gA s8 70 4)) ((2 * r2) + (-1))) 70 4) + 1)) (by decide +kernel) rfl rfl ?_
                exact g_vret hx hr rfl () rfl (by decide +kernel) (ok_some h)
              · have h := ok_f h c129
                exact g_vret hx hr rfl () rfl (by decide +kernel) (ok_some h)
            · have h := ok_t h c92
              refine g_run hx [(.aload_n 0, 0, 0), (.getfield 23, 0, 0), (.aload_n 0, 0, 0), (.getfield 32, 0, 0), (.iload_n 1, 0, 0), (.iload_n 2, 0, 0)] (pc' := 105) (lo' := [some (.ref 66), some (.int r2), some (.int (-1))]) (st' := [.int (-1), .int r2, .ref 73, .ref 70]) (σ' := s7) (by decide +kernel) rfl rfl ?_
              refine g_callS (rest := []) [.ref 70, .ref 73, .int r2, .int (-1)] hx hc mk_m_strideOn ln_10_253 (by decide +kernel) (by decide) (Nat.le_of_ble_eq_true rfl) (s_m_strideOn_70_73 (ok_b h)) (fun r9 s9 h => ?_)
              refine g_ifb_ne hx (off := 13) (tgt := 121) (by decide +kernel) (by decide) (fun c108 => ?_) (fun c108 => ?_)
              · have h := ok_t h c108
                refine g_run hx [(.aload_n 0, 0, 0)] (pc' := 122) (lo' := [some (.ref 66), some (.int r2), some (.int (-1))]) (st' := [.ref 66]) (σ' := s9) (by decide +kernel) rfl rfl ?_
                refine g_callV (rest := []) [] hx hc mk_m_pass ln_10_164 rfl (by decide +kernel) (by decide) (Nat.le_of_ble_eq_true rfl) (s_m_pass (ok_b h)) (fun r10 s10 h => ?_)
                refine g_run hx [(.aload_n 0, 0, 0), (.getfield 106, 0, 0)] (pc' := 129) (lo' := [some (.ref 66), some (.int r2), some (.int (-1))]) (st' := [.int (gI s10 66 13)]) (σ' := s10) (by decide +kernel) rfl rfl ?_
                refine g_if_eq hx (off := 4) (tgt := 133) (by decide +kernel) (by decide) (fun c129 => ?_) (fun c129 => ?_)
                · have h := ok_t h c129
                  refine g_run hx [(.aload_n 0, 0, 0), (.getfield 23, 0, 0), (.bipush 24, 24, 0), (.aload_n 0, 0, 0), (.getfield 23, 0, 0), (.iconst 4, 4, 0), (.iaload, 0, 0), (.iadd, 0, 0), (.iconst 2, 2, 0), (.iload_n 1, 0, 0), (.imul, 0, 0), (.iload_n 2, 0, 0), (.iadd, 0, 0)] (pc' := 151) (lo' := [some (.ref 66), some (.int r2), some (.int (-1))]) (st' := [.int ((2 * r2) + (-1)), .int (24 + (gA s10 70 4)), .ref 70]) (σ' := s10) (by decide +kernel) rfl rfl ?_
                  obtain ⟨c151, h⟩ := ok_g h
                  refine g_iast hx (by decide +kernel) (i := 70) (n := 189) rfl c151 ?_
                  refine g_run hx [(.aload_n 0, 0, 0), (.getfield 23, 0, 0), (.iconst 4, 4, 0), (.dup2, 0, 0), (.iaload, 0, 0), (.iconst 1, 1, 0), (.iadd, 0, 0), (.iastore, 0, 0)] (pc' := 162) (lo' := [some (.ref 66), some (.int r2), some (.int (-1))]) (st' := []) (σ' := sA (sA s10 70 (24 + (gA s10 70 4)) ((2 * r2) + (-1))) 70 4 ((gA (sA s10 70 (24 + (gA s10 70 4)) ((2 * r2) + (-1))) 70 4) + 1)) (by decide +kernel) rfl rfl ?_
                  exact g_vret hx hr rfl () rfl (by decide +kernel) (ok_some h)
                · have h := ok_f h c129
                  exact g_vret hx hr rfl () rfl (by decide +kernel) (ok_some h)
              · have h := ok_f h c108
                refine g_run hx [(.aload_n 0, 0, 0), (.bipush 7, 7, 0), (.aload_n 0, 0, 0), (.getfield 87, 0, 0)] (pc' := 118) (lo' := [some (.ref 66), some (.int r2), some (.int (-1))]) (st' := [.int (gI s9 66 4), .int 7, .ref 66]) (σ' := s9) (by decide +kernel) rfl rfl ?_
                refine g_callV (rest := []) [.int 7, .int (gI s9 66 4)] hx hc mk_m_wrong ln_10_133 rfl (by decide +kernel) (by decide) (Nat.le_of_ble_eq_true rfl) (s_m_wrong (ok_b h)) (fun r11 s11 h => ?_)
                refine g_run hx [(.aload_n 0, 0, 0)] (pc' := 122) (lo' := [some (.ref 66), some (.int r2), some (.int (-1))]) (st' := [.ref 66]) (σ' := s11) (by decide +kernel) rfl rfl ?_
                refine g_callV (rest := []) [] hx hc mk_m_pass ln_10_164 rfl (by decide +kernel) (by decide) (Nat.le_of_ble_eq_true rfl) (s_m_pass (ok_b h)) (fun r12 s12 h => ?_)
                refine g_run hx [(.aload_n 0, 0, 0), (.getfield 106, 0, 0)] (pc' := 129) (lo' := [some (.ref 66), some (.int r2), some (.int (-1))]) (st' := [.int (gI s12 66 13)]) (σ' := s12) (by decide +kernel) rfl rfl ?_
                refine g_if_eq hx (off := 4) (tgt := 133) (by decide +kernel) (by decide) (fun c129 => ?_) (fun c129 => ?_)
                · have h := ok_t h c129
                  refine g_run hx [(.aload_n 0, 0, 0), (.getfield 23, 0, 0), (.bipush 24, 24, 0), (.aload_n 0, 0, 0), (.getfield 23, 0, 0), (.iconst 4, 4, 0), (.iaload, 0, 0), (.iadd, 0, 0), (.iconst 2, 2, 0), (.iload_n 1, 0, 0), (.imul, 0, 0), (.iload_n 2, 0, 0), (.iadd, 0, 0)] (pc' := 151) (lo' := [some (.ref 66), some (.int r2), some (.int (-1))]) (st' := [.int ((2 * r2) + (-1)), .int (24 + (gA s12 70 4)), .ref 70]) (σ' := s12) (by decide +kernel) rfl rfl ?_
                  obtain ⟨c151, h⟩ := ok_g h
                  refine g_iast hx (by decide +kernel) (i := 70) (n := 189) rfl c151 ?_
                  refine g_run hx [(.aload_n 0, 0, 0), (.getfield 23, 0, 0), (.iconst 4, 4, 0), (.dup2, 0, 0), (.iaload, 0, 0), (.iconst 1, 1, 0), (.iadd, 0, 0), (.iastore, 0, 0)] (pc' := 162) (lo' := [some (.ref 66), some (.int r2), some (.int (-1))]) (st' := []) (σ' := sA (sA s12 70 (24 + (gA s12 70 4)) ((2 * r2) + (-1))) 70 4 ((gA (sA s12 70 (24 + (gA s12 70 4)) ((2 * r2) + (-1))) 70 4) + 1)) (by decide +kernel) rfl rfl ?_
                  exact g_vret hx hr rfl () rfl (by decide +kernel) (ok_some h)
                · have h := ok_f h c129
                  exact g_vret hx hr rfl () rfl (by decide +kernel) (ok_some h)
          · have h := ok_t h c66
            refine g_run hx [(.iconst 1, 1, 0)] (pc' := 70) (lo' := [some (.ref 66), some (.int r2), none]) (st' := [.int 1]) (σ' := s6) (by decide +kernel) rfl rfl ?_
            refine g_goto hx (off := 4) (tgt := 74) (by decide +kernel) (by decide) ?_
            refine g_run hx [(.istore_n 2, 0, 0), (.iload_n 2, 0, 0)] (pc' := 76) (lo' := [some (.ref 66), some (.int r2), some (.int 1)]) (st' := [.int 1]) (σ' := s6) (by decide +kernel) rfl rfl ?_
            refine g_if_ge hx (off := 12) (tgt := 88) (by decide +kernel) (by decide) (fun _ => ?_) (fun c => absurd c (by decide))
            refine g_run hx [(.aload_n 0, 0, 0), (.getfield 106, 0, 0)] (pc' := 92) (lo' := [some (.ref 66), some (.int r2), some (.int 1)]) (st' := [.int (gI s6 66 13)]) (σ' := s6) (by decide +kernel) rfl rfl ?_
            refine g_if_ne hx (off := 29) (tgt := 121) (by decide +kernel) (by decide) (fun c92 => ?_) (fun c92 => ?_)
            · have h := ok_f h c92
              refine g_run hx [(.aload_n 0, 0, 0)] (pc' := 122) (lo' := [some (.ref 66), some (.int r2), some (.int 1)]) (st' := [.ref 66]) (σ' := s6) (by decide +kernel) rfl rfl ?_
              refine g_callV (rest := []) [] hx hc mk_m_pass ln_10_164 rfl (by decide +kernel) (by decide) (Nat.le_of_ble_eq_true rfl) (s_m_pass (ok_b h)) (fun r13 s13 h => ?_)
              refine g_run hx [(.aload_n 0, 0, 0), (.getfield 106, 0, 0)] (pc' := 129) (lo' := [some (.ref 66), some (.int r2), some (.int 1)]) (st' := [.int (gI s13 66 13)]) (σ' := s13) (by decide +kernel) rfl rfl ?_
              refine g_if_eq hx (off := 4) (tgt := 133) (by decide +kernel) (by decide) (fun c129 => ?_) (fun c129 => ?_)
              · have h := ok_t h c129
                refine g_run hx [(.aload_n 0, 0, 0), (.getfield 23, 0, 0), (.bipush 24, 24, 0), (.aload_n 0, 0, 0), (.getfield 23, 0, 0), (.iconst 4, 4, 0), (.iaload, 0, 0), (.iadd, 0, 0), (.iconst 2, 2, 0), (.iload_n 1, 0, 0), (.imul, 0, 0), (.iload_n 2, 0, 0), (.iadd, 0, 0)] (pc' := 151) (lo' := [some (.ref 66), some (.int r2), some (.int 1)]) (st' := [.int ((2 * r2) + 1), .int (24 + (gA s13 70 4)), .ref 70]) (σ' := s13) (by decide +kernel) rfl rfl ?_
                obtain ⟨c151, h⟩ := ok_g h
                refine g_iast hx (by decide +kernel) (i := 70) (n := 189) rfl c151 ?_
                refine g_run hx [(.aload_n 0, 0, 0), (.getfield 23, 0, 0), (.iconst 4, 4, 0), (.dup2, 0, 0), (.iaload, 0, 0), (.iconst 1, 1, 0), (.iadd, 0, 0), (.iastore, 0, 0)] (pc' := 162) (lo' := [some (.ref 66), some (.int r2), some (.int 1)]) (st' := []) (σ' := sA (sA s13 70 (24 + (gA s13 70 4)) ((2 * r2) + 1)) 70 4 ((gA (sA s13 70 (24 + (gA s13 70 4)) ((2 * r2) + 1)) 70 4) + 1)) (by decide +kernel) rfl rfl ?_
                exact g_vret hx hr rfl () rfl (by decide +kernel) (ok_some h)
              · have h := ok_f h c129
                exact g_vret hx hr rfl () rfl (by decide +kernel) (ok_some h)
            · have h := ok_t h c92
              refine g_run hx [(.aload_n 0, 0, 0), (.getfield 23, 0, 0), (.aload_n 0, 0, 0), (.getfield 32, 0, 0), (.iload_n 1, 0, 0), (.iload_n 2, 0, 0)] (pc' := 105) (lo' := [some (.ref 66), some (.int r2), some (.int 1)]) (st' := [.int 1, .int r2, .ref 73, .ref 70]) (σ' := s6) (by decide +kernel) rfl rfl ?_
              refine g_callS (rest := []) [.ref 70, .ref 73, .int r2, .int 1] hx hc mk_m_strideOn ln_10_253 (by decide +kernel) (by decide) (Nat.le_of_ble_eq_true rfl) (s_m_strideOn_70_73 (ok_b h)) (fun r14 s14 h => ?_)
              refine g_ifb_ne hx (off := 13) (tgt := 121) (by decide +kernel) (by decide) (fun c108 => ?_) (fun c108 => ?_)
              · have h := ok_t h c108
                refine g_run hx [(.aload_n 0, 0, 0)] (pc' := 122) (lo' := [some (.ref 66), some (.int r2), some (.int 1)]) (st' := [.ref 66]) (σ' := s14) (by decide +kernel) rfl rfl ?_
                refine g_callV (rest := []) [] hx hc mk_m_pass ln_10_164 rfl (by decide +kernel) (by decide) (Nat.le_of_ble_eq_true rfl) (s_m_pass (ok_b h)) (fun r15 s15 h => ?_)
                refine g_run hx [(.aload_n 0, 0, 0), (.getfield 106, 0, 0)] (pc' := 129) (lo' := [some (.ref 66), some (.int r2), some (.int 1)]) (st' := [.int (gI s15 66 13)]) (σ' := s15) (by decide +kernel) rfl rfl ?_
                refine g_if_eq hx (off := 4) (tgt := 133) (by decide +kernel) (by decide) (fun c129 => ?_) (fun c129 => ?_)
                · have h := ok_t h c129
                  refine g_run hx [(.aload_n 0, 0, 0), (.getfield 23, 0, 0), (.bipush 24, 24, 0), (.aload_n 0, 0, 0), (.getfield 23, 0, 0), (.iconst 4, 4, 0), (.iaload, 0, 0), (.iadd, 0, 0), (.iconst 2, 2, 0), (.iload_n 1, 0, 0), (.imul, 0, 0), (.iload_n 2, 0, 0), (.iadd, 0, 0)] (pc' := 151) (lo' := [some (.ref 66), some (.int r2), some (.int 1)]) (st' := [.int ((2 * r2) + 1), .int (24 + (gA s15 70 4)), .ref 70]) (σ' := s15) (by decide +kernel) rfl rfl ?_
                  obtain ⟨c151, h⟩ := ok_g h
                  refine g_iast hx (by decide +kernel) (i := 70) (n := 189) rfl c151 ?_
                  refine g_run hx [(.aload_n 0, 0, 0), (.getfield 23, 0, 0), (.iconst 4, 4, 0), (.dup2, 0, 0), (.iaload, 0, 0), (.iconst 1, 1, 0), (.iadd, 0, 0), (.iastore, 0, 0)] (pc' := 162) (lo' := [some (.ref 66), some (.int r2), some (.int 1)]) (st' := []) (σ' := sA (sA s15 70 (24 + (gA s15 70 4)) ((2 * r2) + 1)) 70 4 ((gA (sA s15 70 (24 + (gA s15 70 4)) ((2 * r2) + 1)) 70 4) + 1)) (by decide +kernel) rfl rfl ?_
                  exact g_vret hx hr rfl () rfl (by decide +kernel) (ok_some h)
                · have h := ok_f h c129
                  exact g_vret hx hr rfl () rfl (by decide +kernel) (ok_some h)
              · have h := ok_f h c108
                refine g_run hx [(.aload_n 0, 0, 0), (.bipush 7, 7, 0), (.aload_n 0, 0, 0), (.getfield 87, 0, 0)] (pc' := 118) (lo' := [some (.ref 66), some (.int r2), some (.int 1)]) (st' := [.int (gI s14 66 4), .int 7, .ref 66]) (σ' := s14) (by decide +kernel) rfl rfl ?_
                refine g_callV (rest := []) [.int 7, .int (gI s14 66 4)] hx hc mk_m_wrong ln_10_133 rfl (by decide +kernel) (by decide) (Nat.le_of_ble_eq_true rfl) (s_m_wrong (ok_b h)) (fun r16 s16 h => ?_)
                refine g_run hx [(.aload_n 0, 0, 0)] (pc' := 122) (lo' := [some (.ref 66), some (.int r2), some (.int 1)]) (st' := [.ref 66]) (σ' := s16) (by decide +kernel) rfl rfl ?_
                refine g_callV (rest := []) [] hx hc mk_m_pass ln_10_164 rfl (by decide +kernel) (by decide) (Nat.le_of_ble_eq_true rfl) (s_m_pass (ok_b h)) (fun r17 s17 h => ?_)
                refine g_run hx [(.aload_n 0, 0, 0), (.getfield 106, 0, 0)] (pc' := 129) (lo' := [some (.ref 66), some (.int r2), some (.int 1)]) (st' := [.int (gI s17 66 13)]) (σ' := s17) (by decide +kernel) rfl rfl ?_
                refine g_if_eq hx (off := 4) (tgt := 133) (by decide +kernel) (by decide) (fun c129 => ?_) (fun c129 => ?_)
                · have h := ok_t h c129
                  refine g_run hx [(.aload_n 0, 0, 0), (.getfield 23, 0, 0), (.bipush 24, 24, 0), (.aload_n 0, 0, 0), (.getfield 23, 0, 0), (.iconst 4, 4, 0), (.iaload, 0, 0), (.iadd, 0, 0), (.iconst 2, 2, 0), (.iload_n 1, 0, 0), (.imul, 0, 0), (.iload_n 2, 0, 0), (.iadd, 0, 0)] (pc' := 151) (lo' := [some (.ref 66), some (.int r2), some (.int 1)]) (st' := [.int ((2 * r2) + 1), .int (24 + (gA s17 70 4)), .ref 70]) (σ' := s17) (by decide +kernel) rfl rfl ?_
                  obtain ⟨c151, h⟩ := ok_g h
                  refine g_iast hx (by decide +kernel) (i := 70) (n := 189) rfl c151 ?_
                  refine g_run hx [(.aload_n 0, 0, 0), (.getfield 23, 0, 0), (.iconst 4, 4, 0), (.dup2, 0, 0), (.iaload, 0, 0), (.iconst 1, 1, 0), (.iadd, 0, 0), (.iastore, 0, 0)] (pc' := 162) (lo' := [some (.ref 66), some (.int r2), some (.int 1)]) (st' := []) (σ' := sA (sA s17 70 (24 + (gA s17 70 4)) ((2 * r2) + 1)) 70 4 ((gA (sA s17 70 (24 + (gA s17 70 4)) ((2 * r2) + 1)) 70 4) + 1)) (by decide +kernel) rfl rfl ?_
                  exact g_vret hx hr rfl () rfl (by decide +kernel) (ok_some h)
                · have h := ok_f h c129
                  exact g_vret hx hr rfl () rfl (by decide +kernel) (ok_some h)
        · have h := ok_t h c53
          refine g_run hx [(.iconst 0, 0, 0)] (pc' := 57) (lo' := [some (.ref 66), some (.int r2), none]) (st' := [.int 0]) (σ' := s5) (by decide +kernel) rfl rfl ?_
          refine g_goto hx (off := 17) (tgt := 74) (by decide +kernel) (by decide) ?_
          refine g_run hx [(.istore_n 2, 0, 0), (.iload_n 2, 0, 0)] (pc' := 76) (lo' := [some (.ref 66), some (.int r2), some (.int 0)]) (st' := [.int 0]) (σ' := s5) (by decide +kernel) rfl rfl ?_
          refine g_if_ge hx (off := 12) (tgt := 88) (by decide +kernel) (by decide) (fun _ => ?_) (fun c => absurd c (by decide))
          refine g_run hx [(.aload_n 0, 0, 0), (.getfield 106, 0, 0)] (pc' := 92) (lo' := [some (.ref 66), some (.int r2), some (.int 0)]) (st' := [.int (gI s5 66 13)]) (σ' := s5) (by decide +kernel) rfl rfl ?_
          refine g_if_ne hx (off := 29) (tgt := 121) (by decide +kernel) (by decide) (fun c92 => ?_) (fun c92 => ?_)
          · have h := ok_f h c92
            refine g_run hx [(.aload_n 0, 0, 0)] (pc' := 122) (lo' := [some (.ref 66), some (.int r2), some (.int 0)]) (st' := [.ref 66]) (σ' := s5) (by decide +kernel) rfl rfl ?_
            refine g_callV (rest := []) [] hx hc mk_m_pass ln_10_164 rfl (by decide +kernel) (by decide) (Nat.le_of_ble_eq_true rfl) (s_m_pass (ok_b h)) (fun r18 s18 h => ?_)
            refine g_run hx [(.aload_n 0, 0, 0), (.getfield 106, 0, 0)] (pc' := 129) (lo' := [some (.ref 66), some (.int r2), some (.int 0)]) (st' := [.int (gI s18 66 13)]) (σ' := s18) (by decide +kernel) rfl rfl ?_
            refine g_if_eq hx (off := 4) (tgt := 133) (by decide +kernel) (by decide) (fun c129 => ?_) (fun c129 => ?_)
            · have h := ok_t h c129
              refine g_run hx [(.aload_n 0, 0, 0), (.getfield 23, 0, 0), (.bipush 24, 24, 0), (.aload_n 0, 0, 0), (.getfield 23, 0, 0), (.iconst 4, 4, 0), (.iaload, 0, 0), (.iadd, 0, 0), (.iconst 2, 2, 0), (.iload_n 1, 0, 0), (.imul, 0, 0), (.iload_n 2, 0, 0), (.iadd, 0, 0)] (pc' := 151) (lo' := [some (.ref 66), some (.int r2), some (.int 0)]) (st' := [.int ((2 * r2) + 0), .int (24 + (gA s18 70 4)), .ref 70]) (σ' := s18) (by decide +kernel) rfl rfl ?_
              obtain ⟨c151, h⟩ := ok_g h
              refine g_iast hx (by decide +kernel) (i := 70) (n := 189) rfl c151 ?_
              refine g_run hx [(.aload_n 0, 0, 0), (.getfield 23, 0, 0), (.iconst 4, 4, 0), (.dup2, 0, 0), (.iaload, 0, 0), (.iconst 1, 1, 0), (.iadd, 0, 0), (.iastore, 0, 0)] (pc' := 162) (lo' := [some (.ref 66), some (.int r2), some (.int 0)]) (st' := []) (σ' := sA (sA s18 70 (24 + (gA s18 70 4)) ((2 * r2) + 0)) 70 4 ((gA (sA s18 70 (24 + (gA s18 70 4)) ((2 * r2) + 0)) 70 4) + 1)) (by decide +kernel) rfl rfl ?_
              exact g_vret hx hr rfl () rfl (by decide +kernel) (ok_some h)
            · have h := ok_f h c129
              exact g_vret hx hr rfl () rfl (by decide +kernel) (ok_some h)
          · have h := ok_t h c92
            refine g_run hx [(.aload_n 0, 0, 0), (.getfield 23, 0, 0), (.aload_n 0, 0, 0), (.getfield 32, 0, 0), (.iload_n 1, 0, 0), (.iload_n 2, 0, 0)] (pc' := 105) (lo' := [some (.ref 66), some (.int r2), some (.int 0)]) (st' := [.int 0, .int r2, .ref 73, .ref 70]) (σ' := s5) (by decide +kernel) rfl rfl ?_
            refine g_callS (rest := []) [.ref 70, .ref 73, .int r2, .int 0] hx hc mk_m_strideOn ln_10_253 (by decide +kernel) (by decide) (Nat.le_of_ble_eq_true rfl) (s_m_strideOn_70_73 (ok_b h)) (fun r19 s19 h => ?_)
            refine g_ifb_ne hx (off := 13) (tgt := 121) (by decide +kernel) (by decide) (fun c108 => ?_) (fun c108 => ?_)
            · have h := ok_t h c108
              refine g_run hx [(.aload_n 0, 0, 0)] (pc' := 122) (lo' := [some (.ref 66), some (.int r2), some (.int 0)]) (st' := [.ref 66]) (σ' := s19) (by decide +kernel) rfl rfl ?_
              refine g_callV (rest := []) [] hx hc mk_m_pass ln_10_164 rfl (by decide +kernel) (by decide) (Nat.le_of_ble_eq_true rfl) (s_m_pass (ok_b h)) (fun r20 s20 h => ?_)
              refine g_run hx [(.aload_n 0, 0, 0), (.getfield 106, 0, 0)] (pc' := 129) (lo' := [some (.ref 66), some (.int r2), some (.int 0)]) (st' := [.int (gI s20 66 13)]) (σ' := s20) (by decide +kernel) rfl rfl ?_
              refine g_if_eq hx (off := 4) (tgt := 133) (by decide +kernel) (by decide) (fun c129 => ?_) (fun c129 => ?_)
              · have h := ok_t h c129
                refine g_run hx [(.aload_n 0, 0, 0), (.getfield 23, 0, 0), (.bipush 24, 24, 0), (.aload_n 0, 0, 0), (.getfield 23, 0, 0), (.iconst 4, 4, 0), (.iaload, 0, 0), (.iadd, 0, 0), (.iconst 2, 2, 0), (.iload_n 1, 0, 0), (.imul, 0, 0), (.iload_n 2, 0, 0), (.iadd, 0, 0)] (pc' := 151) (lo' := [some (.ref 66), some (.int r2), some (.int 0)]) (st' := [.int ((2 * r2) + 0), .int (24 + (gA s20 70 4)), .ref 70]) (σ' := s20) (by decide +kernel) rfl rfl ?_
                obtain ⟨c151, h⟩ := ok_g h
                refine g_iast hx (by decide +kernel) (i := 70) (n := 189) rfl c151 ?_
                refine g_run hx [(.aload_n 0, 0, 0), (.getfield 23, 0, 0), (.iconst 4, 4, 0), (.dup2, 0, 0), (.iaload, 0, 0), (.iconst 1, 1, 0), (.iadd, 0, 0), (.iastore, 0, 0)] (pc' := 162) (lo' := [some (.ref 66), some (.int r2), some (.int 0)]) (st' := []) (σ' := sA (sA s20 70 (24 + (gA s20 70 4)) ((2 * r2) + 0)) 70 4 ((gA (sA s20 70 (24 + (gA s20 70 4)) ((2 * r2) + 0)) 70 4) + 1)) (by decide +kernel) rfl rfl ?_
                exact g_vret hx hr rfl () rfl (by decide +kernel) (ok_some h)
              · have h := ok_f h c129
                exact g_vret hx hr rfl () rfl (by decide +kernel) (ok_some h)
            · have h := ok_f h c108
              refine g_run hx [(.aload_n 0, 0, 0), (.bipush 7, 7, 0), (.aload_n 0, 0, 0), (.getfield 87, 0, 0)] (pc' := 118) (lo' := [some (.ref 66), some (.int r2), some (.int 0)]) (st' := [.int (gI s19 66 4), .int 7, .ref 66]) (σ' := s19) (by decide +kernel) rfl rfl ?_
              refine g_callV (rest := []) [.int 7, .int (gI s19 66 4)] hx hc mk_m_wrong ln_10_133 rfl (by decide +kernel) (by decide) (Nat.le_of_ble_eq_true rfl) (s_m_wrong (ok_b h)) (fun r21 s21 h => ?_)
              refine g_run hx [(.aload_n 0, 0, 0)] (pc' := 122) (lo' := [some (.ref 66), some (.int r2), some (.int 0)]) (st' := [.ref 66]) (σ' := s21) (by decide +kernel) rfl rfl ?_
              refine g_callV (rest := []) [] hx hc mk_m_pass ln_10_164 rfl (by decide +kernel) (by decide) (Nat.le_of_ble_eq_true rfl) (s_m_pass (ok_b h)) (fun r22 s22 h => ?_)
              refine g_run hx [(.aload_n 0, 0, 0), (.getfield 106, 0, 0)] (pc' := 129) (lo' := [some (.ref 66), some (.int r2), some (.int 0)]) (st' := [.int (gI s22 66 13)]) (σ' := s22) (by decide +kernel) rfl rfl ?_
              refine g_if_eq hx (off := 4) (tgt := 133) (by decide +kernel) (by decide) (fun c129 => ?_) (fun c129 => ?_)
              · have h := ok_t h c129
                refine g_run hx [(.aload_n 0, 0, 0), (.getfield 23, 0, 0), (.bipush 24, 24, 0), (.aload_n 0, 0, 0), (.getfield 23, 0, 0), (.iconst 4, 4, 0), (.iaload, 0, 0), (.iadd, 0, 0), (.iconst 2, 2, 0), (.iload_n 1, 0, 0), (.imul, 0, 0), (.iload_n 2, 0, 0), (.iadd, 0, 0)] (pc' := 151) (lo' := [some (.ref 66), some (.int r2), some (.int 0)]) (st' := [.int ((2 * r2) + 0), .int (24 + (gA s22 70 4)), .ref 70]) (σ' := s22) (by decide +kernel) rfl rfl ?_
                obtain ⟨c151, h⟩ := ok_g h
                refine g_iast hx (by decide +kernel) (i := 70) (n := 189) rfl c151 ?_
                refine g_run hx [(.aload_n 0, 0, 0), (.getfield 23, 0, 0), (.iconst 4, 4, 0), (.dup2, 0, 0), (.iaload, 0, 0), (.iconst 1, 1, 0), (.iadd, 0, 0), (.iastore, 0, 0)] (pc' := 162) (lo' := [some (.ref 66), some (.int r2), some (.int 0)]) (st' := []) (σ' := sA (sA s22 70 (24 + (gA s22 70 4)) ((2 * r2) + 0)) 70 4 ((gA (sA s22 70 (24 + (gA s22 70 4)) ((2 * r2) + 0)) 70 4) + 1)) (by decide +kernel) rfl rfl ?_
                exact g_vret hx hr rfl () rfl (by decide +kernel) (ok_some h)
              · have h := ok_f h c129
                exact g_vret hx hr rfl () rfl (by decide +kernel) (ok_some h)
      · have h := ok_f h c31
        refine g_run hx [(.aload_n 0, 0, 0), (.iconst 2, 2, 0), (.aload_n 0, 0, 0), (.getfield 87, 0, 0)] (pc' := 40) (lo' := [some (.ref 66), some (.int r2), none]) (st' := [.int (gI s3 66 4), .int 2, .ref 66]) (σ' := s3) (by decide +kernel) rfl rfl ?_
        refine g_callV (rest := []) [.int 2, .int (gI s3 66 4)] hx hc mk_m_wrong ln_10_133 rfl (by decide +kernel) (by decide) (Nat.le_of_ble_eq_true rfl) (s_m_wrong (ok_b h)) (fun r23 s23 h => ?_)
        refine g_run hx [(.aload_n 0, 0, 0)] (pc' := 44) (lo' := [some (.ref 66), some (.int r2), none]) (st' := [.ref 66]) (σ' := s23) (by decide +kernel) rfl rfl ?_
        refine g_callV (rest := []) [] hx hc mk_m_pass ln_10_164 rfl (by decide +kernel) (by decide) (Nat.le_of_ble_eq_true rfl) (s_m_pass (ok_b h)) (fun r24 s24 h => ?_)
        refine g_run hx [(.aload_n 0, 0, 0)] (pc' := 48) (lo' := [some (.ref 66), some (.int r2), none]) (st' := [.ref 66]) (σ' := s24) (by decide +kernel) rfl rfl ?_
        refine g_ldcS (idx := 249) (sid := 16) hx hc (by decide) (by decide +kernel) ?_
        refine g_callV (rest := []) [.ref (100 + 16)] hx hc mk_m_isWord ln_10_123 rfl (by decide +kernel) (by decide) (Nat.le_of_ble_eq_true rfl) (s_m_isWord (by decide) (ok_b h)) (fun r25 s25 h => ?_)
        refine g_ifb_eq hx (off := 7) (tgt := 60) (by decide +kernel) (by decide) (fun c53 => ?_) (fun c53 => ?_)
        · have h := ok_f h c53
          refine g_run hx [(.aload_n 0, 0, 0)] (pc' := 61) (lo' := [some (.ref 66), some (.int r2), none]) (st' := [.ref 66]) (σ' := s25) (by decide +kernel) rfl rfl ?_
          refine g_ldcS (idx := 251) (sid := 17) hx hc (by decide) (by decide +kernel) ?_
          refine g_callV (rest := []) [.ref (100 + 17)] hx hc mk_m_isWord ln_10_123 rfl (by decide +kernel) (by decide) (Nat.le_of_ble_eq_true rfl) (s_m_isWord (by decide) (ok_b h)) (fun r26 s26 h => ?_)
          refine g_ifb_eq hx (off := 7) (tgt := 73) (by decide +kernel) (by decide) (fun c66 => ?_) (fun c66 => ?_)
          · have h := ok_f h c66
            refine g_run hx [(.iconst (-1), (-1), 0), (.istore_n 2, 0, 0), (.iload_n 2, 0, 0)] (pc' := 76) (lo' := [some (.ref 66), some (.int r2), some (.int (-1))]) (st' := [.int (-1)]) (σ' := s26) (by decide +kernel) rfl rfl ?_
            refine g_if_ge hx (off := 12) (tgt := 88) (by decide +kernel) (by decide) (fun c => absurd c (by decide)) (fun _ => ?_)
            refine g_run hx [(.aload_n 0, 0, 0), (.iconst 1, 1, 0), (.aload_n 0, 0, 0), (.getfield 87, 0, 0)] (pc' := 85) (lo' := [some (.ref 66), some (.int r2), some (.int (-1))]) (st' := [.int (gI s26 66 4), .int 1, .ref 66]) (σ' := s26) (by decide +kernel) rfl rfl ?_
            refine g_callV (rest := []) [.int 1, .int (gI s26 66 4)] hx hc mk_m_wrong ln_10_133 rfl (by decide +kernel) (by decide) (Nat.le_of_ble_eq_true rfl) (s_m_wrong (ok_b h)) (fun r27 s27 h => ?_)
            refine g_run hx [(.aload_n 0, 0, 0), (.getfield 106, 0, 0)] (pc' := 92) (lo' := [some (.ref 66), some (.int r2), some (.int (-1))]) (st' := [.int (gI s27 66 13)]) (σ' := s27) (by decide +kernel) rfl rfl ?_
            refine g_if_ne hx (off := 29) (tgt := 121) (by decide +kernel) (by decide) (fun c92 => ?_) (fun c92 => ?_)
            · have h := ok_f h c92
              refine g_run hx [(.aload_n 0, 0, 0)] (pc' := 122) (lo' := [some (.ref 66), some (.int r2), some (.int (-1))]) (st' := [.ref 66]) (σ' := s27) (by decide +kernel) rfl rfl ?_
              refine g_callV (rest := []) [] hx hc mk_m_pass ln_10_164 rfl (by decide +kernel) (by decide) (Nat.le_of_ble_eq_true rfl) (s_m_pass (ok_b h)) (fun r28 s28 h => ?_)
              refine g_run hx [(.aload_n 0, 0, 0), (.getfield 106, 0, 0)] (pc' := 129) (lo' := [some (.ref 66), some (.int r2), some (.int (-1))]) (st' := [.int (gI s28 66 13)]) (σ' := s28) (by decide +kernel) rfl rfl ?_
              refine g_if_eq hx (off := 4) (tgt := 133) (by decide +kernel) (by decide) (fun c129 => ?_) (fun c129 => ?_)
              · have h := ok_t h c129
                refine g_run hx [(.aload_n 0, 0, 0), (.getfield 23, 0, 0), (.bipush 24, 24, 0), (.aload_n 0, 0, 0), (.getfield 23, 0, 0), (.iconst 4, 4, 0), (.iaload, 0, 0), (.iadd, 0, 0), (.iconst 2, 2, 0), (.iload_n 1, 0, 0), (.imul, 0, 0), (.iload_n 2, 0, 0), (.iadd, 0, 0)] (pc' := 151) (lo' := [some (.ref 66), some (.int r2), some (.int (-1))]) (st' := [.int ((2 * r2) + (-1)), .int (24 + (gA s28 70 4)), .ref 70]) (σ' := s28) (by decide +kernel) rfl rfl ?_
                obtain ⟨c151, h⟩ := ok_g h
                refine g_iast hx (by decide +kernel) (i := 70) (n := 189) rfl c151 ?_
                refine g_run hx [(.aload_n 0, 0, 0), (.getfield 23, 0, 0), (.iconst 4, 4, 0), (.dup2, 0, 0), (.iaload, 0, 0), (.iconst 1, 1, 0), (.iadd, 0, 0), (.iastore, 0, 0)] (pc' := 162) (lo' := [some (.ref 66), some (.int r2), some (.int (-1))]) (st' := []) (σ' := sA (sA s28 70 (24 + (gA s28 70 4)) ((2 * r2) + (-1))) 70 4 ((gA (sA s28 70 (24 + (gA s28 70 4)) ((2 * r2) + (-1))) 70 4) + 1)) (by decide +kernel) rfl rfl ?_
                exact g_vret hx hr rfl () rfl (by decide +kernel) (ok_some h)
              · have h := ok_f h c129
                exact g_vret hx hr rfl () rfl (by decide +kernel) (ok_some h)
            · have h := ok_t h c92
              refine g_run hx [(.aload_n 0, 0, 0), (.getfield 23, 0, 0), (.aload_n 0, 0, 0), (.getfield 32, 0, 0), (.iload_n 1, 0, 0), (.iload_n 2, 0, 0)] (pc' := 105) (lo' := [some (.ref 66), some (.int r2), some (.int (-1))]) (st' := [.int (-1), .int r2, .ref 73, .ref 70]) (σ' := s27) (by decide +kernel) rfl rfl ?_
              refine g_callS (rest := []) [.ref 70, .ref 73, .int r2, .int (-1)] hx hc mk_m_strideOn ln_10_253 (by decide +kernel) (by decide) (Nat.le_of_ble_eq_true rfl) (s_m_strideOn_70_73 (ok_b h)) (fun r29 s29 h => ?_)
              refine g_ifb_ne hx (off := 13) (tgt := 121) (by decide +kernel) (by decide) (fun c108 => ?_) (fun c108 => ?_)
              · have h := ok_t h c108
                refine g_run hx [(.aload_n 0, 0, 0)] (pc' := 122) (lo' := [some (.ref 66), some (.int r2), some (.int (-1))]) (st' := [.ref 66]) (σ' := s29) (by decide +kernel) rfl rfl ?_
                refine g_callV (rest := []) [] hx hc mk_m_pass ln_10_164 rfl (by decide +kernel) (by decide) (Nat.le_of_ble_eq_true rfl) (s_m_pass (ok_b h)) (fun r30 s30 h => ?_)
                refine g_run hx [(.aload_n 0, 0, 0), (.getfield 106, 0, 0)] (pc' := 129) (lo' := [some (.ref 66), some (.int r2), some (.int (-1))]) (st' := [.int (gI s30 66 13)]) (σ' := s30) (by decide +kernel) rfl rfl ?_
                refine g_if_eq hx (off := 4) (tgt := 133) (by decide +kernel) (by decide) (fun c129 => ?_) (fun c129 => ?_)
                · have h := ok_t h c129
                  refine g_run hx [(.aload_n 0, 0, 0), (.getfield 23, 0, 0), (.bipush 24, 24, 0), (.aload_n 0, 0, 0), (.getfield 23, 0, 0), (.iconst 4, 4, 0), (.iaload, 0, 0), (.iadd, 0, 0), (.iconst 2, 2, 0), (.iload_n 1, 0, 0), (.imul, 0, 0), (.iload_n 2, 0, 0), (.iadd, 0, 0)] (pc' := 151) (lo' := [some (.ref 66), some (.int r2), some (.int (-1))]) (st' := [.int ((2 * r2) + (-1)), .int (24 + (gA s30 70 4)), .ref 70]) (σ' := s30) (by decide +kernel) rfl rfl ?_
                  obtain ⟨c151, h⟩ := ok_g h
                  refine g_iast hx (by decide +kernel) (i := 70) (n := 189) rfl c151 ?_
                  refine g_run hx [(.aload_n 0, 0, 0), (.getfield 23, 0, 0), (.iconst 4, 4, 0), (.dup2, 0, 0), (.iaload, 0, 0), (.iconst 1, 1, 0), (.iadd, 0, 0), (.iastore, 0, 0)] (pc' := 162) (lo' := [some (.ref 66), some (.int r2), some (.int (-1))]) (st' := []) (σ' := sA (sA s30 70 (24 + (gA s30 70 4)) ((2 * r2) + (-1))) 70 4 ((gA (sA s30 70 (24 + (gA s30 70 4)) ((2 * r2) + (-1))) 70 4) + 1)) (by decide +kernel) rfl rfl ?_
                  exact g_vret hx hr rfl () rfl (by decide +kernel) (ok_some h)
                · have h := ok_f h c129
                  exact g_vret hx hr rfl () rfl (by decide +kernel) (ok_some h)
              · have h := ok_f h c108
                refine g_run hx [(.aload_n 0, 0, 0), (.bipush 7, 7, 0), (.aload_n 0, 0, 0), (.getfield 87, 0, 0)] (pc' := 118) (lo' := [some (.ref 66), some (.int r2), some (.int (-1))]) (st' := [.int (gI s29 66 4), .int 7, .ref 66]) (σ' := s29) (by decide +kernel) rfl rfl ?_
                refine g_callV (rest := []) [.int 7, .int (gI s29 66 4)] hx hc mk_m_wrong ln_10_133 rfl (by decide +kernel) (by decide) (Nat.le_of_ble_eq_true rfl) (s_m_wrong (ok_b h)) (fun r31 s31 h => ?_)
                refine g_run hx [(.aload_n 0, 0, 0)] (pc' := 122) (lo' := [some (.ref 66), some (.int r2), some (.int (-1))]) (st' := [.ref 66]) (σ' := s31) (by decide +kernel) rfl rfl ?_
                refine g_callV (rest := []) [] hx hc mk_m_pass ln_10_164 rfl (by decide +kernel) (by decide) (Nat.le_of_ble_eq_true rfl) (s_m_pass (ok_b h)) (fun r32 s32 h => ?_)
                refine g_run hx [(.aload_n 0, 0, 0), (.getfield 106, 0, 0)] (pc' := 129) (lo' := [some (.ref 66), some (.int r2), some (.int (-1))]) (st' := [.int (gI s32 66 13)]) (σ' := s32) (by decide +kernel) rfl rfl ?_
                refine g_if_eq hx (off := 4) (tgt := 133) (by decide +kernel) (by decide) (fun c129 => ?_) (fun c129 => ?_)
                · have h := ok_t h c129
                  refine g_run hx [(.aload_n 0, 0, 0), (.getfield 23, 0, 0), (.bipush 24, 24, 0), (.aload_n 0, 0, 0), (.getfield 23, 0, 0), (.iconst 4, 4, 0), (.iaload, 0, 0), (.iadd, 0, 0), (.iconst 2, 2, 0), (.iload_n 1, 0, 0), (.imul, 0, 0), (.iload_n 2, 0, 0), (.iadd, 0, 0)] (pc' := 151) (lo' := [some (.ref 66), some (.int r2), some (.int (-1))]) (st' := [.int ((2 * r2) + (-1)), .int (24 + (gA s32 70 4)), .ref 70]) (σ' := s32) (by decide +kernel) rfl rfl ?_
                  obtain ⟨c151, h⟩ := ok_g h
                  refine g_iast hx (by decide +kernel) (i := 70) (n := 189) rfl c151 ?_
                  refine g_run hx [(.aload_n 0, 0, 0), (.getfield 23, 0, 0), (.iconst 4, 4, 0), (.dup2, 0, 0), (.iaload, 0, 0), (.iconst 1, 1, 0), (.iadd, 0, 0), (.iastore, 0, 0)] (pc' := 162) (lo' := [some (.ref 66), some (.int r2), some (.int (-1))]) (st' := []) (σ' := sA (sA s32 70 (24 + (gA s32 70 4)) ((2 * r2) + (-1))) 70 4 ((gA (sA s32 70 (24 + (gA s32 70 4)) ((2 * r2) + (-1))) 70 4) + 1)) (by decide +kernel) rfl rfl ?_
                  exact g_vret hx hr rfl () rfl (by decide +kernel) (ok_some h)
                · have h := ok_f h c129
                  exact g_vret hx hr rfl () rfl (by decide +kernel) (ok_some h)
          · have h := ok_t h c66
            refine g_run hx [(.iconst 1, 1, 0)] (pc' := 70) (lo' := [some (.ref 66), some (.int r2), none]) (st' := [.int 1]) (σ' := s26) (by decide +kernel) rfl rfl ?_
            refine g_goto hx (off := 4) (tgt := 74) (by decide +kernel) (by decide) ?_
            refine g_run hx [(.istore_n 2, 0, 0), (.iload_n 2, 0, 0)] (pc' := 76) (lo' := [some (.ref 66), some (.int r2), some (.int 1)]) (st' := [.int 1]) (σ' := s26) (by decide +kernel) rfl rfl ?_
            refine g_if_ge hx (off := 12) (tgt := 88) (by decide +kernel) (by decide) (fun _ => ?_) (fun c => absurd c (by decide))
            refine g_run hx [(.aload_n 0, 0, 0), (.getfield 106, 0, 0)] (pc' := 92) (lo' := [some (.ref 66), some (.int r2), some (.int 1)]) (st' := [.int (gI s26 66 13)]) (σ' := s26) (by decide +kernel) rfl rfl ?_
            refine g_if_ne hx (off := 29) (tgt := 121) (by decide +kernel) (by decide) (fun c92 => ?_) (fun c92 => ?_)
            · have h := ok_f h c92
              refine g_run hx [(.aload_n 0, 0, 0)] (pc' := 122) (lo' := [some (.ref 66), some (.int r2), some (.int 1)]) (st' := [.ref 66]) (σ' := s26) (by decide +kernel) rfl rfl ?_
              refine g_callV (rest := []) [] hx hc mk_m_pass ln_10_164 rfl (by decide +kernel) (by decide) (Nat.le_of_ble_eq_true rfl) (s_m_pass (ok_b h)) (fun r33 s33 h => ?_)
              refine g_run hx [(.aload_n 0, 0, 0), (.getfield 106, 0, 0)] (pc' := 129) (lo' := [some (.ref 66), some (.int r2), some (.int 1)]) (st' := [.int (gI s33 66 13)]) (σ' := s33) (by decide +kernel) rfl rfl ?_
              refine g_if_eq hx (off := 4) (tgt := 133) (by decide +kernel) (by decide) (fun c129 => ?_) (fun c129 => ?_)
              · have h := ok_t h c129
                refine g_run hx [(.aload_n 0, 0, 0), (.getfield 23, 0, 0), (.bipush 24, 24, 0), (.aload_n 0, 0, 0), (.getfield 23, 0, 0), (.iconst 4, 4, 0), (.iaload, 0, 0), (.iadd, 0, 0), (.iconst 2, 2, 0), (.iload_n 1, 0, 0), (.imul, 0, 0), (.iload_n 2, 0, 0), (.iadd, 0, 0)] (pc' := 151) (lo' := [some (.ref 66), some (.int r2), some (.int 1)]) (st' := [.int ((2 * r2) + 1), .int (24 + (gA s33 70 4)), .ref 70]) (σ' := s33) (by decide +kernel) rfl rfl ?_
                obtain ⟨c151, h⟩ := ok_g h
                refine g_iast hx (by decide +kernel) (i := 70) (n := 189) rfl c151 ?_
                refine g_run hx [(.aload_n 0, 0, 0), (.getfield 23, 0, 0), (.iconst 4, 4, 0), (.dup2, 0, 0), (.iaload, 0, 0), (.iconst 1, 1, 0), (.iadd, 0, 0), (.iastore, 0, 0)] (pc' := 162) (lo' := [some (.ref 66), some (.int r2), some (.int 1)]) (st' := []) (σ' := sA (sA s33 70 (24 + (gA s33 70 4)) ((2 * r2) + 1)) 70 4 ((gA (sA s33 70 (24 + (gA s33 70 4)) ((2 * r2) + 1)) 70 4) + 1)) (by decide +kernel) rfl rfl ?_
                exact g_vret hx hr rfl () rfl (by decide +kernel) (ok_some h)
              · have h := ok_f h c129
                exact g_vret hx hr rfl () rfl (by decide +kernel) (ok_some h)
            · have h := ok_t h c92
              refine g_run hx [(.aload_n 0, 0, 0), (.getfield 23, 0, 0), (.aload_n 0, 0, 0), (.getfield 32, 0, 0), (.iload_n 1, 0, 0), (.iload_n 2, 0, 0)] (pc' := 105) (lo' := [some (.ref 66), some (.int r2), some (.int 1)]) (st' := [.int 1, .int r2, .ref 73, .ref 70]) (σ' := s26) (by decide +kernel) rfl rfl ?_
              refine g_callS (rest := []) [.ref 70, .ref 73, .int r2, .int 1] hx hc mk_m_strideOn ln_10_253 (by decide +kernel) (by decide) (Nat.le_of_ble_eq_true rfl) (s_m_strideOn_70_73 (ok_b h)) (fun r34 s34 h => ?_)
              refine g_ifb_ne hx (off := 13) (tgt := 121) (by decide +kernel) (by decide) (fun c108 => ?_) (fun c108 => ?_)
              · have h := ok_t h c108
                refine g_run hx [(.aload_n 0, 0, 0)] (pc' := 122) (lo' := [some (.ref 66), some (.int r2), some (.int 1)]) (st' := [.ref 66]) (σ' := s34) (by decide +kernel) rfl rfl ?_
                refine g_callV (rest := []) [] hx hc mk_m_pass ln_10_164 rfl (by decide +kernel) (by decide) (Nat.le_of_ble_eq_true rfl) (s_m_pass (ok_b h)) (fun r35 s35 h => ?_)
                refine g_run hx [(.aload_n 0, 0, 0), (.getfield 106, 0, 0)] (pc' := 129) (lo' := [some (.ref 66), some (.int r2), some (.int 1)]) (st' := [.int (gI s35 66 13)]) (σ' := s35) (by decide +kernel) rfl rfl ?_
                refine g_if_eq hx (off := 4) (tgt := 133) (by decide +kernel) (by decide) (fun c129 => ?_) (fun c129 => ?_)
                · have h := ok_t h c129
                  refine g_run hx [(.aload_n 0, 0, 0), (.getfield 23, 0, 0), (.bipush 24, 24, 0), (.aload_n 0, 0, 0), (.getfield 23, 0, 0), (.iconst 4, 4, 0), (.iaload, 0, 0), (.iadd, 0, 0), (.iconst 2, 2, 0), (.iload_n 1, 0, 0), (.imul, 0, 0), (.iload_n 2, 0, 0), (.iadd, 0, 0)] (pc' := 151) (lo' := [some (.ref 66), some (.int r2), some (.int 1)]) (st' := [.int ((2 * r2) + 1), .int (24 + (gA s35 70 4)), .ref 70]) (σ' := s35) (by decide +kernel) rfl rfl ?_
                  obtain ⟨c151, h⟩ := ok_g h
                  refine g_iast hx (by decide +kernel) (i := 70) (n := 189) rfl c151 ?_
                  refine g_run hx [(.aload_n 0, 0, 0), (.getfield 23, 0, 0), (.iconst 4, 4, 0), (.dup2, 0, 0), (.iaload, 0, 0), (.iconst 1, 1, 0), (.iadd, 0, 0), (.iastore, 0, 0)] (pc' := 162) (lo' := [some (.ref 66), some (.int r2), some (.int 1)]) (st' := []) (σ' := sA (sA s35 70 (24 + (gA s35 70 4)) ((2 * r2) + 1)) 70 4 ((gA (sA s35 70 (24 + (gA s35 70 4)) ((2 * r2) + 1)) 70 4) + 1)) (by decide +kernel) rfl rfl ?_
                  exact g_vret hx hr rfl () rfl (by decide +kernel) (ok_some h)
                · have h := ok_f h c129
                  exact g_vret hx hr rfl () rfl (by decide +kernel) (ok_some h)
              · have h := ok_f h c108
                refine g_run hx [(.aload_n 0, 0, 0), (.bipush 7, 7, 0), (.aload_n 0, 0, 0), (.getfield 87, 0, 0)] (pc' := 118) (lo' := [some (.ref 66), some (.int r2), some (.int 1)]) (st' := [.int (gI s34 66 4), .int 7, .ref 66]) (σ' := s34) (by decide +kernel) rfl rfl ?_
                refine g_callV (rest := []) [.int 7, .int (gI s34 66 4)] hx hc mk_m_wrong ln_10_133 rfl (by decide +kernel) (by decide) (Nat.le_of_ble_eq_true rfl) (s_m_wrong (ok_b h)) (fun r36 s36 h => ?_)
                refine g_run hx [(.aload_n 0, 0, 0)] (pc' := 122) (lo' := [some (.ref 66), some (.int r2), some (.int 1)]) (st' := [.ref 66]) (σ' := s36) (by decide +kernel) rfl rfl ?_
                refine g_callV (rest := []) [] hx hc mk_m_pass ln_10_164 rfl (by decide +kernel) (by decide) (Nat.le_of_ble_eq_true rfl) (s_m_pass (ok_b h)) (fun r37 s37 h => ?_)
                refine g_run hx [(.aload_n 0, 0, 0), (.getfield 106, 0, 0)] (pc' := 129) (lo' := [some (.ref 66), some (.int r2), some (.int 1)]) (st' := [.int (gI s37 66 13)]) (σ' := s37) (by decide +kernel) rfl rfl ?_
                refine g_if_eq hx (off := 4) (tgt := 133) (by decide +kernel) (by decide) (fun c129 => ?_) (fun c129 => ?_)
                · have h := ok_t h c129
                  refine g_run hx [(.aload_n 0, 0, 0), (.getfield 23, 0, 0), (.bipush 24, 24, 0), (.aload_n 0, 0, 0), (.getfield 23, 0, 0), (.iconst 4, 4, 0), (.iaload, 0, 0), (.iadd, 0, 0), (.iconst 2, 2, 0), (.iload_n 1, 0, 0), (.imul, 0, 0), (.iload_n 2, 0, 0), (.iadd, 0, 0)] (pc' := 151) (lo' := [some (.ref 66), some (.int r2), some (.int 1)]) (st' := [.int ((2 * r2) + 1), .int (24 + (gA s37 70 4)), .ref 70]) (σ' := s37) (by decide +kernel) rfl rfl ?_
                  obtain ⟨c151, h⟩ := ok_g h
                  refine g_iast hx (by decide +kernel) (i := 70) (n := 189) rfl c151 ?_
                  refine g_run hx [(.aload_n 0, 0, 0), (.getfield 23, 0, 0), (.iconst 4, 4, 0), (.dup2, 0, 0), (.iaload, 0, 0), (.iconst 1, 1, 0), (.iadd, 0, 0), (.iastore, 0, 0)] (pc' := 162) (lo' := [some (.ref 66), some (.int r2), some (.int 1)]) (st' := []) (σ' := sA (sA s37 70 (24 + (gA s37 70 4)) ((2 * r2) + 1)) 70 4 ((gA (sA s37 70 (24 + (gA s37 70 4)) ((2 * r2) + 1)) 70 4) + 1)) (by decide +kernel) rfl rfl ?_
                  exact g_vret hx hr rfl () rfl (by decide +kernel) (ok_some h)
                · have h := ok_f h c129
                  exact g_vret hx hr rfl () rfl (by decide +kernel) (ok_some h)
        · have h := ok_t h c53
          refine g_run hx [(.iconst 0, 0, 0)] (pc' := 57) (lo' := [some (.ref 66), some (.int r2), none]) (st' := [.int 0]) (σ' := s25) (by decide +kernel) rfl rfl ?_
          refine g_goto hx (off := 17) (tgt := 74) (by decide +kernel) (by decide) ?_
          refine g_run hx [(.istore_n 2, 0, 0), (.iload_n 2, 0, 0)] (pc' := 76) (lo' := [some (.ref 66), some (.int r2), some (.int 0)]) (st' := [.int 0]) (σ' := s25) (by decide +kernel) rfl rfl ?_
          refine g_if_ge hx (off := 12) (tgt := 88) (by decide +kernel) (by decide) (fun _ => ?_) (fun c => absurd c (by decide))
          refine g_run hx [(.aload_n 0, 0, 0), (.getfield 106, 0, 0)] (pc' := 92) (lo' := [some (.ref 66), some (.int r2), some (.int 0)]) (st' := [.int (gI s25 66 13)]) (σ' := s25) (by decide +kernel) rfl rfl ?_
          refine g_if_ne hx (off := 29) (tgt := 121) (by decide +kernel) (by decide) (fun c92 => ?_) (fun c92 => ?_)
          · have h := ok_f h c92
            refine g_run hx [(.aload_n 0, 0, 0)] (pc' := 122) (lo' := [some (.ref 66), some (.int r2), some (.int 0)]) (st' := [.ref 66]) (σ' := s25) (by decide +kernel) rfl rfl ?_
            refine g_callV (rest := []) [] hx hc mk_m_pass ln_10_164 rfl (by decide +kernel) (by decide) (Nat.le_of_ble_eq_true rfl) (s_m_pass (ok_b h)) (fun r38 s38 h => ?_)
            refine g_run hx [(.aload_n 0, 0, 0), (.getfield 106, 0, 0)] (pc' := 129) (lo' := [some (.ref 66), some (.int r2), some (.int 0)]) (st' := [.int (gI s38 66 13)]) (σ' := s38) (by decide +kernel) rfl rfl ?_
            refine g_if_eq hx (off := 4) (tgt := 133) (by decide +kernel) (by decide) (fun c129 => ?_) (fun c129 => ?_)
            · have h := ok_t h c129
              refine g_run hx [(.aload_n 0, 0, 0), (.getfield 23, 0, 0), (.bipush 24, 24, 0), (.aload_n 0, 0, 0), (.getfield 23, 0, 0), (.iconst 4, 4, 0), (.iaload, 0, 0), (.iadd, 0, 0), (.iconst 2, 2, 0), (.iload_n 1, 0, 0), (.imul, 0, 0), (.iload_n 2, 0, 0), (.iadd, 0, 0)] (pc' := 151) (lo' := [some (.ref 66), some (.int r2), some (.int 0)]) (st' := [.int ((2 * r2) + 0), .int (24 + (gA s38 70 4)), .ref 70]) (σ' := s38) (by decide +kernel) rfl rfl ?_
              obtain ⟨c151, h⟩ := ok_g h
              refine g_iast hx (by decide +kernel) (i := 70) (n := 189) rfl c151 ?_
              refine g_run hx [(.aload_n 0, 0, 0), (.getfield 23, 0, 0), (.iconst 4, 4, 0), (.dup2, 0, 0), (.iaload, 0, 0), (.iconst 1, 1, 0), (.iadd, 0, 0), (.iastore, 0, 0)] (pc' := 162) (lo' := [some (.ref 66), some (.int r2), some (.int 0)]) (st' := []) (σ' := sA (sA s38 70 (24 + (gA s38 70 4)) ((2 * r2) + 0)) 70 4 ((gA (sA s38 70 (24 + (gA s38 70 4)) ((2 * r2) + 0)) 70 4) + 1)) (by decide +kernel) rfl rfl ?_
              exact g_vret hx hr rfl () rfl (by decide +kernel) (ok_some h)
            · have h := ok_f h c129
              exact g_vret hx hr rfl () rfl (by decide +kernel) (ok_some h)
          · have h := ok_t h c92
            refine g_run hx [(.aload_n 0, 0, 0), (.getfield 23, 0, 0), (.aload_n 0, 0, 0), (.getfield 32, 0, 0), (.iload_n 1, 0, 0), (.iload_n 2, 0, 0)] (pc' := 105) (lo' := [some (.ref 66), some (.int r2), some (.int 0)]) (st' := [.int 0, .int r2, .ref 73, .ref 70]) (σ' := s25) (by decide +kernel) rfl rfl ?_
            refine g_callS (rest := []) [.ref 70, .ref 73, .int r2, .int 0] hx hc mk_m_strideOn ln_10_253 (by decide +kernel) (by decide) (Nat.le_of_ble_eq_true rfl) (s_m_strideOn_70_73 (ok_b h)) (fun r39 s39 h => ?_)
            refine g_ifb_ne hx (off := 13) (tgt := 121) (by decide +kernel) (by decide) (fun c108 => ?_) (fun c108 => ?_)
            · have h := ok_t h c108
              refine g_run hx [(.aload_n 0, 0, 0)] (pc' := 122) (lo' := [some (.ref 66), some (.int r2), some (.int 0)]) (st' := [.ref 66]) (σ' := s39) (by decide +kernel) rfl rfl ?_
              refine g_callV (rest := []) [] hx hc mk_m_pass ln_10_164 rfl (by decide +kernel) (by decide) (Nat.le_of_ble_eq_true rfl) (s_m_pass (ok_b h)) (fun r40 s40 h => ?_)
              refine g_run hx [(.aload_n 0, 0, 0), (.getfield 106, 0, 0)] (pc' := 129) (lo' := [some (.ref 66), some (.int r2), some (.int 0)]) (st' := [.int (gI s40 66 13)]) (σ' := s40) (by decide +kernel) rfl rfl ?_
              refine g_if_eq hx (off := 4) (tgt := 133) (by decide +kernel) (by decide) (fun c129 => ?_) (fun c129 => ?_)
              · have h := ok_t h c129
                refine g_run hx [(.aload_n 0, 0, 0), (.getfield 23, 0, 0), (.bipush 24, 24, 0), (.aload_n 0, 0, 0), (.getfield 23, 0, 0), (.iconst 4, 4, 0), (.iaload, 0, 0), (.iadd, 0, 0), (.iconst 2, 2, 0), (.iload_n 1, 0, 0), (.imul, 0, 0), (.iload_n 2, 0, 0), (.iadd, 0, 0)] (pc' := 151) (lo' := [some (.ref 66), some (.int r2), some (.int 0)]) (st' := [.int ((2 * r2) + 0), .int (24 + (gA s40 70 4)), .ref 70]) (σ' := s40) (by decide +kernel) rfl rfl ?_
                obtain ⟨c151, h⟩ := ok_g h
                refine g_iast hx (by decide +kernel) (i := 70) (n := 189) rfl c151 ?_
                refine g_run hx [(.aload_n 0, 0, 0), (.getfield 23, 0, 0), (.iconst 4, 4, 0), (.dup2, 0, 0), (.iaload, 0, 0), (.iconst 1, 1, 0), (.iadd, 0, 0), (.iastore, 0, 0)] (pc' := 162) (lo' := [some (.ref 66), some (.int r2), some (.int 0)]) (st' := []) (σ' := sA (sA s40 70 (24 + (gA s40 70 4)) ((2 * r2) + 0)) 70 4 ((gA (sA s40 70 (24 + (gA s40 70 4)) ((2 * r2) + 0)) 70 4) + 1)) (by decide +kernel) rfl rfl ?_
                exact g_vret hx hr rfl () rfl (by decide +kernel) (ok_some h)
              · have h := ok_f h c129
                exact g_vret hx hr rfl () rfl (by decide +kernel) (ok_some h)
            · have h := ok_f h c108
              refine g_run hx [(.aload_n 0, 0, 0), (.bipush 7, 7, 0), (.aload_n 0, 0, 0), (.getfield 87, 0, 0)] (pc' := 118) (lo' := [some (.ref 66), some (.int r2), some (.int 0)]) (st' := [.int (gI s39 66 4), .int 7, .ref 66]) (σ' := s39) (by decide +kernel) rfl rfl ?_
              refine g_callV (rest := []) [.int 7, .int (gI s39 66 4)] hx hc mk_m_wrong ln_10_133 rfl (by decide +kernel) (by decide) (Nat.le_of_ble_eq_true rfl) (s_m_wrong (ok_b h)) (fun r41 s41 h => ?_)
              refine g_run hx [(.aload_n 0, 0, 0)] (pc' := 122) (lo' := [some (.ref 66), some (.int r2), some (.int 0)]) (st' := [.ref 66]) (σ' := s41) (by decide +kernel) rfl rfl ?_
              refine g_callV (rest := []) [] hx hc mk_m_pass ln_10_164 rfl (by decide +kernel) (by decide) (Nat.le_of_ble_eq_true rfl) (s_m_pass (ok_b h)) (fun r42 s42 h => ?_)
              refine g_run hx [(.aload_n 0, 0, 0), (.getfield 106, 0, 0)] (pc' := 129) (lo' := [some (.ref 66), some (.int r2), some (.int 0)]) (st' := [.int (gI s42 66 13)]) (σ' := s42) (by decide +kernel) rfl rfl ?_
              refine g_if_eq hx (off := 4) (tgt := 133) (by decide +kernel) (by decide) (fun c129 => ?_) (fun c129 => ?_)
              · have h := ok_t h c129
                refine g_run hx [(.aload_n 0, 0, 0), (.getfield 23, 0, 0), (.bipush 24, 24, 0), (.aload_n 0, 0, 0), (.getfield 23, 0, 0), (.iconst 4, 4, 0), (.iaload, 0, 0), (.iadd, 0, 0), (.iconst 2, 2, 0), (.iload_n 1, 0, 0), (.imul, 0, 0), (.iload_n 2, 0, 0), (.iadd, 0, 0)] (pc' := 151) (lo' := [some (.ref 66), some (.int r2), some (.int 0)]) (st' := [.int ((2 * r2) + 0), .int (24 + (gA s42 70 4)), .ref 70]) (σ' := s42) (by decide +kernel) rfl rfl ?_
                obtain ⟨c151, h⟩ := ok_g h
                refine g_iast hx (by decide +kernel) (i := 70) (n := 189) rfl c151 ?_
                refine g_run hx [(.aload_n 0, 0, 0), (.getfield 23, 0, 0), (.iconst 4, 4, 0), (.dup2, 0, 0), (.iaload, 0, 0), (.iconst 1, 1, 0), (.iadd, 0, 0), (.iastore, 0, 0)] (pc' := 162) (lo' := [some (.ref 66), some (.int r2), some (.int 0)]) (st' := []) (σ' := sA (sA s42 70 (24 + (gA s42 70 4)) ((2 * r2) + 0)) 70 4 ((gA (sA s42 70 (24 + (gA s42 70 4)) ((2 * r2) + 0)) 70 4) + 1)) (by decide +kernel) rfl rfl ?_
                exact g_vret hx hr rfl () rfl (by decide +kernel) (ok_some h)
              · have h := ok_f h c129
                exact g_vret hx hr rfl () rfl (by decide +kernel) (ok_some h)
    · have h := ok_f h c16
      exact g_vret hx hr rfl () rfl (by decide +kernel) (ok_some h)
  · have h := ok_f h c4
    exact g_vret hx hr rfl () rfl (by decide +kernel) (ok_some h)
def f_m_newName_L45 (N : Nat) : Nat → Int32 → Int32 → Sg → Option (Unit × Sg)
  | 0, _, _, _ => none
  | n + 1, v1, v2, σ =>
    if (gI σ 66 8) ≤ v2 then
      if vin (48 + v1) 189 then
      (f_m_next N (sA σ 70 (48 + v1) (gI σ 66 8))).bind fun q2 =>
      some ((), q2.2)
      else none
    else
      if vin v2 8 then
      if vin ((57 + (8 * v1)) + v2) 189 then
      f_m_newName_L45 N n v1 (v2 + 1) (sA σ 70 ((57 + (8 * v1)) + v2) (gA σ 68 v2))
      else none
      else none
def f_m_newName (N : Nat) (v1 : Int32) (σ : Sg) : Option (Unit × Sg) :=
  if (gI σ 66 13) = 0 then
    (f_m_mustName N σ).bind fun q1 =>
    if (gI q1.2 66 13) = 0 then
      (f_m_find N q1.2).bind fun q3 =>
      if q3.1 < 0 then
        if (gI q3.2 66 13) = 0 then
          f_m_newName_L45 N N v1 0 q3.2
        else
          some ((), q3.2)
      else
        (f_m_wrong N 3 (gI q3.2 66 4) q3.2).bind fun q4 =>
        if (gI q4.2 66 13) = 0 then
          f_m_newName_L45 N N v1 0 q4.2
        else
          some ((), q4.2)
    else
      if (gI q1.2 66 13) = 0 then
        f_m_newName_L45 N N v1 0 q1.2
      else
        some ((), q1.2)
  else
    some ((), σ)
set_option maxRecDepth 100000 in
theorem s_m_newName_L45 {y : EX} {N : Nat} {x : CX} {P : Unit × Sg → Prop} (hx : Cx 10 prog_12_method_21_code x) (hc : Cc y 3 6 x) (hr : Cr M_m_newName rvN P x) : ∀ (n : Nat) (v1 : Int32) (v2 : Int32) (σ : Sg), ok (f_m_newName_L45 N n v1 v2 σ) P → G x 45 [some (.ref 66), some (.int v1), some (.int v2)] [] σ := by
  intro n
  induction n with
  | zero => intro v1 v2 σ h; exact ok_none h
  | succ n ih =>
    intro v1 v2 σ h
    rw [f_m_newName_L45] at h
    refine g_run hx [(.iload_n 2, 0, 0), (.aload_n 0, 0, 0), (.getfield 90, 0, 0)] (pc' := 50) (lo' := [some (.ref 66), some (.int v1), some (.int v2)]) (st' := [.int (gI σ 66 8), .int v2]) (σ' := σ) (by decide +kernel) rfl rfl ?_
    refine g_ic_ge hx (off := 29) (tgt := 79) (by decide +kernel) (by decide) (fun c50 => ?_) (fun c50 => ?_)
    · have h := ok_t h c50
      refine g_run hx [(.aload_n 0, 0, 0), (.getfield 23, 0, 0), (.bipush 48, 48, 0), (.iload_n 1, 0, 0), (.iadd, 0, 0), (.aload_n 0, 0, 0), (.getfield 90, 0, 0)] (pc' := 91) (lo' := [some (.ref 66), some (.int v1), some (.int v2)]) (st' := [.int (gI σ 66 8), .int (48 + v1), .ref 70]) (σ' := σ) (by decide +kernel) rfl rfl ?_
      obtain ⟨c91, h⟩ := ok_g h
      refine g_iast hx (by decide +kernel) (i := 70) (n := 189) rfl c91 ?_
      refine g_run hx [(.aload_n 0, 0, 0)] (pc' := 93) (lo' := [some (.ref 66), some (.int v1), some (.int v2)]) (st' := [.ref 66]) (σ' := sA σ 70 (48 + v1) (gI σ 66 8)) (by decide +kernel) rfl rfl ?_
      refine g_callV (rest := []) [] hx hc mk_m_next ln_10_127 rfl (by decide +kernel) (by decide) (Nat.le_of_ble_eq_true rfl) (s_m_next (ok_b h)) (fun r2 s2 h => ?_)
      exact g_vret hx hr rfl () rfl (by decide +kernel) (ok_some h)
    · have h := ok_f h c50
      refine g_run hx [(.aload_n 0, 0, 0), (.getfield 23, 0, 0), (.bipush 57, 57, 0), (.bipush 8, 8, 0), (.iload_n 1, 0, 0), (.imul, 0, 0), (.iadd, 0, 0), (.iload_n 2, 0, 0), (.iadd, 0, 0), (.aload_n 0, 0, 0), (.getfield 17, 0, 0), (.iload_n 2, 0, 0)] (pc' := 71) (lo' := [some (.ref 66), some (.int v1), some (.int v2)]) (st' := [.int v2, .ref 68, .int ((57 + (8 * v1)) + v2), .ref 70]) (σ' := σ) (by decide +kernel) rfl rfl ?_
      obtain ⟨c71, h⟩ := ok_g h
      refine g_iald hx (by decide +kernel) (i := 68) (n := 8) rfl c71 ?_
      obtain ⟨c72, h⟩ := ok_g h
      refine g_iast hx (by decide +kernel) (i := 70) (n := 189) rfl c72 ?_
      refine g_run hx [(.iinc 2 1, 1, 0)] (pc' := 76) (lo' := [some (.ref 66), some (.int v1), some (.int (v2 + 1))]) (st' := []) (σ' := sA σ 70 ((57 + (8 * v1)) + v2) (gA σ 68 v2)) (by decide +kernel) rfl rfl ?_
      refine g_goto hx (off := (-31)) (tgt := 45) (by decide +kernel) (by decide) ?_
      exact ih _ _ _ h
set_option maxRecDepth 100000 in
theorem s_m_newName {y : EX} {N : Nat} {v1 : Int32} {σ : Sg} {P : Unit × Sg → Prop} (h : ok (f_m_newName N v1 σ) P) : Ev y M_m_newName 6 [.ref 66, .int v1] σ rvN P := by
  refine Ev.of mk_m_newName (Nat.le_of_ble_eq_true rfl) (fun x hx hc hr => ?_)
  have hx : Cx 10 prog_12_method_21_code x := hx
  have hc : Cc y 3 6 x := hc
  show G x 0 [some (.ref 66), some (.int v1), none] [] σ
  unfold f_m_newName at h
  refine g_run hx [(.aload_n 0, 0, 0), (.getfield 106, 0, 0)] (pc' := 4) (lo' := [some (.ref 66), some (.int v1), none]) (st' := [.int (gI σ 66 13)]) (σ' := σ) (by decide +kernel) rfl rfl ?_
  refine g_if_eq hx (off := 4) (tgt := 8) (by decide +kernel) (by decide) (fun c4 => ?_) (fun c4 => ?_)
  · have h := ok_t h c4
    refine g_run hx [(.aload_n 0, 0, 0)] (pc' := 9) (lo' := [some (.ref 66), some (.int v1), none]) (st' := [.ref 66]) (σ' := σ) (by decide +kernel) rfl rfl ?_
    refine g_callV (rest := []) [] hx hc mk_m_mustName ln_10_150 rfl (by decide +kernel) (by decide) (Nat.le_of_ble_eq_true rfl) (s_m_mustName (ok_b h)) (fun r1 s1 h => ?_)
    refine g_run hx [(.aload_n 0, 0, 0), (.getfield 106, 0, 0)] (pc' := 16) (lo' := [some (.ref 66), some (.int v1), none]) (st' := [.int (gI s1 66 13)]) (σ' := s1) (by decide +kernel) rfl rfl ?_
    refine g_if_ne hx (off := 19) (tgt := 35) (by decide +kernel) (by decide) (fun c16 => ?_) (fun c16 => ?_)
    · have h := ok_f h c16
      refine g_run hx [(.aload_n 0, 0, 0), (.getfield 106, 0, 0)] (pc' := 39) (lo' := [some (.ref 66), some (.int v1), none]) (st' := [.int (gI s1 66 13)]) (σ' := s1) (by decide +kernel) rfl rfl ?_
      refine g_if_eq hx (off := 4) (tgt := 43) (by decide +kernel) (by decide) (fun c39 => ?_) (fun c39 => ?_)
      · have h := ok_t h c39
        refine g_run hx [(.iconst 0, 0, 0), (.istore_n 2, 0, 0)] (pc' := 45) (lo' := [some (.ref 66), some (.int v1), some (.int 0)]) (st' := []) (σ' := s1) (by decide +kernel) rfl rfl ?_
        refine s_m_newName_L45 hx hc hr N _ _ _ h
      · have h := ok_f h c39
        exact g_vret hx hr rfl () rfl (by decide +kernel) (ok_some h)
    · have h := ok_t h c16
      refine g_run hx [(.aload_n 0, 0, 0)] (pc' := 20) (lo' := [some (.ref 66), some (.int v1), none]) (st' := [.ref 66]) (σ' := s1) (by decide +kernel) rfl rfl ?_
      refine g_callV (rest := []) [] hx hc mk_m_find ln_10_153 rfl (by decide +kernel) (by decide) (Nat.le_of_ble_eq_true rfl) (s_m_find (ok_b h)) (fun r3 s3 h => ?_)
      refine g_if_lt hx (off := 12) (tgt := 35) (by decide +kernel) (by decide) (fun c23 => ?_) (fun c23 => ?_)
      · have h := ok_t h c23
        refine g_run hx [(.aload_n 0, 0, 0), (.getfield 106, 0, 0)] (pc' := 39) (lo' := [some (.ref 66), some (.int v1), none]) (st' := [.int (gI s3 66 13)]) (σ' := s3) (by decide +kernel) rfl rfl ?_
        refine g_if_eq hx (off := 4) (tgt := 43) (by decide +kernel) (by decide) (fun c39 => ?_) (fun c39 => ?_)
        · have h := ok_t h c39
          refine g_run hx [(.iconst 0, 0, 0), (.istore_n 2, 0, 0)] (pc' := 45) (lo' := [some (.ref 66), some (.int v1), some (.int 0)]) (st' := []) (σ' := s3) (by decide +kernel) rfl rfl ?_
          refine s_m_newName_L45 hx hc hr N _ _ _ h
        · have h := ok_f h c39
          exact g_vret hx hr rfl () rfl (by decide +kernel) (ok_some h)
      · have h := ok_f h c23
        refine g_run hx [(.aload_n 0, 0, 0), (.iconst 3, 3, 0), (.aload_n 0, 0, 0), (.getfield 87, 0, 0)] (pc' := 32) (lo' := [some (.ref 66), some (.int v1), none]) (st' := [.int (gI s3 66 4), .int 3, .ref 66]) (σ' := s3) (by decide +kernel) rfl rfl ?_
        refine g_callV (rest := []) [.int 3, .int (gI s3 66 4)] hx hc mk_m_wrong ln_10_133 rfl (by decide +kernel) (by decide) (Nat.le_of_ble_eq_true rfl) (s_m_wrong (ok_b h)) (fun r4 s4 h => ?_)
        refine g_run hx [(.aload_n 0, 0, 0), (.getfield 106, 0, 0)] (pc' := 39) (lo' := [some (.ref 66), some (.int v1), none]) (st' := [.int (gI s4 66 13)]) (σ' := s4) (by decide +kernel) rfl rfl ?_
        refine g_if_eq hx (off := 4) (tgt := 43) (by decide +kernel) (by decide) (fun c39 => ?_) (fun c39 => ?_)
        · have h := ok_t h c39
          refine g_run hx [(.iconst 0, 0, 0), (.istore_n 2, 0, 0)] (pc' := 45) (lo' := [some (.ref 66), some (.int v1), some (.int 0)]) (st' := []) (σ' := s4) (by decide +kernel) rfl rfl ?_
          refine s_m_newName_L45 hx hc hr N _ _ _ h
        · have h := ok_f h c39
          exact g_vret hx hr rfl () rfl (by decide +kernel) (ok_some h)
  · have h := ok_f h c4
    exact g_vret hx hr rfl () rfl (by decide +kernel) (ok_some h)
