def f_paths_explore_L25 (N : Nat) (rec : Int32 → Int64 → Int32 → Int32 → Int32 → Sg → Option (Unit × Sg)) : Nat → Int32 → Int64 → Int32 → Int32 → Int32 → Int32 → Sg → Option (Unit × Sg)
  | 0, _, _, _, _, _, _, _ => none
  | n + 1, v2, v3, v5, v6, v7, v8, σ =>
    if (2 * (gI σ 11 1)) < v8 then
      some ((), σ)
    else
      (f_country_target N 11 3 12 10 v3 v5 v8 σ).bind fun q2 =>
      if q2.1 = (-2) then
        f_paths_explore_L25 N rec n v2 v3 v5 v6 v7 (v8 + 1) q2.2
      else
        (f_x_inside N v5 q2.1 q2.2).bind fun q3 =>
        if (lg_cmp ((q3.1 &&& (v3 ^^^ (-1))) &&& (gL q3.2 55 11)) 0) = 0 then
          (rec (v2 + 1) (v3 ||| (q3.1 &&& (v3 ^^^ (-1)))) q2.1 ((v6 * 10) + v8) v7 q3.2).bind fun q6 =>
          f_paths_explore_L25 N rec n v2 v3 v5 v6 v7 (v8 + 1) q6.2
        else
          (f_country_lostFolk N (v3 ||| (q3.1 &&& (v3 ^^^ (-1)))) q3.2).bind fun q4 =>
          (rec (v2 + 1) (v3 ||| (q3.1 &&& (v3 ^^^ (-1)))) q2.1 ((v6 * 10) + v8) q4.1 q4.2).bind fun q5 =>
          f_paths_explore_L25 N rec n v2 v3 v5 v6 v7 (v8 + 1) q5.2
def f_paths_explore_B (N : Nat) (rec : Int32 → Int64 → Int32 → Int32 → Int32 → Sg → Option (Unit × Sg)) (v2 : Int32) (v3 : Int64) (v5 : Int32) (v6 : Int32) (v7 : Int32) (σ : Sg) : Option (Unit × Sg) :=
  (f_paths_note N v2 v5 v6 (v7 - (gI σ 55 10)) σ).bind fun q1 =>
  if v2 < 5 then
    f_paths_explore_L25 N rec N v2 v3 v5 v6 v7 1 q1.2
  else
    some ((), q1.2)
def f_paths_explore (N : Nat) : Nat → Int32 → Int64 → Int32 → Int32 → Int32 → Sg → Option (Unit × Sg)
  | 0, _, _, _, _, _, _ => none
  | D + 1, v2, v3, v5, v6, v7, σ => f_paths_explore_B N (f_paths_explore N D) v2 v3 v5 v6 v7 σ
set_option maxRecDepth 100000 in
theorem s_paths_explore_L25 {y : EX} {N D : Nat} {x : CX} {P : Unit × Sg → Prop} (hx : Cx 4 prog_6_method_4_code x) (hc : Cc y 13 (D + 1 + 3) x) (hr : Cr M_paths_explore rvN P x) {rec : Int32 → Int64 → Int32 → Int32 → Int32 → Sg → Option (Unit × Sg)} (hrec : ∀ (v2 : Int32) (v3 : Int64) (v5 : Int32) (v6 : Int32) (v7 : Int32) (σ : Sg) (P : Unit × Sg → Prop), ok (rec v2 v3 v5 v6 v7 σ) P → Ev y M_paths_explore (D + 3) [.ref 55, .ref 10, .int v2, .long v3, .int v5, .int v6, .int v7] σ rvN P) : ∀ (n : Nat) (v2 : Int32) (v3 : Int64) (v5 : Int32) (v6 : Int32) (v7 : Int32) (v8 : Int32) (σ : Sg), ok (f_paths_explore_L25 N rec n v2 v3 v5 v6 v7 v8 σ) P → G x 25 [some (.ref 55), some (.ref 10), some (.int v2), some (.long v3), none, some (.int v5), some (.int v6), some (.int v7), some (.int v8), none, none, none, none] [] σ := by
  intro n
  induction n with
  | zero => intro v2 v3 v5 v6 v7 v8 σ h; exact ok_none h
  | succ n ih =>
    intro v2 v3 v5 v6 v7 v8 σ h
    rw [f_paths_explore_L25] at h
    refine g_run hx [(.iload 8, 0, 0), (.iconst 2, 2, 0), (.aload_n 1, 0, 0), (.getfield 96, 0, 0), (.getfield 71, 0, 0), (.imul, 0, 0)] (pc' := 36) (lo' := [some (.ref 55), some (.ref 10), some (.int v2), some (.long v3), none, some (.int v5), some (.int v6), some (.int v7), some (.int v8), none, none, none, none]) (st' := [.int (2 * (gI σ 11 1)), .int v8]) (σ' := σ) (by decide +kernel) rfl rfl ?_
    refine g_ic_gt hx (off := 93) (tgt := 129) (by decide +kernel) (by decide) (fun c36 => ?_) (fun c36 => ?_)
    · have h := ok_t h c36
      exact g_vret hx hr rfl () rfl (by decide +kernel) (ok_some h)
    · have h := ok_f h c36
      refine g_run hx [(.aload_n 1, 0, 0), (.lload_n 3, 0, 0), (.iload 5, 0, 0), (.iload 8, 0, 0)] (pc' := 45) (lo' := [some (.ref 55), some (.ref 10), some (.int v2), some (.long v3), none, some (.int v5), some (.int v6), some (.int v7), some (.int v8), none, none, none, none]) (st' := [.int v8, .int v5, .long v3, .ref 10]) (σ' := σ) (by decide +kernel) rfl rfl ?_
      refine g_callV (rest := []) [.long v3, .int v5, .int v8] hx hc mk_country_target ln_4_99 rfl (by decide +kernel) (by omega) (Nat.le_of_ble_eq_true rfl) (s_country_target_10 (ok_b h)) (fun r2 s2 h => ?_)
      refine g_run hx [(.istore 9, 0, 0), (.iload 9, 0, 0), (.bipush (-2), (-2), 0)] (pc' := 54) (lo' := [some (.ref 55), some (.ref 10), some (.int v2), some (.long v3), none, some (.int v5), some (.int v6), some (.int v7), some (.int v8), some (.int r2), none, none, none]) (st' := [.int (-2), .int r2]) (σ' := s2) (by decide +kernel) rfl rfl ?_
      refine g_ic_eq hx (off := 69) (tgt := 123) (by decide +kernel) (by decide) (fun c54 => ?_) (fun c54 => ?_)
      · have h := ok_t h c54
        refine g_run hx [(.iinc 8 1, 1, 0)] (pc' := 126) (lo' := [some (.ref 55), some (.ref 10), some (.int v2), some (.long v3), none, some (.int v5), some (.int v6), some (.int v7), some (.int (v8 + 1)), some (.int r2), none, none, none]) (st' := []) (σ' := s2) (by decide +kernel) rfl rfl ?_
        refine g_goto hx (off := (-101)) (tgt := 25) (by decide +kernel) (by decide) ?_
        refine g_wk (lo' := [some (.ref 55), some (.ref 10), some (.int v2), some (.long v3), none, some (.int v5), some (.int v6), some (.int v7), some (.int (v8 + 1)), none, none, none, none]) ⟨rfl, ⟨rfl, ⟨rfl, ⟨rfl, ⟨rfl, ⟨rfl, ⟨rfl, ⟨rfl, trivial⟩⟩⟩⟩⟩⟩⟩⟩ ?_
        exact ih _ _ _ _ _ _ _ h
      · have h := ok_f h c54
        refine g_run hx [(.iload 5, 0, 0), (.iload 9, 0, 0)] (pc' := 61) (lo' := [some (.ref 55), some (.ref 10), some (.int v2), some (.long v3), none, some (.int v5), some (.int v6), some (.int v7), some (.int v8), some (.int r2), none, none, none]) (st' := [.int r2, .int v5]) (σ' := s2) (by decide +kernel) rfl rfl ?_
        refine g_callN (rest := []) [.int v5, .int r2] hx hc mk_x_inside ln_4_103 (by decide +kernel) (by omega) (Nat.le_of_ble_eq_true rfl) (s_x_inside (ok_b h)) (fun r3 s3 h => ?_)
        refine g_run hx [(.lload_n 3, 0, 0), (.ldc2_w 106, 0, (-1)), (.lxor, 0, 0), (.land, 0, 0), (.lstore 10, 0, 0), (.lload 10, 0, 0), (.aload_n 0, 0, 0), (.getfield 49, 0, 0), (.land, 0, 0), (.lconst 0, 0, 0), (.lcmp, 0, 0)] (pc' := 81) (lo' := [some (.ref 55), some (.ref 10), some (.int v2), some (.long v3), none, some (.int v5), some (.int v6), some (.int v7), some (.int v8), some (.int r2), some (.long (r3 &&& (v3 ^^^ (-1)))), none, none]) (st' := [.int (lg_cmp ((r3 &&& (v3 ^^^ (-1))) &&& (gL s3 55 11)) 0)]) (σ' := s3) (by decide +kernel) rfl rfl ?_
        refine g_if_ne hx (off := 8) (tgt := 89) (by decide +kernel) (by decide) (fun c81 => ?_) (fun c81 => ?_)
        · have h := ok_f h c81
          refine g_run hx [(.aload_n 1, 0, 0), (.lload_n 3, 0, 0), (.lload 10, 0, 0), (.lor, 0, 0)] (pc' := 94) (lo' := [some (.ref 55), some (.ref 10), some (.int v2), some (.long v3), none, some (.int v5), some (.int v6), some (.int v7), some (.int v8), some (.int r2), some (.long (r3 &&& (v3 ^^^ (-1)))), none, none]) (st' := [.long (v3 ||| (r3 &&& (v3 ^^^ (-1)))), .ref 10]) (σ' := s3) (by decide +kernel) rfl rfl ?_
          refine g_callV (rest := []) [.long (v3 ||| (r3 &&& (v3 ^^^ (-1))))] hx hc mk_country_lostFolk ln_4_61 rfl (by decide +kernel) (by omega) (Nat.le_of_ble_eq_true rfl) (s_country_lostFolk (ok_b h)) (fun r4 s4 h => ?_)
          refine g_run hx [(.istore 12, 0, 0), (.aload_n 0, 0, 0), (.aload_n 1, 0, 0), (.iload_n 2, 0, 0), (.iconst 1, 1, 0), (.iadd, 0, 0), (.lload_n 3, 0, 0), (.lload 10, 0, 0), (.lor, 0, 0), (.iload 9, 0, 0), (.iload 6, 0, 0), (.bipush 10, 10, 0), (.imul, 0, 0), (.iload 8, 0, 0), (.iadd, 0, 0), (.iload 12, 0, 0)] (pc' := 120) (lo' := [some (.ref 55), some (.ref 10), some (.int v2), some (.long v3), none, some (.int v5), some (.int v6), some (.int v7), some (.int v8), some (.int r2), some (.long (r3 &&& (v3 ^^^ (-1)))), none, some (.int r4)]) (st' := [.int r4, .int ((v6 * 10) + v8), .int r2, .long (v3 ||| (r3 &&& (v3 ^^^ (-1)))), .int (v2 + 1), .ref 10, .ref 55]) (σ' := s4) (by decide +kernel) rfl rfl ?_
          refine g_callV (rest := []) [.ref 10, .int (v2 + 1), .long (v3 ||| (r3 &&& (v3 ^^^ (-1)))), .int r2, .int ((v6 * 10) + v8), .int r4] hx hc mk_paths_explore ln_4_88 rfl (by decide +kernel) (by omega) (Nat.le_of_ble_eq_true rfl) (hrec _ _ _ _ _ _ _ (ok_b h)) (fun r5 s5 h => ?_)
          refine g_run hx [(.iinc 8 1, 1, 0)] (pc' := 126) (lo' := [some (.ref 55), some (.ref 10), some (.int v2), some (.long v3), none, some (.int v5), some (.int v6), some (.int v7), some (.int (v8 + 1)), some (.int r2), some (.long (r3 &&& (v3 ^^^ (-1)))), none, some (.int r4)]) (st' := []) (σ' := s5) (by decide +kernel) rfl rfl ?_
          refine g_goto hx (off := (-101)) (tgt := 25) (by decide +kernel) (by decide) ?_
          refine g_wk (lo' := [some (.ref 55), some (.ref 10), some (.int v2), some (.long v3), none, some (.int v5), some (.int v6), some (.int v7), some (.int (v8 + 1)), none, none, none, none]) ⟨rfl, ⟨rfl, ⟨rfl, ⟨rfl, ⟨rfl, ⟨rfl, ⟨rfl, ⟨rfl, trivial⟩⟩⟩⟩⟩⟩⟩⟩ ?_
          exact ih _ _ _ _ _ _ _ h
        · have h := ok_t h c81
          refine g_run hx [(.iload 7, 0, 0)] (pc' := 86) (lo' := [some (.ref 55), some (.ref 10), some (.int v2), some (.long v3), none, some (.int v5), some (.int v6), some (.int v7), some (.int v8), some (.int r2), some (.long (r3 &&& (v3 ^^^ (-1)))), none, none]) (st' := [.int v7]) (σ' := s3) (by decide +kernel) rfl rfl ?_
          refine g_goto hx (off := 11) (tgt := 97) (by decide +kernel) (by decide) ?_
          refine g_run hx [(.istore 12, 0, 0), (.aload_n 0, 0, 0), (.aload_n 1, 0, 0), (.iload_n 2, 0, 0), (.iconst 1, 1, 0), (.iadd, 0, 0), (.lload_n 3, 0, 0), (.lload 10, 0, 0), (.lor, 0, 0), (.iload 9, 0, 0), (.iload 6, 0, 0), (.bipush 10, 10, 0), (.imul, 0, 0), (.iload 8, 0, 0), (.iadd, 0, 0), (.iload 12, 0, 0)] (pc' := 120) (lo' := [some (.ref 55), some (.ref 10), some (.int v2), some (.long v3), none, some (.int v5), some (.int v6), some (.int v7), some (.int v8), some (.int r2), some (.long (r3 &&& (v3 ^^^ (-1)))), none, some (.int v7)]) (st' := [.int v7, .int ((v6 * 10) + v8), .int r2, .long (v3 ||| (r3 &&& (v3 ^^^ (-1)))), .int (v2 + 1), .ref 10, .ref 55]) (σ' := s3) (by decide +kernel) rfl rfl ?_
          refine g_callV (rest := []) [.ref 10, .int (v2 + 1), .long (v3 ||| (r3 &&& (v3 ^^^ (-1)))), .int r2, .int ((v6 * 10) + v8), .int v7] hx hc mk_paths_explore ln_4_88 rfl (by decide +kernel) (by omega) (Nat.le_of_ble_eq_true rfl) (hrec _ _ _ _ _ _ _ (ok_b h)) (fun r6 s6 h => ?_)
          refine g_run hx [(.iinc 8 1, 1, 0)] (pc' := 126) (lo' := [some (.ref 55), some (.ref 10), some (.int v2), some (.long v3), none, some (.int v5), some (.int v6), some (.int v7), some (.int (v8 + 1)), some (.int r2), some (.long (r3 &&& (v3 ^^^ (-1)))), none, some (.int v7)]) (st' := []) (σ' := s6) (by decide +kernel) rfl rfl ?_
          refine g_goto hx (off := (-101)) (tgt := 25) (by decide +kernel) (by decide) ?_
          refine g_wk (lo' := [some (.ref 55), some (.ref 10), some (.int v2), some (.long v3), none, some (.int v5), some (.int v6), some (.int v7), some (.int (v8 + 1)), none, none, none, none]) ⟨rfl, ⟨rfl, ⟨rfl, ⟨rfl, ⟨rfl, ⟨rfl, ⟨rfl, ⟨rfl, trivial⟩⟩⟩⟩⟩⟩⟩⟩ ?_
          exact ih _ _ _ _ _ _ _ h
set_option maxRecDepth 100000 in
theorem s_paths_explore_B {y : EX} {N D : Nat} {v2 : Int32} {v3 : Int64} {v5 : Int32} {v6 : Int32} {v7 : Int32} {rec : Int32 → Int64 → Int32 → Int32 → Int32 → Sg → Option (Unit × Sg)} (hrec : ∀ (v2 : Int32) (v3 : Int64) (v5 : Int32) (v6 : Int32) (v7 : Int32) (σ : Sg) (P : Unit × Sg → Prop), ok (rec v2 v3 v5 v6 v7 σ) P → Ev y M_paths_explore (D + 3) [.ref 55, .ref 10, .int v2, .long v3, .int v5, .int v6, .int v7] σ rvN P) {σ : Sg} {P : Unit × Sg → Prop} (h : ok (f_paths_explore_B N rec v2 v3 v5 v6 v7 σ) P) : Ev y M_paths_explore (D + 1 + 3) [.ref 55, .ref 10, .int v2, .long v3, .int v5, .int v6, .int v7] σ rvN P := by
  refine Ev.of mk_paths_explore (Nat.le_of_ble_eq_true rfl) (fun x hx hc hr => ?_)
  have hx : Cx 4 prog_6_method_4_code x := hx
  have hc : Cc y 13 (D + 1 + 3) x := hc
  show G x 0 [some (.ref 55), some (.ref 10), some (.int v2), some (.long v3), none, some (.int v5), some (.int v6), some (.int v7), none, none, none, none, none] [] σ
  unfold f_paths_explore_B at h
  refine g_run hx [(.aload_n 0, 0, 0), (.iload_n 2, 0, 0), (.iload 5, 0, 0), (.iload 6, 0, 0), (.iload 7, 0, 0), (.aload_n 0, 0, 0), (.getfield 46, 0, 0), (.isub, 0, 0)] (pc' := 13) (lo' := [some (.ref 55), some (.ref 10), some (.int v2), some (.long v3), none, some (.int v5), some (.int v6), some (.int v7), none, none, none, none, none]) (st' := [.int (v7 - (gI σ 55 10)), .int v6, .int v5, .int v2, .ref 55]) (σ' := σ) (by decide +kernel) rfl rfl ?_
  refine g_callV (rest := []) [.int v2, .int v5, .int v6, .int (v7 - (gI σ 55 10))] hx hc mk_paths_note ln_4_92 rfl (by decide +kernel) (by omega) (Nat.le_of_ble_eq_true rfl) (s_paths_note (ok_b h)) (fun r1 s1 h => ?_)
  refine g_run hx [(.iload_n 2, 0, 0), (.iconst 5, 5, 0)] (pc' := 18) (lo' := [some (.ref 55), some (.ref 10), some (.int v2), some (.long v3), none, some (.int v5), some (.int v6), some (.int v7), none, none, none, none, none]) (st' := [.int 5, .int v2]) (σ' := s1) (by decide +kernel) rfl rfl ?_
  refine g_ic_lt hx (off := 4) (tgt := 22) (by decide +kernel) (by decide) (fun c18 => ?_) (fun c18 => ?_)
  · have h := ok_t h c18
    refine g_run hx [(.iconst 1, 1, 0), (.istore 8, 0, 0)] (pc' := 25) (lo' := [some (.ref 55), some (.ref 10), some (.int v2), some (.long v3), none, some (.int v5), some (.int v6), some (.int v7), some (.int 1), none, none, none, none]) (st' := []) (σ' := s1) (by decide +kernel) rfl rfl ?_
    refine s_paths_explore_L25 hx hc hr hrec N _ _ _ _ _ _ _ h
  · have h := ok_f h c18
    exact g_vret hx hr rfl () rfl (by decide +kernel) (ok_some h)
theorem s_paths_explore {y : EX} {N : Nat} : ∀ (D : Nat) (v2 : Int32) (v3 : Int64) (v5 : Int32) (v6 : Int32) (v7 : Int32) (σ : Sg) (P : Unit × Sg → Prop), ok (f_paths_explore N D v2 v3 v5 v6 v7 σ) P → Ev y M_paths_explore (D + 3) [.ref 55, .ref 10, .int v2, .long v3, .int v5, .int v6, .int v7] σ rvN P := by
  intro D
  induction D with
  | zero => intro v2 v3 v5 v6 v7 σ P h; exact ok_none h
  | succ D ih =>
    intro v2 v3 v5 v6 v7 σ P h
    exact s_paths_explore_B ih h
def f_paths_know_L72 (N : Nat) : Nat → Int32 → Sg → (Sg → Option (Unit × Sg)) → Option (Unit × Sg)
  | 0, _, _, _ => none
  | n + 1, v3, σ, k115 =>
    if (gI σ 13 1) ≤ v3 then
      k115 σ
    else
      (f_numbers_at N 13 6 14 v3 σ).bind fun q4 =>
      (f_x_span N q4.1 q4.1 q4.2).bind fun q5 =>
      f_paths_know_L72 N n (v3 + 1) (sL q5.2 55 11 ((gL q4.2 55 11) ||| q5.1)) k115
def f_paths_know_L117 (N : Nat) : Nat → Int32 → Sg → (Sg → Option (Unit × Sg)) → Option (Unit × Sg)
  | 0, _, _, _ => none
  | n + 1, v3, σ, k159 =>
    if 60 ≤ v3 then
      k159 σ
    else
      (f_paths_put N 60 56 v3 (-2) σ).bind fun q7 =>
      (f_paths_put N 60 58 v3 (-2) q7.2).bind fun q8 =>
      (f_paths_put N 60 60 v3 (-2) q8.2).bind fun q9 =>
      f_paths_know_L117 N n (v3 + 1) q9.2 k159
def f_paths_know_L161 (N : Nat) : Nat → Int32 → Sg → Option (Unit × Sg)
  | 0, _, _ => none
  | n + 1, v3, σ =>
    if (nI 6) ≤ v3 then
      (f_paths_explore N 12 0 (gL σ 55 8) (gI σ 55 9) 0 (gI σ 55 10) σ).bind fun q11 =>
      some ((), q11.2)
    else
      if vin v3 6 then
      f_paths_know_L161 N n (v3 + 1) (sM σ 61 v3 0)
      else none
def f_paths_know (N : Nat) (σ : Sg) : Option (Unit × Sg) :=
  if gI σ 55 7 = 10 then
    (f_state_goneCells N 40 σ).bind fun q1 =>
    if (lg_cmp (gL σ 55 8) q1.1) = 0 then
      if (gI q1.2 55 9) = (gI q1.2 40 2) then
        some ((), q1.2)
      else
        (f_state_goneCells N 40 (sI q1.2 55 7 10)).bind fun q12 =>
        (f_country_lostFolk N (gL (sI (sL q12.2 55 8 q12.1) 55 9 (gI (sL q12.2 55 8 q12.1) 40 2)) 55 8) (sI (sL q12.2 55 8 q12.1) 55 9 (gI (sL q12.2 55 8 q12.1) 40 2))).bind fun q13 =>
        f_paths_know_L72 N N 0 (sL (sI q13.2 55 10 q13.1) 55 11 0)
          (fun (t14 : Sg) =>
            f_paths_know_L117 N N 0 t14
              (fun (t15 : Sg) =>
                f_paths_know_L161 N N 0 t15))
    else
      (f_state_goneCells N 40 (sI q1.2 55 7 10)).bind fun q2 =>
      (f_country_lostFolk N (gL (sI (sL q2.2 55 8 q2.1) 55 9 (gI (sL q2.2 55 8 q2.1) 40 2)) 55 8) (sI (sL q2.2 55 8 q2.1) 55 9 (gI (sL q2.2 55 8 q2.1) 40 2))).bind fun q3 =>
      f_paths_know_L72 N N 0 (sL (sI q3.2 55 10 q3.1) 55 11 0)
        (fun (t6 : Sg) =>
          f_paths_know_L117 N N 0 t6
            (fun (t10 : Sg) =>
              f_paths_know_L161 N N 0 t10))
  else if gI σ 55 7 = 0 then
    (f_state_goneCells N 40 (sI σ 55 7 10)).bind fun q16 =>
    (f_country_lostFolk N (gL (sI (sL q16.2 55 8 q16.1) 55 9 (gI (sL q16.2 55 8 q16.1) 40 2)) 55 8) (sI (sL q16.2 55 8 q16.1) 55 9 (gI (sL q16.2 55 8 q16.1) 40 2))).bind fun q17 =>
    f_paths_know_L72 N N 0 (sL (sI q17.2 55 10 q17.1) 55 11 0)
      (fun (t18 : Sg) =>
        f_paths_know_L117 N N 0 t18
          (fun (t19 : Sg) =>
            f_paths_know_L161 N N 0 t19))
  else none
set_option maxRecDepth 100000 in
theorem s_paths_know_L72 {y : EX} {N : Nat} {x : CX} {P : Unit × Sg → Prop} (hx : Cx 4 prog_6_method_3_code x) (hc : Cc y 5 16 x) (hr : Cr M_paths_know rvN P x) : ∀ (n : Nat) (v3 : Int32) (σ : Sg) (k115 : Sg → Option (Unit × Sg)) (hk115 : ∀ (t : Sg), ok (k115 t) P → G x 115 [some (.ref 55), some (.ref 10), none, none, none] [] t), ok (f_paths_know_L72 N n v3 σ k115) P → G x 72 [some (.ref 55), some (.ref 10), none, some (.int v3), none] [] σ := by
  intro n
  induction n with
  | zero => intro v3 σ k115 hk115 h; exact ok_none h
  | succ n ih =>
    intro v3 σ k115 hk115 h
    rw [f_paths_know_L72] at h
    refine g_run hx [(.iload_n 3, 0, 0), (.aload_n 1, 0, 0), (.getfield 67, 0, 0), (.getfield 71, 0, 0)] (pc' := 80) (lo' := [some (.ref 55), some (.ref 10), none, some (.int v3), none]) (st' := [.int (gI σ 13 1), .int v3]) (σ' := σ) (by decide +kernel) rfl rfl ?_
    refine g_ic_ge hx (off := 35) (tgt := 115) (by decide +kernel) (by decide) (fun c80 => ?_) (fun c80 => ?_)
    · have h := ok_t h c80
      refine g_wk (lo' := [some (.ref 55), some (.ref 10), none, none, none]) ⟨rfl, ⟨rfl, trivial⟩⟩ ?_
      exact hk115 _ h
    · have h := ok_f h c80
      refine g_run hx [(.aload_n 1, 0, 0), (.getfield 67, 0, 0), (.iload_n 3, 0, 0)] (pc' := 88) (lo' := [some (.ref 55), some (.ref 10), none, some (.int v3), none]) (st' := [.int v3, .ref 13]) (σ' := σ) (by decide +kernel) rfl rfl ?_
      refine g_callV (rest := []) [.int v3] hx hc mk_numbers_at ln_4_76 rfl (by decide +kernel) (by decide) (Nat.le_of_ble_eq_true rfl) (s_numbers_at_13 (ok_b h)) (fun r4 s4 h => ?_)
      refine g_run hx [(.istore 4, 0, 0), (.aload_n 0, 0, 0), (.dup, 0, 0), (.getfield 49, 0, 0), (.iload 4, 0, 0), (.iload 4, 0, 0)] (pc' := 102) (lo' := [some (.ref 55), some (.ref 10), none, some (.int v3), some (.int r4)]) (st' := [.int r4, .int r4, .long (gL s4 55 11), .ref 55]) (σ' := s4) (by decide +kernel) rfl rfl ?_
      refine g_callN (rest := [.long (gL s4 55 11), .ref 55]) [.int r4, .int r4] hx hc mk_x_span ln_4_80 (by decide +kernel) (by decide) (Nat.le_of_ble_eq_true rfl) (s_x_span (ok_b h)) (fun r5 s5 h => ?_)
      refine g_run hx [(.lor, 0, 0), (.putfield 49, 0, 0), (.iinc 3 1, 1, 0)] (pc' := 112) (lo' := [some (.ref 55), some (.ref 10), none, some (.int (v3 + 1)), some (.int r4)]) (st' := []) (σ' := sL s5 55 11 ((gL s4 55 11) ||| r5)) (by decide +kernel) rfl rfl ?_
      refine g_goto hx (off := (-40)) (tgt := 72) (by decide +kernel) (by decide) ?_
      refine g_wk (lo' := [some (.ref 55), some (.ref 10), none, some (.int (v3 + 1)), none]) ⟨rfl, ⟨rfl, ⟨rfl, trivial⟩⟩⟩ ?_
      exact ih _ _ _ hk115 h
set_option maxRecDepth 100000 in
theorem s_paths_know_L117 {y : EX} {N : Nat} {x : CX} {P : Unit × Sg → Prop} (hx : Cx 4 prog_6_method_3_code x) (hc : Cc y 5 16 x) (hr : Cr M_paths_know rvN P x) : ∀ (n : Nat) (v3 : Int32) (σ : Sg) (k159 : Sg → Option (Unit × Sg)) (hk159 : ∀ (t : Sg), ok (k159 t) P → G x 159 [some (.ref 55), some (.ref 10), none, none, none] [] t), ok (f_paths_know_L117 N n v3 σ k159) P → G x 117 [some (.ref 55), some (.ref 10), none, some (.int v3), none] [] σ := by
  intro n
  induction n with
  | zero => intro v3 σ k159 hk159 h; exact ok_none h
  | succ n ih =>
    intro v3 σ k159 hk159 h
    rw [f_paths_know_L117] at h
    refine g_run hx [(.iload_n 3, 0, 0), (.bipush 60, 60, 0)] (pc' := 120) (lo' := [some (.ref 55), some (.ref 10), none, some (.int v3), none]) (st' := [.int 60, .int v3]) (σ' := σ) (by decide +kernel) rfl rfl ?_
    refine g_ic_ge hx (off := 39) (tgt := 159) (by decide +kernel) (by decide) (fun c120 => ?_) (fun c120 => ?_)
    · have h := ok_t h c120
      refine g_wk (lo' := [some (.ref 55), some (.ref 10), none, none, none]) ⟨rfl, ⟨rfl, trivial⟩⟩ ?_
      exact hk159 _ h
    · have h := ok_f h c120
      refine g_run hx [(.aload_n 0, 0, 0), (.getfield 9, 0, 0), (.iload_n 3, 0, 0), (.bipush (-2), (-2), 0)] (pc' := 130) (lo' := [some (.ref 55), some (.ref 10), none, some (.int v3), none]) (st' := [.int (-2), .int v3, .ref 56]) (σ' := σ) (by decide +kernel) rfl rfl ?_
      refine g_callS (rest := []) [.ref 56, .int v3, .int (-2)] hx hc mk_paths_put ln_4_84 (by decide +kernel) (by decide) (Nat.le_of_ble_eq_true rfl) (s_paths_put_56 (ok_b h)) (fun r7 s7 h => ?_)
      refine g_run hx [(.aload_n 0, 0, 0), (.getfield 18, 0, 0), (.iload_n 3, 0, 0), (.bipush (-2), (-2), 0)] (pc' := 140) (lo' := [some (.ref 55), some (.ref 10), none, some (.int v3), none]) (st' := [.int (-2), .int v3, .ref 58]) (σ' := s7) (by decide +kernel) rfl rfl ?_
      refine g_callS (rest := []) [.ref 58, .int v3, .int (-2)] hx hc mk_paths_put ln_4_84 (by decide +kernel) (by decide) (Nat.le_of_ble_eq_true rfl) (s_paths_put_58 (ok_b h)) (fun r8 s8 h => ?_)
      refine g_run hx [(.aload_n 0, 0, 0), (.getfield 24, 0, 0), (.iload_n 3, 0, 0), (.bipush (-2), (-2), 0)] (pc' := 150) (lo' := [some (.ref 55), some (.ref 10), none, some (.int v3), none]) (st' := [.int (-2), .int v3, .ref 60]) (σ' := s8) (by decide +kernel) rfl rfl ?_
      refine g_callS (rest := []) [.ref 60, .int v3, .int (-2)] hx hc mk_paths_put ln_4_84 (by decide +kernel) (by decide) (Nat.le_of_ble_eq_true rfl) (s_paths_put_60 (ok_b h)) (fun r9 s9 h => ?_)
      refine g_run hx [(.iinc 3 1, 1, 0)] (pc' := 156) (lo' := [some (.ref 55), some (.ref 10), none, some (.int (v3 + 1)), none]) (st' := []) (σ' := s9) (by decide +kernel) rfl rfl ?_
      refine g_goto hx (off := (-39)) (tgt := 117) (by decide +kernel) (by decide) ?_
      exact ih _ _ _ hk159 h
set_option maxRecDepth 100000 in
theorem s_paths_know_L161 {y : EX} {N : Nat} {x : CX} {P : Unit × Sg → Prop} (hx : Cx 4 prog_6_method_3_code x) (hc : Cc y 5 16 x) (hr : Cr M_paths_know rvN P x) : ∀ (n : Nat) (v3 : Int32) (σ : Sg), ok (f_paths_know_L161 N n v3 σ) P → G x 161 [some (.ref 55), some (.ref 10), none, some (.int v3), none] [] σ := by
  intro n
  induction n with
  | zero => intro v3 σ h; exact ok_none h
  | succ n ih =>
    intro v3 σ h
    rw [f_paths_know_L161] at h
    refine g_run hx [(.iload_n 3, 0, 0), (.aload_n 0, 0, 0), (.getfield 27, 0, 0), (.arraylength, 0, 0)] (pc' := 167) (lo' := [some (.ref 55), some (.ref 10), none, some (.int v3), none]) (st' := [.int (nI 6), .int v3]) (σ' := σ) (by decide +kernel) rfl rfl ?_
    refine g_ic_ge hx (off := 16) (tgt := 183) (by decide +kernel) (by decide) (fun c167 => ?_) (fun c167 => ?_)
    · have h := ok_t h c167
      refine g_run hx [(.aload_n 0, 0, 0), (.aload_n 1, 0, 0), (.iconst 0, 0, 0), (.aload_n 0, 0, 0), (.getfield 38, 0, 0), (.aload_n 0, 0, 0), (.getfield 42, 0, 0), (.iconst 0, 0, 0), (.aload_n 0, 0, 0), (.getfield 46, 0, 0)] (pc' := 199) (lo' := [some (.ref 55), some (.ref 10), none, some (.int v3), none]) (st' := [.int (gI σ 55 10), .int 0, .int (gI σ 55 9), .long (gL σ 55 8), .int 0, .ref 10, .ref 55]) (σ' := σ) (by decide +kernel) rfl rfl ?_
      refine g_callV (rest := []) [.ref 10, .int 0, .long (gL σ 55 8), .int (gI σ 55 9), .int 0, .int (gI σ 55 10)] hx hc mk_paths_explore ln_4_88 rfl (by decide +kernel) (by decide) (Nat.le_of_ble_eq_true rfl) (s_paths_explore 12 _ _ _ _ _ _ _ (ok_b h)) (fun r11 s11 h => ?_)
      exact g_vret hx hr rfl () rfl (by decide +kernel) (ok_some h)
    · have h := ok_f h c167
      refine g_run hx [(.aload_n 0, 0, 0), (.getfield 27, 0, 0), (.iload_n 3, 0, 0), (.lconst 0, 0, 0)] (pc' := 176) (lo' := [some (.ref 55), some (.ref 10), none, some (.int v3), none]) (st' := [.long 0, .int v3, .ref 61]) (σ' := σ) (by decide +kernel) rfl rfl ?_
      obtain ⟨c176, h⟩ := ok_g h
      refine g_last hx (by decide +kernel) (i := 61) (n := 6) rfl c176 ?_
      refine g_run hx [(.iinc 3 1, 1, 0)] (pc' := 180) (lo' := [some (.ref 55), some (.ref 10), none, some (.int (v3 + 1)), none]) (st' := []) (σ' := sM σ 61 v3 0) (by decide +kernel) rfl rfl ?_
      refine g_goto hx (off := (-19)) (tgt := 161) (by decide +kernel) (by decide) ?_
      exact ih _ _ h
set_option maxRecDepth 100000 in
theorem s_paths_know {y : EX} {N : Nat} {σ : Sg} {P : Unit × Sg → Prop} (h : ok (f_paths_know N σ) P) : Ev y M_paths_know 16 [.ref 55, .ref 10, .ref 40] σ rvN P := by
  refine Ev.of mk_paths_know (Nat.le_of_ble_eq_true rfl) (fun x hx hc hr => ?_)
  have hx : Cx 4 prog_6_method_3_code x := hx
  have hc : Cc y 5 16 x := hc
  show G x 0 [some (.ref 55), some (.ref 10), some (.ref 40), none, none] [] σ
  unfold f_paths_know at h
  refine g_run hx [(.aload_n 0, 0, 0), (.getfield 34, 0, 0), (.aload_n 1, 0, 0)] (pc' := 5) (lo' := [some (.ref 55), some (.ref 10), some (.ref 40), none, none]) (st' := [.ref 10, crf (gI σ 55 7)]) (σ' := σ) (by decide +kernel) rfl rfl ?_
  refine g_acn hx (off := 27) (tgt := 32) (by decide +kernel) (by decide) (by decide) (ok_r h) (fun c5 => ?_) (fun c5 => ?_)
  · have h := ok_t (ok_f h (fun e => absurd (c5.symm.trans e) (by decide))) c5
    refine g_run hx [(.aload_n 0, 0, 0), (.aload_n 1, 0, 0), (.putfield 34, 0, 0), (.aload_n 0, 0, 0), (.aload_n 2, 0, 0)] (pc' := 39) (lo' := [some (.ref 55), some (.ref 10), some (.ref 40), none, none]) (st' := [.ref 40, .ref 55]) (σ' := sI σ 55 7 10) (by decide +kernel) rfl rfl ?_
    refine g_callV (rest := [.ref 55]) [] hx hc mk_state_goneCells ln_4_52 rfl (by decide +kernel) (by decide) (Nat.le_of_ble_eq_true rfl) (s_state_goneCells_40 (ok_b h)) (fun r16 s16 h => ?_)
    refine g_run hx [(.putfield 38, 0, 0), (.aload_n 0, 0, 0), (.aload_n 2, 0, 0), (.getfield 58, 0, 0), (.putfield 42, 0, 0), (.aload_n 0, 0, 0), (.aload_n 1, 0, 0), (.aload_n 0, 0, 0), (.getfield 38, 0, 0)] (pc' := 59) (lo' := [some (.ref 55), some (.ref 10), some (.ref 40), none, none]) (st' := [.long (gL (sI (sL s16 55 8 r16) 55 9 (gI (sL s16 55 8 r16) 40 2)) 55 8), .ref 10, .ref 55]) (σ' := sI (sL s16 55 8 r16) 55 9 (gI (sL s16 55 8 r16) 40 2)) (by decide +kernel) rfl rfl ?_
    refine g_callV (rest := [.ref 55]) [.long (gL (sI (sL s16 55 8 r16) 55 9 (gI (sL s16 55 8 r16) 40 2)) 55 8)] hx hc mk_country_lostFolk ln_4_61 rfl (by decide +kernel) (by decide) (Nat.le_of_ble_eq_true rfl) (s_country_lostFolk (ok_b h)) (fun r17 s17 h => ?_)
    refine g_run hx [(.putfield 46, 0, 0), (.aload_n 0, 0, 0), (.lconst 0, 0, 0), (.putfield 49, 0, 0), (.iconst 0, 0, 0), (.istore_n 3, 0, 0)] (pc' := 72) (lo' := [some (.ref 55), some (.ref 10), some (.ref 40), some (.int 0), none]) (st' := []) (σ' := sL (sI s17 55 10 r17) 55 11 0) (by decide +kernel) rfl rfl ?_
    refine g_wk (lo' := [some (.ref 55), some (.ref 10), none, some (.int 0), none]) ⟨rfl, ⟨rfl, ⟨rfl, trivial⟩⟩⟩ ?_
    refine s_paths_know_L72 hx hc hr N _ _ _ (fun t18 h => ?_) h
    refine g_run hx [(.iconst 0, 0, 0), (.istore_n 3, 0, 0)] (pc' := 117) (lo' := [some (.ref 55), some (.ref 10), none, some (.int 0), none]) (st' := []) (σ' := t18) (by decide +kernel) rfl rfl ?_
    refine s_paths_know_L117 hx hc hr N _ _ _ (fun t19 h => ?_) h
    refine g_run hx [(.iconst 0, 0, 0), (.istore_n 3, 0, 0)] (pc' := 161) (lo' := [some (.ref 55), some (.ref 10), none, some (.int 0), none]) (st' := []) (σ' := t19) (by decide +kernel) rfl rfl ?_
    refine s_paths_know_L161 hx hc hr N _ _ h
  · have h := ok_t h c5
    refine g_run hx [(.aload_n 0, 0, 0), (.getfield 38, 0, 0), (.aload_n 2, 0, 0)] (pc' := 13) (lo' := [some (.ref 55), some (.ref 10), some (.ref 40), none, none]) (st' := [.ref 40, .long (gL σ 55 8)]) (σ' := σ) (by decide +kernel) rfl rfl ?_
    refine g_callV (rest := [.long (gL σ 55 8)]) [] hx hc mk_state_goneCells ln_4_52 rfl (by decide +kernel) (by decide) (Nat.le_of_ble_eq_true rfl) (s_state_goneCells_40 (ok_b h)) (fun r1 s1 h => ?_)
    refine g_run hx [(.lcmp, 0, 0)] (pc' := 17) (lo' := [some (.ref 55), some (.ref 10), some (.ref 40), none, none]) (st' := [.int (lg_cmp (gL σ 55 8) r1)]) (σ' := s1) (by decide +kernel) rfl rfl ?_
    refine g_if_ne hx (off := 15) (tgt := 32) (by decide +kernel) (by decide) (fun c17 => ?_) (fun c17 => ?_)
    · have h := ok_f h c17
      refine g_run hx [(.aload_n 0, 0, 0), (.aload_n 1, 0, 0), (.putfield 34, 0, 0), (.aload_n 0, 0, 0), (.aload_n 2, 0, 0)] (pc' := 39) (lo' := [some (.ref 55), some (.ref 10), some (.ref 40), none, none]) (st' := [.ref 40, .ref 55]) (σ' := sI s1 55 7 10) (by decide +kernel) rfl rfl ?_
      refine g_callV (rest := [.ref 55]) [] hx hc mk_state_goneCells ln_4_52 rfl (by decide +kernel) (by decide) (Nat.le_of_ble_eq_true rfl) (s_state_goneCells_40 (ok_b h)) (fun r2 s2 h => ?_)
      refine g_run hx [(.putfield 38, 0, 0), (.aload_n 0, 0, 0), (.aload_n 2, 0, 0), (.getfield 58, 0, 0), (.putfield 42, 0, 0), (.aload_n 0, 0, 0), (.aload_n 1, 0, 0), (.aload_n 0, 0, 0), (.getfield 38, 0, 0)] (pc' := 59) (lo' := [some (.ref 55), some (.ref 10), some (.ref 40), none, none]) (st' := [.long (gL (sI (sL s2 55 8 r2) 55 9 (gI (sL s2 55 8 r2) 40 2)) 55 8), .ref 10, .ref 55]) (σ' := sI (sL s2 55 8 r2) 55 9 (gI (sL s2 55 8 r2) 40 2)) (by decide +kernel) rfl rfl ?_
      refine g_callV (rest := [.ref 55]) [.long (gL (sI (sL s2 55 8 r2) 55 9 (gI (sL s2 55 8 r2) 40 2)) 55 8)] hx hc mk_country_lostFolk ln_4_61 rfl (by decide +kernel) (by decide) (Nat.le_of_ble_eq_true rfl) (s_country_lostFolk (ok_b h)) (fun r3 s3 h => ?_)
      refine g_run hx [(.putfield 46, 0, 0), (.aload_n 0, 0, 0), (.lconst 0, 0, 0), (.putfield 49, 0, 0), (.iconst 0, 0, 0), (.istore_n 3, 0, 0)] (pc' := 72) (lo' := [some (.ref 55), some (.ref 10), some (.ref 40), some (.int 0), none]) (st' := []) (σ' := sL (sI s3 55 10 r3) 55 11 0) (by decide +kernel) rfl rfl ?_
      refine g_wk (lo' := [some (.ref 55), some (.ref 10), none, some (.int 0), none]) ⟨rfl, ⟨rfl, ⟨rfl, trivial⟩⟩⟩ ?_
      refine s_paths_know_L72 hx hc hr N _ _ _ (fun t6 h => ?_) h
      refine g_run hx [(.iconst 0, 0, 0), (.istore_n 3, 0, 0)] (pc' := 117) (lo' := [some (.ref 55), some (.ref 10), none, some (.int 0), none]) (st' := []) (σ' := t6) (by decide +kernel) rfl rfl ?_
      refine s_paths_know_L117 hx hc hr N _ _ _ (fun t10 h => ?_) h
      refine g_run hx [(.iconst 0, 0, 0), (.istore_n 3, 0, 0)] (pc' := 161) (lo' := [some (.ref 55), some (.ref 10), none, some (.int 0), none]) (st' := []) (σ' := t10) (by decide +kernel) rfl rfl ?_
      refine s_paths_know_L161 hx hc hr N _ _ h
    · have h := ok_t h c17
      refine g_run hx [(.aload_n 0, 0, 0), (.getfield 42, 0, 0), (.aload_n 2, 0, 0), (.getfield 58, 0, 0)] (pc' := 28) (lo' := [some (.ref 55), some (.ref 10), some (.ref 40), none, none]) (st' := [.int (gI s1 40 2), .int (gI s1 55 9)]) (σ' := s1) (by decide +kernel) rfl rfl ?_
      refine g_ic_ne hx (off := 4) (tgt := 32) (by decide +kernel) (by decide) (fun c28 => ?_) (fun c28 => ?_)
      · have h := ok_f h c28
        refine g_run hx [(.aload_n 0, 0, 0), (.aload_n 1, 0, 0), (.putfield 34, 0, 0), (.aload_n 0, 0, 0), (.aload_n 2, 0, 0)] (pc' := 39) (lo' := [some (.ref 55), some (.ref 10), some (.ref 40), none, none]) (st' := [.ref 40, .ref 55]) (σ' := sI s1 55 7 10) (by decide +kernel) rfl rfl ?_
        refine g_callV (rest := [.ref 55]) [] hx hc mk_state_goneCells ln_4_52 rfl (by decide +kernel) (by decide) (Nat.le_of_ble_eq_true rfl) (s_state_goneCells_40 (ok_b h)) (fun r12 s12 h => ?_)
        refine g_run hx [(.putfield 38, 0, 0), (.aload_n 0, 0, 0), (.aload_n 2, 0, 0), (.getfield 58, 0, 0), (.putfield 42, 0, 0), (.aload_n 0, 0, 0), (.aload_n 1, 0, 0), (.aload_n 0, 0, 0), (.getfield 38, 0, 0)] (pc' := 59) (lo' := [some (.ref 55), some (.ref 10), some (.ref 40), none, none]) (st' := [.long (gL (sI (sL s12 55 8 r12) 55 9 (gI (sL s12 55 8 r12) 40 2)) 55 8), .ref 10, .ref 55]) (σ' := sI (sL s12 55 8 r12) 55 9 (gI (sL s12 55 8 r12) 40 2)) (by decide +kernel) rfl rfl ?_
        refine g_callV (rest := [.ref 55]) [.long (gL (sI (sL s12 55 8 r12) 55 9 (gI (sL s12 55 8 r12) 40 2)) 55 8)] hx hc mk_country_lostFolk ln_4_61 rfl (by decide +kernel) (by decide) (Nat.le_of_ble_eq_true rfl) (s_country_lostFolk (ok_b h)) (fun r13 s13 h => ?_)
        refine g_run hx [(.putfield 46, 0, 0), (.aload_n 0, 0, 0), (.lconst 0, 0, 0), (.putfield 49, 0, 0), (.iconst 0, 0, 0), (.istore_n 3, 0, 0)] (pc' := 72) (lo' := [some (.ref 55), some (.ref 10), some (.ref 40), some (.int 0), none]) (st' := []) (σ' := sL (sI s13 55 10 r13) 55 11 0) (by decide +kernel) rfl rfl ?_
        refine g_wk (lo' := [some (.ref 55), some (.ref 10), none, some (.int 0), none]) ⟨rfl, ⟨rfl, ⟨rfl, trivial⟩⟩⟩ ?_
        refine s_paths_know_L72 hx hc hr N _ _ _ (fun t14 h => ?_) h
        refine g_run hx [(.iconst 0, 0, 0), (.istore_n 3, 0, 0)] (pc' := 117) (lo' := [some (.ref 55), some (.ref 10), none, some (.int 0), none]) (st' := []) (σ' := t14) (by decide +kernel) rfl rfl ?_
        refine s_paths_know_L117 hx hc hr N _ _ _ (fun t15 h => ?_) h
        refine g_run hx [(.iconst 0, 0, 0), (.istore_n 3, 0, 0)] (pc' := 161) (lo' := [some (.ref 55), some (.ref 10), none, some (.int 0), none]) (st' := []) (σ' := t15) (by decide +kernel) rfl rfl ?_
        refine s_paths_know_L161 hx hc hr N _ _ h
      · have h := ok_t h c28
        exact g_vret hx hr rfl () rfl (by decide +kernel) (ok_some h)
def f_x_knownPaths (N : Nat) (σ : Sg) : Option (Unit × Sg) :=
  (f_paths_know N σ).bind fun q1 =>
  some ((), q1.2)
set_option maxRecDepth 100000 in
theorem s_x_knownPaths {y : EX} {N : Nat} {σ : Sg} {P : Unit × Sg → Prop} (h : ok (f_x_knownPaths N σ) P) : Ev y M_x_knownPaths 17 [.ref 0] σ (rvR 55) P := by
  refine Ev.of mk_x_knownPaths (Nat.le_of_ble_eq_true rfl) (fun x hx hc hr => ?_)
  have hx : Cx 9 prog_1_method_75_code x := hx
  have hc : Cc y 1 17 x := hc
  show G x 0 [some (.ref 0)] [] σ
  unfold f_x_knownPaths at h
  refine g_run hx [(.aload_n 0, 0, 0), (.getfield 56, 0, 0), (.aload_n 0, 0, 0), (.getfield 19, 0, 0), (.aload_n 0, 0, 0), (.getfield 26, 0, 0)] (pc' := 12) (lo' := [some (.ref 0)]) (st' := [.ref 40, .ref 10, .ref 55]) (σ' := σ) (by decide +kernel) rfl rfl ?_
  refine g_callV (rest := []) [.ref 10, .ref 40] hx hc mk_paths_know ln_9_394 rfl (by decide +kernel) (by decide) (Nat.le_of_ble_eq_true rfl) (s_paths_know (ok_b h)) (fun r1 s1 h => ?_)
  refine g_run hx [(.aload_n 0, 0, 0), (.getfield 56, 0, 0)] (pc' := 19) (lo' := [some (.ref 0)]) (st' := [.ref 55]) (σ' := s1) (by decide +kernel) rfl rfl ?_
  exact g_aret hx hr ⟨_, rfl⟩ () rfl (by decide +kernel) (ok_some h)
def f_paths_comeStrides (N : Nat) (v1 : Int32) (σ : Sg) : Option (Int32 × Sg) :=
  (f_paths_get N 60 56 v1 σ).bind fun q1 =>
  some (q1.1, q1.2)
set_option maxRecDepth 100000 in
theorem s_paths_comeStrides {y : EX} {N : Nat} {v1 : Int32} {σ : Sg} {P : Int32 × Sg → Prop} (h : ok (f_paths_comeStrides N v1 σ) P) : Ev y M_paths_comeStrides 1 [.ref 55, .int v1] σ rvI P := by
  refine Ev.of mk_paths_comeStrides (Nat.le_of_ble_eq_true rfl) (fun x hx hc hr => ?_)
  have hx : Cx 4 prog_6_method_6_code x := hx
  have hc : Cc y 2 1 x := hc
  show G x 0 [some (.ref 55), some (.int v1)] [] σ
  unfold f_paths_comeStrides at h
  refine g_run hx [(.aload_n 0, 0, 0), (.getfield 9, 0, 0), (.iload_n 1, 0, 0)] (pc' := 5) (lo' := [some (.ref 55), some (.int v1)]) (st' := [.int v1, .ref 56]) (σ' := σ) (by decide +kernel) rfl rfl ?_
  refine g_callS (rest := []) [.ref 56, .int v1] hx hc mk_paths_get ln_4_108 (by decide +kernel) (by decide) (Nat.le_of_ble_eq_true rfl) (s_paths_get_56 (ok_b h)) (fun r1 s1 h => ?_)
  exact g_iret hx hr rfl _ rfl (by decide +kernel) (ok_some h)
def f_x_come (N : Nat) (v1 : Int32) (σ : Sg) : Option (Int32 × Sg) :=
  (f_x_cellTrouble N v1 σ).bind fun q1 =>
  (f_x_granted N q1.1 q1.2).bind fun q2 =>
  if q2.1 = true then
    (f_x_knownPaths N q2.2).bind fun q3 =>
    (f_paths_comeStrides N v1 q3.2).bind fun q4 =>
    some (q4.1, q4.2)
  else
    some ((-1), q2.2)
set_option maxRecDepth 100000 in
theorem s_x_come {y : EX} {N : Nat} {v1 : Int32} {σ : Sg} {P : Int32 × Sg → Prop} (h : ok (f_x_come N v1 σ) P) : Ev y M_x_come 18 [.ref 0, .int v1] σ rvI P := by
  refine Ev.of mk_x_come (Nat.le_of_ble_eq_true rfl) (fun x hx hc hr => ?_)
  have hx : Cx 9 prog_1_method_28_code x := hx
  have hc : Cc y 2 18 x := hc
  show G x 0 [some (.ref 0), some (.int v1)] [] σ
  unfold f_x_come at h
  refine g_run hx [(.aload_n 0, 0, 0), (.aload_n 0, 0, 0), (.iload_n 1, 0, 0)] (pc' := 3) (lo' := [some (.ref 0), some (.int v1)]) (st' := [.int v1, .ref 0, .ref 0]) (σ' := σ) (by decide +kernel) rfl rfl ?_
  refine g_callV (rest := [.ref 0]) [.int v1] hx hc mk_x_cellTrouble ln_9_110 rfl (by decide +kernel) (by decide) (Nat.le_of_ble_eq_true rfl) (s_x_cellTrouble (ok_b h)) (fun r1 s1 h => ?_)
  refine g_callV (rest := []) [.int r1] hx hc mk_x_granted ln_9_83 rfl (by decide +kernel) (by decide) (Nat.le_of_ble_eq_true rfl) (s_x_granted (ok_b h)) (fun r2 s2 h => ?_)
  refine g_ifb_eq hx (off := 14) (tgt := 23) (by decide +kernel) (by decide) (fun c9 => ?_) (fun c9 => ?_)
  · have h := ok_f h c9
    refine g_run hx [(.iconst (-1), (-1), 0)] (pc' := 24) (lo' := [some (.ref 0), some (.int v1)]) (st' := [.int (-1)]) (σ' := s2) (by decide +kernel) rfl rfl ?_
    exact g_iret hx hr rfl _ rfl (by decide +kernel) (ok_some h)
  · have h := ok_t h c9
    refine g_run hx [(.aload_n 0, 0, 0)] (pc' := 13) (lo' := [some (.ref 0), some (.int v1)]) (st' := [.ref 0]) (σ' := s2) (by decide +kernel) rfl rfl ?_
    refine g_callV (rest := []) [] hx hc mk_x_knownPaths ln_9_231 rfl (by decide +kernel) (by decide) (Nat.le_of_ble_eq_true rfl) (s_x_knownPaths (ok_b h)) (fun r3 s3 h => ?_)
    refine g_run hx [(.iload_n 1, 0, 0)] (pc' := 17) (lo' := [some (.ref 0), some (.int v1)]) (st' := [.int v1, .ref 55]) (σ' := s3) (by decide +kernel) rfl rfl ?_
    refine g_callV (rest := []) [.int v1] hx hc mk_paths_comeStrides ln_9_235 rfl (by decide +kernel) (by decide) (Nat.le_of_ble_eq_true rfl) (s_paths_comeStrides (ok_b h)) (fun r4 s4 h => ?_)
    refine g_goto hx (off := 4) (tgt := 24) (by decide +kernel) (by decide) ?_
    exact g_iret hx hr rfl _ rfl (by decide +kernel) (ok_some h)
set_option maxRecDepth 100000 in
theorem s_paths_get_57 {y : EX} {N : Nat} {v1 : Int32} {σ : Sg} {P : Int32 × Sg → Prop} (h : ok (f_paths_get N 60 57 v1 σ) P) : Ev y M_paths_get 0 [.ref 57, .int v1] σ rvI P := by
  refine Ev.of mk_paths_get (Nat.le_of_ble_eq_true rfl) (fun x hx hc hr => ?_)
  have hx : Cx 4 prog_6_method_13_code x := hx
  have hc : Cc y 2 0 x := hc
  show G x 0 [some (.ref 57), some (.int v1)] [] σ
  unfold f_paths_get at h
  refine g_run hx [(.iload_n 1, 0, 0)] (pc' := 1) (lo' := [some (.ref 57), some (.int v1)]) (st' := [.int v1]) (σ' := σ) (by decide +kernel) rfl rfl ?_
  refine g_if_lt hx (off := 15) (tgt := 16) (by decide +kernel) (by decide) (fun c1 => ?_) (fun c1 => ?_)
  · have h := ok_t h c1
    refine g_run hx [(.bipush (-2), (-2), 0)] (pc' := 18) (lo' := [some (.ref 57), some (.int v1)]) (st' := [.int (-2)]) (σ' := σ) (by decide +kernel) rfl rfl ?_
    exact g_iret hx hr rfl _ rfl (by decide +kernel) (ok_some h)
  · have h := ok_f h c1
    refine g_run hx [(.iload_n 1, 0, 0), (.aload_n 0, 0, 0), (.arraylength, 0, 0)] (pc' := 7) (lo' := [some (.ref 57), some (.int v1)]) (st' := [.int (nI 60), .int v1]) (σ' := σ) (by decide +kernel) rfl rfl ?_
    refine g_ic_ge hx (off := 9) (tgt := 16) (by decide +kernel) (by decide) (fun c7 => ?_) (fun c7 => ?_)
    · have h := ok_t h c7
      refine g_run hx [(.bipush (-2), (-2), 0)] (pc' := 18) (lo' := [some (.ref 57), some (.int v1)]) (st' := [.int (-2)]) (σ' := σ) (by decide +kernel) rfl rfl ?_
      exact g_iret hx hr rfl _ rfl (by decide +kernel) (ok_some h)
    · have h := ok_f h c7
      refine g_run hx [(.aload_n 0, 0, 0), (.iload_n 1, 0, 0)] (pc' := 12) (lo' := [some (.ref 57), some (.int v1)]) (st' := [.int v1, .ref 57]) (σ' := σ) (by decide +kernel) rfl rfl ?_
      obtain ⟨c12, h⟩ := ok_g h
      refine g_iald hx (by decide +kernel) (i := 57) (n := 60) rfl c12 ?_
      refine g_goto hx (off := 5) (tgt := 18) (by decide +kernel) (by decide) ?_
      exact g_iret hx hr rfl _ rfl (by decide +kernel) (ok_some h)
def f_paths_comeRow (N : Nat) (v1 : Int32) (σ : Sg) : Option (Int32 × Sg) :=
  (f_paths_get N 60 57 v1 σ).bind fun q1 =>
  some (q1.1, q1.2)
set_option maxRecDepth 100000 in
theorem s_paths_comeRow {y : EX} {N : Nat} {v1 : Int32} {σ : Sg} {P : Int32 × Sg → Prop} (h : ok (f_paths_comeRow N v1 σ) P) : Ev y M_paths_comeRow 1 [.ref 55, .int v1] σ rvI P := by
  refine Ev.of mk_paths_comeRow (Nat.le_of_ble_eq_true rfl) (fun x hx hc hr => ?_)
  have hx : Cx 4 prog_6_method_7_code x := hx
  have hc : Cc y 2 1 x := hc
  show G x 0 [some (.ref 55), some (.int v1)] [] σ
  unfold f_paths_comeRow at h
  refine g_run hx [(.aload_n 0, 0, 0), (.getfield 15, 0, 0), (.iload_n 1, 0, 0)] (pc' := 5) (lo' := [some (.ref 55), some (.int v1)]) (st' := [.int v1, .ref 57]) (σ' := σ) (by decide +kernel) rfl rfl ?_
  refine g_callS (rest := []) [.ref 57, .int v1] hx hc mk_paths_get ln_4_108 (by decide +kernel) (by decide) (Nat.le_of_ble_eq_true rfl) (s_paths_get_57 (ok_b h)) (fun r1 s1 h => ?_)
  exact g_iret hx hr rfl _ rfl (by decide +kernel) (ok_some h)
def f_x_digitOf_L7 (N : Nat) : Nat → Int32 → Int32 → Int32 → Sg → Option (Int32 × Sg)
  | 0, _, _, _, _ => none
  | n + 1, v2, v3, v4, σ =>
    if v4 ≤ v2 then
      some ((v3 - v3 / 10 * 10), σ)
    else
      f_x_digitOf_L7 N n v2 (v3 / 10) (v4 + (-1)) σ
def f_x_digitOf (N : Nat) (v0 : Int32) (v1 : Int32) (v2 : Int32) (σ : Sg) : Option (Int32 × Sg) :=
  f_x_digitOf_L7 N N v2 v0 (v1 - 1) σ
set_option maxRecDepth 100000 in
theorem s_x_digitOf_L7 {y : EX} {N : Nat} {x : CX} {P : Int32 × Sg → Prop} (hx : Cx 9 prog_1_method_81_code x) (hc : Cc y 5 0 x) (hr : Cr M_x_digitOf rvI P x) : ∀ (n : Nat) (v2 : Int32) (v3 : Int32) (v4 : Int32) (σ : Sg), ok (f_x_digitOf_L7 N n v2 v3 v4 σ) P → G x 7 [none, none, some (.int v2), some (.int v3), some (.int v4)] [] σ := by
  intro n
  induction n with
  | zero => intro v2 v3 v4 σ h; exact ok_none h
  | succ n ih =>
    intro v2 v3 v4 σ h
    rw [f_x_digitOf_L7] at h
    refine g_run hx [(.iload 4, 0, 0), (.iload_n 2, 0, 0)] (pc' := 10) (lo' := [none, none, some (.int v2), some (.int v3), some (.int v4)]) (st' := [.int v2, .int v4]) (σ' := σ) (by decide +kernel) rfl rfl ?_
    refine g_ic_le hx (off := 14) (tgt := 24) (by decide +kernel) (by decide) (fun c10 => ?_) (fun c10 => ?_)
    · have h := ok_t h c10
      refine g_run hx [(.iload_n 3, 0, 0), (.bipush 10, 10, 0), (.irem, 0, 0)] (pc' := 28) (lo' := [none, none, some (.int v2), some (.int v3), some (.int v4)]) (st' := [.int (v3 - v3 / 10 * 10)]) (σ' := σ) (by decide +kernel) rfl rfl ?_
      exact g_iret hx hr rfl _ rfl (by decide +kernel) (ok_some h)
    · have h := ok_f h c10
      refine g_run hx [(.iload_n 3, 0, 0), (.bipush 10, 10, 0), (.idiv, 0, 0), (.istore_n 3, 0, 0), (.iinc 4 (-1), (-1), 0)] (pc' := 21) (lo' := [none, none, some (.int v2), some (.int (v3 / 10)), some (.int (v4 + (-1)))]) (st' := []) (σ' := σ) (by decide +kernel) rfl rfl ?_
      refine g_goto hx (off := (-14)) (tgt := 7) (by decide +kernel) (by decide) ?_
      exact ih _ _ _ _ h
set_option maxRecDepth 100000 in
theorem s_x_digitOf {y : EX} {N : Nat} {v0 : Int32} {v1 : Int32} {v2 : Int32} {σ : Sg} {P : Int32 × Sg → Prop} (h : ok (f_x_digitOf N v0 v1 v2 σ) P) : Ev y M_x_digitOf 0 [.int v0, .int v1, .int v2] σ rvI P := by
  refine Ev.of mk_x_digitOf (Nat.le_of_ble_eq_true rfl) (fun x hx hc hr => ?_)
  have hx : Cx 9 prog_1_method_81_code x := hx
  have hc : Cc y 5 0 x := hc
  show G x 0 [some (.int v0), some (.int v1), some (.int v2), none, none] [] σ
  unfold f_x_digitOf at h
  refine g_run hx [(.iload_n 0, 0, 0), (.istore_n 3, 0, 0), (.iload_n 1, 0, 0), (.iconst 1, 1, 0), (.isub, 0, 0), (.istore 4, 0, 0)] (pc' := 7) (lo' := [some (.int v0), some (.int v1), some (.int v2), some (.int v0), some (.int (v1 - 1))]) (st' := []) (σ' := σ) (by decide +kernel) rfl rfl ?_
  refine g_wk (lo' := [none, none, some (.int v2), some (.int v0), some (.int (v1 - 1))]) ⟨rfl, ⟨rfl, ⟨rfl, trivial⟩⟩⟩ ?_
  refine s_x_digitOf_L7 hx hc hr N _ _ _ _ h
def f_x_comeAt (N : Nat) (v1 : Int32) (v2 : Int32) (σ : Sg) : Option (Int32 × Sg) :=
  (f_x_cellTrouble N v1 σ).bind fun q1 =>
  (f_x_granted N q1.1 q1.2).bind fun q2 =>
  if q2.1 = true then
    (f_x_knownPaths N q2.2).bind fun q3 =>
    (f_paths_comeStrides N v1 q3.2).bind fun q4 =>
    if v2 < 0 then
      (f_x_granted N 1 q4.2).bind fun q5 =>
      if q5.1 = true then
        (f_paths_comeRow N v1 q5.2).bind fun q6 =>
        (f_x_digitOf N q6.1 q4.1 v2 q6.2).bind fun q7 =>
        some (q7.1, q7.2)
      else
        some ((-1), q5.2)
    else
      (f_x_granted N (b2i (decide (¬ (v2 < q4.1)))) q4.2).bind fun q8 =>
      if q8.1 = true then
        (f_paths_comeRow N v1 q8.2).bind fun q9 =>
        (f_x_digitOf N q9.1 q4.1 v2 q9.2).bind fun q10 =>
        some (q10.1, q10.2)
      else
        some ((-1), q8.2)
  else
    some ((-1), q2.2)
set_option maxRecDepth 100000 in
theorem s_x_comeAt {y : EX} {N : Nat} {v1 : Int32} {v2 : Int32} {σ : Sg} {P : Int32 × Sg → Prop} (h : ok (f_x_comeAt N v1 v2 σ) P) : Ev y M_x_comeAt 18 [.ref 0, .int v1, .int v2] σ rvI P := by
  refine Ev.of mk_x_comeAt (Nat.le_of_ble_eq_true rfl) (fun x hx hc hr => ?_)
  have hx : Cx 9 prog_1_method_29_code x := hx
  have hc : Cc y 4 18 x := hc
  show G x 0 [some (.ref 0), some (.int v1), some (.int v2), none] [] σ
  unfold f_x_comeAt at h
  refine g_run hx [(.aload_n 0, 0, 0), (.aload_n 0, 0, 0), (.iload_n 1, 0, 0)] (pc' := 3) (lo' := [some (.ref 0), some (.int v1), some (.int v2), none]) (st' := [.int v1, .ref 0, .ref 0]) (σ' := σ) (by decide +kernel) rfl rfl ?_
  refine g_callV (rest := [.ref 0]) [.int v1] hx hc mk_x_cellTrouble ln_9_110 rfl (by decide +kernel) (by decide) (Nat.le_of_ble_eq_true rfl) (s_x_cellTrouble (ok_b h)) (fun r1 s1 h => ?_)
  refine g_callV (rest := []) [.int r1] hx hc mk_x_granted ln_9_83 rfl (by decide +kernel) (by decide) (Nat.le_of_ble_eq_true rfl) (s_x_granted (ok_b h)) (fun r2 s2 h => ?_)
  refine g_ifb_ne hx (off := 5) (tgt := 14) (by decide +kernel) (by decide) (fun c9 => ?_) (fun c9 => ?_)
  · have h := ok_t h c9
    refine g_run hx [(.aload_n 0, 0, 0)] (pc' := 15) (lo' := [some (.ref 0), some (.int v1), some (.int v2), none]) (st' := [.ref 0]) (σ' := s2) (by decide +kernel) rfl rfl ?_
    refine g_callV (rest := []) [] hx hc mk_x_knownPaths ln_9_231 rfl (by decide +kernel) (by decide) (Nat.le_of_ble_eq_true rfl) (s_x_knownPaths (ok_b h)) (fun r3 s3 h => ?_)
    refine g_run hx [(.iload_n 1, 0, 0)] (pc' := 19) (lo' := [some (.ref 0), some (.int v1), some (.int v2), none]) (st' := [.int v1, .ref 55]) (σ' := s3) (by decide +kernel) rfl rfl ?_
    refine g_callV (rest := []) [.int v1] hx hc mk_paths_comeStrides ln_9_235 rfl (by decide +kernel) (by decide) (Nat.le_of_ble_eq_true rfl) (s_paths_comeStrides (ok_b h)) (fun r4 s4 h => ?_)
    refine g_run hx [(.istore_n 3, 0, 0), (.aload_n 0, 0, 0), (.iload_n 2, 0, 0)] (pc' := 25) (lo' := [some (.ref 0), some (.int v1), some (.int v2), some (.int r4)]) (st' := [.int v2, .ref 0]) (σ' := s4) (by decide +kernel) rfl rfl ?_
    refine g_if_lt hx (off := 8) (tgt := 33) (by decide +kernel) (by decide) (fun c25 => ?_) (fun c25 => ?_)
    · have h := ok_t h c25
      refine g_run hx [(.iconst 1, 1, 0)] (pc' := 34) (lo' := [some (.ref 0), some (.int v1), some (.int v2), some (.int r4)]) (st' := [.int 1, .ref 0]) (σ' := s4) (by decide +kernel) rfl rfl ?_
      refine g_goto hx (off := 4) (tgt := 38) (by decide +kernel) (by decide) ?_
      refine g_callV (rest := []) [.int 1] hx hc mk_x_granted ln_9_83 rfl (by decide +kernel) (by decide) (Nat.le_of_ble_eq_true rfl) (s_x_granted (ok_b h)) (fun r5 s5 h => ?_)
      refine g_ifb_ne hx (off := 5) (tgt := 46) (by decide +kernel) (by decide) (fun c41 => ?_) (fun c41 => ?_)
      · have h := ok_t h c41
        refine g_run hx [(.aload_n 0, 0, 0), (.getfield 56, 0, 0), (.iload_n 1, 0, 0)] (pc' := 51) (lo' := [some (.ref 0), some (.int v1), some (.int v2), some (.int r4)]) (st' := [.int v1, .ref 55]) (σ' := s5) (by decide +kernel) rfl rfl ?_
        refine g_callV (rest := []) [.int v1] hx hc mk_paths_comeRow ln_9_238 rfl (by decide +kernel) (by decide) (Nat.le_of_ble_eq_true rfl) (s_paths_comeRow (ok_b h)) (fun r6 s6 h => ?_)
        refine g_run hx [(.iload_n 3, 0, 0), (.iload_n 2, 0, 0)] (pc' := 56) (lo' := [some (.ref 0), some (.int v1), some (.int v2), some (.int r4)]) (st' := [.int v2, .int r4, .int r6]) (σ' := s6) (by decide +kernel) rfl rfl ?_
        refine g_callS (rest := []) [.int r6, .int r4, .int v2] hx hc mk_x_digitOf ln_9_241 (by decide +kernel) (by decide) (Nat.le_of_ble_eq_true rfl) (s_x_digitOf (ok_b h)) (fun r7 s7 h => ?_)
        exact g_iret hx hr rfl _ rfl (by decide +kernel) (ok_some h)
      · have h := ok_f h c41
        refine g_run hx [(.iconst (-1), (-1), 0)] (pc' := 45) (lo' := [some (.ref 0), some (.int v1), some (.int v2), some (.int r4)]) (st' := [.int (-1)]) (σ' := s5) (by decide +kernel) rfl rfl ?_
        exact g_iret hx hr rfl _ rfl (by decide +kernel) (ok_some h)
    · have h := ok_f h c25
      refine g_run hx [(.iload_n 2, 0, 0), (.iload_n 3, 0, 0)] (pc' := 30) (lo' := [some (.ref 0), some (.int v1), some (.int v2), some (.int r4)]) (st' := [.int r4, .int v2, .ref 0]) (σ' := s4) (by decide +kernel) rfl rfl ?_
      have hm : G x 38 [some (.ref 0), some (.int v1), some (.int v2), some (.int r4)] [.int (b2i (decide (¬ (v2 < r4)))), .ref 0] s4 := by
        refine g_callV (rest := []) [.int (b2i (decide (¬ (v2 < r4))))] hx hc mk_x_granted ln_9_83 rfl (by decide +kernel) (by decide) (Nat.le_of_ble_eq_true rfl) (s_x_granted (ok_b h)) (fun r8 s8 h => ?_)
        refine g_ifb_ne hx (off := 5) (tgt := 46) (by decide +kernel) (by decide) (fun c41 => ?_) (fun c41 => ?_)
        · have h := ok_t h c41
          refine g_run hx [(.aload_n 0, 0, 0), (.getfield 56, 0, 0), (.iload_n 1, 0, 0)] (pc' := 51) (lo' := [some (.ref 0), some (.int v1), some (.int v2), some (.int r4)]) (st' := [.int v1, .ref 55]) (σ' := s8) (by decide +kernel) rfl rfl ?_
          refine g_callV (rest := []) [.int v1] hx hc mk_paths_comeRow ln_9_238 rfl (by decide +kernel) (by decide) (Nat.le_of_ble_eq_true rfl) (s_paths_comeRow (ok_b h)) (fun r9 s9 h => ?_)
          refine g_run hx [(.iload_n 3, 0, 0), (.iload_n 2, 0, 0)] (pc' := 56) (lo' := [some (.ref 0), some (.int v1), some (.int v2), some (.int r4)]) (st' := [.int v2, .int r4, .int r9]) (σ' := s9) (by decide +kernel) rfl rfl ?_
          refine g_callS (rest := []) [.int r9, .int r4, .int v2] hx hc mk_x_digitOf ln_9_241 (by decide +kernel) (by decide) (Nat.le_of_ble_eq_true rfl) (s_x_digitOf (ok_b h)) (fun r10 s10 h => ?_)
          exact g_iret hx hr rfl _ rfl (by decide +kernel) (ok_some h)
        · have h := ok_f h c41
          refine g_run hx [(.iconst (-1), (-1), 0)] (pc' := 45) (lo' := [some (.ref 0), some (.int v1), some (.int v2), some (.int r4)]) (st' := [.int (-1)]) (σ' := s8) (by decide +kernel) rfl rfl ?_
          exact g_iret hx hr rfl _ rfl (by decide +kernel) (ok_some h)
      refine g_ic_lt hx (off := 7) (tgt := 37) (by decide +kernel) (by decide) (fun c30 => ?_) (fun c30 => ?_)
      · refine g_run hx [(.iconst 0, 0, 0)] (pc' := 38) (lo' := [some (.ref 0), some (.int v1), some (.int v2), some (.int r4)]) (st' := [.int 0, .ref 0]) (σ' := s4) (by decide +kernel) rfl rfl ?_
        exact g_bf (fun z => z c30) hm
      · refine g_run hx [(.iconst 1, 1, 0)] (pc' := 34) (lo' := [some (.ref 0), some (.int v1), some (.int v2), some (.int r4)]) (st' := [.int 1, .ref 0]) (σ' := s4) (by decide +kernel) rfl rfl ?_
        refine g_goto hx (off := 4) (tgt := 38) (by decide +kernel) (by decide) ?_
        exact g_bt c30 hm
  · have h := ok_f h c9
    refine g_run hx [(.iconst (-1), (-1), 0)] (pc' := 13) (lo' := [some (.ref 0), some (.int v1), some (.int v2), none]) (st' := [.int (-1)]) (σ' := s2) (by decide +kernel) rfl rfl ?_
    exact g_iret hx hr rfl _ rfl (by decide +kernel) (ok_some h)
def f_x_wayTrouble (N : Nat) (v0 : Int32) (σ : Sg) : Option (Int32 × Sg) :=
  if v0 < 0 then
    some (2, σ)
  else
    if v0 ≤ 1 then
      some (0, σ)
    else
      some (2, σ)
set_option maxRecDepth 100000 in
theorem s_x_wayTrouble {y : EX} {N : Nat} {v0 : Int32} {σ : Sg} {P : Int32 × Sg → Prop} (h : ok (f_x_wayTrouble N v0 σ) P) : Ev y M_x_wayTrouble 0 [.int v0] σ rvI P := by
  refine Ev.of mk_x_wayTrouble (Nat.le_of_ble_eq_true rfl) (fun x hx hc hr => ?_)
  have hx : Cx 9 prog_1_method_68_code x := hx
  have hc : Cc y 1 0 x := hc
  show G x 0 [some (.int v0)] [] σ
  unfold f_x_wayTrouble at h
  refine g_run hx [(.iload_n 0, 0, 0)] (pc' := 1) (lo' := [some (.int v0)]) (st' := [.int v0]) (σ' := σ) (by decide +kernel) rfl rfl ?_
  refine g_if_lt hx (off := 8) (tgt := 9) (by decide +kernel) (by decide) (fun c1 => ?_) (fun c1 => ?_)
  · have h := ok_t h c1
    refine g_run hx [(.iconst 2, 2, 0)] (pc' := 10) (lo' := [some (.int v0)]) (st' := [.int 2]) (σ' := σ) (by decide +kernel) rfl rfl ?_
    refine g_goto hx (off := 4) (tgt := 14) (by decide +kernel) (by decide) ?_
    exact g_iret hx hr rfl _ rfl (by decide +kernel) (ok_some h)
  · have h := ok_f h c1
    refine g_run hx [(.iload_n 0, 0, 0), (.iconst 1, 1, 0)] (pc' := 6) (lo' := [some (.int v0)]) (st' := [.int 1, .int v0]) (σ' := σ) (by decide +kernel) rfl rfl ?_
    refine g_ic_le hx (off := 7) (tgt := 13) (by decide +kernel) (by decide) (fun c6 => ?_) (fun c6 => ?_)
    · have h := ok_t h c6
      refine g_run hx [(.iconst 0, 0, 0)] (pc' := 14) (lo' := [some (.int v0)]) (st' := [.int 0]) (σ' := σ) (by decide +kernel) rfl rfl ?_
      exact g_iret hx hr rfl _ rfl (by decide +kernel) (ok_some h)
    · have h := ok_f h c6
      refine g_run hx [(.iconst 2, 2, 0)] (pc' := 10) (lo' := [some (.int v0)]) (st' := [.int 2]) (σ' := σ) (by decide +kernel) rfl rfl ?_
      refine g_goto hx (off := 4) (tgt := 14) (by decide +kernel) (by decide) ?_
      exact g_iret hx hr rfl _ rfl (by decide +kernel) (ok_some h)
def f_x_strideTrouble (N : Nat) (v1 : Int32) (v2 : Int32) (σ : Sg) : Option (Int32 × Sg) :=
  (f_x_bootsTrouble N v1 σ).bind fun q1 =>
  if q1.1 = 0 then
    (f_x_wayTrouble N v2 q1.2).bind fun q2 =>
    some (q2.1, q2.2)
  else
    some (1, q1.2)
set_option maxRecDepth 100000 in
theorem s_x_strideTrouble {y : EX} {N : Nat} {v1 : Int32} {v2 : Int32} {σ : Sg} {P : Int32 × Sg → Prop} (h : ok (f_x_strideTrouble N v1 v2 σ) P) : Ev y M_x_strideTrouble 1 [.ref 0, .int v1, .int v2] σ rvI P := by
  refine Ev.of mk_x_strideTrouble (Nat.le_of_ble_eq_true rfl) (fun x hx hc hr => ?_)
  have hx : Cx 9 prog_1_method_69_code x := hx
  have hc : Cc y 3 1 x := hc
  show G x 0 [some (.ref 0), some (.int v1), some (.int v2)] [] σ
  unfold f_x_strideTrouble at h
  refine g_run hx [(.aload_n 0, 0, 0), (.iload_n 1, 0, 0)] (pc' := 2) (lo' := [some (.ref 0), some (.int v1), some (.int v2)]) (st' := [.int v1, .ref 0]) (σ' := σ) (by decide +kernel) rfl rfl ?_
  refine g_callV (rest := []) [.int v1] hx hc mk_x_bootsTrouble ln_9_152 rfl (by decide +kernel) (by decide) (Nat.le_of_ble_eq_true rfl) (s_x_bootsTrouble (ok_b h)) (fun r1 s1 h => ?_)
  refine g_if_eq hx (off := 7) (tgt := 12) (by decide +kernel) (by decide) (fun c5 => ?_) (fun c5 => ?_)
  · have h := ok_t h c5
    refine g_run hx [(.iload_n 2, 0, 0)] (pc' := 13) (lo' := [some (.ref 0), some (.int v1), some (.int v2)]) (st' := [.int v2]) (σ' := s1) (by decide +kernel) rfl rfl ?_
    refine g_callS (rest := []) [.int v2] hx hc mk_x_wayTrouble ln_9_350 (by decide +kernel) (by decide) (Nat.le_of_ble_eq_true rfl) (s_x_wayTrouble (ok_b h)) (fun r2 s2 h => ?_)
    exact g_iret hx hr rfl _ rfl (by decide +kernel) (ok_some h)
  · have h := ok_f h c5
    refine g_run hx [(.iconst 1, 1, 0)] (pc' := 9) (lo' := [some (.ref 0), some (.int v1), some (.int v2)]) (st' := [.int 1]) (σ' := s1) (by decide +kernel) rfl rfl ?_
    refine g_goto hx (off := 7) (tgt := 16) (by decide +kernel) (by decide) ?_
    exact g_iret hx hr rfl _ rfl (by decide +kernel) (ok_some h)
def f_x_digitFor (N : Nat) (v0 : Int32) (v1 : Int32) (σ : Sg) : Option (Int32 × Sg) :=
  some ((((2 * v0) + 1) + v1), σ)
set_option maxRecDepth 100000 in
theorem s_x_digitFor {y : EX} {N : Nat} {v0 : Int32} {v1 : Int32} {σ : Sg} {P : Int32 × Sg → Prop} (h : ok (f_x_digitFor N v0 v1 σ) P) : Ev y M_x_digitFor 0 [.int v0, .int v1] σ rvI P := by
  refine Ev.of mk_x_digitFor (Nat.le_of_ble_eq_true rfl) (fun x hx hc hr => ?_)
  have hx : Cx 9 prog_1_method_80_code x := hx
  have hc : Cc y 2 0 x := hc
  show G x 0 [some (.int v0), some (.int v1)] [] σ
  unfold f_x_digitFor at h
  refine g_run hx [(.iconst 2, 2, 0), (.iload_n 0, 0, 0), (.imul, 0, 0), (.iconst 1, 1, 0), (.iadd, 0, 0), (.iload_n 1, 0, 0), (.iadd, 0, 0)] (pc' := 7) (lo' := [some (.int v0), some (.int v1)]) (st' := [.int (((2 * v0) + 1) + v1)]) (σ' := σ) (by decide +kernel) rfl rfl ?_
  exact g_iret hx hr rfl _ rfl (by decide +kernel) (ok_some h)
def f_x_targetNow (N : Nat) (v1 : Int32) (v2 : Int32) (σ : Sg) : Option (Int32 × Sg) :=
  (f_state_goneCells N 40 σ).bind fun q1 =>
  (f_x_digitFor N v1 v2 q1.2).bind fun q2 =>
  (f_country_target N 11 3 12 10 q1.1 (gI q1.2 40 2) q2.1 q2.2).bind fun q3 =>
  some (q3.1, q3.2)
set_option maxRecDepth 100000 in
theorem s_x_targetNow {y : EX} {N : Nat} {v1 : Int32} {v2 : Int32} {σ : Sg} {P : Int32 × Sg → Prop} (h : ok (f_x_targetNow N v1 v2 σ) P) : Ev y M_x_targetNow 2 [.ref 0, .int v1, .int v2] σ rvI P := by
  refine Ev.of mk_x_targetNow (Nat.le_of_ble_eq_true rfl) (fun x hx hc hr => ?_)
  have hx : Cx 9 prog_1_method_73_code x := hx
  have hc : Cc y 3 2 x := hc
  show G x 0 [some (.ref 0), some (.int v1), some (.int v2)] [] σ
  unfold f_x_targetNow at h
  refine g_run hx [(.aload_n 0, 0, 0), (.getfield 19, 0, 0), (.aload_n 0, 0, 0), (.getfield 26, 0, 0)] (pc' := 8) (lo' := [some (.ref 0), some (.int v1), some (.int v2)]) (st' := [.ref 40, .ref 10]) (σ' := σ) (by decide +kernel) rfl rfl ?_
  refine g_callV (rest := [.ref 10]) [] hx hc mk_state_goneCells ln_9_144 rfl (by decide +kernel) (by decide) (Nat.le_of_ble_eq_true rfl) (s_state_goneCells_40 (ok_b h)) (fun r1 s1 h => ?_)
  refine g_run hx [(.aload_n 0, 0, 0), (.getfield 26, 0, 0), (.getfield 123, 0, 0), (.iload_n 1, 0, 0), (.iload_n 2, 0, 0)] (pc' := 20) (lo' := [some (.ref 0), some (.int v1), some (.int v2)]) (st' := [.int v2, .int v1, .int (gI s1 40 2), .long r1, .ref 10]) (σ' := s1) (by decide +kernel) rfl rfl ?_
  refine g_callS (rest := [.int (gI s1 40 2), .long r1, .ref 10]) [.int v1, .int v2] hx hc mk_x_digitFor ln_9_347 (by decide +kernel) (by decide) (Nat.le_of_ble_eq_true rfl) (s_x_digitFor (ok_b h)) (fun r2 s2 h => ?_)
  refine g_callV (rest := []) [.long r1, .int (gI s1 40 2), .int r2] hx hc mk_country_target ln_9_390 rfl (by decide +kernel) (by decide) (Nat.le_of_ble_eq_true rfl) (s_country_target_10 (ok_b h)) (fun r3 s3 h => ?_)
  exact g_iret hx hr rfl _ rfl (by decide +kernel) (ok_some h)
def f_x_costs (N : Nat) (v1 : Int32) (v2 : Int32) (σ : Sg) : Option (Int32 × Sg) :=
  (f_x_strideTrouble N v1 v2 σ).bind fun q1 =>
  (f_x_granted N q1.1 q1.2).bind fun q2 =>
  if q2.1 = true then
    (f_x_targetNow N v1 v2 q2.2).bind fun q3 =>
    if q3.1 = (-2) then
      some ((-2), q3.2)
    else
      (f_x_inside N (gI q3.2 40 2) q3.1 q3.2).bind fun q4 =>
      (f_state_goneCells N 40 q4.2).bind fun q5 =>
      (f_country_lostFolk N (q4.1 &&& (q5.1 ^^^ (-1))) q5.2).bind fun q6 =>
      some (q6.1, q6.2)
  else
    some ((-1), q2.2)
set_option maxRecDepth 100000 in
theorem s_x_costs {y : EX} {N : Nat} {v1 : Int32} {v2 : Int32} {σ : Sg} {P : Int32 × Sg → Prop} (h : ok (f_x_costs N v1 v2 σ) P) : Ev y M_x_costs 3 [.ref 0, .int v1, .int v2] σ rvI P := by
  refine Ev.of mk_x_costs (Nat.le_of_ble_eq_true rfl) (fun x hx hc hr => ?_)
  have hx : Cx 9 prog_1_method_25_code x := hx
  have hc : Cc y 4 3 x := hc
  show G x 0 [some (.ref 0), some (.int v1), some (.int v2), none] [] σ
  unfold f_x_costs at h
  refine g_run hx [(.aload_n 0, 0, 0), (.aload_n 0, 0, 0), (.iload_n 1, 0, 0), (.iload_n 2, 0, 0)] (pc' := 4) (lo' := [some (.ref 0), some (.int v1), some (.int v2), none]) (st' := [.int v2, .int v1, .ref 0, .ref 0]) (σ' := σ) (by decide +kernel) rfl rfl ?_
  refine g_callV (rest := [.ref 0]) [.int v1, .int v2] hx hc mk_x_strideTrouble ln_9_215 rfl (by decide +kernel) (by decide) (Nat.le_of_ble_eq_true rfl) (s_x_strideTrouble (ok_b h)) (fun r1 s1 h => ?_)
  refine g_callV (rest := []) [.int r1] hx hc mk_x_granted ln_9_83 rfl (by decide +kernel) (by decide) (Nat.le_of_ble_eq_true rfl) (s_x_granted (ok_b h)) (fun r2 s2 h => ?_)
  refine g_ifb_ne hx (off := 5) (tgt := 15) (by decide +kernel) (by decide) (fun c10 => ?_) (fun c10 => ?_)
  · have h := ok_t h c10
    refine g_run hx [(.aload_n 0, 0, 0), (.iload_n 1, 0, 0), (.iload_n 2, 0, 0)] (pc' := 18) (lo' := [some (.ref 0), some (.int v1), some (.int v2), none]) (st' := [.int v2, .int v1, .ref 0]) (σ' := s2) (by decide +kernel) rfl rfl ?_
    refine g_callV (rest := []) [.int v1, .int v2] hx hc mk_x_targetNow ln_9_218 rfl (by decide +kernel) (by decide) (Nat.le_of_ble_eq_true rfl) (s_x_targetNow (ok_b h)) (fun r3 s3 h => ?_)
    refine g_run hx [(.istore_n 3, 0, 0), (.iload_n 3, 0, 0), (.bipush (-2), (-2), 0)] (pc' := 25) (lo' := [some (.ref 0), some (.int v1), some (.int v2), some (.int r3)]) (st' := [.int (-2), .int r3]) (σ' := s3) (by decide +kernel) rfl rfl ?_
    refine g_ic_ne hx (off := 8) (tgt := 33) (by decide +kernel) (by decide) (fun c25 => ?_) (fun c25 => ?_)
    · have h := ok_f h c25
      refine g_run hx [(.aload_n 0, 0, 0), (.getfield 19, 0, 0), (.aload_n 0, 0, 0), (.getfield 26, 0, 0), (.getfield 123, 0, 0), (.iload_n 3, 0, 0)] (pc' := 45) (lo' := [some (.ref 0), some (.int v1), some (.int v2), some (.int r3)]) (st' := [.int r3, .int (gI s3 40 2), .ref 10]) (σ' := s3) (by decide +kernel) rfl rfl ?_
      refine g_callS (rest := [.ref 10]) [.int (gI s3 40 2), .int r3] hx hc mk_x_inside ln_9_221 (by decide +kernel) (by decide) (Nat.le_of_ble_eq_true rfl) (s_x_inside (ok_b h)) (fun r4 s4 h => ?_)
      refine g_run hx [(.aload_n 0, 0, 0), (.getfield 26, 0, 0)] (pc' := 52) (lo' := [some (.ref 0), some (.int v1), some (.int v2), some (.int r3)]) (st' := [.ref 40, .long r4, .ref 10]) (σ' := s4) (by decide +kernel) rfl rfl ?_
      refine g_callV (rest := [.long r4, .ref 10]) [] hx hc mk_state_goneCells ln_9_144 rfl (by decide +kernel) (by decide) (Nat.le_of_ble_eq_true rfl) (s_state_goneCells_40 (ok_b h)) (fun r5 s5 h => ?_)
      refine g_run hx [(.ldc2_w 174, 0, (-1)), (.lxor, 0, 0), (.land, 0, 0)] (pc' := 60) (lo' := [some (.ref 0), some (.int v1), some (.int v2), some (.int r3)]) (st' := [.long (r4 &&& (r5 ^^^ (-1))), .ref 10]) (σ' := s5) (by decide +kernel) rfl rfl ?_
      refine g_callV (rest := []) [.long (r4 &&& (r5 ^^^ (-1)))] hx hc mk_country_lostFolk ln_9_168 rfl (by decide +kernel) (by decide) (Nat.le_of_ble_eq_true rfl) (s_country_lostFolk (ok_b h)) (fun r6 s6 h => ?_)
      exact g_iret hx hr rfl _ rfl (by decide +kernel) (ok_some h)
    · have h := ok_t h c25
      refine g_run hx [(.bipush (-2), (-2), 0)] (pc' := 30) (lo' := [some (.ref 0), some (.int v1), some (.int v2), some (.int r3)]) (st' := [.int (-2)]) (σ' := s3) (by decide +kernel) rfl rfl ?_
      refine g_goto hx (off := 33) (tgt := 63) (by decide +kernel) (by decide) ?_
      exact g_iret hx hr rfl _ rfl (by decide +kernel) (ok_some h)
  · have h := ok_f h c10
    refine g_run hx [(.iconst (-1), (-1), 0)] (pc' := 14) (lo' := [some (.ref 0), some (.int v1), some (.int v2), none]) (st' := [.int (-1)]) (σ' := s2) (by decide +kernel) rfl rfl ?_
    exact g_iret hx hr rfl _ rfl (by decide +kernel) (ok_some h)
def f_country_inSomeFit_L9 (N : Nat) : Nat → Int32 → Int32 → Int32 → Sg → Option (Int32 × Sg)
  | 0, _, _, _, _ => none
  | n + 1, v1, v2, v3, σ =>
    if 16 ≤ v3 then
      some (v2, σ)
    else
      (f_x_bit N (Int32.toInt64 v1) v3 σ).bind fun q2 =>
      if q2.1 = true then
        f_country_inSomeFit_L9 N n v1 (v2 ||| v3) (v3 + 1) q2.2
      else
        f_country_inSomeFit_L9 N n v1 v2 (v3 + 1) q2.2
def f_country_inSomeFit (N : Nat) (σ : Sg) : Option (Int32 × Sg) :=
  (f_country_fittingSets N σ).bind fun q1 =>
  f_country_inSomeFit_L9 N N q1.1 0 0 q1.2
set_option maxRecDepth 100000 in
theorem s_country_inSomeFit_L9 {y : EX} {N : Nat} {x : CX} {P : Int32 × Sg → Prop} (hx : Cx 1 prog_3_method_22_code x) (hc : Cc y 4 5 x) (hr : Cr M_country_inSomeFit rvI P x) : ∀ (n : Nat) (v1 : Int32) (v2 : Int32) (v3 : Int32) (σ : Sg), ok (f_country_inSomeFit_L9 N n v1 v2 v3 σ) P → G x 9 [none, some (.int v1), some (.int v2), some (.int v3)] [] σ := by
  intro n
  induction n with
  | zero => intro v1 v2 v3 σ h; exact ok_none h
  | succ n ih =>
    intro v1 v2 v3 σ h
    rw [f_country_inSomeFit_L9] at h
    refine g_run hx [(.iload_n 3, 0, 0), (.bipush 16, 16, 0)] (pc' := 12) (lo' := [none, some (.int v1), some (.int v2), some (.int v3)]) (st' := [.int 16, .int v3]) (σ' := σ) (by decide +kernel) rfl rfl ?_
    refine g_ic_ge hx (off := 22) (tgt := 34) (by decide +kernel) (by decide) (fun c12 => ?_) (fun c12 => ?_)
    · have h := ok_t h c12
      refine g_run hx [(.iload_n 2, 0, 0)] (pc' := 35) (lo' := [none, some (.int v1), some (.int v2), some (.int v3)]) (st' := [.int v2]) (σ' := σ) (by decide +kernel) rfl rfl ?_
      exact g_iret hx hr rfl _ rfl (by decide +kernel) (ok_some h)
    · have h := ok_f h c12
      refine g_run hx [(.iload_n 1, 0, 0), (.i2l, 0, 0), (.iload_n 3, 0, 0)] (pc' := 18) (lo' := [none, some (.int v1), some (.int v2), some (.int v3)]) (st' := [.int v3, .long (Int32.toInt64 v1)]) (σ' := σ) (by decide +kernel) rfl rfl ?_
      refine g_callN (rest := []) [.long (Int32.toInt64 v1), .int v3] hx hc mk_x_bit ln_1_73 (by decide +kernel) (by decide) (Nat.le_of_ble_eq_true rfl) (s_x_bit (ok_b h)) (fun r2 s2 h => ?_)
      refine g_ifb_eq hx (off := 7) (tgt := 28) (by decide +kernel) (by decide) (fun c21 => ?_) (fun c21 => ?_)
      · have h := ok_f h c21
        refine g_run hx [(.iinc 3 1, 1, 0)] (pc' := 31) (lo' := [none, some (.int v1), some (.int v2), some (.int (v3 + 1))]) (st' := []) (σ' := s2) (by decide +kernel) rfl rfl ?_
        refine g_goto hx (off := (-22)) (tgt := 9) (by decide +kernel) (by decide) ?_
        exact ih _ _ _ _ h
      · have h := ok_t h c21
        refine g_run hx [(.iload_n 2, 0, 0), (.iload_n 3, 0, 0), (.ior, 0, 0), (.istore_n 2, 0, 0), (.iinc 3 1, 1, 0)] (pc' := 31) (lo' := [none, some (.int v1), some (.int (v2 ||| v3)), some (.int (v3 + 1))]) (st' := []) (σ' := s2) (by decide +kernel) rfl rfl ?_
        refine g_goto hx (off := (-22)) (tgt := 9) (by decide +kernel) (by decide) ?_
        exact ih _ _ _ _ h
set_option maxRecDepth 100000 in
theorem s_country_inSomeFit {y : EX} {N : Nat} {σ : Sg} {P : Int32 × Sg → Prop} (h : ok (f_country_inSomeFit N σ) P) : Ev y M_country_inSomeFit 5 [.ref 10] σ rvI P := by
  refine Ev.of mk_country_inSomeFit (Nat.le_of_ble_eq_true rfl) (fun x hx hc hr => ?_)
  have hx : Cx 1 prog_3_method_22_code x := hx
  have hc : Cc y 4 5 x := hc
  show G x 0 [some (.ref 10), none, none, none] [] σ
  unfold f_country_inSomeFit at h
  refine g_run hx [(.aload_n 0, 0, 0)] (pc' := 1) (lo' := [some (.ref 10), none, none, none]) (st' := [.ref 10]) (σ' := σ) (by decide +kernel) rfl rfl ?_
  refine g_callV (rest := []) [] hx hc mk_country_fittingSets ln_1_116 rfl (by decide +kernel) (by decide) (Nat.le_of_ble_eq_true rfl) (s_country_fittingSets (ok_b h)) (fun r1 s1 h => ?_)
  refine g_run hx [(.istore_n 1, 0, 0), (.iconst 0, 0, 0), (.istore_n 2, 0, 0), (.iconst 0, 0, 0), (.istore_n 3, 0, 0)] (pc' := 9) (lo' := [some (.ref 10), some (.int r1), some (.int 0), some (.int 0)]) (st' := []) (σ' := s1) (by decide +kernel) rfl rfl ?_
  refine g_wk (lo' := [none, some (.int r1), some (.int 0), some (.int 0)]) ⟨rfl, ⟨rfl, ⟨rfl, trivial⟩⟩⟩ ?_
  refine s_country_inSomeFit_L9 hx hc hr N _ _ _ _ h
def f_x_could (N : Nat) (σ : Sg) : Option (Int32 × Sg) :=
  (f_x_landTrouble N σ).bind fun q1 =>
  (f_x_granted N q1.1 q1.2).bind fun q2 =>
  if q2.1 = true then
    (f_country_inSomeFit N q2.2).bind fun q3 =>
    some (q3.1, q3.2)
  else
    some ((-1), q2.2)
set_option maxRecDepth 100000 in
theorem s_x_could {y : EX} {N : Nat} {σ : Sg} {P : Int32 × Sg → Prop} (h : ok (f_x_could N σ) P) : Ev y M_x_could 6 [.ref 0] σ rvI P := by
  refine Ev.of mk_x_could (Nat.le_of_ble_eq_true rfl) (fun x hx hc hr => ?_)
  have hx : Cx 9 prog_1_method_42_code x := hx
  have hc : Cc y 1 6 x := hc
  show G x 0 [some (.ref 0)] [] σ
  unfold f_x_could at h
  refine g_run hx [(.aload_n 0, 0, 0), (.aload_n 0, 0, 0)] (pc' := 2) (lo' := [some (.ref 0)]) (st' := [.ref 0, .ref 0]) (σ' := σ) (by decide +kernel) rfl rfl ?_
  refine g_callV (rest := [.ref 0]) [] hx hc mk_x_landTrouble ln_9_158 rfl (by decide +kernel) (by decide) (Nat.le_of_ble_eq_true rfl) (s_x_landTrouble (ok_b h)) (fun r1 s1 h => ?_)
  refine g_callV (rest := []) [.int r1] hx hc mk_x_granted ln_9_83 rfl (by decide +kernel) (by decide) (Nat.le_of_ble_eq_true rfl) (s_x_granted (ok_b h)) (fun r2 s2 h => ?_)
  refine g_ifb_eq hx (off := 13) (tgt := 21) (by decide +kernel) (by decide) (fun c8 => ?_) (fun c8 => ?_)
  · have h := ok_f h c8
    refine g_run hx [(.iconst (-1), (-1), 0)] (pc' := 22) (lo' := [some (.ref 0)]) (st' := [.int (-1)]) (σ' := s2) (by decide +kernel) rfl rfl ?_
    exact g_iret hx hr rfl _ rfl (by decide +kernel) (ok_some h)
  · have h := ok_t h c8
    refine g_run hx [(.aload_n 0, 0, 0), (.getfield 19, 0, 0)] (pc' := 15) (lo' := [some (.ref 0)]) (st' := [.ref 10]) (σ' := s2) (by decide +kernel) rfl rfl ?_
    refine g_callV (rest := []) [] hx hc mk_country_inSomeFit ln_9_295 rfl (by decide +kernel) (by decide) (Nat.le_of_ble_eq_true rfl) (s_country_inSomeFit (ok_b h)) (fun r3 s3 h => ?_)
    refine g_goto hx (off := 4) (tgt := 22) (by decide +kernel) (by decide) ?_
    exact g_iret hx hr rfl _ rfl (by decide +kernel) (ok_some h)
def f_x_curate (N : Nat) (σ : Sg) : Option (Int32 × Sg) :=
  (f_x_landTrouble N σ).bind fun q1 =>
  (f_x_granted N q1.1 q1.2).bind fun q2 =>
  if q2.1 = true then
    some ((gI q2.2 40 3), q2.2)
  else
    some ((-1), q2.2)
set_option maxRecDepth 100000 in
theorem s_x_curate {y : EX} {N : Nat} {σ : Sg} {P : Int32 × Sg → Prop} (h : ok (f_x_curate N σ) P) : Ev y M_x_curate 1 [.ref 0] σ rvI P := by
  refine Ev.of mk_x_curate (Nat.le_of_ble_eq_true rfl) (fun x hx hc hr => ?_)
  have hx : Cx 9 prog_1_method_10_code x := hx
  have hc : Cc y 1 1 x := hc
  show G x 0 [some (.ref 0)] [] σ
  unfold f_x_curate at h
  refine g_run hx [(.aload_n 0, 0, 0), (.aload_n 0, 0, 0)] (pc' := 2) (lo' := [some (.ref 0)]) (st' := [.ref 0, .ref 0]) (σ' := σ) (by decide +kernel) rfl rfl ?_
  refine g_callV (rest := [.ref 0]) [] hx hc mk_x_landTrouble ln_9_158 rfl (by decide +kernel) (by decide) (Nat.le_of_ble_eq_true rfl) (s_x_landTrouble (ok_b h)) (fun r1 s1 h => ?_)
  refine g_callV (rest := []) [.int r1] hx hc mk_x_granted ln_9_83 rfl (by decide +kernel) (by decide) (Nat.le_of_ble_eq_true rfl) (s_x_granted (ok_b h)) (fun r2 s2 h => ?_)
  refine g_ifb_eq hx (off := 13) (tgt := 21) (by decide +kernel) (by decide) (fun c8 => ?_) (fun c8 => ?_)
  · have h := ok_f h c8
    refine g_run hx [(.iconst (-1), (-1), 0)] (pc' := 22) (lo' := [some (.ref 0)]) (st' := [.int (-1)]) (σ' := s2) (by decide +kernel) rfl rfl ?_
    exact g_iret hx hr rfl _ rfl (by decide +kernel) (ok_some h)
  · have h := ok_t h c8
    refine g_run hx [(.aload_n 0, 0, 0), (.getfield 26, 0, 0), (.getfield 126, 0, 0)] (pc' := 18) (lo' := [some (.ref 0)]) (st' := [.int (gI s2 40 3)]) (σ' := s2) (by decide +kernel) rfl rfl ?_
    refine g_goto hx (off := 4) (tgt := 22) (by decide +kernel) (by decide) ?_
    exact g_iret hx hr rfl _ rfl (by decide +kernel) (ok_some h)
def f_state_depthOf (N : Nat) (v1 : Int64) (σ : Sg) : Option (Int32 × Sg) :=
  (f_jl_bitCount N ((gL σ 40 0) &&& v1) σ).bind fun q1 =>
  (f_jl_bitCount N ((gL q1.2 40 1) &&& v1) q1.2).bind fun q2 =>
  some ((q1.1 + (2 * q2.1)), q2.2)
set_option maxRecDepth 100000 in
theorem s_state_depthOf {y : EX} {N : Nat} {v1 : Int64} {σ : Sg} {P : Int32 × Sg → Prop} (h : ok (f_state_depthOf N v1 σ) P) : Ev y M_state_depthOf 1 [.ref 40, .long v1] σ rvI P := by
  refine Ev.of mk_state_depthOf (Nat.le_of_ble_eq_true rfl) (fun x hx hc hr => ?_)
  have hx : Cx 7 prog_9_method_6_code x := hx
  have hc : Cc y 3 1 x := hc
  show G x 0 [some (.ref 40), some (.long v1), none] [] σ
  unfold f_state_depthOf at h
  refine g_run hx [(.aload_n 0, 0, 0), (.getfield 9, 0, 0), (.lload_n 1, 0, 0), (.land, 0, 0)] (pc' := 6) (lo' := [some (.ref 40), some (.long v1), none]) (st' := [.long ((gL σ 40 0) &&& v1)]) (σ' := σ) (by decide +kernel) rfl rfl ?_
  refine g_callS (rest := []) [.long ((gL σ 40 0) &&& v1)] hx hc mk_jl_bitCount ln_7_50 (by decide +kernel) (by decide) (Nat.le_of_ble_eq_true rfl) (s_jl_bitCount (ok_b h)) (fun r1 s1 h => ?_)
  refine g_run hx [(.iconst 2, 2, 0), (.aload_n 0, 0, 0), (.getfield 15, 0, 0), (.lload_n 1, 0, 0), (.land, 0, 0)] (pc' := 16) (lo' := [some (.ref 40), some (.long v1), none]) (st' := [.long ((gL s1 40 1) &&& v1), .int 2, .int r1]) (σ' := s1) (by decide +kernel) rfl rfl ?_
  refine g_callS (rest := [.int 2, .int r1]) [.long ((gL s1 40 1) &&& v1)] hx hc mk_jl_bitCount ln_7_50 (by decide +kernel) (by decide) (Nat.le_of_ble_eq_true rfl) (s_jl_bitCount (ok_b h)) (fun r2 s2 h => ?_)
  refine g_run hx [(.imul, 0, 0), (.iadd, 0, 0)] (pc' := 21) (lo' := [some (.ref 40), some (.long v1), none]) (st' := [.int (r1 + (2 * r2))]) (σ' := s2) (by decide +kernel) rfl rfl ?_
  exact g_iret hx hr rfl _ rfl (by decide +kernel) (ok_some h)
def f_x_deep (N : Nat) (v1 : Int32) (v2 : Int32) (σ : Sg) : Option (Int32 × Sg) :=
  (f_x_pairTrouble N v1 v2 σ).bind fun q1 =>
  (f_x_granted N q1.1 q1.2).bind fun q2 =>
  if q2.1 = true then
    (f_x_span N v1 v2 q2.2).bind fun q3 =>
    (f_state_depthOf N q3.1 q3.2).bind fun q4 =>
    some (q4.1, q4.2)
  else
    some ((-1), q2.2)
set_option maxRecDepth 100000 in
theorem s_x_deep {y : EX} {N : Nat} {v1 : Int32} {v2 : Int32} {σ : Sg} {P : Int32 × Sg → Prop} (h : ok (f_x_deep N v1 v2 σ) P) : Ev y M_x_deep 2 [.ref 0, .int v1, .int v2] σ rvI P := by
  refine Ev.of mk_x_deep (Nat.le_of_ble_eq_true rfl) (fun x hx hc hr => ?_)
  have hx : Cx 9 prog_1_method_17_code x := hx
  have hc : Cc y 3 2 x := hc
  show G x 0 [some (.ref 0), some (.int v1), some (.int v2)] [] σ
  unfold f_x_deep at h
  refine g_run hx [(.aload_n 0, 0, 0), (.aload_n 0, 0, 0), (.iload_n 1, 0, 0), (.iload_n 2, 0, 0)] (pc' := 4) (lo' := [some (.ref 0), some (.int v1), some (.int v2)]) (st' := [.int v2, .int v1, .ref 0, .ref 0]) (σ' := σ) (by decide +kernel) rfl rfl ?_
  refine g_callV (rest := [.ref 0]) [.int v1, .int v2] hx hc mk_x_pairTrouble ln_9_183 rfl (by decide +kernel) (by decide) (Nat.le_of_ble_eq_true rfl) (s_x_pairTrouble (ok_b h)) (fun r1 s1 h => ?_)
  refine g_callV (rest := []) [.int r1] hx hc mk_x_granted ln_9_83 rfl (by decide +kernel) (by decide) (Nat.le_of_ble_eq_true rfl) (s_x_granted (ok_b h)) (fun r2 s2 h => ?_)
  refine g_ifb_eq hx (off := 18) (tgt := 28) (by decide +kernel) (by decide) (fun c10 => ?_) (fun c10 => ?_)
  · have h := ok_f h c10
    refine g_run hx [(.iconst (-1), (-1), 0)] (pc' := 29) (lo' := [some (.ref 0), some (.int v1), some (.int v2)]) (st' := [.int (-1)]) (σ' := s2) (by decide +kernel) rfl rfl ?_
    exact g_iret hx hr rfl _ rfl (by decide +kernel) (ok_some h)
  · have h := ok_t h c10
    refine g_run hx [(.aload_n 0, 0, 0), (.getfield 26, 0, 0), (.iload_n 1, 0, 0), (.iload_n 2, 0, 0)] (pc' := 19) (lo' := [some (.ref 0), some (.int v1), some (.int v2)]) (st' := [.int v2, .int v1, .ref 40]) (σ' := s2) (by decide +kernel) rfl rfl ?_
    refine g_callS (rest := [.ref 40]) [.int v1, .int v2] hx hc mk_x_span ln_9_187 (by decide +kernel) (by decide) (Nat.le_of_ble_eq_true rfl) (s_x_span (ok_b h)) (fun r3 s3 h => ?_)
    refine g_callV (rest := []) [.long r3] hx hc mk_state_depthOf ln_9_191 rfl (by decide +kernel) (by decide) (Nat.le_of_ble_eq_true rfl) (s_state_depthOf (ok_b h)) (fun r4 s4 h => ?_)
    refine g_goto hx (off := 4) (tgt := 29) (by decide +kernel) (by decide) ?_
    exact g_iret hx hr rfl _ rfl (by decide +kernel) (ok_some h)
def f_country_isRow_L20 (N : Nat) : Nat → Int32 → Int32 → Int32 → Sg → Option (Bool × Sg)
  | 0, _, _, _, _ => none
  | n + 1, v2, v3, v4, σ =>
    if v2 ≤ v4 then
      if v3 = 0 then
        some (true, σ)
      else
        some (false, σ)
    else
      if (v3 - v3 / 10 * 10) < 1 then
        some (false, σ)
      else
        if (v3 - v3 / 10 * 10) ≤ (2 * (gI σ 11 1)) then
          f_country_isRow_L20 N n v2 (v3 / 10) (v4 + 1) σ
        else
          some (false, σ)
def f_country_isRow (N : Nat) (v1 : Int32) (v2 : Int32) (σ : Sg) : Option (Bool × Sg) :=
  if v2 < 0 then
    some (false, σ)
  else
    if 5 < v2 then
      some (false, σ)
    else
      if 0 ≤ v1 then
        f_country_isRow_L20 N N v2 v1 0 σ
      else
        some (false, σ)
set_option maxRecDepth 100000 in
theorem s_country_isRow_L20 {y : EX} {N : Nat} {x : CX} {P : Bool × Sg → Prop} (hx : Cx 1 prog_3_method_14_code x) (hc : Cc y 6 0 x) (hr : Cr M_country_isRow rvB P x) : ∀ (n : Nat) (v2 : Int32) (v3 : Int32) (v4 : Int32) (σ : Sg), ok (f_country_isRow_L20 N n v2 v3 v4 σ) P → G x 20 [some (.ref 10), none, some (.int v2), some (.int v3), some (.int v4), none] [] σ := by
  intro n
  induction n with
  | zero => intro v2 v3 v4 σ h; exact ok_none h
  | succ n ih =>
    intro v2 v3 v4 σ h
    rw [f_country_isRow_L20] at h
    refine g_run hx [(.iload 4, 0, 0), (.iload_n 2, 0, 0)] (pc' := 23) (lo' := [some (.ref 10), none, some (.int v2), some (.int v3), some (.int v4), none]) (st' := [.int v2, .int v4]) (σ' := σ) (by decide +kernel) rfl rfl ?_
    refine g_ic_ge hx (off := 42) (tgt := 65) (by decide +kernel) (by decide) (fun c23 => ?_) (fun c23 => ?_)
    · have h := ok_t h c23
      refine g_run hx [(.iload_n 3, 0, 0)] (pc' := 66) (lo' := [some (.ref 10), none, some (.int v2), some (.int v3), some (.int v4), none]) (st' := [.int v3]) (σ' := σ) (by decide +kernel) rfl rfl ?_
      refine g_if_ne hx (off := 7) (tgt := 73) (by decide +kernel) (by decide) (fun c66 => ?_) (fun c66 => ?_)
      · have h := ok_f h c66
        refine g_run hx [(.iconst 0, 0, 0)] (pc' := 74) (lo' := [some (.ref 10), none, some (.int v2), some (.int v3), some (.int v4), none]) (st' := [.int 0]) (σ' := σ) (by decide +kernel) rfl rfl ?_
        exact g_zret (b := false) hx hr rfl false rfl (by decide +kernel) (ok_some h)
      · have h := ok_t h c66
        refine g_run hx [(.iconst 1, 1, 0)] (pc' := 70) (lo' := [some (.ref 10), none, some (.int v2), some (.int v3), some (.int v4), none]) (st' := [.int 1]) (σ' := σ) (by decide +kernel) rfl rfl ?_
        refine g_goto hx (off := 4) (tgt := 74) (by decide +kernel) (by decide) ?_
        exact g_zret (b := true) hx hr rfl true rfl (by decide +kernel) (ok_some h)
    · have h := ok_f h c23
      refine g_run hx [(.iload_n 3, 0, 0), (.bipush 10, 10, 0), (.irem, 0, 0), (.istore 5, 0, 0), (.iload 5, 0, 0), (.iconst 1, 1, 0)] (pc' := 35) (lo' := [some (.ref 10), none, some (.int v2), some (.int v3), some (.int v4), some (.int (v3 - v3 / 10 * 10))]) (st' := [.int 1, .int (v3 - v3 / 10 * 10)]) (σ' := σ) (by decide +kernel) rfl rfl ?_
      refine g_ic_lt hx (off := 17) (tgt := 52) (by decide +kernel) (by decide) (fun c35 => ?_) (fun c35 => ?_)
      · have h := ok_t h c35
        refine g_run hx [(.iconst 0, 0, 0)] (pc' := 53) (lo' := [some (.ref 10), none, some (.int v2), some (.int v3), some (.int v4), some (.int (v3 - v3 / 10 * 10))]) (st' := [.int 0]) (σ' := σ) (by decide +kernel) rfl rfl ?_
        exact g_zret (b := false) hx hr rfl false rfl (by decide +kernel) (ok_some h)
      · have h := ok_f h c35
        refine g_run hx [(.iload 5, 0, 0), (.iconst 2, 2, 0), (.aload_n 0, 0, 0), (.getfield 36, 0, 0), (.getfield 64, 0, 0), (.imul, 0, 0)] (pc' := 49) (lo' := [some (.ref 10), none, some (.int v2), some (.int v3), some (.int v4), some (.int (v3 - v3 / 10 * 10))]) (st' := [.int (2 * (gI σ 11 1)), .int (v3 - v3 / 10 * 10)]) (σ' := σ) (by decide +kernel) rfl rfl ?_
        refine g_ic_le hx (off := 5) (tgt := 54) (by decide +kernel) (by decide) (fun c49 => ?_) (fun c49 => ?_)
        · have h := ok_t h c49
          refine g_run hx [(.iload_n 3, 0, 0), (.bipush 10, 10, 0), (.idiv, 0, 0), (.istore_n 3, 0, 0), (.iinc 4 1, 1, 0)] (pc' := 62) (lo' := [some (.ref 10), none, some (.int v2), some (.int (v3 / 10)), some (.int (v4 + 1)), some (.int (v3 - v3 / 10 * 10))]) (st' := []) (σ' := σ) (by decide +kernel) rfl rfl ?_
          refine g_goto hx (off := (-42)) (tgt := 20) (by decide +kernel) (by decide) ?_
          refine g_wk (lo' := [some (.ref 10), none, some (.int v2), some (.int (v3 / 10)), some (.int (v4 + 1)), none]) ⟨rfl, ⟨rfl, ⟨rfl, ⟨rfl, trivial⟩⟩⟩⟩ ?_
          exact ih _ _ _ _ h
        · have h := ok_f h c49
          refine g_run hx [(.iconst 0, 0, 0)] (pc' := 53) (lo' := [some (.ref 10), none, some (.int v2), some (.int v3), some (.int v4), some (.int (v3 - v3 / 10 * 10))]) (st' := [.int 0]) (σ' := σ) (by decide +kernel) rfl rfl ?_
          exact g_zret (b := false) hx hr rfl false rfl (by decide +kernel) (ok_some h)
set_option maxRecDepth 100000 in
theorem s_country_isRow {y : EX} {N : Nat} {v1 : Int32} {v2 : Int32} {σ : Sg} {P : Bool × Sg → Prop} (h : ok (f_country_isRow N v1 v2 σ) P) : Ev y M_country_isRow 0 [.ref 10, .int v1, .int v2] σ rvB P := by
  refine Ev.of mk_country_isRow (Nat.le_of_ble_eq_true rfl) (fun x hx hc hr => ?_)
  have hx : Cx 1 prog_3_method_14_code x := hx
  have hc : Cc y 6 0 x := hc
  show G x 0 [some (.ref 10), some (.int v1), some (.int v2), none, none, none] [] σ
  unfold f_country_isRow at h
  refine g_run hx [(.iload_n 2, 0, 0)] (pc' := 1) (lo' := [some (.ref 10), some (.int v1), some (.int v2), none, none, none]) (st' := [.int v2]) (σ' := σ) (by decide +kernel) rfl rfl ?_
  refine g_if_lt hx (off := 12) (tgt := 13) (by decide +kernel) (by decide) (fun c1 => ?_) (fun c1 => ?_)
  · have h := ok_t h c1
    refine g_run hx [(.iconst 0, 0, 0)] (pc' := 14) (lo' := [some (.ref 10), some (.int v1), some (.int v2), none, none, none]) (st' := [.int 0]) (σ' := σ) (by decide +kernel) rfl rfl ?_
    exact g_zret (b := false) hx hr rfl false rfl (by decide +kernel) (ok_some h)
  · have h := ok_f h c1
    refine g_run hx [(.iload_n 2, 0, 0), (.iconst 5, 5, 0)] (pc' := 6) (lo' := [some (.ref 10), some (.int v1), some (.int v2), none, none, none]) (st' := [.int 5, .int v2]) (σ' := σ) (by decide +kernel) rfl rfl ?_
    refine g_ic_gt hx (off := 7) (tgt := 13) (by decide +kernel) (by decide) (fun c6 => ?_) (fun c6 => ?_)
    · have h := ok_t h c6
      refine g_run hx [(.iconst 0, 0, 0)] (pc' := 14) (lo' := [some (.ref 10), some (.int v1), some (.int v2), none, none, none]) (st' := [.int 0]) (σ' := σ) (by decide +kernel) rfl rfl ?_
      exact g_zret (b := false) hx hr rfl false rfl (by decide +kernel) (ok_some h)
    · have h := ok_f h c6
      refine g_run hx [(.iload_n 1, 0, 0)] (pc' := 10) (lo' := [some (.ref 10), some (.int v1), some (.int v2), none, none, none]) (st' := [.int v1]) (σ' := σ) (by decide +kernel) rfl rfl ?_
      refine g_if_ge hx (off := 5) (tgt := 15) (by decide +kernel) (by decide) (fun c10 => ?_) (fun c10 => ?_)
      · have h := ok_t h c10
        refine g_run hx [(.iload_n 1, 0, 0), (.istore_n 3, 0, 0), (.iconst 0, 0, 0), (.istore 4, 0, 0)] (pc' := 20) (lo' := [some (.ref 10), some (.int v1), some (.int v2), some (.int v1), some (.int 0), none]) (st' := []) (σ' := σ) (by decide +kernel) rfl rfl ?_
        refine g_wk (lo' := [some (.ref 10), none, some (.int v2), some (.int v1), some (.int 0), none]) ⟨rfl, ⟨rfl, ⟨rfl, ⟨rfl, trivial⟩⟩⟩⟩ ?_
        refine s_country_isRow_L20 hx hc hr N _ _ _ _ h
      · have h := ok_f h c10
        refine g_run hx [(.iconst 0, 0, 0)] (pc' := 14) (lo' := [some (.ref 10), some (.int v1), some (.int v2), none, none, none]) (st' := [.int 0]) (σ' := σ) (by decide +kernel) rfl rfl ?_
        exact g_zret (b := false) hx hr rfl false rfl (by decide +kernel) (ok_some h)
def f_x_rowTrouble (N : Nat) (v1 : Int32) (v2 : Int32) (σ : Sg) : Option (Int32 × Sg) :=
  (f_x_landTrouble N σ).bind fun q1 =>
  if q1.1 = 0 then
    (f_country_isRow N v1 v2 q1.2).bind fun q2 =>
    if q2.1 = true then
      some (0, q2.2)
    else
      some (2, q2.2)
  else
    some (1, q1.2)
set_option maxRecDepth 100000 in
theorem s_x_rowTrouble {y : EX} {N : Nat} {v1 : Int32} {v2 : Int32} {σ : Sg} {P : Int32 × Sg → Prop} (h : ok (f_x_rowTrouble N v1 v2 σ) P) : Ev y M_x_rowTrouble 1 [.ref 0, .int v1, .int v2] σ rvI P := by
  refine Ev.of mk_x_rowTrouble (Nat.le_of_ble_eq_true rfl) (fun x hx hc hr => ?_)
  have hx : Cx 9 prog_1_method_71_code x := hx
  have hc : Cc y 3 1 x := hc
  show G x 0 [some (.ref 0), some (.int v1), some (.int v2)] [] σ
  unfold f_x_rowTrouble at h
  refine g_run hx [(.aload_n 0, 0, 0)] (pc' := 1) (lo' := [some (.ref 0), some (.int v1), some (.int v2)]) (st' := [.ref 0]) (σ' := σ) (by decide +kernel) rfl rfl ?_
  refine g_callV (rest := []) [] hx hc mk_x_landTrouble ln_9_158 rfl (by decide +kernel) (by decide) (Nat.le_of_ble_eq_true rfl) (s_x_landTrouble (ok_b h)) (fun r1 s1 h => ?_)
  refine g_if_eq hx (off := 7) (tgt := 11) (by decide +kernel) (by decide) (fun c4 => ?_) (fun c4 => ?_)
  · have h := ok_t h c4
    refine g_run hx [(.aload_n 0, 0, 0), (.getfield 19, 0, 0), (.iload_n 1, 0, 0), (.iload_n 2, 0, 0)] (pc' := 17) (lo' := [some (.ref 0), some (.int v1), some (.int v2)]) (st' := [.int v2, .int v1, .ref 10]) (σ' := s1) (by decide +kernel) rfl rfl ?_
    refine g_callV (rest := []) [.int v1, .int v2] hx hc mk_country_isRow ln_9_387 rfl (by decide +kernel) (by decide) (Nat.le_of_ble_eq_true rfl) (s_country_isRow (ok_b h)) (fun r2 s2 h => ?_)
    refine g_ifb_eq hx (off := 7) (tgt := 27) (by decide +kernel) (by decide) (fun c20 => ?_) (fun c20 => ?_)
    · have h := ok_f h c20
      refine g_run hx [(.iconst 2, 2, 0)] (pc' := 28) (lo' := [some (.ref 0), some (.int v1), some (.int v2)]) (st' := [.int 2]) (σ' := s2) (by decide +kernel) rfl rfl ?_
      exact g_iret hx hr rfl _ rfl (by decide +kernel) (ok_some h)
    · have h := ok_t h c20
      refine g_run hx [(.iconst 0, 0, 0)] (pc' := 24) (lo' := [some (.ref 0), some (.int v1), some (.int v2)]) (st' := [.int 0]) (σ' := s2) (by decide +kernel) rfl rfl ?_
      refine g_goto hx (off := 4) (tgt := 28) (by decide +kernel) (by decide) ?_
      exact g_iret hx hr rfl _ rfl (by decide +kernel) (ok_some h)
  · have h := ok_f h c4
    refine g_run hx [(.iconst 1, 1, 0)] (pc' := 8) (lo' := [some (.ref 0), some (.int v1), some (.int v2)]) (st' := [.int 1]) (σ' := s1) (by decide +kernel) rfl rfl ?_
    refine g_goto hx (off := 20) (tgt := 28) (by decide +kernel) (by decide) ?_
    exact g_iret hx hr rfl _ rfl (by decide +kernel) (ok_some h)
def f_x_numberTrouble (N : Nat) (v1 : Int32) (v2 : Int32) (σ : Sg) : Option (Int32 × Sg) :=
  (f_x_landTrouble N σ).bind fun q1 =>
  if q1.1 = 0 then
    if v1 < 0 then
      some (2, q1.2)
    else
      if v1 ≤ v2 then
        some (0, q1.2)
      else
        some (2, q1.2)
  else
    some (1, q1.2)
set_option maxRecDepth 100000 in
theorem s_x_numberTrouble {y : EX} {N : Nat} {v1 : Int32} {v2 : Int32} {σ : Sg} {P : Int32 × Sg → Prop} (h : ok (f_x_numberTrouble N v1 v2 σ) P) : Ev y M_x_numberTrouble 1 [.ref 0, .int v1, .int v2] σ rvI P := by
  refine Ev.of mk_x_numberTrouble (Nat.le_of_ble_eq_true rfl) (fun x hx hc hr => ?_)
  have hx : Cx 9 prog_1_method_70_code x := hx
  have hc : Cc y 3 1 x := hc
  show G x 0 [some (.ref 0), some (.int v1), some (.int v2)] [] σ
  unfold f_x_numberTrouble at h
  refine g_run hx [(.aload_n 0, 0, 0)] (pc' := 1) (lo' := [some (.ref 0), some (.int v1), some (.int v2)]) (st' := [.ref 0]) (σ' := σ) (by decide +kernel) rfl rfl ?_
  refine g_callV (rest := []) [] hx hc mk_x_landTrouble ln_9_158 rfl (by decide +kernel) (by decide) (Nat.le_of_ble_eq_true rfl) (s_x_landTrouble (ok_b h)) (fun r1 s1 h => ?_)
  refine g_if_eq hx (off := 7) (tgt := 11) (by decide +kernel) (by decide) (fun c4 => ?_) (fun c4 => ?_)
  · have h := ok_t h c4
    refine g_run hx [(.iload_n 1, 0, 0)] (pc' := 12) (lo' := [some (.ref 0), some (.int v1), some (.int v2)]) (st' := [.int v1]) (σ' := s1) (by decide +kernel) rfl rfl ?_
    refine g_if_lt hx (off := 8) (tgt := 20) (by decide +kernel) (by decide) (fun c12 => ?_) (fun c12 => ?_)
    · have h := ok_t h c12
      refine g_run hx [(.iconst 2, 2, 0)] (pc' := 21) (lo' := [some (.ref 0), some (.int v1), some (.int v2)]) (st' := [.int 2]) (σ' := s1) (by decide +kernel) rfl rfl ?_
      refine g_goto hx (off := 4) (tgt := 25) (by decide +kernel) (by decide) ?_
      exact g_iret hx hr rfl _ rfl (by decide +kernel) (ok_some h)
    · have h := ok_f h c12
      refine g_run hx [(.iload_n 1, 0, 0), (.iload_n 2, 0, 0)] (pc' := 17) (lo' := [some (.ref 0), some (.int v1), some (.int v2)]) (st' := [.int v2, .int v1]) (σ' := s1) (by decide +kernel) rfl rfl ?_
      refine g_ic_le hx (off := 7) (tgt := 24) (by decide +kernel) (by decide) (fun c17 => ?_) (fun c17 => ?_)
      · have h := ok_t h c17
        refine g_run hx [(.iconst 0, 0, 0)] (pc' := 25) (lo' := [some (.ref 0), some (.int v1), some (.int v2)]) (st' := [.int 0]) (σ' := s1) (by decide +kernel) rfl rfl ?_
        exact g_iret hx hr rfl _ rfl (by decide +kernel) (ok_some h)
      · have h := ok_f h c17
        refine g_run hx [(.iconst 2, 2, 0)] (pc' := 21) (lo' := [some (.ref 0), some (.int v1), some (.int v2)]) (st' := [.int 2]) (σ' := s1) (by decide +kernel) rfl rfl ?_
        refine g_goto hx (off := 4) (tgt := 25) (by decide +kernel) (by decide) ?_
        exact g_iret hx hr rfl _ rfl (by decide +kernel) (ok_some h)
  · have h := ok_f h c4
    refine g_run hx [(.iconst 1, 1, 0)] (pc' := 8) (lo' := [some (.ref 0), some (.int v1), some (.int v2)]) (st' := [.int 1]) (σ' := s1) (by decide +kernel) rfl rfl ?_
    refine g_goto hx (off := 17) (tgt := 25) (by decide +kernel) (by decide) ?_
    exact g_iret hx hr rfl _ rfl (by decide +kernel) (ok_some h)
