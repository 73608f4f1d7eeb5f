def QevL (D : va_G) (a : Nat → Nat) (cA : Nat → ClassId) (P : Int32 × Sg → Prop) (A : Nat → Prop) : Array Value → State → Outcome → State → Prop := fun _ st oc t =>
  (∃ (r : Int32) (σ' : Sg) (a' : Nat → Nat), (a' = a ∨ a' = fun i => a (pi i)) ∧ oc = .returned (some (.int r)) ∧ P (r, σ') ∧ va_P D vCl (wld a' cA σ') t.heap) ∧ va_F A st t
def EvL (y : EX) (M : MD) (d : Nat) (vs : List Value) (σ : Sg) (P : Int32 × Sg → Prop) : Prop :=
  ∀ sz : Nat, Met y.1 M.2.1 (mws M) (rmD d) (Pev y vs σ sz) (QevL y.2.1 y.2.2.1 y.2.2.2 P (Aw y.2.2.1 sz)) 0 0 (Aw y.2.2.1 sz)
def CrL (a0 : Nat → Nat) (P : Int32 × Sg → Prop) (x : CX) : Prop := match x with
  | ((_, _, _, _, s, _, args, below, meth, _), (a, cA, D, (cells, slots), Q)) =>
    meth.sig.returnType = some .int ∧ meth.locks = false ∧ cells = 0 ∧ slots = 0 ∧ (a = a0 ∨ a = fun i => a0 (pi i)) ∧ Q = MQ below (QevL D a0 cA P (Aw a0 s.heap.size)) args s 0 0 (Aw a0 s.heap.size)
theorem CrL_pi {P : Int32 × Sg → Prop} {x : CX} (h : CrL x.2.1 P x) : CrL x.2.1 P (xpi x) := by
  obtain ⟨⟨p, l, e, R, s, m, args, below, meth, c⟩, ⟨a, cA, D, ⟨cells, slots⟩, Q⟩⟩ := x
  obtain ⟨h1, h2, h3, h4, -, h6⟩ := h
  exact ⟨h1, h2, h3, h4, Or.inr rfl, h6⟩
theorem g_iretL {a0 : Nat → Nat} {x : CX} {own : Nat} {cc : ByteArray} {P : Int32 × Sg → Prop} {pc : Nat} {lo : List (Option Value)} {σ : Sg} (hx : Cx own cc x) (hr : CrL a0 P x) {v : Int32} (hd : decode cc pc = .ok (.ireturn, 1)) (hP : P (v, σ)) : G x pc lo [.int v] σ := by
  obtain ⟨⟨p, l, e, R, s, m, args, below, meth, c⟩, ⟨a, cA, D, ⟨cells, slots⟩, Q⟩⟩ := x
  obtain ⟨hexec, hb, hown, hts, hK, hinj⟩ := hx
  obtain ⟨h1, hlocks, rfl, rfl, ha, rfl⟩ := hr
  intro H locs ls hP1 hS hl
  have eA : Aw a s.heap.size = Aw a0 s.heap.size := by
    rcases ha with e | e
    · rw [e]
    · rw [e]; exact Aw_pi a0 _
  rw [eA] at hS
  exact W.iret (v := v) hexec hb h1 (fun t ht hW => ⟨⟨v, σ, a, ha, rfl, hP, by rw [ht]; exact hP1⟩, hS.F ht⟩) hS.2.2 hd hlocks
theorem EvL.of {y : EX} {M : MD} {d : Nat} {vs : List Value} {σ : Sg} {P : Int32 × Sg → Prop} {n : Nat} (hM : Mok M n) (hret : M.2.2.2.2 = some .int) (he : (ent vs).length ≤ M.2.2.2.1) (k : ∀ x : CX, Cx M.1 M.2.2.1 x → Cc (ey x) M.2.2.2.1 d x → CrL x.2.1 P x → G x 0 (entN vs M.2.2.2.1) [] σ) : EvL y M d vs σ P := by
  obtain ⟨l, D, a, cA⟩ := y
  obtain ⟨m1, m2, m3, m4, m5, m6, m7⟩ := hM
  intro sz
  refine Met.ofW (cc := M.2.2.1) (maxL := M.2.2.2.1) (ret := M.2.2.2.2) m3 rfl ?_
  intro p e s m args below meth c s₁ B hml hv
  obtain ⟨rfl, rfl, hE9, hP⟩ := hv
  have hts := atoms_spec (ws := mws M) B.pre
  have hx : Cx M.1 M.2.2.1 ((p, l, e, rmD d, s, m, (vs.map (ren a)).toArray, below, meth, c), (a, cA, D, (0, 0), MQ below (QevL D a cA P (Aw a s.heap.size)) (vs.map (ren a)).toArray s 0 0 (Aw a s.heap.size))) :=
    ⟨B.exec, B.bytes, by rw [← m5]; exact findClass_of_methodNamed B.named, fun w hw => hts w (List.mem_cons_of_mem _ hw), hE9.1, hE9.2.1⟩
  have hk := k _ hx ⟨rfl, hml, Nat.le_refl _, Nat.le_refl _, Nat.le_refl _, Nat.le_refl _, hE9⟩ ⟨B.returns.trans hret, B.notSynchronized, rfl, rfl, Or.inl rfl, rfl⟩
  rw [lg_entry_eq]
  exact hk s.heap [] _ hP va_S.rf (by rw [hml]; exact ent_lh a vs he)
/-- references that keep their names -/
def fixd (v : Value) : Bool := match v with
  | .ref j => decide (pi j = j)
  | _ => true
theorem fixd_ok {v : Value} (h : fixd v = true) (a : Nat → Nat) : ren (fun i => a (pi i)) v = ren a v := by
  cases v <;> first | rfl | skip
  case ref j =>
    have : pi j = j := of_decide_eq_true h
    show Value.ref (a (pi j)) = Value.ref (a j)
    rw [this]
def fixl : List (Option Value) → Prop
  | [] => True
  | none :: r => fixl r
  | some v :: r => fixd v = true ∧ fixl r
theorem fixl_ok : ∀ (l : List (Option Value)), fixl l → ∀ (i : Nat) (v : Value), l[i]? = some (some v) → fixd v = true
  | [], _, i, v, h => by simp at h
  | none :: r, hr, i, v, h => by
    match i, h with
    | 0, h => cases h
    | j + 1, h => exact fixl_ok r hr j v h
  | some u :: r, hr, i, v, h => by
    match i, h with
    | 0, h => cases h; exact hr.1
    | j + 1, h => exact fixl_ok r hr.2 j v h
theorem g_callL {x : CX} {own : Nat} {cc : ByteArray} {nL d d' idx pc i : Nat} {M : MD} {lo : List (Option Value)} {σ : Sg} {P : Int32 × Sg → Prop} {fs : List (Nat × Nat)} (As : List Value) (hx : Cx own cc x) (hc : Cc (ey x) nL d x) (hM : Mok M As.length) (hl : LnV own idx M) (hi : SH[i]? = some (.inl (M.1, fs))) (hd : decode cc pc = .ok (.invokevirtual idx, 3)) (hdd : d' + 1 ≤ d) (hfx : fixl lo) (hE : EvL (ey x) M d' (.ref i :: As) σ P)
    (k : ∀ x' : CX, (x' = x ∨ x' = xpi x) → ∀ r σ', P (r, σ') → G x' (pc + 3) lo [.int r] σ') : G x pc lo (As.reverse ++ [.ref i]) σ := by
  have kl := k x (Or.inl rfl)
  have kr := k (xpi x) (Or.inr rfl)
  clear k
  obtain ⟨⟨p, l, e, R, s, m, args, below, meth, c⟩, ⟨a, cA, D, ⟨cells, slots⟩, Q⟩⟩ := x
  obtain ⟨hexec, hb, hown, hts, hK, hinj⟩ := hx
  obtain ⟨-, hml, hfr, hlo, hce, hsl, hE9⟩ := hc
  obtain ⟨m1, m2, m3, m4, m5, m6, m7⟩ := hM
  obtain ⟨l1, l2, l3⟩ := hl
  intro H locs ls hP hS hl
  have hin : ∀ w ∈ wsV (kR own) idx (kR M.1) M.2.1 (mws M), w ∈ gws := by
    intro w hw
    unfold wsV at hw
    rcases List.mem_append.mp hw with h | h
    · simp only [List.mem_cons, List.not_mem_nil, or_false] at h
      rcases h with rfl | rfl | rfl | rfl
      · exact l1
      · exact l2
      · exact l3
      · rw [← m5]; exact m2
    · exact mws_in m1 w h
  have hrun := va_runV (e := e) (below := below) (meth := meth) (locs := locs) (g := F0 m pc ls ((As.reverse ++ [Value.ref i]).map (ren a))) (As := As.map (ren a)) (rest := []) (b := a i) (C := kR M.1) (n := As.length) (cells := cells) (slots := slots) ⟨hexec, hb, hml, hown, hts⟩ (hE H.size)
    (cwV As.length hts (gw_in hin) rfl rfl rfl ⟨m5, m6.1, m6.2, m7⟩ ⟨by show d' + 1 ≤ R.frames; omega, by show 8 + (M.2.2.2.1 + 11) + 64 * d' ≤ R.locals; omega⟩)
    ⟨pev_blind, recvK hK hP hi, fun U hU hW => ⟨rfl, by rw [hU], by rw [hU]; exact hE9.to hW hS.2.1 (Aw_sub hS.1), by rw [hU]; exact hP⟩⟩ rfl (by rw [List.length_map]) (hl.1.trans hml) (by simp [ren]) (lv_room (Nat.le_of_ble_eq_true rfl)) hd ⟨hce, hsl⟩
  intro T hT X
  obtain ⟨v, st₀, t, T', L, h0, X', hL, e1, e2, ⟨⟨r, σ', a', ha, hv, hp, hP1⟩, hz, hk⟩, st⟩ := hrun T hT X
  cases hv
  rw [h0] at hz hk
  have hsub := Aw_sub (a := a) hS.1
  have hS1 : va_S (Aw a s.heap.size) s.heap T'.heap (locs ++ L) := by
    refine ⟨Nat.le_trans hS.1 (by rw [e1]; exact hz), fun q h1 h2 => ?_, fun q hq => ?_⟩
    · rw [e1, hk q (Nat.lt_of_lt_of_le h1 hS.1) (fun z => h2 (hsub q z))]
      exact hS.2.1 q h1 h2
    · rcases List.mem_append.mp hq with h | h
      · exact hS.2.2 q h
      · exact hsub _ (hL q h)
  rcases ha with rfl | rfl
  · obtain ⟨t2, a1, b1⟩ := kl r σ' hp T'.heap (locs ++ L) ls (by rw [e1]; exact hP1) hS1 hl T' rfl X'
    exact ⟨t2, st t2 a1, b1⟩
  · obtain ⟨t2, a1, b1⟩ := kr r σ' hp T'.heap (locs ++ L) ls (by rw [e1]; exact hP1) (by rw [Aw_pi]; exact hS1) ⟨hl.1, hl.2.1, hl.2.2.1, fun j u hj => by rw [fixd_ok (fixl_ok lo hfx j u hj)]; exact hl.2.2.2 j u hj⟩ T' rfl X'
    exact ⟨t2, st t2 a1, b1⟩
def f_x_land (N : Nat) (v1 : Int32) (σ : Sg) : Option (Int32 × Sg) :=
  if v1 < 0 then
    (f_x_granted N 2 σ).bind fun q1 =>
    if q1.1 = true then
      (f_reader_read N v1 q1.2).bind fun q2 =>
      if (gI q2.2 1 12) = 0 then
        (f_x_granted N 0 q2.2).bind fun q3 =>
        if q3.1 = true then
          if gI q3.2 55 7 = 0 ∨ gI q3.2 55 7 = 10 then
          (f_state_begin N (sw q3.2)).bind fun q4 =>
          (f_history_forget N q4.2).bind fun q5 =>
          (f_paths_forget N (sI q5.2 0 6 0)).bind fun q6 =>
          some ((gI q6.2 10 0), q6.2)
          else none
        else
          some ((-1), q3.2)
      else
        (f_x_granted N 4 q2.2).bind fun q7 =>
        if q7.1 = true then
          if gI q7.2 55 7 = 0 ∨ gI q7.2 55 7 = 10 then
          (f_state_begin N (sw q7.2)).bind fun q8 =>
          (f_history_forget N q8.2).bind fun q9 =>
          (f_paths_forget N (sI q9.2 0 6 0)).bind fun q10 =>
          some ((gI q10.2 10 0), q10.2)
          else none
        else
          some ((-1), q7.2)
    else
      some ((-1), q1.2)
  else
    if v1 ≤ (gI σ 1 1) then
      (f_x_granted N 0 σ).bind fun q11 =>
      if q11.1 = true then
        (f_reader_read N v1 q11.2).bind fun q12 =>
        if (gI q12.2 1 12) = 0 then
          (f_x_granted N 0 q12.2).bind fun q13 =>
          if q13.1 = true then
            if gI q13.2 55 7 = 0 ∨ gI q13.2 55 7 = 10 then
            (f_state_begin N (sw q13.2)).bind fun q14 =>
            (f_history_forget N q14.2).bind fun q15 =>
            (f_paths_forget N (sI q15.2 0 6 0)).bind fun q16 =>
            some ((gI q16.2 10 0), q16.2)
            else none
          else
            some ((-1), q13.2)
        else
          (f_x_granted N 4 q12.2).bind fun q17 =>
          if q17.1 = true then
            if gI q17.2 55 7 = 0 ∨ gI q17.2 55 7 = 10 then
            (f_state_begin N (sw q17.2)).bind fun q18 =>
            (f_history_forget N q18.2).bind fun q19 =>
            (f_paths_forget N (sI q19.2 0 6 0)).bind fun q20 =>
            some ((gI q20.2 10 0), q20.2)
            else none
          else
            some ((-1), q17.2)
      else
        some ((-1), q11.2)
    else
      (f_x_granted N 2 σ).bind fun q21 =>
      if q21.1 = true then
        (f_reader_read N v1 q21.2).bind fun q22 =>
        if (gI q22.2 1 12) = 0 then
          (f_x_granted N 0 q22.2).bind fun q23 =>
          if q23.1 = true then
            if gI q23.2 55 7 = 0 ∨ gI q23.2 55 7 = 10 then
            (f_state_begin N (sw q23.2)).bind fun q24 =>
            (f_history_forget N q24.2).bind fun q25 =>
            (f_paths_forget N (sI q25.2 0 6 0)).bind fun q26 =>
            some ((gI q26.2 10 0), q26.2)
            else none
          else
            some ((-1), q23.2)
        else
          (f_x_granted N 4 q22.2).bind fun q27 =>
          if q27.1 = true then
            if gI q27.2 55 7 = 0 ∨ gI q27.2 55 7 = 10 then
            (f_state_begin N (sw q27.2)).bind fun q28 =>
            (f_history_forget N q28.2).bind fun q29 =>
            (f_paths_forget N (sI q29.2 0 6 0)).bind fun q30 =>
            some ((gI q30.2 10 0), q30.2)
            else none
          else
            some ((-1), q27.2)
      else
        some ((-1), q21.2)
set_option maxRecDepth 100000 in
theorem s_x_land {y : EX} {N : Nat} {v1 : Int32} {σ : Sg} {P : Int32 × Sg → Prop} (h : ok (f_x_land N v1 σ) P) : EvL y M_x_land 10 [.ref 0, .int v1] σ P := by
  refine EvL.of mk_x_land rfl (Nat.le_of_ble_eq_true rfl) (fun x hx hc hr => ?_)
  have hx : Cx 9 prog_1_method_3_code x := hx
  have hc : Cc (ey x) 3 10 x := hc
  show G x 0 [some (.ref 0), some (.int v1), none] [] σ
  unfold f_x_land at h
  refine g_run hx [(.aload_n 0, 0, 0), (.iload_n 1, 0, 0)] (pc' := 2) (lo' := [some (.ref 0), some (.int v1), none]) (st' := [.int v1, .ref 0]) (σ' := σ) (by decide +kernel) rfl rfl ?_
  refine g_if_lt hx (off := 14) (tgt := 16) (by decide +kernel) (by decide) (fun c2 => ?_) (fun c2 => ?_)
  · have h := ok_t h c2
    refine g_run hx [(.iconst 2, 2, 0)] (pc' := 17) (lo' := [some (.ref 0), some (.int v1), none]) (st' := [.int 2, .ref 0]) (σ' := σ) (by decide +kernel) rfl rfl ?_
    refine g_goto hx (off := 4) (tgt := 21) (by decide +kernel) (by decide) ?_
    refine g_callV (rest := []) [.int 2] hx hc mk_x_granted ln_9_83 rfl (by decide +kernel) (by decide) (Nat.le_of_ble_eq_true rfl) (s_x_granted (ok_b h)) (fun r1 s1 h => ?_)
    refine g_ifb_ne hx (off := 5) (tgt := 29) (by decide +kernel) (by decide) (fun c24 => ?_) (fun c24 => ?_)
    · have h := ok_t h c24
      refine g_run hx [(.aload_n 0, 0, 0), (.getfield 10, 0, 0), (.iload_n 1, 0, 0)] (pc' := 34) (lo' := [some (.ref 0), some (.int v1), none]) (st' := [.int v1, .ref 1]) (σ' := s1) (by decide +kernel) rfl rfl ?_
      refine g_callV (rest := []) [.int v1] hx hc mk_reader_read ln_9_87 rfl (by decide +kernel) (by decide) (Nat.le_of_ble_eq_true rfl) (s_reader_read (ok_b h)) (fun r2 s2 h => ?_)
      refine g_run hx [(.aload_n 0, 0, 0), (.aload_n 0, 0, 0), (.getfield 10, 0, 0), (.getfield 90, 0, 0)] (pc' := 45) (lo' := [some (.ref 0), some (.int v1), none]) (st' := [.int (gI s2 1 12), .ref 0]) (σ' := s2) (by decide +kernel) rfl rfl ?_
      refine g_if_eq hx (off := 7) (tgt := 52) (by decide +kernel) (by decide) (fun c45 => ?_) (fun c45 => ?_)
      · have h := ok_t h c45
        refine g_run hx [(.iconst 0, 0, 0)] (pc' := 53) (lo' := [some (.ref 0), some (.int v1), none]) (st' := [.int 0, .ref 0]) (σ' := s2) (by decide +kernel) rfl rfl ?_
        refine g_callV (rest := []) [.int 0] hx hc mk_x_granted ln_9_83 rfl (by decide +kernel) (by decide) (Nat.le_of_ble_eq_true rfl) (s_x_granted (ok_b h)) (fun r3 s3 h => ?_)
        refine g_ifb_ne hx (off := 5) (tgt := 61) (by decide +kernel) (by decide) (fun c56 => ?_) (fun c56 => ?_)
        · have h := ok_t h c56
          refine g_run hx [(.aload_n 0, 0, 0), (.getfield 19, 0, 0), (.astore_n 2, 0, 0)] (pc' := 66) (lo' := [some (.ref 0), some (.int v1), some (.ref 10)]) (st' := []) (σ' := s3) (by decide +kernel) rfl rfl ?_
          obtain ⟨cs, h⟩ := ok_g h
          refine g_swap hx hc cs ?_
          have hx := Cx_pi hx
          have hc := Cc_pi hc
          have hr := CrL_pi hr
          refine g_run hx [(.aload_n 0, 0, 0), (.getfield 26, 0, 0), (.aload_n 0, 0, 0), (.getfield 19, 0, 0)] (pc' := 93) (lo' := [some (.ref 0), some (.int v1), none]) (st' := [.ref 10, .ref 40]) (σ' := sw s3) (by decide +kernel) rfl rfl ?_
          refine g_callV (rest := []) [.ref 10] hx hc mk_state_begin ln_9_96 rfl (by decide +kernel) (by decide) (Nat.le_of_ble_eq_true rfl) (s_state_begin (ok_b h)) (fun r4 s4 h => ?_)
          refine g_run hx [(.aload_n 0, 0, 0), (.getfield 36, 0, 0)] (pc' := 100) (lo' := [some (.ref 0), some (.int v1), none]) (st' := [.ref 42]) (σ' := s4) (by decide +kernel) rfl rfl ?_
          refine g_callV (rest := []) [] hx hc mk_history_forget ln_9_100 rfl (by decide +kernel) (by decide) (Nat.le_of_ble_eq_true rfl) (s_history_forget (ok_b h)) (fun r5 s5 h => ?_)
          refine g_run hx [(.aload_n 0, 0, 0), (.iconst 0, 0, 0), (.putfield 49, 0, 0), (.aload_n 0, 0, 0), (.getfield 56, 0, 0)] (pc' := 112) (lo' := [some (.ref 0), some (.int v1), none]) (st' := [.ref 55]) (σ' := sI s5 0 6 0) (by decide +kernel) rfl rfl ?_
          refine g_callV (rest := []) [] hx hc mk_paths_forget ln_9_103 rfl (by decide +kernel) (by decide) (Nat.le_of_ble_eq_true rfl) (s_paths_forget (ok_b h)) (fun r6 s6 h => ?_)
          refine g_run hx [(.aload_n 0, 0, 0), (.getfield 19, 0, 0), (.getfield 104, 0, 0)] (pc' := 122) (lo' := [some (.ref 0), some (.int v1), none]) (st' := [.int (gI s6 10 0)]) (σ' := s6) (by decide +kernel) rfl rfl ?_
          exact g_iretL hx hr (by decide +kernel) (ok_some h)
        · have h := ok_f h c56
          refine g_run hx [(.iconst (-1), (-1), 0)] (pc' := 60) (lo' := [some (.ref 0), some (.int v1), none]) (st' := [.int (-1)]) (σ' := s3) (by decide +kernel) rfl rfl ?_
          exact g_iretL hx hr (by decide +kernel) (ok_some h)
      · have h := ok_f h c45
        refine g_run hx [(.iconst 4, 4, 0)] (pc' := 49) (lo' := [some (.ref 0), some (.int v1), none]) (st' := [.int 4, .ref 0]) (σ' := s2) (by decide +kernel) rfl rfl ?_
        refine g_goto hx (off := 4) (tgt := 53) (by decide +kernel) (by decide) ?_
        refine g_callV (rest := []) [.int 4] hx hc mk_x_granted ln_9_83 rfl (by decide +kernel) (by decide) (Nat.le_of_ble_eq_true rfl) (s_x_granted (ok_b h)) (fun r7 s7 h => ?_)
        refine g_ifb_ne hx (off := 5) (tgt := 61) (by decide +kernel) (by decide) (fun c56 => ?_) (fun c56 => ?_)
        · have h := ok_t h c56
          refine g_run hx [(.aload_n 0, 0, 0), (.getfield 19, 0, 0), (.astore_n 2, 0, 0)] (pc' := 66) (lo' := [some (.ref 0), some (.int v1), some (.ref 10)]) (st' := []) (σ' := s7) (by decide +kernel) rfl rfl ?_
          obtain ⟨cs, h⟩ := ok_g h
          refine g_swap hx hc cs ?_
          have hx := Cx_pi hx
          have hc := Cc_pi hc
          have hr := CrL_pi hr
          refine g_run hx [(.aload_n 0, 0, 0), (.getfield 26, 0, 0), (.aload_n 0, 0, 0), (.getfield 19, 0, 0)] (pc' := 93) (lo' := [some (.ref 0), some (.int v1), none]) (st' := [.ref 10, .ref 40]) (σ' := sw s7) (by decide +kernel) rfl rfl ?_
          refine g_callV (rest := []) [.ref 10] hx hc mk_state_begin ln_9_96 rfl (by decide +kernel) (by decide) (Nat.le_of_ble_eq_true rfl) (s_state_begin (ok_b h)) (fun r8 s8 h => ?_)
          refine g_run hx [(.aload_n 0, 0, 0), (.getfield 36, 0, 0)] (pc' := 100) (lo' := [some (.ref 0), some (.int v1), none]) (st' := [.ref 42]) (σ' := s8) (by decide +kernel) rfl rfl ?_
          refine g_callV (rest := []) [] hx hc mk_history_forget ln_9_100 rfl (by decide +kernel) (by decide) (Nat.le_of_ble_eq_true rfl) (s_history_forget (ok_b h)) (fun r9 s9 h => ?_)
          refine g_run hx [(.aload_n 0, 0, 0), (.iconst 0, 0, 0), (.putfield 49, 0, 0), (.aload_n 0, 0, 0), (.getfield 56, 0, 0)] (pc' := 112) (lo' := [some (.ref 0), some (.int v1), none]) (st' := [.ref 55]) (σ' := sI s9 0 6 0) (by decide +kernel) rfl rfl ?_
          refine g_callV (rest := []) [] hx hc mk_paths_forget ln_9_103 rfl (by decide +kernel) (by decide) (Nat.le_of_ble_eq_true rfl) (s_paths_forget (ok_b h)) (fun r10 s10 h => ?_)
          refine g_run hx [(.aload_n 0, 0, 0), (.getfield 19, 0, 0), (.getfield 104, 0, 0)] (pc' := 122) (lo' := [some (.ref 0), some (.int v1), none]) (st' := [.int (gI s10 10 0)]) (σ' := s10) (by decide +kernel) rfl rfl ?_
          exact g_iretL hx hr (by decide +kernel) (ok_some h)
        · have h := ok_f h c56
          refine g_run hx [(.iconst (-1), (-1), 0)] (pc' := 60) (lo' := [some (.ref 0), some (.int v1), none]) (st' := [.int (-1)]) (σ' := s7) (by decide +kernel) rfl rfl ?_
          exact g_iretL hx hr (by decide +kernel) (ok_some h)
    · have h := ok_f h c24
      refine g_run hx [(.iconst (-1), (-1), 0)] (pc' := 28) (lo' := [some (.ref 0), some (.int v1), none]) (st' := [.int (-1)]) (σ' := s1) (by decide +kernel) rfl rfl ?_
      exact g_iretL hx hr (by decide +kernel) (ok_some h)
  · have h := ok_f h c2
    refine g_run hx [(.iload_n 1, 0, 0), (.aload_n 0, 0, 0), (.getfield 10, 0, 0), (.getfield 77, 0, 0)] (pc' := 13) (lo' := [some (.ref 0), some (.int v1), none]) (st' := [.int (gI σ 1 1), .int v1, .ref 0]) (σ' := σ) (by decide +kernel) rfl rfl ?_
    refine g_ic_le hx (off := 7) (tgt := 20) (by decide +kernel) (by decide) (fun c13 => ?_) (fun c13 => ?_)
    · have h := ok_t h c13
      refine g_run hx [(.iconst 0, 0, 0)] (pc' := 21) (lo' := [some (.ref 0), some (.int v1), none]) (st' := [.int 0, .ref 0]) (σ' := σ) (by decide +kernel) rfl rfl ?_
      refine g_callV (rest := []) [.int 0] hx hc mk_x_granted ln_9_83 rfl (by decide +kernel) (by decide) (Nat.le_of_ble_eq_true rfl) (s_x_granted (ok_b h)) (fun r11 s11 h => ?_)
      refine g_ifb_ne hx (off := 5) (tgt := 29) (by decide +kernel) (by decide) (fun c24 => ?_) (fun c24 => ?_)
      · have h := ok_t h c24
        refine g_run hx [(.aload_n 0, 0, 0), (.getfield 10, 0, 0), (.iload_n 1, 0, 0)] (pc' := 34) (lo' := [some (.ref 0), some (.int v1), none]) (st' := [.int v1, .ref 1]) (σ' := s11) (by decide +kernel) rfl rfl ?_
        refine g_callV (rest := []) [.int v1] hx hc mk_reader_read ln_9_87 rfl (by decide +kernel) (by decide) (Nat.le_of_ble_eq_true rfl) (s_reader_read (ok_b h)) (fun r12 s12 h => ?_)
        refine g_run hx [(.aload_n 0, 0, 0), (.aload_n 0, 0, 0), (.getfield 10, 0, 0), (.getfield 90, 0, 0)] (pc' := 45) (lo' := [some (.ref 0), some (.int v1), none]) (st' := [.int (gI s12 1 12), .ref 0]) (σ' := s12) (by decide +kernel) rfl rfl ?_
        refine g_if_eq hx (off := 7) (tgt := 52) (by decide +kernel) (by decide) (fun c45 => ?_) (fun c45 => ?_)
        · have h := ok_t h c45
          refine g_run hx [(.iconst 0, 0, 0)] (pc' := 53) (lo' := [some (.ref 0), some (.int v1), none]) (st' := [.int 0, .ref 0]) (σ' := s12) (by decide +kernel) rfl rfl ?_
          refine g_callV (rest := []) [.int 0] hx hc mk_x_granted ln_9_83 rfl (by decide +kernel) (by decide) (Nat.le_of_ble_eq_true rfl) (s_x_granted (ok_b h)) (fun r13 s13 h => ?_)
          refine g_ifb_ne hx (off := 5) (tgt := 61) (by decide +kernel) (by decide) (fun c56 => ?_) (fun c56 => ?_)
          · have h := ok_t h c56
            refine g_run hx [(.aload_n 0, 0, 0), (.getfield 19, 0, 0), (.astore_n 2, 0, 0)] (pc' := 66) (lo' := [some (.ref 0), some (.int v1), some (.ref 10)]) (st' := []) (σ' := s13) (by decide +kernel) rfl rfl ?_
            obtain ⟨cs, h⟩ := ok_g h
            refine g_swap hx hc cs ?_
            have hx := Cx_pi hx
            have hc := Cc_pi hc
            have hr := CrL_pi hr
            refine g_run hx [(.aload_n 0, 0, 0), (.getfield 26, 0, 0), (.aload_n 0, 0, 0), (.getfield 19, 0, 0)] (pc' := 93) (lo' := [some (.ref 0), some (.int v1), none]) (st' := [.ref 10, .ref 40]) (σ' := sw s13) (by decide +kernel) rfl rfl ?_
            refine g_callV (rest := []) [.ref 10] hx hc mk_state_begin ln_9_96 rfl (by decide +kernel) (by decide) (Nat.le_of_ble_eq_true rfl) (s_state_begin (ok_b h)) (fun r14 s14 h => ?_)
            refine g_run hx [(.aload_n 0, 0, 0), (.getfield 36, 0, 0)] (pc' := 100) (lo' := [some (.ref 0), some (.int v1), none]) (st' := [.ref 42]) (σ' := s14) (by decide +kernel) rfl rfl ?_
            refine g_callV (rest := []) [] hx hc mk_history_forget ln_9_100 rfl (by decide +kernel) (by decide) (Nat.le_of_ble_eq_true rfl) (s_history_forget (ok_b h)) (fun r15 s15 h => ?_)
            refine g_run hx [(.aload_n 0, 0, 0), (.iconst 0, 0, 0), (.putfield 49, 0, 0), (.aload_n 0, 0, 0), (.getfield 56, 0, 0)] (pc' := 112) (lo' := [some (.ref 0), some (.int v1), none]) (st' := [.ref 55]) (σ' := sI s15 0 6 0) (by decide +kernel) rfl rfl ?_
            refine g_callV (rest := []) [] hx hc mk_paths_forget ln_9_103 rfl (by decide +kernel) (by decide) (Nat.le_of_ble_eq_true rfl) (s_paths_forget (ok_b h)) (fun r16 s16 h => ?_)
            refine g_run hx [(.aload_n 0, 0, 0), (.getfield 19, 0, 0), (.getfield 104, 0, 0)] (pc' := 122) (lo' := [some (.ref 0), some (.int v1), none]) (st' := [.int (gI s16 10 0)]) (σ' := s16) (by decide +kernel) rfl rfl ?_
            exact g_iretL hx hr (by decide +kernel) (ok_some h)
          · have h := ok_f h c56
            refine g_run hx [(.iconst (-1), (-1), 0)] (pc' := 60) (lo' := [some (.ref 0), some (.int v1), none]) (st' := [.int (-1)]) (σ' := s13) (by decide +kernel) rfl rfl ?_
            exact g_iretL hx hr (by decide +kernel) (ok_some h)
        · have h := ok_f h c45
          refine g_run hx [(.iconst 4, 4, 0)] (pc' := 49) (lo' := [some (.ref 0), some (.int v1), none]) (st' := [.int 4, .ref 0]) (σ' := s12) (by decide +kernel) rfl rfl ?_
          refine g_goto hx (off := 4) (tgt := 53) (by decide +kernel) (by decide) ?_
          refine g_callV (rest := []) [.int 4] hx hc mk_x_granted ln_9_83 rfl (by decide +kernel) (by decide) (Nat.le_of_ble_eq_true rfl) (s_x_granted (ok_b h)) (fun r17 s17 h => ?_)
          refine g_ifb_ne hx (off := 5) (tgt := 61) (by decide +kernel) (by decide) (fun c56 => ?_) (fun c56 => ?_)
          · have h := ok_t h c56
            refine g_run hx [(.aload_n 0, 0, 0), (.getfield 19, 0, 0), (.astore_n 2, 0, 0)] (pc' := 66) (lo' := [some (.ref 0), some (.int v1), some (.ref 10)]) (st' := []) (σ' := s17) (by decide +kernel) rfl rfl ?_
            obtain ⟨cs, h⟩ := ok_g h
            refine g_swap hx hc cs ?_
            have hx := Cx_pi hx
            have hc := Cc_pi hc
            have hr := CrL_pi hr
            refine g_run hx [(.aload_n 0, 0, 0), (.getfield 26, 0, 0), (.aload_n 0, 0, 0), (.getfield 19, 0, 0)] (pc' := 93) (lo' := [some (.ref 0), some (.int v1), none]) (st' := [.ref 10, .ref 40]) (σ' := sw s17) (by decide +kernel) rfl rfl ?_
            refine g_callV (rest := []) [.ref 10] hx hc mk_state_begin ln_9_96 rfl (by decide +kernel) (by decide) (Nat.le_of_ble_eq_true rfl) (s_state_begin (ok_b h)) (fun r18 s18 h => ?_)
            refine g_run hx [(.aload_n 0, 0, 0), (.getfield 36, 0, 0)] (pc' := 100) (lo' := [some (.ref 0), some (.int v1), none]) (st' := [.ref 42]) (σ' := s18) (by decide +kernel) rfl rfl ?_
            refine g_callV (rest := []) [] hx hc mk_history_forget ln_9_100 rfl (by decide +kernel) (by decide) (Nat.le_of_ble_eq_true rfl) (s_history_forget (ok_b h)) (fun r19 s19 h => ?_)
            refine g_run hx [(.aload_n 0, 0, 0), (.iconst 0, 0, 0), (.putfield 49, 0, 0), (.aload_n 0, 0, 0), (.getfield 56, 0, 0)] (pc' := 112) (lo' := [some (.ref 0), some (.int v1), none]) (st' := [.ref 55]) (σ' := sI s19 0 6 0) (by decide +kernel) rfl rfl ?_
            refine g_callV (rest := []) [] hx hc mk_paths_forget ln_9_103 rfl (by decide +kernel) (by decide) (Nat.le_of_ble_eq_true rfl) (s_paths_forget (ok_b h)) (fun r20 s20 h => ?_)
            refine g_run hx [(.aload_n 0, 0, 0), (.getfield 19, 0, 0), (.getfield 104, 0, 0)] (pc' := 122) (lo' := [some (.ref 0), some (.int v1), none]) (st' := [.int (gI s20 10 0)]) (σ' := s20) (by decide +kernel) rfl rfl ?_
            exact g_iretL hx hr (by decide +kernel) (ok_some h)
          · have h := ok_f h c56
            refine g_run hx [(.iconst (-1), (-1), 0)] (pc' := 60) (lo' := [some (.ref 0), some (.int v1), none]) (st' := [.int (-1)]) (σ' := s17) (by decide +kernel) rfl rfl ?_
            exact g_iretL hx hr (by decide +kernel) (ok_some h)
      · have h := ok_f h c24
        refine g_run hx [(.iconst (-1), (-1), 0)] (pc' := 28) (lo' := [some (.ref 0), some (.int v1), none]) (st' := [.int (-1)]) (σ' := s11) (by decide +kernel) rfl rfl ?_
        exact g_iretL hx hr (by decide +kernel) (ok_some h)
    · have h := ok_f h c13
      refine g_run hx [(.iconst 2, 2, 0)] (pc' := 17) (lo' := [some (.ref 0), some (.int v1), none]) (st' := [.int 2, .ref 0]) (σ' := σ) (by decide +kernel) rfl rfl ?_
      refine g_goto hx (off := 4) (tgt := 21) (by decide +kernel) (by decide) ?_
      refine g_callV (rest := []) [.int 2] hx hc mk_x_granted ln_9_83 rfl (by decide +kernel) (by decide) (Nat.le_of_ble_eq_true rfl) (s_x_granted (ok_b h)) (fun r21 s21 h => ?_)
      refine g_ifb_ne hx (off := 5) (tgt := 29) (by decide +kernel) (by decide) (fun c24 => ?_) (fun c24 => ?_)
      · have h := ok_t h c24
        refine g_run hx [(.aload_n 0, 0, 0), (.getfield 10, 0, 0), (.iload_n 1, 0, 0)] (pc' := 34) (lo' := [some (.ref 0), some (.int v1), none]) (st' := [.int v1, .ref 1]) (σ' := s21) (by decide +kernel) rfl rfl ?_
        refine g_callV (rest := []) [.int v1] hx hc mk_reader_read ln_9_87 rfl (by decide +kernel) (by decide) (Nat.le_of_ble_eq_true rfl) (s_reader_read (ok_b h)) (fun r22 s22 h => ?_)
        refine g_run hx [(.aload_n 0, 0, 0), (.aload_n 0, 0, 0), (.getfield 10, 0, 0), (.getfield 90, 0, 0)] (pc' := 45) (lo' := [some (.ref 0), some (.int v1), none]) (st' := [.int (gI s22 1 12), .ref 0]) (σ' := s22) (by decide +kernel) rfl rfl ?_
        refine g_if_eq hx (off := 7) (tgt := 52) (by decide +kernel) (by decide) (fun c45 => ?_) (fun c45 => ?_)
        · have h := ok_t h c45
          refine g_run hx [(.iconst 0, 0, 0)] (pc' := 53) (lo' := [some (.ref 0), some (.int v1), none]) (st' := [.int 0, .ref 0]) (σ' := s22) (by decide +kernel) rfl rfl ?_
          refine g_callV (rest := []) [.int 0] hx hc mk_x_granted ln_9_83 rfl (by decide +kernel) (by decide) (Nat.le_of_ble_eq_true rfl) (s_x_granted (ok_b h)) (fun r23 s23 h => ?_)
          refine g_ifb_ne hx (off := 5) (tgt := 61) (by decide +kernel) (by decide) (fun c56 => ?_) (fun c56 => ?_)
          · have h := ok_t h c56
            refine g_run hx [(.aload_n 0, 0, 0), (.getfield 19, 0, 0), (.astore_n 2, 0, 0)] (pc' := 66) (lo' := [some (.ref 0), some (.int v1), some (.ref 10)]) (st' := []) (σ' := s23) (by decide +kernel) rfl rfl ?_
            obtain ⟨cs, h⟩ := ok_g h
            refine g_swap hx hc cs ?_
            have hx := Cx_pi hx
            have hc := Cc_pi hc
            have hr := CrL_pi hr
            refine g_run hx [(.aload_n 0, 0, 0), (.getfield 26, 0, 0), (.aload_n 0, 0, 0), (.getfield 19, 0, 0)] (pc' := 93) (lo' := [some (.ref 0), some (.int v1), none]) (st' := [.ref 10, .ref 40]) (σ' := sw s23) (by decide +kernel) rfl rfl ?_
            refine g_callV (rest := []) [.ref 10] hx hc mk_state_begin ln_9_96 rfl (by decide +kernel) (by decide) (Nat.le_of_ble_eq_true rfl) (s_state_begin (ok_b h)) (fun r24 s24 h => ?_)
            refine g_run hx [(.aload_n 0, 0, 0), (.getfield 36, 0, 0)] (pc' := 100) (lo' := [some (.ref 0), some (.int v1), none]) (st' := [.ref 42]) (σ' := s24) (by decide +kernel) rfl rfl ?_
            refine g_callV (rest := []) [] hx hc mk_history_forget ln_9_100 rfl (by decide +kernel) (by decide) (Nat.le_of_ble_eq_true rfl) (s_history_forget (ok_b h)) (fun r25 s25 h => ?_)
            refine g_run hx [(.aload_n 0, 0, 0), (.iconst 0, 0, 0), (.putfield 49, 0, 0), (.aload_n 0, 0, 0), (.getfield 56, 0, 0)] (pc' := 112) (lo' := [some (.ref 0), some (.int v1), none]) (st' := [.ref 55]) (σ' := sI s25 0 6 0) (by decide +kernel) rfl rfl ?_
            refine g_callV (rest := []) [] hx hc mk_paths_forget ln_9_103 rfl (by decide +kernel) (by decide) (Nat.le_of_ble_eq_true rfl) (s_paths_forget (ok_b h)) (fun r26 s26 h => ?_)
            refine g_run hx [(.aload_n 0, 0, 0), (.getfield 19, 0, 0), (.getfield 104, 0, 0)] (pc' := 122) (lo' := [some (.ref 0), some (.int v1), none]) (st' := [.int (gI s26 10 0)]) (σ' := s26) (by decide +kernel) rfl rfl ?_
            exact g_iretL hx hr (by decide +kernel) (ok_some h)
          · have h := ok_f h c56
            refine g_run hx [(.iconst (-1), (-1), 0)] (pc' := 60) (lo' := [some (.ref 0), some (.int v1), none]) (st' := [.int (-1)]) (σ' := s23) (by decide +kernel) rfl rfl ?_
            exact g_iretL hx hr (by decide +kernel) (ok_some h)
        · have h := ok_f h c45
          refine g_run hx [(.iconst 4, 4, 0)] (pc' := 49) (lo' := [some (.ref 0), some (.int v1), none]) (st' := [.int 4, .ref 0]) (σ' := s22) (by decide +kernel) rfl rfl ?_
          refine g_goto hx (off := 4) (tgt := 53) (by decide +kernel) (by decide) ?_
          refine g_callV (rest := []) [.int 4] hx hc mk_x_granted ln_9_83 rfl (by decide +kernel) (by decide) (Nat.le_of_ble_eq_true rfl) (s_x_granted (ok_b h)) (fun r27 s27 h => ?_)
          refine g_ifb_ne hx (off := 5) (tgt := 61) (by decide +kernel) (by decide) (fun c56 => ?_) (fun c56 => ?_)
          · have h := ok_t h c56
            refine g_run hx [(.aload_n 0, 0, 0), (.getfield 19, 0, 0), (.astore_n 2, 0, 0)] (pc' := 66) (lo' := [some (.ref 0), some (.int v1), some (.ref 10)]) (st' := []) (σ' := s27) (by decide +kernel) rfl rfl ?_
            obtain ⟨cs, h⟩ := ok_g h
            refine g_swap hx hc cs ?_
            have hx := Cx_pi hx
            have hc := Cc_pi hc
            have hr := CrL_pi hr
            refine g_run hx [(.aload_n 0, 0, 0), (.getfield 26, 0, 0), (.aload_n 0, 0, 0), (.getfield 19, 0, 0)] (pc' := 93) (lo' := [some (.ref 0), some (.int v1), none]) (st' := [.ref 10, .ref 40]) (σ' := sw s27) (by decide +kernel) rfl rfl ?_
            refine g_callV (rest := []) [.ref 10] hx hc mk_state_begin ln_9_96 rfl (by decide +kernel) (by decide) (Nat.le_of_ble_eq_true rfl) (s_state_begin (ok_b h)) (fun r28 s28 h => ?_)
            refine g_run hx [(.aload_n 0, 0, 0), (.getfield 36, 0, 0)] (pc' := 100) (lo' := [some (.ref 0), some (.int v1), none]) (st' := [.ref 42]) (σ' := s28) (by decide +kernel) rfl rfl ?_
            refine g_callV (rest := []) [] hx hc mk_history_forget ln_9_100 rfl (by decide +kernel) (by decide) (Nat.le_of_ble_eq_true rfl) (s_history_forget (ok_b h)) (fun r29 s29 h => ?_)
            refine g_run hx [(.aload_n 0, 0, 0), (.iconst 0, 0, 0), (.putfield 49, 0, 0), (.aload_n 0, 0, 0), (.getfield 56, 0, 0)] (pc' := 112) (lo' := [some (.ref 0), some (.int v1), none]) (st' := [.ref 55]) (σ' := sI s29 0 6 0) (by decide +kernel) rfl rfl ?_
            refine g_callV (rest := []) [] hx hc mk_paths_forget ln_9_103 rfl (by decide +kernel) (by decide) (Nat.le_of_ble_eq_true rfl) (s_paths_forget (ok_b h)) (fun r30 s30 h => ?_)
            refine g_run hx [(.aload_n 0, 0, 0), (.getfield 19, 0, 0), (.getfield 104, 0, 0)] (pc' := 122) (lo' := [some (.ref 0), some (.int v1), none]) (st' := [.int (gI s30 10 0)]) (σ' := s30) (by decide +kernel) rfl rfl ?_
            exact g_iretL hx hr (by decide +kernel) (ok_some h)
          · have h := ok_f h c56
            refine g_run hx [(.iconst (-1), (-1), 0)] (pc' := 60) (lo' := [some (.ref 0), some (.int v1), none]) (st' := [.int (-1)]) (σ' := s27) (by decide +kernel) rfl rfl ?_
            exact g_iretL hx hr (by decide +kernel) (ok_some h)
      · have h := ok_f h c24
        refine g_run hx [(.iconst (-1), (-1), 0)] (pc' := 28) (lo' := [some (.ref 0), some (.int v1), none]) (st' := [.int (-1)]) (σ' := s21) (by decide +kernel) rfl rfl ?_
        exact g_iretL hx hr (by decide +kernel) (ok_some h)
