def PevX (y : EX) (vs : List Value) (σ : Sg) (sz : Nat) : Array Value → State → Prop := va_Pc (vs.map (ren y.2.2.1)) (fun U => U.heap.size = sz ∧ (Env9 y.2.2.1 y.2.2.2 y.2.1 (Aw y.2.2.1 sz) U U.heap ∧ LedE (Aw y.2.2.1 sz) U U.heap) ∧ va_P y.2.1 vCl (wld y.2.2.1 y.2.2.2 σ) U.heap)
def rmX (d : Nat) : Room := { frames := d + 6, cells := 1, slots := 6, locals := 64 * (d + 6) }
def EvX (y : EX) (M : MD) (d : Nat) (vs : List Value) (σ : Sg) (P : Option Int32 × Sg → Prop) : Prop :=
  y.1.stackTraces = false → ∀ sz : Nat, vx_Met y.1 M.2.1 (mws M) (rmX d) (PevX y vs σ sz) (QX y.2.1 y.2.2.1 y.2.2.2 P (Aw y.2.2.1 sz)) (XX y.2.1 y.2.2.1 y.2.2.2 P (Aw y.2.2.1 sz)) 1 6 (Aw y.2.2.1 sz)
theorem EvX.of {y : EX} {M : MD} {d : Nat} {vs : List Value} {σ : Sg} {P : Option Int32 × Sg → Prop} {n : Nat} (hM : Mok M n) (hret : M.2.2.2.2 = some .int) (he : (ent vs).length ≤ M.2.2.2.1) (k : ∀ x : CX, Cx M.1 M.2.2.1 x → Cc y M.2.2.2.1 d x → Cr9 P x → G x 0 (entN vs M.2.2.2.1) [] σ) : EvX y M d vs σ P := by
  obtain ⟨l, D, a, cA⟩ := y
  obtain ⟨m1, m2, m3, m4, m5, m6, m7⟩ := hM
  intro htr sz
  refine vx_ofW (cc := M.2.2.1) (maxL := M.2.2.2.1) (ret := M.2.2.2.2) m3 rfl ?_
  intro p e s m args below meth c s₁ B hml htab hv
  obtain ⟨rfl, rfl, ⟨hE9, hled⟩, hP⟩ := hv
  have hts := atoms_spec (ws := mws M) B.pre
  have hx : Cx M.1 M.2.2.1 ((p, l, e, rmX d, s, m, (vs.map (ren a)).toArray, below, meth, c), (a, cA, D, (0, 0), vx_MQ below (QX D a cA P (Aw a s.heap.size)) (XX D a cA P (Aw a s.heap.size)) (vs.map (ren a)).toArray s 1 6 (Aw a s.heap.size))) :=
    ⟨B.exec, B.bytes, by rw [← m5]; exact findClass_of_methodNamed B.named, fun w hw => hts w (List.mem_cons_of_mem _ hw), hE9.1, hE9.2.1⟩
  have hk := k _ hx ⟨rfl, hml, by show d ≤ d + 6; omega, by show 64 * d ≤ 64 * (d + 6); omega, by show 0 ≤ 1; omega, by show 0 ≤ 6; omega, hE9⟩ ⟨B.returns.trans hret, B.notSynchronized, rfl, rfl, htab, hled, htr, by show 6 ≤ d + 6; omega, by show 384 ≤ 64 * (d + 6); omega, Nat.le_refl _, Nat.le_refl _, rfl⟩
  rw [lg_entry_eq]
  exact hk s.heap [] _ hP va_S.rf (by rw [hml]; exact ent_lh a vs he)
def M_x_led : MD := (9, ⟨"SevenLeague", "led", "(I)I"⟩, prog_1_method_60_code, 4, (some .int))
theorem mk_x_led : Mok M_x_led 1 := ⟨gw_mem (p := 1341) (by decide +kernel) (by decide +kernel), gw_mem (p := 106) (by decide +kernel) (by decide +kernel), by decide +kernel, by decide, rfl, ⟨by decide +kernel, by decide +kernel⟩, by decide +kernel⟩
def f_x_led_L4 (N : Nat) : Nat → Int32 → Int32 → Sg → Option (Option Int32 × Sg)
  | 0, _, _, _ => none
  | n + 1, v2, v3, σ =>
    if (gI σ 13 1) ≤ v3 then
      some (none, σ)
    else
      (f_state_goneCells N 40 σ).bind fun q1 =>
      (f_country_isLost N v3 q1.1 q1.2).bind fun q2 =>
      if q2.1 = true then
        if v2 = 0 then
          some (some v3, q2.2)
        else
          f_x_led_L4 N n (v2 + (-1)) (v3 + 1) q2.2
      else
        f_x_led_L4 N n v2 (v3 + 1) q2.2
def f_x_led (N : Nat) (v1 : Int32) (σ : Sg) : Option (Option Int32 × Sg) :=
  f_x_led_L4 N N v1 0 σ
set_option maxRecDepth 100000 in
theorem s_x_led_L4 {y : EX} {N : Nat} {x : CX} {P : Option Int32 × Sg → Prop} (hx : Cx 9 prog_1_method_60_code x) (hc : Cc y 4 2 x) (hr : Cr9 P x) : ∀ (n : Nat) (v2 : Int32) (v3 : Int32) (σ : Sg), ok (f_x_led_L4 N n v2 v3 σ) P → G x 4 [some (.ref 0), none, some (.int v2), some (.int v3)] [] σ := by
  intro n
  induction n with
  | zero => intro v2 v3 σ h; exact ok_none h
  | succ n ih =>
    intro v2 v3 σ h
    rw [f_x_led_L4] at h
    refine g_run hx [(.iload_n 3, 0, 0), (.aload_n 0, 0, 0), (.getfield 19, 0, 0), (.getfield 129, 0, 0), (.getfield 133, 0, 0)] (pc' := 15) (lo' := [some (.ref 0), none, some (.int v2), some (.int v3)]) (st' := [.int (gI σ 13 1), .int v3]) (σ' := σ) (by decide +kernel) rfl rfl ?_
    refine g_ic_ge hx (off := 36) (tgt := 51) (by decide +kernel) (by decide) (fun c15 => ?_) (fun c15 => ?_)
    · have h := ok_t h c15
      exact g_throw hx hr (by decide +kernel) (by decide +kernel) (by decide +kernel) (by decide +kernel) (ok_some h)
    · have h := ok_f h c15
      refine g_run hx [(.aload_n 0, 0, 0), (.getfield 19, 0, 0), (.iload_n 3, 0, 0), (.aload_n 0, 0, 0), (.getfield 26, 0, 0)] (pc' := 27) (lo' := [some (.ref 0), none, some (.int v2), some (.int v3)]) (st' := [.ref 40, .int v3, .ref 10]) (σ' := σ) (by decide +kernel) rfl rfl ?_
      refine g_callV (rest := [.int v3, .ref 10]) [] hx hc mk_state_goneCells ln_9_144 rfl (by decide +kernel) (by decide) (Nat.le_of_ble_eq_true rfl) (s_state_goneCells_40 (ok_b h)) (fun r1 s1 h => ?_)
      refine g_callV (rest := []) [.int v3, .long r1] hx hc mk_country_isLost ln_9_148 rfl (by decide +kernel) (by decide) (Nat.le_of_ble_eq_true rfl) (s_country_isLost (ok_b h)) (fun r2 s2 h => ?_)
      refine g_ifb_eq hx (off := 12) (tgt := 45) (by decide +kernel) (by decide) (fun c33 => ?_) (fun c33 => ?_)
      · have h := ok_f h c33
        refine g_run hx [(.iinc 3 1, 1, 0)] (pc' := 48) (lo' := [some (.ref 0), none, some (.int v2), some (.int (v3 + 1))]) (st' := []) (σ' := s2) (by decide +kernel) rfl rfl ?_
        refine g_goto hx (off := (-44)) (tgt := 4) (by decide +kernel) (by decide) ?_
        exact ih _ _ _ h
      · have h := ok_t h c33
        refine g_run hx [(.iload_n 2, 0, 0)] (pc' := 37) (lo' := [some (.ref 0), none, some (.int v2), some (.int v3)]) (st' := [.int v2]) (σ' := s2) (by decide +kernel) rfl rfl ?_
        refine g_if_ne hx (off := 5) (tgt := 42) (by decide +kernel) (by decide) (fun c37 => ?_) (fun c37 => ?_)
        · have h := ok_f h c37
          refine g_run hx [(.iinc 2 (-1), (-1), 0), (.iinc 3 1, 1, 0)] (pc' := 48) (lo' := [some (.ref 0), none, some (.int (v2 + (-1))), some (.int (v3 + 1))]) (st' := []) (σ' := s2) (by decide +kernel) rfl rfl ?_
          refine g_goto hx (off := (-44)) (tgt := 4) (by decide +kernel) (by decide) ?_
          exact ih _ _ _ h
        · have h := ok_t h c37
          refine g_run hx [(.iload_n 3, 0, 0)] (pc' := 41) (lo' := [some (.ref 0), none, some (.int v2), some (.int v3)]) (st' := [.int v3]) (σ' := s2) (by decide +kernel) rfl rfl ?_
          exact g_iretX hx hr (by decide +kernel) (ok_some h)
set_option maxRecDepth 100000 in
theorem s_x_led {y : EX} {N : Nat} {v1 : Int32} {σ : Sg} {P : Option Int32 × Sg → Prop} (h : ok (f_x_led N v1 σ) P) : EvX y M_x_led 2 [.ref 0, .int v1] σ P := by
  refine EvX.of mk_x_led rfl (Nat.le_of_ble_eq_true rfl) (fun x hx hc hr => ?_)
  have hx : Cx 9 prog_1_method_60_code x := hx
  have hc : Cc y 4 2 x := hc
  show G x 0 [some (.ref 0), some (.int v1), none, none] [] σ
  unfold f_x_led at h
  refine g_run hx [(.iload_n 1, 0, 0), (.istore_n 2, 0, 0), (.iconst 0, 0, 0), (.istore_n 3, 0, 0)] (pc' := 4) (lo' := [some (.ref 0), some (.int v1), some (.int v1), some (.int 0)]) (st' := []) (σ' := σ) (by decide +kernel) rfl rfl ?_
  refine g_wk (lo' := [some (.ref 0), none, some (.int v1), some (.int 0)]) ⟨rfl, ⟨rfl, ⟨rfl, trivial⟩⟩⟩ ?_
  refine s_x_led_L4 hx hc hr N _ _ _ h
