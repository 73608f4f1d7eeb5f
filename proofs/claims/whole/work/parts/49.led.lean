/-! ===== SevenLeagueLaw.led: the exception is caught ===== -/
def yLed : MethodName := ⟨"SevenLeagueLaw", "led", "(LSevenLeague;I[J)I"⟩
def hLed : List (Nat × Nat × Nat × Nat) := [(0, 9, 12, 13)]
def wLed : List Cond := Cond.codeWith yLed method_3_code 4 (some .int) hLed :: gws
def rmL (d : Nat) : Room := { frames := d + 7, cells := 1, slots := 6, locals := 64 * (d + 7) }
def f_led (N : Nat) (v1 : Int32) (σ : Sg) : Option (Int32 × Sg) :=
  (f_x_led N v1 σ).bind fun q => match q.1 with
    | some r => some (0, sM q.2 85 0 r.toInt64)
    | none => some (1, q.2)
theorem led_code : Cond.codeWith yLed method_3_code 4 (some .int) hLed ∈ gws := gw_mem (p := 1336) (by decide +kernel) (by decide +kernel)
theorem sh_out : SH[85]? = some (.inr (2, 1)) := by decide +kernel
theorem sh_xx : ∃ fs, SH[0]? = some (.inl (M_x_led.1, fs)) := ⟨fsX, sh_x⟩
def EvD (y : EX) (v1 : Int32) (σ : Sg) (P : Int32 × Sg → Prop) : Prop :=
  y.1.stackTraces = false → ∀ sz : Nat, Met y.1 yLed wLed (rmL 2) (PevX y [.ref 0, .int v1, .ref 85] σ sz) (Qev y rvI P (Aw y.2.2.1 sz)) 1 6 (Aw y.2.2.1 sz)
theorem met_ofH {l : Launch} {y : MethodName} {ws ws' : List Cond} {rm : Room} {Pc : Array Value → State → Prop} {Qc : Array Value → State → Outcome → State → Prop} {mc ms : Nat} {free : Addr → Prop} {cc : ByteArray} {maxL : Nat} {ret : Option FieldType} {hh : List (Nat × Nat × Nat × Nat)}
    (hy : plainName y.cls = true) (hw : ws = Cond.codeWith y cc maxL ret hh :: ws')
    (body : ∀ p e s m args below meth c s₁, BodyLoose p l y (headSpec ws rm) cc maxL ret e s m args below meth c s₁ → c.maxLocals = maxL → Pc args s →
      W p l e (headSpec ws rm).room s m args below meth c s.heap [] 0 0 (MQ below Qc args s mc ms free) (entryFrame m args maxL)) : Met l y ws rm Pc Qc mc ms free := by
  refine MetFree.of_bodyS (code := cc) (maxLocals := maxL) (ret := ret) hy ?_ ?_
  · intro args s m h hn
    obtain ⟨m9, meth, c, hn9, h1, h2, h3, h4, -, h5, h6, -⟩ := Cond.codeWith_spec (atoms_spec (ws := ws) h _ (by rw [hw]; exact List.mem_cons_self))
    cases hn.symm.trans hn9
    exact ⟨meth, c, h1, h2, h3, h4, h5, h6⟩
  · intro p e s m args below meth c s₁ B hml hP _
    have hh0 : s₁.heap = s.heap := by rw [B.state]; rfl
    obtain ⟨t, a1, o, b1, b2, b3⟩ := body p e s m args below meth c s₁ B hml hP s₁ hh0 (Stand.of_body B)
    exact ⟨t, o, a1, b1, b2, ⟨b3.1, b3.2⟩⟩
theorem pevX_blind {y : EX} {vs : List Value} {σ : Sg} {sz : Nat} : FrameBlind (PevX y vs σ sz) := by
  intro a U g mk h
  obtain ⟨h1, h2, ⟨h3, h4⟩, h5⟩ := h
  refine ⟨h1, h2, ⟨h3.calling, ?_, ?_, ?_⟩, h5⟩
  · intro w hw
    have hc := List.all_eq_true.mp at_cd w hw
    have hz := h4.1 w hw
    cases w <;> first | (cases hc; done) | exact va_Nw.same rfl rfl hz
  · exact h4.2.1.moved (Vm.Alike.refl U.vm)
  · exact h4.2.2.moved (Vm.Alike.refl U.vm)
set_option maxHeartbeats 4000000 in
set_option maxRecDepth 100000 in
theorem s_led {y : EX} {N : Nat} {v1 : Int32} {σ : Sg} {P : Int32 × Sg → Prop} (h : ok (f_led N v1 σ) P) : EvD y v1 σ P := by
  obtain ⟨fs, hsh⟩ := sh_xx
  obtain ⟨l, D, a, cA⟩ := y
  intro htr sz
  have hE : EvX (l, D, a, cA) M_x_led 2 [.ref 0, .int v1] σ (fun z => ok (match z.1 with | some r => some ((0 : Int32), sM z.2 85 0 r.toInt64) | none => some (1, z.2)) P) := s_x_led (ok_b h)
  have w1 : Cond.methodLink "SevenLeagueLaw" 7 M_x_led.2.1 ∈ gws := gw_mem (p := 1338) (by decide +kernel) (by decide +kernel)
  have w2 : Cond.instanceMethod M_x_led.2.1 ∈ gws := gw_mem (p := 1339) (by decide +kernel) (by decide +kernel)
  have w3 : Cond.selects (kR 9) M_x_led.2.1 M_x_led.2.1 ∈ gws := gw_mem (p := 1340) (by decide +kernel) (by decide +kernel)
  have w4 : Cond.classLink "SevenLeagueLaw" 13 xN ∈ gws := gw_mem (p := 1337) (by decide +kernel) (by decide +kernel)
  have wi : Cond.initialized (kR 9) ∈ gws := mk_x_led.2.1
  refine met_ofH (cc := method_3_code) (maxL := 4) (ret := some .int) (hh := hLed) (by decide +kernel) rfl ?_
  intro p e s m args below meth c s₁ B hml hv
  obtain ⟨rfl, rfl, ⟨hE9, hled⟩, hP⟩ := hv
  dsimp only at B htr hE9 hled hP ⊢
  have hts0 := atoms_spec (ws := wLed) B.pre
  have hts : ∀ w ∈ gws, w.before _ s = true := fun w hw => hts0 w (List.mem_cons_of_mem _ hw)
  have htab : c.exceptionTable.toList = tableOf hLed := vx_table (x := yLed) B (hts0 _ List.mem_cons_self)
  have hx := B.exec
  have hb := B.bytes
  have hr := B.returns
  have hlocks := B.notSynchronized
  have hown : s.vm.findClass "SevenLeagueLaw" = some m.cls := findClass_of_methodNamed B.named
  have hK := hE9.1
  have hinj := hE9.2.1
  have hS : va_S (Aw a s.heap.size) s.heap s.heap [] := va_S.rf
  rw [lg_entry_eq]
  have hl0 := ent_lh a [.ref 0, .int v1, .ref 85] (n := 4) (Nat.le_of_ble_eq_true rfl)
  generalize (lg_sl (List.map (ren a) [.ref 0, .int v1, .ref 85]) ++ List.replicate (4 - (lg_sl (List.map (ren a) [.ref 0, .int v1, .ref 85])).length) Slot.unset).toArray = ls at hl0 ⊢
  refine lv_aload_n hx hb (show decode method_3_code 0 = .ok (.aload_n 2, 1) from by decide +kernel) rfl (hl0.2.2.2 2 (.ref 85) rfl) ?_
  refine lv_iconst (v := 0) hx hb (show decode method_3_code 1 = .ok (.iconst 0, 1) from by decide +kernel) (by decide) ?_
  refine lv_aload_n hx hb (show decode method_3_code 2 = .ok (.aload_n 0, 1) from by decide +kernel) rfl (hl0.2.2.2 0 (.ref 0) rfl) ?_
  refine lv_iload_n hx hb (show decode method_3_code 3 = .ok (.iload_n 1, 1) from by decide +kernel) rfl (hl0.2.2.2 1 (.int v1) rfl) ?_
  have hin : ∀ w ∈ wsV "SevenLeagueLaw" 7 (kR 9) M_x_led.2.1 (mws M_x_led), w ∈ gws := by
    intro w hw
    unfold wsV at hw
    rcases List.mem_append.mp hw with h | h
    · simp only [List.mem_cons, List.not_mem_nil, or_false] at h
      rcases h with rfl | rfl | rfl | rfl
      · exact w1
      · exact w2
      · exact w3
      · exact wi
    · exact mws_in mk_x_led.1 w h
  have hrun := vx_runV (R := (headSpec wLed (rmL 2)).room) (e := e) (below := below) (meth := meth) (locs := []) (g := F0 m 4 ls [.int v1, .ref (a 0), .int 0, .ref (a 85)]) (As := [.int v1]) (rest := [.int 0, .ref (a 85)]) (b := a 0) (C := kR 9) (n := 1) (cells := 0) (slots := 0) ⟨hx, hb, hml, hown, hts⟩ (hE htr s.heap.size)
    (cwV 1 hts (gw_in hin) rfl rfl rfl ⟨rfl, by decide +kernel, by decide +kernel, by decide +kernel⟩ ⟨Nat.le_of_ble_eq_true rfl, Nat.le_of_ble_eq_true rfl⟩)
    ⟨pevX_blind, recvK hK hP hsh, fun U hU hW => ⟨rfl, by rw [hU], ⟨by rw [hU]; exact hE9.to hW (fun _ _ _ => rfl) (fun _ h => h), by rw [hU]; exact hled.to hW (fun _ _ _ => rfl) (fun _ h => h)⟩, by rw [hU]; exact hP⟩⟩ rfl rfl (hl0.1) rfl (lv_room (Nat.le_of_ble_eq_true rfl)) (show decode method_3_code 4 = .ok (.invokevirtual 7, 3) from by decide +kernel) ⟨Nat.le_of_ble_eq_true rfl, Nat.le_of_ble_eq_true rfl⟩
  intro T hT X
  rcases hrun T hT X with ⟨v, st₀, t, T', L, h0, X', hL, e1, e2, ⟨⟨r, σ', hv, hp, hP1⟩, hz, hk⟩, st⟩ | ⟨q, st₀, t, T', L, E, ce, h0, X', hL, e1, e2, ⟨rfl, ⟨σ', hp, hP1⟩, hz, hk⟩, hce, hcv, hcc, st⟩
  · cases hv
    rw [h0] at hz hk
    have hS1 : va_S (Aw a s.heap.size) s.heap T'.heap ([] ++ L) := ⟨by rw [e1]; exact hz, fun q h1 h2 => by rw [e1]; exact hk q h1 h2, fun q hq => hL q (by simpa using hq)⟩
    have hp' : P (0, sM σ' 85 0 r.toInt64) := ok_some hp
    have hP2 : va_P D vCl (wld a cA σ') T'.heap := by rw [e1]; exact hP1
    have w : W p l e (headSpec wLed (rmL 2)).room s m (List.map (ren a) [.ref 0, .int v1, .ref 85]).toArray below meth c T'.heap ([] ++ L) 1 6 (MQ below (Qev (l, D, a, cA) rvI P (Aw a s.heap.size)) (List.map (ren a) [.ref 0, .int v1, .ref 85]).toArray s 1 6 (Aw a s.heap.size)) (F0 m 7 ls [.int r, .int 0, .ref (a 85)]) := by
      refine lv_i2l hx hb (show decode method_3_code 7 = .ok (.i2l, 1) from by decide +kernel) rfl ?_
      refine va_last hx hb hK hP2 (wld_D hinj) hS1 85 2 (wld_at sh_out) rfl (show vp_in 0 1 from by unfold vp_in; decide) (show decode method_3_code 8 = .ok (.lastore, 1) from by decide +kernel) (fun H1 locs1 hP3 _ hS2 => ?_)
      have e4 : vp_updL (gL σ' 85) (0 : Int32).toNatClampNeg r.toInt64 = gL (sM σ' 85 0 r.toInt64) 85 := upd_sL
      rw [e4] at hP3
      have e5 : (wld a cA σ').set 85 (cel a cA (sM σ' 85 0 r.toInt64) 85 (.inr (2, 1))) = wld a cA (sM σ' 85 0 r.toInt64) := wld_set sh_out (fun j z n => cel_sL_ne n)
      have e6 : cel a cA (sM σ' 85 0 r.toInt64) 85 (.inr (2, 1)) = (a 85, .inl (cA 2, 1, .inr (.inl (gL (sM σ' 85 0 r.toInt64) 85)))) := rfl
      rw [e6] at e5
      rw [e5] at hP3
      refine lv_goto (tgt := 15) hx hb (show decode method_3_code 9 = .ok (.goto 6, 3) from by decide +kernel) (by decide) ?_
      refine lv_iconst (v := 0) hx hb (show decode method_3_code 15 = .ok (.iconst 0, 1) from by decide +kernel) (by decide) ?_
      exact W.iret (v := 0) hx hb hr (fun t ht hW => ⟨⟨0, _, rfl, hp', by rw [ht]; exact hP3⟩, hS2.F ht⟩) hS2.2.2 (show decode method_3_code 16 = .ok (.ireturn, 1) from by decide +kernel) hlocks
    obtain ⟨t2, a1, b1⟩ := w T' rfl X'
    exact ⟨t2, st t2 a1, b1⟩
  · rw [h0] at hz hk
    have hS1 : va_S (Aw a s.heap.size) s.heap T'.heap ([] ++ L) := ⟨by rw [e1]; exact hz, fun q h1 h2 => by rw [e1]; exact hk q h1 h2, fun q hq => hL q (by simpa using hq)⟩
    have hp' : P (1, σ') := ok_some hp
    have hP2 : va_P D vCl (wld a cA σ') T'.heap := by rw [e1]; exact hP1
    have hcast : (Cond.castable xN xN).before (List.map (ren a) [.ref 0, .int v1, .ref 85]).toArray s = true := va_Nw.use rfl (hled.1 (Cond.castable xN xN) (by decide +kernel))
    have w : vx_W p l e (headSpec wLed (rmL 2)).room s m (List.map (ren a) [.ref 0, .int v1, .ref 85]).toArray below meth c T'.heap ([] ++ L) 1 6 (MQ below (Qev (l, D, a, cA) rvI P (Aw a s.heap.size)) (List.map (ren a) [.ref 0, .int v1, .ref 85]).toArray s 1 6 (Aw a s.heap.size)) (F0 m 4 ls [.int 0, .ref (a 85)]) q := by
      refine vx_catch hown [] ⟨0, 9, 12, 13⟩ [] htab (fun z hz => by cases hz) (by decide) (by decide) (hts _ w4) hcast (by rw [e1]; exact hce) hcv hcc ?_
      refine lv_astore_n hx hb (show decode method_3_code 12 = .ok (.astore_n 3, 1) from by decide +kernel) rfl (lh_has hl0) (by decide) rfl (fun ls2 hl2 => ?_)
      refine lv_iconst (v := 1) hx hb (show decode method_3_code 13 = .ok (.iconst 1, 1) from by decide +kernel) (by decide) ?_
      exact W.iret (v := 1) hx hb hr (fun t ht hW => ⟨⟨1, _, rfl, hp', by rw [ht]; exact hP2⟩, hS1.F ht⟩) hS1.2.2 (show decode method_3_code 14 = .ok (.ireturn, 1) from by decide +kernel) hlocks
    obtain ⟨t2, a1, b1⟩ := w T' rfl X'
    exact ⟨t2, st.trans a1, b1⟩
