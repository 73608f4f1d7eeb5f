/-! ===== constructors: by program (wip/whole/gen/ctor.py) ===== -/
def MC_numbers : MD := (3, ⟨"SevenLeague$Numbers", "<init>", "(I)V"⟩, prog_5_method_1_code, 2, none)
theorem mkMC_numbers : Mok MC_numbers 1 := ⟨gw_mem (p := 152) (by decide +kernel) (by decide +kernel), gw_mem (p := 109) (by decide +kernel) (by decide +kernel), by decide +kernel, by decide, rfl, ⟨by decide +kernel, by decide +kernel⟩, by decide +kernel⟩
def MC_country : MD := (1, ⟨"SevenLeague$Country", "<init>", "()V"⟩, prog_3_method_1_code, 1, none)
theorem mkMC_country : Mok MC_country 0 := ⟨gw_mem (p := 146) (by decide +kernel) (by decide +kernel), gw_mem (p := 108) (by decide +kernel) (by decide +kernel), by decide +kernel, by decide, rfl, ⟨by decide +kernel, by decide +kernel⟩, by decide +kernel⟩
def MC_reader : MD := (5, ⟨"SevenLeague$Reade\x72", "<init>", "()V"⟩, prog_7_method_1_code, 1, none)
theorem mkMC_reader : Mok MC_reader 0 := ⟨gw_mem (p := 140) (by decide +kernel) (by decide +kernel), gw_mem (p := 107) (by decide +kernel) (by decide +kernel), by decide +kernel, by decide, rfl, ⟨by decide +kernel, by decide +kernel⟩, by decide +kernel⟩
def MC_state : MD := (7, ⟨"SevenLeague$State", "<init>", "()V"⟩, prog_9_method_1_code, 1, none)
theorem mkMC_state : Mok MC_state 0 := ⟨gw_mem (p := 299) (by decide +kernel) (by decide +kernel), gw_mem (p := 111) (by decide +kernel) (by decide +kernel), by decide +kernel, by decide, rfl, ⟨by decide +kernel, by decide +kernel⟩, by decide +kernel⟩
def MC_shelf : MD := (6, ⟨"SevenLeague$Shelf", "<init>", "(I)V"⟩, prog_8_method_1_code, 3, none)
theorem mkMC_shelf : Mok MC_shelf 1 := ⟨gw_mem (p := 340) (by decide +kernel) (by decide +kernel), gw_mem (p := 113) (by decide +kernel) (by decide +kernel), by decide +kernel, by decide, rfl, ⟨by decide +kernel, by decide +kernel⟩, by decide +kernel⟩
def MC_history : MD := (2, ⟨"SevenLeague$History", "<init>", "()V"⟩, prog_4_method_1_code, 1, none)
theorem mkMC_history : Mok MC_history 0 := ⟨gw_mem (p := 334) (by decide +kernel) (by decide +kernel), gw_mem (p := 112) (by decide +kernel) (by decide +kernel), by decide +kernel, by decide, rfl, ⟨by decide +kernel, by decide +kernel⟩, by decide +kernel⟩
def MC_paths : MD := (4, ⟨"SevenLeague$Paths", "<init>", "()V"⟩, prog_6_method_1_code, 1, none)
theorem mkMC_paths : Mok MC_paths 0 := ⟨gw_mem (p := 377) (by decide +kernel) (by decide +kernel), gw_mem (p := 114) (by decide +kernel) (by decide +kernel), by decide +kernel, by decide, rfl, ⟨by decide +kernel, by decide +kernel⟩, by decide +kernel⟩
def MC_tours : MD := (8, ⟨"SevenLeague$Tours", "<init>", "()V"⟩, prog_10_method_1_code, 1, none)
theorem mkMC_tours : Mok MC_tours 0 := ⟨gw_mem (p := 420) (by decide +kernel) (by decide +kernel), gw_mem (p := 115) (by decide +kernel) (by decide +kernel), by decide +kernel, by decide, rfl, ⟨by decide +kernel, by decide +kernel⟩, by decide +kernel⟩
def MC_chances : MD := (0, ⟨"SevenLeague$Chances", "<init>", "()V"⟩, prog_2_method_1_code, 1, none)
theorem mkMC_chances : Mok MC_chances 0 := ⟨gw_mem (p := 449) (by decide +kernel) (by decide +kernel), gw_mem (p := 116) (by decide +kernel) (by decide +kernel), by decide +kernel, by decide, rfl, ⟨by decide +kernel, by decide +kernel⟩, by decide +kernel⟩
def MC_x : MD := (9, ⟨"SevenLeague", "<init>", "()V"⟩, prog_1_method_1_code, 1, none)
theorem mkMC_x : Mok MC_x 0 := ⟨gw_mem (p := 132) (by decide +kernel) (by decide +kernel), gw_mem (p := 106) (by decide +kernel) (by decide +kernel), by decide +kernel, by decide, rfl, ⟨by decide +kernel, by decide +kernel⟩, by decide +kernel⟩
def MC_m : MD := (10, ⟨"SevenLeagueModel", "<init>", "()V"⟩, prog_12_method_1_code, 1, none)
theorem mkMC_m : Mok MC_m 0 := ⟨gw_mem (p := 1407) (by decide +kernel) (by decide +kernel), gw_mem (p := 117) (by decide +kernel) (by decide +kernel), by decide +kernel, by decide, rfl, ⟨by decide +kernel, by decide +kernel⟩, by decide +kernel⟩
theorem kF_0 : ∀ j, j < 6 → defaultValue (kY_0 j) = vp_V [.long 0, .long 0, .long 0, .int 0, .int 0, .int 0] j := by decide +kernel
theorem kF_1 : ∀ j, j < 15 → defaultValue (kY_1 j) = vp_V [.int 0, .int 0, .int 0, .int 0, .long 0, .long 0, .null, .null, .null, .null, .null, .null, .null, .int 0, .long 0] j := by decide +kernel
theorem kF_2 : ∀ j, j < 3 → defaultValue (kY_2 j) = vp_V [.null, .int 0, .int 0] j := by decide +kernel
theorem kF_3 : ∀ j, j < 2 → defaultValue (kY_3 j) = vp_V [.null, .int 0] j := by decide +kernel
theorem kF_4 : ∀ j, j < 12 → defaultValue (kY_4 j) = vp_V [.null, .null, .null, .null, .null, .null, .null, .null, .long 0, .int 0, .int 0, .long 0] j := by decide +kernel
theorem kF_5 : ∀ j, j < 14 → defaultValue (kY_5 j) = vp_V [.null, .int 0, .int 0, .int 0, .int 0, .int 0, .int 0, .null, .null, .null, .null, .null, .int 0, .int 0] j := by decide +kernel
theorem kF_6 : ∀ j, j < 5 → defaultValue (kY_6 j) = vp_V [.null, .null, .null, .null, .null] j := by decide +kernel
theorem kF_7 : ∀ j, j < 5 → defaultValue (kY_7 j) = vp_V [.long 0, .long 0, .int 0, .int 0, .int 0] j := by decide +kernel
theorem kF_8 : ∀ j, j < 6 → defaultValue (kY_8 j) = vp_V [.int 0, .int 0, .int 0, .int 0, .int 0, .null] j := by decide +kernel
theorem kF_9 : ∀ j, j < 11 → defaultValue (kY_9 j) = vp_V [.null, .null, .null, .null, .null, .null, .int 0, .null, .null, .null, .int 0] j := by decide +kernel
theorem kF_10 : ∀ j, j < 52 → defaultValue (kY_10 j) = vp_V [.int 0, .null, .int 0, .int 0, .int 0, .int 0, .int 0, .int 0, .int 0, .int 0, .int 0, .int 0, .null, .int 0, .int 0, .null, .null, .null, .null, .null, .null, .null, .null, .null, .int 0, .int 0, .null, .int 0, .int 0, .int 0, .int 0, .null, .null, .null, .null, .int 0, .int 0, .int 0, .int 0, .int 0, .null, .int 0, .int 0, .int 0, .null, .int 0, .int 0, .int 0, .int 0, .long 0, .long 0, .long 0] j := by decide +kernel
def Kc (D : va_G) (cA : Nat → ClassId) (U : State) : Prop := va_K D vCl (tyL cA) U ∧ ∀ q ∈ nstL, va_Nw (.methodLinkNest (kR q.1) q.2.1 q.2.2 "SevenLeague") U
theorem Kc.warm {D : va_G} {cA : Nat → ClassId} {s U : State} (hW : s.WarmedH U.vm) (h : Kc D cA s) : Kc D cA U := ⟨va_K.moved hW.alike h.1, fun q hm => va_Nw.warmM hW (h.2 q hm)⟩
theorem kc_blind {D : va_G} {cA : Nat → ClassId} {av : List Value} {sz : Nat} {w0 : va_W} : FrameBlind (va_Pc av (fun U => U.heap.size = sz ∧ va_P D vCl w0 U.heap ∧ Kc D cA U ∧ va_D (fun _ => True) w0)) := by
  intro a U g mk q
  obtain ⟨q0, q1, qP, qK, qD⟩ := q
  exact ⟨q0, q1, qP, ⟨va_K.moved (u := U) (U := U.calling g mk a) (Vm.Alike.refl U.vm) qK.1, fun z hm => va_Nw.same rfl rfl (qK.2 z hm)⟩, qD⟩
theorem ka_0 {D : va_G} {cA : Nat → ClassId} {c : ClassId} {s : State} (h : va_K D vCl (tyL cA ++ [(c, .int)]) s) : c = cA 0 := by
  have h1 : s.vm.findClass ("[" ++ FieldType.int.toString) = some (cA 0) := (h.2 0 (cA 0, .int) rfl).2
  have h2 : s.vm.findClass ("[" ++ FieldType.int.toString) = some c := (h.2 3 (c, .int) rfl).2
  exact Option.some.inj (h2.symm.trans h1)
theorem ka_1 {D : va_G} {cA : Nat → ClassId} {c : ClassId} {s : State} (h : va_K D vCl (tyL cA ++ [(c, .byte)]) s) : c = cA 1 := by
  have h1 : s.vm.findClass ("[" ++ FieldType.byte.toString) = some (cA 1) := (h.2 1 (cA 1, .byte) rfl).2
  have h2 : s.vm.findClass ("[" ++ FieldType.byte.toString) = some c := (h.2 3 (c, .byte) rfl).2
  exact Option.some.inj (h2.symm.trans h1)
theorem ka_2 {D : va_G} {cA : Nat → ClassId} {c : ClassId} {s : State} (h : va_K D vCl (tyL cA ++ [(c, .long)]) s) : c = cA 2 := by
  have h1 : s.vm.findClass ("[" ++ FieldType.long.toString) = some (cA 2) := (h.2 2 (cA 2, .long) rfl).2
  have h2 : s.vm.findClass ("[" ++ FieldType.long.toString) = some c := (h.2 3 (c, .long) rfl).2
  exact Option.some.inj (h2.symm.trans h1)
set_option maxHeartbeats 4000000 in
set_option maxRecDepth 100000 in
theorem cc_numbers_3 (l : Launch) (dC : Nat → ClassId) (dI : Nat → Nat → Nat) (cA : Nat → ClassId) (h0 sz : Nat) : Met l MC_numbers.2.1 (mws MC_numbers) ({ frames := 2, cells := 1, slots := 3, locals := 128 }) (va_Pc [.ref h0, .int 3] (fun U => U.heap.size = sz ∧ va_P (dC, dI) vCl [(h0, .inr (3, [.null, .int 0]))] U.heap ∧ Kc (dC, dI) cA U ∧ va_D (fun _ => True) [(h0, .inr (3, [.null, .int 0]))])) (va_Qv (fun _ : Unit => True) (fun _ t => ∃ (q15 : Nat), va_P (dC, dI) vCl [(h0, .inr (3, [.ref q15, .int 0])), (q15, .inl (cA 0, 3, .inl (fun _ => 0)))] t.heap ∧ va_D (va_A [(h0, .inr (3, [.null, .int 0]))] sz) [(h0, .inr (3, [.ref q15, .int 0])), (q15, .inl (cA 0, 3, .inl (fun _ => 0)))]) (va_A [(h0, .inr (3, [.null, .int 0]))] sz)) 1 3 (va_A [(h0, .inr (3, [.null, .int 0]))] sz) := by
  refine Met.ofW (cc := prog_5_method_1_code) (maxL := 2) (ret := none) (by decide +kernel) rfl ?_
  intro p e s m args below meth c s₁ B hml hv
  obtain ⟨rfl, hsz, hP, hKc, hD0⟩ := hv
  have hx := B.exec
  have hb := B.bytes
  have hr := B.returns
  have hts0 := atoms_spec (ws := mws MC_numbers) B.pre
  have hts : ∀ w ∈ gws, w.before _ s = true := fun w hw => hts0 w (List.mem_cons_of_mem _ hw)
  have hown : s.vm.findClass (kR 3) = some m.cls := findClass_of_methodNamed B.named
  have hlocks := B.notSynchronized
  have hin : meth.name = "<init>" := (name_of_methodNamed B.named B.method).1
  subst hsz
  have hK := hKc.1
  have hD := hD0.self (sz := s.heap.size)
  generalize hAe : va_A [(h0, .inr (3, [.null, .int 0]))] s.heap.size = A at hD ⊢
  have hA : ∀ q : Nat, s.heap.size ≤ q → A q := fun q h => by rw [← hAe]; exact Or.inr h
  have hS : va_S A s.heap s.heap [] := va_S.rf
  have hP : va_P (dC, dI) vCl [(h0, .inr (3, [.null, .int 0]))] s.heap := hP
  have hl := lv_entry ([.ref h0, .int 3]) (n := 2) (Nat.le_of_ble_eq_true rfl)
  rw [lg_entry_eq]
  generalize (lg_sl ([.ref h0, .int 3]) ++ List.replicate (2 - (lg_sl ([.ref h0, .int 3])).length) Slot.unset).toArray = ls at hl ⊢
  have hl : lv_has ls 2 [(0, .ref h0), (1, .int 3)] := hl
  refine lv_aload_n hx hb (show decode prog_5_method_1_code 0 = .ok (.aload_n 0, 1) from by decide +kernel) rfl (lv_at hl 0 rfl) ?_
  refine W.objInit hx hb hown (hts (.methodLink (kR 3) 3 objectInit) (gw_mem (p := 153) (by decide +kernel) (by decide +kernel))) (hts (.instanceMethod objectInit) (gw_mem (p := 134) (by decide +kernel) (by decide +kernel))) (hts (.code objectInit ⟨#[0xb1]⟩ 1 none) (gw_mem (p := 135) (by decide +kernel) (by decide +kernel))) rfl (by rw [hml]; exact hl.1) rfl (show decode prog_5_method_1_code 1 = .ok (.invokespecial 3, 3) from by decide +kernel) (Nat.le_of_ble_eq_true rfl) (Nat.le_of_ble_eq_true rfl) ?_
  refine W.eq (g2 := F0 m 4 ls []) rfl ?_
  refine lv_aload_n hx hb (show decode prog_5_method_1_code 4 = .ok (.aload_n 0, 1) from by decide +kernel) rfl (lv_at hl 0 rfl) ?_
  refine lv_iconst (v := 0) hx hb (show decode prog_5_method_1_code 5 = .ok (.iconst 0, 1) from by decide +kernel) (by decide) ?_
  refine va_put (D := (dC, dI)) (ci := 3) (v := .int 0) (ty := kY_3 1) (C := kR 3) (T := kT_3) (N := 2) hx hb hts kU_3 kY_3 kY_3_ok kN_3 hown hK hP hD hS 0 rfl rfl 1 (by decide) (hts (.fieldLink (kR 3) 9 (kR 3) "count" "I") (gw_mem (p := 158) (by decide +kernel) (by decide +kernel))) (fun _ h9 => h9) rfl (by decide +kernel) rfl rfl (Nat.le_of_ble_eq_true rfl) (show decode prog_5_method_1_code 6 = .ok (.putfield 9, 3) from by decide +kernel) (fun H locs hP hD hS => ?_)
  have hP : va_P (dC, dI) vCl [(h0, .inr (3, [.null, .int 0]))] H := hP
  have hD : va_D A [(h0, .inr (3, [.null, .int 0]))] := hD
  refine lv_aload_n hx hb (show decode prog_5_method_1_code 9 = .ok (.aload_n 0, 1) from by decide +kernel) rfl (lv_at hl 0 rfl) ?_
  refine lv_iload_n hx hb (show decode prog_5_method_1_code 10 = .ok (.iload_n 1, 1) from by decide +kernel) rfl (lv_at hl 1 rfl) ?_
  refine lv_iconst (v := 0) hx hb (show decode prog_5_method_1_code 11 = .ok (.iconst 0, 1) from by decide +kernel) (by decide) ?_
  refine va_mmax hx hb (by rw [hml]; exact hl.1.symm) hown (hts _ (gw_mem (p := 154) (by decide +kernel) (by decide +kernel))) (hts _ (gw_mem (p := 155) (by decide +kernel) (by decide +kernel))) (hts _ (gw_mem (p := 110) (by decide +kernel) (by decide +kernel))) (hts _ (gw_mem (p := 156) (by decide +kernel) (by decide +kernel))) (Nat.le_of_ble_eq_true rfl) (Nat.le_of_ble_eq_true rfl) (Nat.le_of_ble_eq_true rfl) (Nat.le_of_ble_eq_true rfl) (show decode prog_5_method_1_code 12 = .ok (.invokestatic 15, 3) from by decide +kernel) ?_
  refine lv_topi (fun t12 e12 => ?_)
  have e12 : t12 = 3 := by rw [e12]; decide
  subst e12
  refine va_newa (atype := .int) (ty := .int) (N' := 3) (a0 := (3, .inl (fun _ => 0))) hx hb (hts (.arrayClass .int) (gw_mem (p := 169) (by decide +kernel) (by decide +kernel))) rfl hK hP hD hS hA (fun _ => rfl) (by decide) (by decide) (Nat.le_of_ble_eq_true rfl) (Nat.le_of_ble_eq_true rfl) (Nat.le_of_ble_eq_true rfl) (show decode prog_5_method_1_code 15 = .ok (.newarray .int, 2) from by decide +kernel) (fun q15 c15 H hK1 hP hD hS => ?_)
  obtain rfl : c15 = cA 0 := ka_0 hK1
  refine W.widen (k := 1) (n := 3) (Nat.le_of_ble_eq_true rfl) (Nat.le_of_ble_eq_true rfl) ?_
  have hP : va_P (dC, dI) vCl [(h0, .inr (3, [.null, .int 0])), (q15, .inl (cA 0, 3, .inl (fun _ => 0)))] H := hP
  have hD : va_D A [(h0, .inr (3, [.null, .int 0])), (q15, .inl (cA 0, 3, .inl (fun _ => 0)))] := hD
  refine va_putF (D := (dC, dI)) (ci := 3) (v := .ref q15) (ty := kY_3 0) (C := kR 3) (T := kT_3) (N := 2) hx hb hts kU_3 kY_3 kY_3_ok kN_3 hown hK hP hD hS 0 rfl rfl 0 (by decide) (hts (.fieldLink (kR 3) 21 (kR 3) "values" "[I") (gw_mem (p := 157) (by decide +kernel) (by decide +kernel))) (fun _ h9 => h9) rfl hin rfl (by decide +kernel) rfl rfl (Nat.le_of_ble_eq_true rfl) (show decode prog_5_method_1_code 17 = .ok (.putfield 21, 3) from by decide +kernel) (fun H locs hP hD hS => ?_)
  have hP : va_P (dC, dI) vCl [(h0, .inr (3, [.ref q15, .int 0])), (q15, .inl (cA 0, 3, .inl (fun _ => 0)))] H := hP
  have hD : va_D A [(h0, .inr (3, [.ref q15, .int 0])), (q15, .inl (cA 0, 3, .inl (fun _ => 0)))] := hD
  refine W.widen (k := 1) (n := 3) (Nat.le_of_ble_eq_true rfl) (Nat.le_of_ble_eq_true rfl) ?_
  exact W.vret hx hb hr (fun t ht hW => ⟨⟨(), rfl, trivial, q15, by rw [ht]; exact hP, hD⟩, hS.F ht⟩) hS.2.2 (show decode prog_5_method_1_code 20 = .ok (.return_, 1) from by decide +kernel)
set_option maxHeartbeats 4000000 in
set_option maxRecDepth 100000 in
theorem cc_numbers_6 (l : Launch) (dC : Nat → ClassId) (dI : Nat → Nat → Nat) (cA : Nat → ClassId) (h0 sz : Nat) : Met l MC_numbers.2.1 (mws MC_numbers) ({ frames := 2, cells := 1, slots := 6, locals := 128 }) (va_Pc [.ref h0, .int 6] (fun U => U.heap.size = sz ∧ va_P (dC, dI) vCl [(h0, .inr (3, [.null, .int 0]))] U.heap ∧ Kc (dC, dI) cA U ∧ va_D (fun _ => True) [(h0, .inr (3, [.null, .int 0]))])) (va_Qv (fun _ : Unit => True) (fun _ t => ∃ (q15 : Nat), va_P (dC, dI) vCl [(h0, .inr (3, [.ref q15, .int 0])), (q15, .inl (cA 0, 6, .inl (fun _ => 0)))] t.heap ∧ va_D (va_A [(h0, .inr (3, [.null, .int 0]))] sz) [(h0, .inr (3, [.ref q15, .int 0])), (q15, .inl (cA 0, 6, .inl (fun _ => 0)))]) (va_A [(h0, .inr (3, [.null, .int 0]))] sz)) 1 6 (va_A [(h0, .inr (3, [.null, .int 0]))] sz) := by
  refine Met.ofW (cc := prog_5_method_1_code) (maxL := 2) (ret := none) (by decide +kernel) rfl ?_
  intro p e s m args below meth c s₁ B hml hv
  obtain ⟨rfl, hsz, hP, hKc, hD0⟩ := hv
  have hx := B.exec
  have hb := B.bytes
  have hr := B.returns
  have hts0 := atoms_spec (ws := mws MC_numbers) B.pre
  have hts : ∀ w ∈ gws, w.before _ s = true := fun w hw => hts0 w (List.mem_cons_of_mem _ hw)
  have hown : s.vm.findClass (kR 3) = some m.cls := findClass_of_methodNamed B.named
  have hlocks := B.notSynchronized
  have hin : meth.name = "<init>" := (name_of_methodNamed B.named B.method).1
  subst hsz
  have hK := hKc.1
  have hD := hD0.self (sz := s.heap.size)
  generalize hAe : va_A [(h0, .inr (3, [.null, .int 0]))] s.heap.size = A at hD ⊢
  have hA : ∀ q : Nat, s.heap.size ≤ q → A q := fun q h => by rw [← hAe]; exact Or.inr h
  have hS : va_S A s.heap s.heap [] := va_S.rf
  have hP : va_P (dC, dI) vCl [(h0, .inr (3, [.null, .int 0]))] s.heap := hP
  have hl := lv_entry ([.ref h0, .int 6]) (n := 2) (Nat.le_of_ble_eq_true rfl)
  rw [lg_entry_eq]
  generalize (lg_sl ([.ref h0, .int 6]) ++ List.replicate (2 - (lg_sl ([.ref h0, .int 6])).length) Slot.unset).toArray = ls at hl ⊢
  have hl : lv_has ls 2 [(0, .ref h0), (1, .int 6)] := hl
  refine lv_aload_n hx hb (show decode prog_5_method_1_code 0 = .ok (.aload_n 0, 1) from by decide +kernel) rfl (lv_at hl 0 rfl) ?_
  refine W.objInit hx hb hown (hts (.methodLink (kR 3) 3 objectInit) (gw_mem (p := 153) (by decide +kernel) (by decide +kernel))) (hts (.instanceMethod objectInit) (gw_mem (p := 134) (by decide +kernel) (by decide +kernel))) (hts (.code objectInit ⟨#[0xb1]⟩ 1 none) (gw_mem (p := 135) (by decide +kernel) (by decide +kernel))) rfl (by rw [hml]; exact hl.1) rfl (show decode prog_5_method_1_code 1 = .ok (.invokespecial 3, 3) from by decide +kernel) (Nat.le_of_ble_eq_true rfl) (Nat.le_of_ble_eq_true rfl) ?_
  refine W.eq (g2 := F0 m 4 ls []) rfl ?_
  refine lv_aload_n hx hb (show decode prog_5_method_1_code 4 = .ok (.aload_n 0, 1) from by decide +kernel) rfl (lv_at hl 0 rfl) ?_
  refine lv_iconst (v := 0) hx hb (show decode prog_5_method_1_code 5 = .ok (.iconst 0, 1) from by decide +kernel) (by decide) ?_
  refine va_put (D := (dC, dI)) (ci := 3) (v := .int 0) (ty := kY_3 1) (C := kR 3) (T := kT_3) (N := 2) hx hb hts kU_3 kY_3 kY_3_ok kN_3 hown hK hP hD hS 0 rfl rfl 1 (by decide) (hts (.fieldLink (kR 3) 9 (kR 3) "count" "I") (gw_mem (p := 158) (by decide +kernel) (by decide +kernel))) (fun _ h9 => h9) rfl (by decide +kernel) rfl rfl (Nat.le_of_ble_eq_true rfl) (show decode prog_5_method_1_code 6 = .ok (.putfield 9, 3) from by decide +kernel) (fun H locs hP hD hS => ?_)
  have hP : va_P (dC, dI) vCl [(h0, .inr (3, [.null, .int 0]))] H := hP
  have hD : va_D A [(h0, .inr (3, [.null, .int 0]))] := hD
  refine lv_aload_n hx hb (show decode prog_5_method_1_code 9 = .ok (.aload_n 0, 1) from by decide +kernel) rfl (lv_at hl 0 rfl) ?_
  refine lv_iload_n hx hb (show decode prog_5_method_1_code 10 = .ok (.iload_n 1, 1) from by decide +kernel) rfl (lv_at hl 1 rfl) ?_
  refine lv_iconst (v := 0) hx hb (show decode prog_5_method_1_code 11 = .ok (.iconst 0, 1) from by decide +kernel) (by decide) ?_
  refine va_mmax hx hb (by rw [hml]; exact hl.1.symm) hown (hts _ (gw_mem (p := 154) (by decide +kernel) (by decide +kernel))) (hts _ (gw_mem (p := 155) (by decide +kernel) (by decide +kernel))) (hts _ (gw_mem (p := 110) (by decide +kernel) (by decide +kernel))) (hts _ (gw_mem (p := 156) (by decide +kernel) (by decide +kernel))) (Nat.le_of_ble_eq_true rfl) (Nat.le_of_ble_eq_true rfl) (Nat.le_of_ble_eq_true rfl) (Nat.le_of_ble_eq_true rfl) (show decode prog_5_method_1_code 12 = .ok (.invokestatic 15, 3) from by decide +kernel) ?_
  refine lv_topi (fun t12 e12 => ?_)
  have e12 : t12 = 6 := by rw [e12]; decide
  subst e12
  refine va_newa (atype := .int) (ty := .int) (N' := 6) (a0 := (6, .inl (fun _ => 0))) hx hb (hts (.arrayClass .int) (gw_mem (p := 169) (by decide +kernel) (by decide +kernel))) rfl hK hP hD hS hA (fun _ => rfl) (by decide) (by decide) (Nat.le_of_ble_eq_true rfl) (Nat.le_of_ble_eq_true rfl) (Nat.le_of_ble_eq_true rfl) (show decode prog_5_method_1_code 15 = .ok (.newarray .int, 2) from by decide +kernel) (fun q15 c15 H hK1 hP hD hS => ?_)
  obtain rfl : c15 = cA 0 := ka_0 hK1
  refine W.widen (k := 1) (n := 6) (Nat.le_of_ble_eq_true rfl) (Nat.le_of_ble_eq_true rfl) ?_
  have hP : va_P (dC, dI) vCl [(h0, .inr (3, [.null, .int 0])), (q15, .inl (cA 0, 6, .inl (fun _ => 0)))] H := hP
  have hD : va_D A [(h0, .inr (3, [.null, .int 0])), (q15, .inl (cA 0, 6, .inl (fun _ => 0)))] := hD
  refine va_putF (D := (dC, dI)) (ci := 3) (v := .ref q15) (ty := kY_3 0) (C := kR 3) (T := kT_3) (N := 2) hx hb hts kU_3 kY_3 kY_3_ok kN_3 hown hK hP hD hS 0 rfl rfl 0 (by decide) (hts (.fieldLink (kR 3) 21 (kR 3) "values" "[I") (gw_mem (p := 157) (by decide +kernel) (by decide +kernel))) (fun _ h9 => h9) rfl hin rfl (by decide +kernel) rfl rfl (Nat.le_of_ble_eq_true rfl) (show decode prog_5_method_1_code 17 = .ok (.putfield 21, 3) from by decide +kernel) (fun H locs hP hD hS => ?_)
  have hP : va_P (dC, dI) vCl [(h0, .inr (3, [.ref q15, .int 0])), (q15, .inl (cA 0, 6, .inl (fun _ => 0)))] H := hP
  have hD : va_D A [(h0, .inr (3, [.ref q15, .int 0])), (q15, .inl (cA 0, 6, .inl (fun _ => 0)))] := hD
  refine W.widen (k := 1) (n := 6) (Nat.le_of_ble_eq_true rfl) (Nat.le_of_ble_eq_true rfl) ?_
  exact W.vret hx hb hr (fun t ht hW => ⟨⟨(), rfl, trivial, q15, by rw [ht]; exact hP, hD⟩, hS.F ht⟩) hS.2.2 (show decode prog_5_method_1_code 20 = .ok (.return_, 1) from by decide +kernel)
set_option maxHeartbeats 4000000 in
set_option maxRecDepth 100000 in
theorem cc_numbers_8 (l : Launch) (dC : Nat → ClassId) (dI : Nat → Nat → Nat) (cA : Nat → ClassId) (h0 sz : Nat) : Met l MC_numbers.2.1 (mws MC_numbers) ({ frames := 2, cells := 1, slots := 8, locals := 128 }) (va_Pc [.ref h0, .int 8] (fun U => U.heap.size = sz ∧ va_P (dC, dI) vCl [(h0, .inr (3, [.null, .int 0]))] U.heap ∧ Kc (dC, dI) cA U ∧ va_D (fun _ => True) [(h0, .inr (3, [.null, .int 0]))])) (va_Qv (fun _ : Unit => True) (fun _ t => ∃ (q15 : Nat), va_P (dC, dI) vCl [(h0, .inr (3, [.ref q15, .int 0])), (q15, .inl (cA 0, 8, .inl (fun _ => 0)))] t.heap ∧ va_D (va_A [(h0, .inr (3, [.null, .int 0]))] sz) [(h0, .inr (3, [.ref q15, .int 0])), (q15, .inl (cA 0, 8, .inl (fun _ => 0)))]) (va_A [(h0, .inr (3, [.null, .int 0]))] sz)) 1 8 (va_A [(h0, .inr (3, [.null, .int 0]))] sz) := by
  refine Met.ofW (cc := prog_5_method_1_code) (maxL := 2) (ret := none) (by decide +kernel) rfl ?_
  intro p e s m args below meth c s₁ B hml hv
  obtain ⟨rfl, hsz, hP, hKc, hD0⟩ := hv
  have hx := B.exec
  have hb := B.bytes
  have hr := B.returns
  have hts0 := atoms_spec (ws := mws MC_numbers) B.pre
  have hts : ∀ w ∈ gws, w.before _ s = true := fun w hw => hts0 w (List.mem_cons_of_mem _ hw)
  have hown : s.vm.findClass (kR 3) = some m.cls := findClass_of_methodNamed B.named
  have hlocks := B.notSynchronized
  have hin : meth.name = "<init>" := (name_of_methodNamed B.named B.method).1
  subst hsz
  have hK := hKc.1
  have hD := hD0.self (sz := s.heap.size)
  generalize hAe : va_A [(h0, .inr (3, [.null, .int 0]))] s.heap.size = A at hD ⊢
  have hA : ∀ q : Nat, s.heap.size ≤ q → A q := fun q h => by rw [← hAe]; exact Or.inr h
  have hS : va_S A s.heap s.heap [] := va_S.rf
  have hP : va_P (dC, dI) vCl [(h0, .inr (3, [.null, .int 0]))] s.heap := hP
  have hl := lv_entry ([.ref h0, .int 8]) (n := 2) (Nat.le_of_ble_eq_true rfl)
  rw [lg_entry_eq]
  generalize (lg_sl ([.ref h0, .int 8]) ++ List.replicate (2 - (lg_sl ([.ref h0, .int 8])).length) Slot.unset).toArray = ls at hl ⊢
  have hl : lv_has ls 2 [(0, .ref h0), (1, .int 8)] := hl
  refine lv_aload_n hx hb (show decode prog_5_method_1_code 0 = .ok (.aload_n 0, 1) from by decide +kernel) rfl (lv_at hl 0 rfl) ?_
  refine W.objInit hx hb hown (hts (.methodLink (kR 3) 3 objectInit) (gw_mem (p := 153) (by decide +kernel) (by decide +kernel))) (hts (.instanceMethod objectInit) (gw_mem (p := 134) (by decide +kernel) (by decide +kernel))) (hts (.code objectInit ⟨#[0xb1]⟩ 1 none) (gw_mem (p := 135) (by decide +kernel) (by decide +kernel))) rfl (by rw [hml]; exact hl.1) rfl (show decode prog_5_method_1_code 1 = .ok (.invokespecial 3, 3) from by decide +kernel) (Nat.le_of_ble_eq_true rfl) (Nat.le_of_ble_eq_true rfl) ?_
  refine W.eq (g2 := F0 m 4 ls []) rfl ?_
  refine lv_aload_n hx hb (show decode prog_5_method_1_code 4 = .ok (.aload_n 0, 1) from by decide +kernel) rfl (lv_at hl 0 rfl) ?_
  refine lv_iconst (v := 0) hx hb (show decode prog_5_method_1_code 5 = .ok (.iconst 0, 1) from by decide +kernel) (by decide) ?_
  refine va_put (D := (dC, dI)) (ci := 3) (v := .int 0) (ty := kY_3 1) (C := kR 3) (T := kT_3) (N := 2) hx hb hts kU_3 kY_3 kY_3_ok kN_3 hown hK hP hD hS 0 rfl rfl 1 (by decide) (hts (.fieldLink (kR 3) 9 (kR 3) "count" "I") (gw_mem (p := 158) (by decide +kernel) (by decide +kernel))) (fun _ h9 => h9) rfl (by decide +kernel) rfl rfl (Nat.le_of_ble_eq_true rfl) (show decode prog_5_method_1_code 6 = .ok (.putfield 9, 3) from by decide +kernel) (fun H locs hP hD hS => ?_)
  have hP : va_P (dC, dI) vCl [(h0, .inr (3, [.null, .int 0]))] H := hP
  have hD : va_D A [(h0, .inr (3, [.null, .int 0]))] := hD
  refine lv_aload_n hx hb (show decode prog_5_method_1_code 9 = .ok (.aload_n 0, 1) from by decide +kernel) rfl (lv_at hl 0 rfl) ?_
  refine lv_iload_n hx hb (show decode prog_5_method_1_code 10 = .ok (.iload_n 1, 1) from by decide +kernel) rfl (lv_at hl 1 rfl) ?_
  refine lv_iconst (v := 0) hx hb (show decode prog_5_method_1_code 11 = .ok (.iconst 0, 1) from by decide +kernel) (by decide) ?_
  refine va_mmax hx hb (by rw [hml]; exact hl.1.symm) hown (hts _ (gw_mem (p := 154) (by decide +kernel) (by decide +kernel))) (hts _ (gw_mem (p := 155) (by decide +kernel) (by decide +kernel))) (hts _ (gw_mem (p := 110) (by decide +kernel) (by decide +kernel))) (hts _ (gw_mem (p := 156) (by decide +kernel) (by decide +kernel))) (Nat.le_of_ble_eq_true rfl) (Nat.le_of_ble_eq_true rfl) (Nat.le_of_ble_eq_true rfl) (Nat.le_of_ble_eq_true rfl) (show decode prog_5_method_1_code 12 = .ok (.invokestatic 15, 3) from by decide +kernel) ?_
  refine lv_topi (fun t12 e12 => ?_)
  have e12 : t12 = 8 := by rw [e12]; decide
  subst e12
  refine va_newa (atype := .int) (ty := .int) (N' := 8) (a0 := (8, .inl (fun _ => 0))) hx hb (hts (.arrayClass .int) (gw_mem (p := 169) (by decide +kernel) (by decide +kernel))) rfl hK hP hD hS hA (fun _ => rfl) (by decide) (by decide) (Nat.le_of_ble_eq_true rfl) (Nat.le_of_ble_eq_true rfl) (Nat.le_of_ble_eq_true rfl) (show decode prog_5_method_1_code 15 = .ok (.newarray .int, 2) from by decide +kernel) (fun q15 c15 H hK1 hP hD hS => ?_)
  obtain rfl : c15 = cA 0 := ka_0 hK1
  refine W.widen (k := 1) (n := 8) (Nat.le_of_ble_eq_true rfl) (Nat.le_of_ble_eq_true rfl) ?_
  have hP : va_P (dC, dI) vCl [(h0, .inr (3, [.null, .int 0])), (q15, .inl (cA 0, 8, .inl (fun _ => 0)))] H := hP
  have hD : va_D A [(h0, .inr (3, [.null, .int 0])), (q15, .inl (cA 0, 8, .inl (fun _ => 0)))] := hD
  refine va_putF (D := (dC, dI)) (ci := 3) (v := .ref q15) (ty := kY_3 0) (C := kR 3) (T := kT_3) (N := 2) hx hb hts kU_3 kY_3 kY_3_ok kN_3 hown hK hP hD hS 0 rfl rfl 0 (by decide) (hts (.fieldLink (kR 3) 21 (kR 3) "values" "[I") (gw_mem (p := 157) (by decide +kernel) (by decide +kernel))) (fun _ h9 => h9) rfl hin rfl (by decide +kernel) rfl rfl (Nat.le_of_ble_eq_true rfl) (show decode prog_5_method_1_code 17 = .ok (.putfield 21, 3) from by decide +kernel) (fun H locs hP hD hS => ?_)
  have hP : va_P (dC, dI) vCl [(h0, .inr (3, [.ref q15, .int 0])), (q15, .inl (cA 0, 8, .inl (fun _ => 0)))] H := hP
  have hD : va_D A [(h0, .inr (3, [.ref q15, .int 0])), (q15, .inl (cA 0, 8, .inl (fun _ => 0)))] := hD
  refine W.widen (k := 1) (n := 8) (Nat.le_of_ble_eq_true rfl) (Nat.le_of_ble_eq_true rfl) ?_
  exact W.vret hx hb hr (fun t ht hW => ⟨⟨(), rfl, trivial, q15, by rw [ht]; exact hP, hD⟩, hS.F ht⟩) hS.2.2 (show decode prog_5_method_1_code 20 = .ok (.return_, 1) from by decide +kernel)
set_option maxHeartbeats 4000000 in
set_option maxRecDepth 100000 in
theorem cc_numbers_4 (l : Launch) (dC : Nat → ClassId) (dI : Nat → Nat → Nat) (cA : Nat → ClassId) (h0 sz : Nat) : Met l MC_numbers.2.1 (mws MC_numbers) ({ frames := 2, cells := 1, slots := 4, locals := 128 }) (va_Pc [.ref h0, .int 4] (fun U => U.heap.size = sz ∧ va_P (dC, dI) vCl [(h0, .inr (3, [.null, .int 0]))] U.heap ∧ Kc (dC, dI) cA U ∧ va_D (fun _ => True) [(h0, .inr (3, [.null, .int 0]))])) (va_Qv (fun _ : Unit => True) (fun _ t => ∃ (q15 : Nat), va_P (dC, dI) vCl [(h0, .inr (3, [.ref q15, .int 0])), (q15, .inl (cA 0, 4, .inl (fun _ => 0)))] t.heap ∧ va_D (va_A [(h0, .inr (3, [.null, .int 0]))] sz) [(h0, .inr (3, [.ref q15, .int 0])), (q15, .inl (cA 0, 4, .inl (fun _ => 0)))]) (va_A [(h0, .inr (3, [.null, .int 0]))] sz)) 1 4 (va_A [(h0, .inr (3, [.null, .int 0]))] sz) := by
  refine Met.ofW (cc := prog_5_method_1_code) (maxL := 2) (ret := none) (by decide +kernel) rfl ?_
  intro p e s m args below meth c s₁ B hml hv
  obtain ⟨rfl, hsz, hP, hKc, hD0⟩ := hv
  have hx := B.exec
  have hb := B.bytes
  have hr := B.returns
  have hts0 := atoms_spec (ws := mws MC_numbers) B.pre
  have hts : ∀ w ∈ gws, w.before _ s = true := fun w hw => hts0 w (List.mem_cons_of_mem _ hw)
  have hown : s.vm.findClass (kR 3) = some m.cls := findClass_of_methodNamed B.named
  have hlocks := B.notSynchronized
  have hin : meth.name = "<init>" := (name_of_methodNamed B.named B.method).1
  subst hsz
  have hK := hKc.1
  have hD := hD0.self (sz := s.heap.size)
  generalize hAe : va_A [(h0, .inr (3, [.null, .int 0]))] s.heap.size = A at hD ⊢
  have hA : ∀ q : Nat, s.heap.size ≤ q → A q := fun q h => by rw [← hAe]; exact Or.inr h
  have hS : va_S A s.heap s.heap [] := va_S.rf
  have hP : va_P (dC, dI) vCl [(h0, .inr (3, [.null, .int 0]))] s.heap := hP
  have hl := lv_entry ([.ref h0, .int 4]) (n := 2) (Nat.le_of_ble_eq_true rfl)
  rw [lg_entry_eq]
  generalize (lg_sl ([.ref h0, .int 4]) ++ List.replicate (2 - (lg_sl ([.ref h0, .int 4])).length) Slot.unset).toArray = ls at hl ⊢
  have hl : lv_has ls 2 [(0, .ref h0), (1, .int 4)] := hl
  refine lv_aload_n hx hb (show decode prog_5_method_1_code 0 = .ok (.aload_n 0, 1) from by decide +kernel) rfl (lv_at hl 0 rfl) ?_
  refine W.objInit hx hb hown (hts (.methodLink (kR 3) 3 objectInit) (gw_mem (p := 153) (by decide +kernel) (by decide +kernel))) (hts (.instanceMethod objectInit) (gw_mem (p := 134) (by decide +kernel) (by decide +kernel))) (hts (.code objectInit ⟨#[0xb1]⟩ 1 none) (gw_mem (p := 135) (by decide +kernel) (by decide +kernel))) rfl (by rw [hml]; exact hl.1) rfl (show decode prog_5_method_1_code 1 = .ok (.invokespecial 3, 3) from by decide +kernel) (Nat.le_of_ble_eq_true rfl) (Nat.le_of_ble_eq_true rfl) ?_
  refine W.eq (g2 := F0 m 4 ls []) rfl ?_
  refine lv_aload_n hx hb (show decode prog_5_method_1_code 4 = .ok (.aload_n 0, 1) from by decide +kernel) rfl (lv_at hl 0 rfl) ?_
  refine lv_iconst (v := 0) hx hb (show decode prog_5_method_1_code 5 = .ok (.iconst 0, 1) from by decide +kernel) (by decide) ?_
  refine va_put (D := (dC, dI)) (ci := 3) (v := .int 0) (ty := kY_3 1) (C := kR 3) (T := kT_3) (N := 2) hx hb hts kU_3 kY_3 kY_3_ok kN_3 hown hK hP hD hS 0 rfl rfl 1 (by decide) (hts (.fieldLink (kR 3) 9 (kR 3) "count" "I") (gw_mem (p := 158) (by decide +kernel) (by decide +kernel))) (fun _ h9 => h9) rfl (by decide +kernel) rfl rfl (Nat.le_of_ble_eq_true rfl) (show decode prog_5_method_1_code 6 = .ok (.putfield 9, 3) from by decide +kernel) (fun H locs hP hD hS => ?_)
  have hP : va_P (dC, dI) vCl [(h0, .inr (3, [.null, .int 0]))] H := hP
  have hD : va_D A [(h0, .inr (3, [.null, .int 0]))] := hD
  refine lv_aload_n hx hb (show decode prog_5_method_1_code 9 = .ok (.aload_n 0, 1) from by decide +kernel) rfl (lv_at hl 0 rfl) ?_
  refine lv_iload_n hx hb (show decode prog_5_method_1_code 10 = .ok (.iload_n 1, 1) from by decide +kernel) rfl (lv_at hl 1 rfl) ?_
  refine lv_iconst (v := 0) hx hb (show decode prog_5_method_1_code 11 = .ok (.iconst 0, 1) from by decide +kernel) (by decide) ?_
  refine va_mmax hx hb (by rw [hml]; exact hl.1.symm) hown (hts _ (gw_mem (p := 154) (by decide +kernel) (by decide +kernel))) (hts _ (gw_mem (p := 155) (by decide +kernel) (by decide +kernel))) (hts _ (gw_mem (p := 110) (by decide +kernel) (by decide +kernel))) (hts _ (gw_mem (p := 156) (by decide +kernel) (by decide +kernel))) (Nat.le_of_ble_eq_true rfl) (Nat.le_of_ble_eq_true rfl) (Nat.le_of_ble_eq_true rfl) (Nat.le_of_ble_eq_true rfl) (show decode prog_5_method_1_code 12 = .ok (.invokestatic 15, 3) from by decide +kernel) ?_
  refine lv_topi (fun t12 e12 => ?_)
  have e12 : t12 = 4 := by rw [e12]; decide
  subst e12
  refine va_newa (atype := .int) (ty := .int) (N' := 4) (a0 := (4, .inl (fun _ => 0))) hx hb (hts (.arrayClass .int) (gw_mem (p := 169) (by decide +kernel) (by decide +kernel))) rfl hK hP hD hS hA (fun _ => rfl) (by decide) (by decide) (Nat.le_of_ble_eq_true rfl) (Nat.le_of_ble_eq_true rfl) (Nat.le_of_ble_eq_true rfl) (show decode prog_5_method_1_code 15 = .ok (.newarray .int, 2) from by decide +kernel) (fun q15 c15 H hK1 hP hD hS => ?_)
  obtain rfl : c15 = cA 0 := ka_0 hK1
  refine W.widen (k := 1) (n := 4) (Nat.le_of_ble_eq_true rfl) (Nat.le_of_ble_eq_true rfl) ?_
  have hP : va_P (dC, dI) vCl [(h0, .inr (3, [.null, .int 0])), (q15, .inl (cA 0, 4, .inl (fun _ => 0)))] H := hP
  have hD : va_D A [(h0, .inr (3, [.null, .int 0])), (q15, .inl (cA 0, 4, .inl (fun _ => 0)))] := hD
  refine va_putF (D := (dC, dI)) (ci := 3) (v := .ref q15) (ty := kY_3 0) (C := kR 3) (T := kT_3) (N := 2) hx hb hts kU_3 kY_3 kY_3_ok kN_3 hown hK hP hD hS 0 rfl rfl 0 (by decide) (hts (.fieldLink (kR 3) 21 (kR 3) "values" "[I") (gw_mem (p := 157) (by decide +kernel) (by decide +kernel))) (fun _ h9 => h9) rfl hin rfl (by decide +kernel) rfl rfl (Nat.le_of_ble_eq_true rfl) (show decode prog_5_method_1_code 17 = .ok (.putfield 21, 3) from by decide +kernel) (fun H locs hP hD hS => ?_)
  have hP : va_P (dC, dI) vCl [(h0, .inr (3, [.ref q15, .int 0])), (q15, .inl (cA 0, 4, .inl (fun _ => 0)))] H := hP
  have hD : va_D A [(h0, .inr (3, [.ref q15, .int 0])), (q15, .inl (cA 0, 4, .inl (fun _ => 0)))] := hD
  refine W.widen (k := 1) (n := 4) (Nat.le_of_ble_eq_true rfl) (Nat.le_of_ble_eq_true rfl) ?_
  exact W.vret hx hb hr (fun t ht hW => ⟨⟨(), rfl, trivial, q15, by rw [ht]; exact hP, hD⟩, hS.F ht⟩) hS.2.2 (show decode prog_5_method_1_code 20 = .ok (.return_, 1) from by decide +kernel)
set_option maxHeartbeats 4000000 in
set_option maxRecDepth 100000 in
theorem cc_numbers_9 (l : Launch) (dC : Nat → ClassId) (dI : Nat → Nat → Nat) (cA : Nat → ClassId) (h0 sz : Nat) : Met l MC_numbers.2.1 (mws MC_numbers) ({ frames := 2, cells := 1, slots := 9, locals := 128 }) (va_Pc [.ref h0, .int 9] (fun U => U.heap.size = sz ∧ va_P (dC, dI) vCl [(h0, .inr (3, [.null, .int 0]))] U.heap ∧ Kc (dC, dI) cA U ∧ va_D (fun _ => True) [(h0, .inr (3, [.null, .int 0]))])) (va_Qv (fun _ : Unit => True) (fun _ t => ∃ (q15 : Nat), va_P (dC, dI) vCl [(h0, .inr (3, [.ref q15, .int 0])), (q15, .inl (cA 0, 9, .inl (fun _ => 0)))] t.heap ∧ va_D (va_A [(h0, .inr (3, [.null, .int 0]))] sz) [(h0, .inr (3, [.ref q15, .int 0])), (q15, .inl (cA 0, 9, .inl (fun _ => 0)))]) (va_A [(h0, .inr (3, [.null, .int 0]))] sz)) 1 9 (va_A [(h0, .inr (3, [.null, .int 0]))] sz) := by
  refine Met.ofW (cc := prog_5_method_1_code) (maxL := 2) (ret := none) (by decide +kernel) rfl ?_
  intro p e s m args below meth c s₁ B hml hv
  obtain ⟨rfl, hsz, hP, hKc, hD0⟩ := hv
  have hx := B.exec
  have hb := B.bytes
  have hr := B.returns
  have hts0 := atoms_spec (ws := mws MC_numbers) B.pre
  have hts : ∀ w ∈ gws, w.before _ s = true := fun w hw => hts0 w (List.mem_cons_of_mem _ hw)
  have hown : s.vm.findClass (kR 3) = some m.cls := findClass_of_methodNamed B.named
  have hlocks := B.notSynchronized
  have hin : meth.name = "<init>" := (name_of_methodNamed B.named B.method).1
  subst hsz
  have hK := hKc.1
  have hD := hD0.self (sz := s.heap.size)
  generalize hAe : va_A [(h0, .inr (3, [.null, .int 0]))] s.heap.size = A at hD ⊢
  have hA : ∀ q : Nat, s.heap.size ≤ q → A q := fun q h => by rw [← hAe]; exact Or.inr h
  have hS : va_S A s.heap s.heap [] := va_S.rf
  have hP : va_P (dC, dI) vCl [(h0, .inr (3, [.null, .int 0]))] s.heap := hP
  have hl := lv_entry ([.ref h0, .int 9]) (n := 2) (Nat.le_of_ble_eq_true rfl)
  rw [lg_entry_eq]
  generalize (lg_sl ([.ref h0, .int 9]) ++ List.replicate (2 - (lg_sl ([.ref h0, .int 9])).length) Slot.unset).toArray = ls at hl ⊢
  have hl : lv_has ls 2 [(0, .ref h0), (1, .int 9)] := hl
  refine lv_aload_n hx hb (show decode prog_5_method_1_code 0 = .ok (.aload_n 0, 1) from by decide +kernel) rfl (lv_at hl 0 rfl) ?_
  refine W.objInit hx hb hown (hts (.methodLink (kR 3) 3 objectInit) (gw_mem (p := 153) (by decide +kernel) (by decide +kernel))) (hts (.instanceMethod objectInit) (gw_mem (p := 134) (by decide +kernel) (by decide +kernel))) (hts (.code objectInit ⟨#[0xb1]⟩ 1 none) (gw_mem (p := 135) (by decide +kernel) (by decide +kernel))) rfl (by rw [hml]; exact hl.1) rfl (show decode prog_5_method_1_code 1 = .ok (.invokespecial 3, 3) from by decide +kernel) (Nat.le_of_ble_eq_true rfl) (Nat.le_of_ble_eq_true rfl) ?_
  refine W.eq (g2 := F0 m 4 ls []) rfl ?_
  refine lv_aload_n hx hb (show decode prog_5_method_1_code 4 = .ok (.aload_n 0, 1) from by decide +kernel) rfl (lv_at hl 0 rfl) ?_
  refine lv_iconst (v := 0) hx hb (show decode prog_5_method_1_code 5 = .ok (.iconst 0, 1) from by decide +kernel) (by decide) ?_
  refine va_put (D := (dC, dI)) (ci := 3) (v := .int 0) (ty := kY_3 1) (C := kR 3) (T := kT_3) (N := 2) hx hb hts kU_3 kY_3 kY_3_ok kN_3 hown hK hP hD hS 0 rfl rfl 1 (by decide) (hts (.fieldLink (kR 3) 9 (kR 3) "count" "I") (gw_mem (p := 158) (by decide +kernel) (by decide +kernel))) (fun _ h9 => h9) rfl (by decide +kernel) rfl rfl (Nat.le_of_ble_eq_true rfl) (show decode prog_5_method_1_code 6 = .ok (.putfield 9, 3) from by decide +kernel) (fun H locs hP hD hS => ?_)
  have hP : va_P (dC, dI) vCl [(h0, .inr (3, [.null, .int 0]))] H := hP
  have hD : va_D A [(h0, .inr (3, [.null, .int 0]))] := hD
  refine lv_aload_n hx hb (show decode prog_5_method_1_code 9 = .ok (.aload_n 0, 1) from by decide +kernel) rfl (lv_at hl 0 rfl) ?_
  refine lv_iload_n hx hb (show decode prog_5_method_1_code 10 = .ok (.iload_n 1, 1) from by decide +kernel) rfl (lv_at hl 1 rfl) ?_
  refine lv_iconst (v := 0) hx hb (show decode prog_5_method_1_code 11 = .ok (.iconst 0, 1) from by decide +kernel) (by decide) ?_
  refine va_mmax hx hb (by rw [hml]; exact hl.1.symm) hown (hts _ (gw_mem (p := 154) (by decide +kernel) (by decide +kernel))) (hts _ (gw_mem (p := 155) (by decide +kernel) (by decide +kernel))) (hts _ (gw_mem (p := 110) (by decide +kernel) (by decide +kernel))) (hts _ (gw_mem (p := 156) (by decide +kernel) (by decide +kernel))) (Nat.le_of_ble_eq_true rfl) (Nat.le_of_ble_eq_true rfl) (Nat.le_of_ble_eq_true rfl) (Nat.le_of_ble_eq_true rfl) (show decode prog_5_method_1_code 12 = .ok (.invokestatic 15, 3) from by decide +kernel) ?_
  refine lv_topi (fun t12 e12 => ?_)
  have e12 : t12 = 9 := by rw [e12]; decide
  subst e12
  refine va_newa (atype := .int) (ty := .int) (N' := 9) (a0 := (9, .inl (fun _ => 0))) hx hb (hts (.arrayClass .int) (gw_mem (p := 169) (by decide +kernel) (by decide +kernel))) rfl hK hP hD hS hA (fun _ => rfl) (by decide) (by decide) (Nat.le_of_ble_eq_true rfl) (Nat.le_of_ble_eq_true rfl) (Nat.le_of_ble_eq_true rfl) (show decode prog_5_method_1_code 15 = .ok (.newarray .int, 2) from by decide +kernel) (fun q15 c15 H hK1 hP hD hS => ?_)
  obtain rfl : c15 = cA 0 := ka_0 hK1
  refine W.widen (k := 1) (n := 9) (Nat.le_of_ble_eq_true rfl) (Nat.le_of_ble_eq_true rfl) ?_
  have hP : va_P (dC, dI) vCl [(h0, .inr (3, [.null, .int 0])), (q15, .inl (cA 0, 9, .inl (fun _ => 0)))] H := hP
  have hD : va_D A [(h0, .inr (3, [.null, .int 0])), (q15, .inl (cA 0, 9, .inl (fun _ => 0)))] := hD
  refine va_putF (D := (dC, dI)) (ci := 3) (v := .ref q15) (ty := kY_3 0) (C := kR 3) (T := kT_3) (N := 2) hx hb hts kU_3 kY_3 kY_3_ok kN_3 hown hK hP hD hS 0 rfl rfl 0 (by decide) (hts (.fieldLink (kR 3) 21 (kR 3) "values" "[I") (gw_mem (p := 157) (by decide +kernel) (by decide +kernel))) (fun _ h9 => h9) rfl hin rfl (by decide +kernel) rfl rfl (Nat.le_of_ble_eq_true rfl) (show decode prog_5_method_1_code 17 = .ok (.putfield 21, 3) from by decide +kernel) (fun H locs hP hD hS => ?_)
  have hP : va_P (dC, dI) vCl [(h0, .inr (3, [.ref q15, .int 0])), (q15, .inl (cA 0, 9, .inl (fun _ => 0)))] H := hP
  have hD : va_D A [(h0, .inr (3, [.ref q15, .int 0])), (q15, .inl (cA 0, 9, .inl (fun _ => 0)))] := hD
  refine W.widen (k := 1) (n := 9) (Nat.le_of_ble_eq_true rfl) (Nat.le_of_ble_eq_true rfl) ?_
  exact W.vret hx hb hr (fun t ht hW => ⟨⟨(), rfl, trivial, q15, by rw [ht]; exact hP, hD⟩, hS.F ht⟩) hS.2.2 (show decode prog_5_method_1_code 20 = .ok (.return_, 1) from by decide +kernel)
set_option maxHeartbeats 4000000 in
set_option maxRecDepth 100000 in
theorem cc_state (l : Launch) (dC : Nat → ClassId) (dI : Nat → Nat → Nat) (cA : Nat → ClassId) (h0 sz : Nat) : Met l MC_state.2.1 (mws MC_state) ({ frames := 2, cells := 0, slots := 0, locals := 128 }) (va_Pc [.ref h0] (fun U => U.heap.size = sz ∧ va_P (dC, dI) vCl [(h0, .inr (7, [.long 0, .long 0, .int 0, .int 0, .int 0]))] U.heap ∧ Kc (dC, dI) cA U ∧ va_D (fun _ => True) [(h0, .inr (7, [.long 0, .long 0, .int 0, .int 0, .int 0]))])) (va_Qv (fun _ : Unit => True) (fun _ t => va_P (dC, dI) vCl [(h0, .inr (7, [.long 0, .long 0, .int 0, .int 0, .int 0]))] t.heap ∧ va_D (va_A [(h0, .inr (7, [.long 0, .long 0, .int 0, .int 0, .int 0]))] sz) [(h0, .inr (7, [.long 0, .long 0, .int 0, .int 0, .int 0]))]) (va_A [(h0, .inr (7, [.long 0, .long 0, .int 0, .int 0, .int 0]))] sz)) 0 0 (va_A [(h0, .inr (7, [.long 0, .long 0, .int 0, .int 0, .int 0]))] sz) := by
  refine Met.ofW (cc := prog_9_method_1_code) (maxL := 1) (ret := none) (by decide +kernel) rfl ?_
  intro p e s m args below meth c s₁ B hml hv
  obtain ⟨rfl, hsz, hP, hKc, hD0⟩ := hv
  have hx := B.exec
  have hb := B.bytes
  have hr := B.returns
  have hts0 := atoms_spec (ws := mws MC_state) B.pre
  have hts : ∀ w ∈ gws, w.before _ s = true := fun w hw => hts0 w (List.mem_cons_of_mem _ hw)
  have hown : s.vm.findClass (kR 7) = some m.cls := findClass_of_methodNamed B.named
  have hlocks := B.notSynchronized
  have hin : meth.name = "<init>" := (name_of_methodNamed B.named B.method).1
  subst hsz
  have hK := hKc.1
  have hD := hD0.self (sz := s.heap.size)
  generalize hAe : va_A [(h0, .inr (7, [.long 0, .long 0, .int 0, .int 0, .int 0]))] s.heap.size = A at hD ⊢
  have hA : ∀ q : Nat, s.heap.size ≤ q → A q := fun q h => by rw [← hAe]; exact Or.inr h
  have hS : va_S A s.heap s.heap [] := va_S.rf
  have hP : va_P (dC, dI) vCl [(h0, .inr (7, [.long 0, .long 0, .int 0, .int 0, .int 0]))] s.heap := hP
  have hl := lv_entry ([.ref h0]) (n := 1) (Nat.le_of_ble_eq_true rfl)
  rw [lg_entry_eq]
  generalize (lg_sl ([.ref h0]) ++ List.replicate (1 - (lg_sl ([.ref h0])).length) Slot.unset).toArray = ls at hl ⊢
  have hl : lv_has ls 1 [(0, .ref h0)] := hl
  refine lv_aload_n hx hb (show decode prog_9_method_1_code 0 = .ok (.aload_n 0, 1) from by decide +kernel) rfl (lv_at hl 0 rfl) ?_
  refine W.objInit hx hb hown (hts (.methodLink (kR 7) 3 objectInit) (gw_mem (p := 300) (by decide +kernel) (by decide +kernel))) (hts (.instanceMethod objectInit) (gw_mem (p := 134) (by decide +kernel) (by decide +kernel))) (hts (.code objectInit ⟨#[0xb1]⟩ 1 none) (gw_mem (p := 135) (by decide +kernel) (by decide +kernel))) rfl (by rw [hml]; exact hl.1) rfl (show decode prog_9_method_1_code 1 = .ok (.invokespecial 3, 3) from by decide +kernel) (Nat.le_of_ble_eq_true rfl) (Nat.le_of_ble_eq_true rfl) ?_
  refine W.eq (g2 := F0 m 4 ls []) rfl ?_
  refine lv_aload_n hx hb (show decode prog_9_method_1_code 4 = .ok (.aload_n 0, 1) from by decide +kernel) rfl (lv_at hl 0 rfl) ?_
  refine lv_lconst (v := 0) hx hb (show decode prog_9_method_1_code 5 = .ok (.lconst 0, 1) from by decide +kernel) (by decide) ?_
  refine va_put (D := (dC, dI)) (ci := 7) (v := .long 0) (ty := kY_7 0) (C := kR 7) (T := kT_7) (N := 5) hx hb hts kU_7 kY_7 kY_7_ok kN_7 hown hK hP hD hS 0 rfl rfl 0 (by decide) (hts (.fieldLink (kR 7) 9 (kR 7) "low" "J") (gw_mem (p := 301) (by decide +kernel) (by decide +kernel))) (fun _ h9 => h9) rfl (by decide +kernel) rfl rfl (Nat.le_of_ble_eq_true rfl) (show decode prog_9_method_1_code 6 = .ok (.putfield 9, 3) from by decide +kernel) (fun H locs hP hD hS => ?_)
  have hP : va_P (dC, dI) vCl [(h0, .inr (7, [.long 0, .long 0, .int 0, .int 0, .int 0]))] H := hP
  have hD : va_D A [(h0, .inr (7, [.long 0, .long 0, .int 0, .int 0, .int 0]))] := hD
  refine lv_aload_n hx hb (show decode prog_9_method_1_code 9 = .ok (.aload_n 0, 1) from by decide +kernel) rfl (lv_at hl 0 rfl) ?_
  refine lv_lconst (v := 0) hx hb (show decode prog_9_method_1_code 10 = .ok (.lconst 0, 1) from by decide +kernel) (by decide) ?_
  refine va_put (D := (dC, dI)) (ci := 7) (v := .long 0) (ty := kY_7 1) (C := kR 7) (T := kT_7) (N := 5) hx hb hts kU_7 kY_7 kY_7_ok kN_7 hown hK hP hD hS 0 rfl rfl 1 (by decide) (hts (.fieldLink (kR 7) 15 (kR 7) "high" "J") (gw_mem (p := 304) (by decide +kernel) (by decide +kernel))) (fun _ h9 => h9) rfl (by decide +kernel) rfl rfl (Nat.le_of_ble_eq_true rfl) (show decode prog_9_method_1_code 11 = .ok (.putfield 15, 3) from by decide +kernel) (fun H locs hP hD hS => ?_)
  have hP : va_P (dC, dI) vCl [(h0, .inr (7, [.long 0, .long 0, .int 0, .int 0, .int 0]))] H := hP
  have hD : va_D A [(h0, .inr (7, [.long 0, .long 0, .int 0, .int 0, .int 0]))] := hD
  refine lv_aload_n hx hb (show decode prog_9_method_1_code 14 = .ok (.aload_n 0, 1) from by decide +kernel) rfl (lv_at hl 0 rfl) ?_
  refine lv_iconst (v := 0) hx hb (show decode prog_9_method_1_code 15 = .ok (.iconst 0, 1) from by decide +kernel) (by decide) ?_
  refine va_put (D := (dC, dI)) (ci := 7) (v := .int 0) (ty := kY_7 2) (C := kR 7) (T := kT_7) (N := 5) hx hb hts kU_7 kY_7 kY_7_ok kN_7 hown hK hP hD hS 0 rfl rfl 2 (by decide) (hts (.fieldLink (kR 7) 18 (kR 7) "son" "I") (gw_mem (p := 307) (by decide +kernel) (by decide +kernel))) (fun _ h9 => h9) rfl (by decide +kernel) rfl rfl (Nat.le_of_ble_eq_true rfl) (show decode prog_9_method_1_code 16 = .ok (.putfield 18, 3) from by decide +kernel) (fun H locs hP hD hS => ?_)
  have hP : va_P (dC, dI) vCl [(h0, .inr (7, [.long 0, .long 0, .int 0, .int 0, .int 0]))] H := hP
  have hD : va_D A [(h0, .inr (7, [.long 0, .long 0, .int 0, .int 0, .int 0]))] := hD
  refine lv_aload_n hx hb (show decode prog_9_method_1_code 19 = .ok (.aload_n 0, 1) from by decide +kernel) rfl (lv_at hl 0 rfl) ?_
  refine lv_iconst (v := 0) hx hb (show decode prog_9_method_1_code 20 = .ok (.iconst 0, 1) from by decide +kernel) (by decide) ?_
  refine va_put (D := (dC, dI)) (ci := 7) (v := .int 0) (ty := kY_7 3) (C := kR 7) (T := kT_7) (N := 5) hx hb hts kU_7 kY_7 kY_7_ok kN_7 hown hK hP hD hS 0 rfl rfl 3 (by decide) (hts (.fieldLink (kR 7) 22 (kR 7) "curate" "I") (gw_mem (p := 312) (by decide +kernel) (by decide +kernel))) (fun _ h9 => h9) rfl (by decide +kernel) rfl rfl (Nat.le_of_ble_eq_true rfl) (show decode prog_9_method_1_code 21 = .ok (.putfield 22, 3) from by decide +kernel) (fun H locs hP hD hS => ?_)
  have hP : va_P (dC, dI) vCl [(h0, .inr (7, [.long 0, .long 0, .int 0, .int 0, .int 0]))] H := hP
  have hD : va_D A [(h0, .inr (7, [.long 0, .long 0, .int 0, .int 0, .int 0]))] := hD
  refine lv_aload_n hx hb (show decode prog_9_method_1_code 24 = .ok (.aload_n 0, 1) from by decide +kernel) rfl (lv_at hl 0 rfl) ?_
  refine lv_iconst (v := 0) hx hb (show decode prog_9_method_1_code 25 = .ok (.iconst 0, 1) from by decide +kernel) (by decide) ?_
  refine va_put (D := (dC, dI)) (ci := 7) (v := .int 0) (ty := kY_7 4) (C := kR 7) (T := kT_7) (N := 5) hx hb hts kU_7 kY_7 kY_7_ok kN_7 hown hK hP hD hS 0 rfl rfl 4 (by decide) (hts (.fieldLink (kR 7) 25 (kR 7) "years" "I") (gw_mem (p := 316) (by decide +kernel) (by decide +kernel))) (fun _ h9 => h9) rfl (by decide +kernel) rfl rfl (Nat.le_of_ble_eq_true rfl) (show decode prog_9_method_1_code 26 = .ok (.putfield 25, 3) from by decide +kernel) (fun H locs hP hD hS => ?_)
  have hP : va_P (dC, dI) vCl [(h0, .inr (7, [.long 0, .long 0, .int 0, .int 0, .int 0]))] H := hP
  have hD : va_D A [(h0, .inr (7, [.long 0, .long 0, .int 0, .int 0, .int 0]))] := hD
  refine W.widen (k := 0) (n := 0) (Nat.le_of_ble_eq_true rfl) (Nat.le_of_ble_eq_true rfl) ?_
  exact W.vret hx hb hr (fun t ht hW => ⟨⟨(), rfl, trivial, by rw [ht]; exact hP, hD⟩, hS.F ht⟩) hS.2.2 (show decode prog_9_method_1_code 29 = .ok (.return_, 1) from by decide +kernel)
set_option maxHeartbeats 4000000 in
set_option maxRecDepth 100000 in
theorem cc_shelf_16 (l : Launch) (dC : Nat → ClassId) (dI : Nat → Nat → Nat) (cA : Nat → ClassId) (h0 sz : Nat) : Met l MC_shelf.2.1 (mws MC_shelf) ({ frames := 2, cells := 5, slots := 80, locals := 128 }) (va_Pc [.ref h0, .int 16] (fun U => U.heap.size = sz ∧ va_P (dC, dI) vCl [(h0, .inr (6, [.null, .null, .null, .null, .null]))] U.heap ∧ Kc (dC, dI) cA U ∧ va_D (fun _ => True) [(h0, .inr (6, [.null, .null, .null, .null, .null]))])) (va_Qv (fun _ : Unit => True) (fun _ t => ∃ (q12 q19 q26 q33 q40 : Nat), va_P (dC, dI) vCl [(h0, .inr (6, [.ref q12, .ref q19, .ref q26, .ref q33, .ref q40])), (q12, .inl (cA 2, 16, .inr (.inl (fun _ => 0)))), (q19, .inl (cA 2, 16, .inr (.inl (fun _ => 0)))), (q26, .inl (cA 0, 16, .inl (fun _ => 0))), (q33, .inl (cA 0, 16, .inl (fun _ => 0))), (q40, .inl (cA 0, 16, .inl (fun _ => 0)))] t.heap ∧ va_D (va_A [(h0, .inr (6, [.null, .null, .null, .null, .null]))] sz) [(h0, .inr (6, [.ref q12, .ref q19, .ref q26, .ref q33, .ref q40])), (q12, .inl (cA 2, 16, .inr (.inl (fun _ => 0)))), (q19, .inl (cA 2, 16, .inr (.inl (fun _ => 0)))), (q26, .inl (cA 0, 16, .inl (fun _ => 0))), (q33, .inl (cA 0, 16, .inl (fun _ => 0))), (q40, .inl (cA 0, 16, .inl (fun _ => 0)))]) (va_A [(h0, .inr (6, [.null, .null, .null, .null, .null]))] sz)) 5 80 (va_A [(h0, .inr (6, [.null, .null, .null, .null, .null]))] sz) := by
  refine Met.ofW (cc := prog_8_method_1_code) (maxL := 3) (ret := none) (by decide +kernel) rfl ?_
  intro p e s m args below meth c s₁ B hml hv
  obtain ⟨rfl, hsz, hP, hKc, hD0⟩ := hv
  have hx := B.exec
  have hb := B.bytes
  have hr := B.returns
  have hts0 := atoms_spec (ws := mws MC_shelf) B.pre
  have hts : ∀ w ∈ gws, w.before _ s = true := fun w hw => hts0 w (List.mem_cons_of_mem _ hw)
  have hown : s.vm.findClass (kR 6) = some m.cls := findClass_of_methodNamed B.named
  have hlocks := B.notSynchronized
  have hin : meth.name = "<init>" := (name_of_methodNamed B.named B.method).1
  subst hsz
  have hK := hKc.1
  have hD := hD0.self (sz := s.heap.size)
  generalize hAe : va_A [(h0, .inr (6, [.null, .null, .null, .null, .null]))] s.heap.size = A at hD ⊢
  have hA : ∀ q : Nat, s.heap.size ≤ q → A q := fun q h => by rw [← hAe]; exact Or.inr h
  have hS : va_S A s.heap s.heap [] := va_S.rf
  have hP : va_P (dC, dI) vCl [(h0, .inr (6, [.null, .null, .null, .null, .null]))] s.heap := hP
  have hl := lv_entry ([.ref h0, .int 16]) (n := 3) (Nat.le_of_ble_eq_true rfl)
  rw [lg_entry_eq]
  generalize (lg_sl ([.ref h0, .int 16]) ++ List.replicate (3 - (lg_sl ([.ref h0, .int 16])).length) Slot.unset).toArray = ls at hl ⊢
  have hl : lv_has ls 3 [(0, .ref h0), (1, .int 16)] := hl
  refine lv_aload_n hx hb (show decode prog_8_method_1_code 0 = .ok (.aload_n 0, 1) from by decide +kernel) rfl (lv_at hl 0 rfl) ?_
  refine W.objInit hx hb hown (hts (.methodLink (kR 6) 1 objectInit) (gw_mem (p := 341) (by decide +kernel) (by decide +kernel))) (hts (.instanceMethod objectInit) (gw_mem (p := 134) (by decide +kernel) (by decide +kernel))) (hts (.code objectInit ⟨#[0xb1]⟩ 1 none) (gw_mem (p := 135) (by decide +kernel) (by decide +kernel))) rfl (by rw [hml]; exact hl.1) rfl (show decode prog_8_method_1_code 1 = .ok (.invokespecial 1, 3) from by decide +kernel) (Nat.le_of_ble_eq_true rfl) (Nat.le_of_ble_eq_true rfl) ?_
  refine W.eq (g2 := F0 m 4 ls []) rfl ?_
  refine lv_iload_n hx hb (show decode prog_8_method_1_code 4 = .ok (.iload_n 1, 1) from by decide +kernel) rfl (lv_at hl 1 rfl) ?_
  refine lv_iconst (v := 0) hx hb (show decode prog_8_method_1_code 5 = .ok (.iconst 0, 1) from by decide +kernel) (by decide) ?_
  refine va_mmax hx hb (by rw [hml]; exact hl.1.symm) hown (hts _ (gw_mem (p := 342) (by decide +kernel) (by decide +kernel))) (hts _ (gw_mem (p := 155) (by decide +kernel) (by decide +kernel))) (hts _ (gw_mem (p := 110) (by decide +kernel) (by decide +kernel))) (hts _ (gw_mem (p := 156) (by decide +kernel) (by decide +kernel))) (Nat.le_of_ble_eq_true rfl) (Nat.le_of_ble_eq_true rfl) (Nat.le_of_ble_eq_true rfl) (Nat.le_of_ble_eq_true rfl) (show decode prog_8_method_1_code 6 = .ok (.invokestatic 7, 3) from by decide +kernel) ?_
  refine lv_topi (fun t6 e6 => ?_)
  have e6 : t6 = 16 := by rw [e6]; decide
  subst e6
  refine lv_istore_n (lv' := [(2, .int 16), (0, .ref h0), (1, .int 16)]) hx hb (show decode prog_8_method_1_code 9 = .ok (.istore_n 2, 1) from by decide +kernel) rfl hl (by decide) rfl (fun ls hl => ?_)
  refine lv_aload_n hx hb (show decode prog_8_method_1_code 10 = .ok (.aload_n 0, 1) from by decide +kernel) rfl (lv_at hl 1 rfl) ?_
  refine lv_iload_n hx hb (show decode prog_8_method_1_code 11 = .ok (.iload_n 2, 1) from by decide +kernel) rfl (lv_at hl 0 rfl) ?_
  refine va_newa (atype := .long) (ty := .long) (N' := 16) (a0 := (16, .inr (.inl (fun _ => 0)))) hx hb (hts (.arrayClass .long) (gw_mem (p := 359) (by decide +kernel) (by decide +kernel))) rfl hK hP hD hS hA (fun _ => rfl) (by decide) (by decide) (Nat.le_of_ble_eq_true rfl) (Nat.le_of_ble_eq_true rfl) (Nat.le_of_ble_eq_true rfl) (show decode prog_8_method_1_code 12 = .ok (.newarray .long, 2) from by decide +kernel) (fun q12 c12 H hK1 hP hD hS => ?_)
  obtain rfl : c12 = cA 2 := ka_2 hK1
  refine W.widen (k := 1) (n := 16) (Nat.le_of_ble_eq_true rfl) (Nat.le_of_ble_eq_true rfl) ?_
  have hP : va_P (dC, dI) vCl [(h0, .inr (6, [.null, .null, .null, .null, .null])), (q12, .inl (cA 2, 16, .inr (.inl (fun _ => 0))))] H := hP
  have hD : va_D A [(h0, .inr (6, [.null, .null, .null, .null, .null])), (q12, .inl (cA 2, 16, .inr (.inl (fun _ => 0))))] := hD
  refine va_putF (D := (dC, dI)) (ci := 6) (v := .ref q12) (ty := kY_6 0) (C := kR 6) (T := kT_6) (N := 5) hx hb hts kU_6 kY_6 kY_6_ok kN_6 hown hK hP hD hS 0 rfl rfl 0 (by decide) (hts (.fieldLink (kR 6) 13 (kR 6) "lows" "[J") (gw_mem (p := 343) (by decide +kernel) (by decide +kernel))) (fun _ h9 => h9) rfl hin rfl (by decide +kernel) rfl rfl (Nat.le_of_ble_eq_true rfl) (show decode prog_8_method_1_code 14 = .ok (.putfield 13, 3) from by decide +kernel) (fun H locs hP hD hS => ?_)
  have hP : va_P (dC, dI) vCl [(h0, .inr (6, [.ref q12, .null, .null, .null, .null])), (q12, .inl (cA 2, 16, .inr (.inl (fun _ => 0))))] H := hP
  have hD : va_D A [(h0, .inr (6, [.ref q12, .null, .null, .null, .null])), (q12, .inl (cA 2, 16, .inr (.inl (fun _ => 0))))] := hD
  refine lv_aload_n hx hb (show decode prog_8_method_1_code 17 = .ok (.aload_n 0, 1) from by decide +kernel) rfl (lv_at hl 1 rfl) ?_
  refine lv_iload_n hx hb (show decode prog_8_method_1_code 18 = .ok (.iload_n 2, 1) from by decide +kernel) rfl (lv_at hl 0 rfl) ?_
  refine va_newa (atype := .long) (ty := .long) (N' := 16) (a0 := (16, .inr (.inl (fun _ => 0)))) hx hb (hts (.arrayClass .long) (gw_mem (p := 359) (by decide +kernel) (by decide +kernel))) rfl hK hP hD hS hA (fun _ => rfl) (by decide) (by decide) (Nat.le_of_ble_eq_true rfl) (Nat.le_of_ble_eq_true rfl) (Nat.le_of_ble_eq_true rfl) (show decode prog_8_method_1_code 19 = .ok (.newarray .long, 2) from by decide +kernel) (fun q19 c19 H hK1 hP hD hS => ?_)
  obtain rfl : c19 = cA 2 := ka_2 hK1
  refine W.widen (k := 2) (n := 32) (Nat.le_of_ble_eq_true rfl) (Nat.le_of_ble_eq_true rfl) ?_
  have hP : va_P (dC, dI) vCl [(h0, .inr (6, [.ref q12, .null, .null, .null, .null])), (q12, .inl (cA 2, 16, .inr (.inl (fun _ => 0)))), (q19, .inl (cA 2, 16, .inr (.inl (fun _ => 0))))] H := hP
  have hD : va_D A [(h0, .inr (6, [.ref q12, .null, .null, .null, .null])), (q12, .inl (cA 2, 16, .inr (.inl (fun _ => 0)))), (q19, .inl (cA 2, 16, .inr (.inl (fun _ => 0))))] := hD
  refine va_putF (D := (dC, dI)) (ci := 6) (v := .ref q19) (ty := kY_6 1) (C := kR 6) (T := kT_6) (N := 5) hx hb hts kU_6 kY_6 kY_6_ok kN_6 hown hK hP hD hS 0 rfl rfl 1 (by decide) (hts (.fieldLink (kR 6) 19 (kR 6) "highs" "[J") (gw_mem (p := 344) (by decide +kernel) (by decide +kernel))) (fun _ h9 => h9) rfl hin rfl (by decide +kernel) rfl rfl (Nat.le_of_ble_eq_true rfl) (show decode prog_8_method_1_code 21 = .ok (.putfield 19, 3) from by decide +kernel) (fun H locs hP hD hS => ?_)
  have hP : va_P (dC, dI) vCl [(h0, .inr (6, [.ref q12, .ref q19, .null, .null, .null])), (q12, .inl (cA 2, 16, .inr (.inl (fun _ => 0)))), (q19, .inl (cA 2, 16, .inr (.inl (fun _ => 0))))] H := hP
  have hD : va_D A [(h0, .inr (6, [.ref q12, .ref q19, .null, .null, .null])), (q12, .inl (cA 2, 16, .inr (.inl (fun _ => 0)))), (q19, .inl (cA 2, 16, .inr (.inl (fun _ => 0))))] := hD
  refine lv_aload_n hx hb (show decode prog_8_method_1_code 24 = .ok (.aload_n 0, 1) from by decide +kernel) rfl (lv_at hl 1 rfl) ?_
  refine lv_iload_n hx hb (show decode prog_8_method_1_code 25 = .ok (.iload_n 2, 1) from by decide +kernel) rfl (lv_at hl 0 rfl) ?_
  refine va_newa (atype := .int) (ty := .int) (N' := 16) (a0 := (16, .inl (fun _ => 0))) hx hb (hts (.arrayClass .int) (gw_mem (p := 169) (by decide +kernel) (by decide +kernel))) rfl hK hP hD hS hA (fun _ => rfl) (by decide) (by decide) (Nat.le_of_ble_eq_true rfl) (Nat.le_of_ble_eq_true rfl) (Nat.le_of_ble_eq_true rfl) (show decode prog_8_method_1_code 26 = .ok (.newarray .int, 2) from by decide +kernel) (fun q26 c26 H hK1 hP hD hS => ?_)
  obtain rfl : c26 = cA 0 := ka_0 hK1
  refine W.widen (k := 3) (n := 48) (Nat.le_of_ble_eq_true rfl) (Nat.le_of_ble_eq_true rfl) ?_
  have hP : va_P (dC, dI) vCl [(h0, .inr (6, [.ref q12, .ref q19, .null, .null, .null])), (q12, .inl (cA 2, 16, .inr (.inl (fun _ => 0)))), (q19, .inl (cA 2, 16, .inr (.inl (fun _ => 0)))), (q26, .inl (cA 0, 16, .inl (fun _ => 0)))] H := hP
  have hD : va_D A [(h0, .inr (6, [.ref q12, .ref q19, .null, .null, .null])), (q12, .inl (cA 2, 16, .inr (.inl (fun _ => 0)))), (q19, .inl (cA 2, 16, .inr (.inl (fun _ => 0)))), (q26, .inl (cA 0, 16, .inl (fun _ => 0)))] := hD
  refine va_putF (D := (dC, dI)) (ci := 6) (v := .ref q26) (ty := kY_6 2) (C := kR 6) (T := kT_6) (N := 5) hx hb hts kU_6 kY_6 kY_6_ok kN_6 hown hK hP hD hS 0 rfl rfl 2 (by decide) (hts (.fieldLink (kR 6) 22 (kR 6) "sons" "[I") (gw_mem (p := 345) (by decide +kernel) (by decide +kernel))) (fun _ h9 => h9) rfl hin rfl (by decide +kernel) rfl rfl (Nat.le_of_ble_eq_true rfl) (show decode prog_8_method_1_code 28 = .ok (.putfield 22, 3) from by decide +kernel) (fun H locs hP hD hS => ?_)
  have hP : va_P (dC, dI) vCl [(h0, .inr (6, [.ref q12, .ref q19, .ref q26, .null, .null])), (q12, .inl (cA 2, 16, .inr (.inl (fun _ => 0)))), (q19, .inl (cA 2, 16, .inr (.inl (fun _ => 0)))), (q26, .inl (cA 0, 16, .inl (fun _ => 0)))] H := hP
  have hD : va_D A [(h0, .inr (6, [.ref q12, .ref q19, .ref q26, .null, .null])), (q12, .inl (cA 2, 16, .inr (.inl (fun _ => 0)))), (q19, .inl (cA 2, 16, .inr (.inl (fun _ => 0)))), (q26, .inl (cA 0, 16, .inl (fun _ => 0)))] := hD
  refine lv_aload_n hx hb (show decode prog_8_method_1_code 31 = .ok (.aload_n 0, 1) from by decide +kernel) rfl (lv_at hl 1 rfl) ?_
  refine lv_iload_n hx hb (show decode prog_8_method_1_code 32 = .ok (.iload_n 2, 1) from by decide +kernel) rfl (lv_at hl 0 rfl) ?_
  refine va_newa (atype := .int) (ty := .int) (N' := 16) (a0 := (16, .inl (fun _ => 0))) hx hb (hts (.arrayClass .int) (gw_mem (p := 169) (by decide +kernel) (by decide +kernel))) rfl hK hP hD hS hA (fun _ => rfl) (by decide) (by decide) (Nat.le_of_ble_eq_true rfl) (Nat.le_of_ble_eq_true rfl) (Nat.le_of_ble_eq_true rfl) (show decode prog_8_method_1_code 33 = .ok (.newarray .int, 2) from by decide +kernel) (fun q33 c33 H hK1 hP hD hS => ?_)
  obtain rfl : c33 = cA 0 := ka_0 hK1
  refine W.widen (k := 4) (n := 64) (Nat.le_of_ble_eq_true rfl) (Nat.le_of_ble_eq_true rfl) ?_
  have hP : va_P (dC, dI) vCl [(h0, .inr (6, [.ref q12, .ref q19, .ref q26, .null, .null])), (q12, .inl (cA 2, 16, .inr (.inl (fun _ => 0)))), (q19, .inl (cA 2, 16, .inr (.inl (fun _ => 0)))), (q26, .inl (cA 0, 16, .inl (fun _ => 0))), (q33, .inl (cA 0, 16, .inl (fun _ => 0)))] H := hP
  have hD : va_D A [(h0, .inr (6, [.ref q12, .ref q19, .ref q26, .null, .null])), (q12, .inl (cA 2, 16, .inr (.inl (fun _ => 0)))), (q19, .inl (cA 2, 16, .inr (.inl (fun _ => 0)))), (q26, .inl (cA 0, 16, .inl (fun _ => 0))), (q33, .inl (cA 0, 16, .inl (fun _ => 0)))] := hD
  refine va_putF (D := (dC, dI)) (ci := 6) (v := .ref q33) (ty := kY_6 3) (C := kR 6) (T := kT_6) (N := 5) hx hb hts kU_6 kY_6 kY_6_ok kN_6 hown hK hP hD hS 0 rfl rfl 3 (by decide) (hts (.fieldLink (kR 6) 26 (kR 6) "curates" "[I") (gw_mem (p := 346) (by decide +kernel) (by decide +kernel))) (fun _ h9 => h9) rfl hin rfl (by decide +kernel) rfl rfl (Nat.le_of_ble_eq_true rfl) (show decode prog_8_method_1_code 35 = .ok (.putfield 26, 3) from by decide +kernel) (fun H locs hP hD hS => ?_)
  have hP : va_P (dC, dI) vCl [(h0, .inr (6, [.ref q12, .ref q19, .ref q26, .ref q33, .null])), (q12, .inl (cA 2, 16, .inr (.inl (fun _ => 0)))), (q19, .inl (cA 2, 16, .inr (.inl (fun _ => 0)))), (q26, .inl (cA 0, 16, .inl (fun _ => 0))), (q33, .inl (cA 0, 16, .inl (fun _ => 0)))] H := hP
  have hD : va_D A [(h0, .inr (6, [.ref q12, .ref q19, .ref q26, .ref q33, .null])), (q12, .inl (cA 2, 16, .inr (.inl (fun _ => 0)))), (q19, .inl (cA 2, 16, .inr (.inl (fun _ => 0)))), (q26, .inl (cA 0, 16, .inl (fun _ => 0))), (q33, .inl (cA 0, 16, .inl (fun _ => 0)))] := hD
  refine lv_aload_n hx hb (show decode prog_8_method_1_code 38 = .ok (.aload_n 0, 1) from by decide +kernel) rfl (lv_at hl 1 rfl) ?_
  refine lv_iload_n hx hb (show decode prog_8_method_1_code 39 = .ok (.iload_n 2, 1) from by decide +kernel) rfl (lv_at hl 0 rfl) ?_
  refine va_newa (atype := .int) (ty := .int) (N' := 16) (a0 := (16, .inl (fun _ => 0))) hx hb (hts (.arrayClass .int) (gw_mem (p := 169) (by decide +kernel) (by decide +kernel))) rfl hK hP hD hS hA (fun _ => rfl) (by decide) (by decide) (Nat.le_of_ble_eq_true rfl) (Nat.le_of_ble_eq_true rfl) (Nat.le_of_ble_eq_true rfl) (show decode prog_8_method_1_code 40 = .ok (.newarray .int, 2) from by decide +kernel) (fun q40 c40 H hK1 hP hD hS => ?_)
  obtain rfl : c40 = cA 0 := ka_0 hK1
  refine W.widen (k := 5) (n := 80) (Nat.le_of_ble_eq_true rfl) (Nat.le_of_ble_eq_true rfl) ?_
  have hP : va_P (dC, dI) vCl [(h0, .inr (6, [.ref q12, .ref q19, .ref q26, .ref q33, .null])), (q12, .inl (cA 2, 16, .inr (.inl (fun _ => 0)))), (q19, .inl (cA 2, 16, .inr (.inl (fun _ => 0)))), (q26, .inl (cA 0, 16, .inl (fun _ => 0))), (q33, .inl (cA 0, 16, .inl (fun _ => 0))), (q40, .inl (cA 0, 16, .inl (fun _ => 0)))] H := hP
  have hD : va_D A [(h0, .inr (6, [.ref q12, .ref q19, .ref q26, .ref q33, .null])), (q12, .inl (cA 2, 16, .inr (.inl (fun _ => 0)))), (q19, .inl (cA 2, 16, .inr (.inl (fun _ => 0)))), (q26, .inl (cA 0, 16, .inl (fun _ => 0))), (q33, .inl (cA 0, 16, .inl (fun _ => 0))), (q40, .inl (cA 0, 16, .inl (fun _ => 0)))] := hD
  refine va_putF (D := (dC, dI)) (ci := 6) (v := .ref q40) (ty := kY_6 4) (C := kR 6) (T := kT_6) (N := 5) hx hb hts kU_6 kY_6 kY_6_ok kN_6 hown hK hP hD hS 0 rfl rfl 4 (by decide) (hts (.fieldLink (kR 6) 29 (kR 6) "years" "[I") (gw_mem (p := 347) (by decide +kernel) (by decide +kernel))) (fun _ h9 => h9) rfl hin rfl (by decide +kernel) rfl rfl (Nat.le_of_ble_eq_true rfl) (show decode prog_8_method_1_code 42 = .ok (.putfield 29, 3) from by decide +kernel) (fun H locs hP hD hS => ?_)
  have hP : va_P (dC, dI) vCl [(h0, .inr (6, [.ref q12, .ref q19, .ref q26, .ref q33, .ref q40])), (q12, .inl (cA 2, 16, .inr (.inl (fun _ => 0)))), (q19, .inl (cA 2, 16, .inr (.inl (fun _ => 0)))), (q26, .inl (cA 0, 16, .inl (fun _ => 0))), (q33, .inl (cA 0, 16, .inl (fun _ => 0))), (q40, .inl (cA 0, 16, .inl (fun _ => 0)))] H := hP
  have hD : va_D A [(h0, .inr (6, [.ref q12, .ref q19, .ref q26, .ref q33, .ref q40])), (q12, .inl (cA 2, 16, .inr (.inl (fun _ => 0)))), (q19, .inl (cA 2, 16, .inr (.inl (fun _ => 0)))), (q26, .inl (cA 0, 16, .inl (fun _ => 0))), (q33, .inl (cA 0, 16, .inl (fun _ => 0))), (q40, .inl (cA 0, 16, .inl (fun _ => 0)))] := hD
  refine W.widen (k := 5) (n := 80) (Nat.le_of_ble_eq_true rfl) (Nat.le_of_ble_eq_true rfl) ?_
  exact W.vret hx hb hr (fun t ht hW => ⟨⟨(), rfl, trivial, q12, q19, q26, q33, q40, by rw [ht]; exact hP, hD⟩, hS.F ht⟩) hS.2.2 (show decode prog_8_method_1_code 45 = .ok (.return_, 1) from by decide +kernel)
set_option maxHeartbeats 4000000 in
set_option maxRecDepth 100000 in
theorem cc_shelf_3 (l : Launch) (dC : Nat → ClassId) (dI : Nat → Nat → Nat) (cA : Nat → ClassId) (h0 sz : Nat) : Met l MC_shelf.2.1 (mws MC_shelf) ({ frames := 2, cells := 5, slots := 15, locals := 128 }) (va_Pc [.ref h0, .int 3] (fun U => U.heap.size = sz ∧ va_P (dC, dI) vCl [(h0, .inr (6, [.null, .null, .null, .null, .null]))] U.heap ∧ Kc (dC, dI) cA U ∧ va_D (fun _ => True) [(h0, .inr (6, [.null, .null, .null, .null, .null]))])) (va_Qv (fun _ : Unit => True) (fun _ t => ∃ (q12 q19 q26 q33 q40 : Nat), va_P (dC, dI) vCl [(h0, .inr (6, [.ref q12, .ref q19, .ref q26, .ref q33, .ref q40])), (q12, .inl (cA 2, 3, .inr (.inl (fun _ => 0)))), (q19, .inl (cA 2, 3, .inr (.inl (fun _ => 0)))), (q26, .inl (cA 0, 3, .inl (fun _ => 0))), (q33, .inl (cA 0, 3, .inl (fun _ => 0))), (q40, .inl (cA 0, 3, .inl (fun _ => 0)))] t.heap ∧ va_D (va_A [(h0, .inr (6, [.null, .null, .null, .null, .null]))] sz) [(h0, .inr (6, [.ref q12, .ref q19, .ref q26, .ref q33, .ref q40])), (q12, .inl (cA 2, 3, .inr (.inl (fun _ => 0)))), (q19, .inl (cA 2, 3, .inr (.inl (fun _ => 0)))), (q26, .inl (cA 0, 3, .inl (fun _ => 0))), (q33, .inl (cA 0, 3, .inl (fun _ => 0))), (q40, .inl (cA 0, 3, .inl (fun _ => 0)))]) (va_A [(h0, .inr (6, [.null, .null, .null, .null, .null]))] sz)) 5 15 (va_A [(h0, .inr (6, [.null, .null, .null, .null, .null]))] sz) := by
  refine Met.ofW (cc := prog_8_method_1_code) (maxL := 3) (ret := none) (by decide +kernel) rfl ?_
  intro p e s m args below meth c s₁ B hml hv
  obtain ⟨rfl, hsz, hP, hKc, hD0⟩ := hv
  have hx := B.exec
  have hb := B.bytes
  have hr := B.returns
  have hts0 := atoms_spec (ws := mws MC_shelf) B.pre
  have hts : ∀ w ∈ gws, w.before _ s = true := fun w hw => hts0 w (List.mem_cons_of_mem _ hw)
  have hown : s.vm.findClass (kR 6) = some m.cls := findClass_of_methodNamed B.named
  have hlocks := B.notSynchronized
  have hin : meth.name = "<init>" := (name_of_methodNamed B.named B.method).1
  subst hsz
  have hK := hKc.1
  have hD := hD0.self (sz := s.heap.size)
  generalize hAe : va_A [(h0, .inr (6, [.null, .null, .null, .null, .null]))] s.heap.size = A at hD ⊢
  have hA : ∀ q : Nat, s.heap.size ≤ q → A q := fun q h => by rw [← hAe]; exact Or.inr h
  have hS : va_S A s.heap s.heap [] := va_S.rf
  have hP : va_P (dC, dI) vCl [(h0, .inr (6, [.null, .null, .null, .null, .null]))] s.heap := hP
  have hl := lv_entry ([.ref h0, .int 3]) (n := 3) (Nat.le_of_ble_eq_true rfl)
  rw [lg_entry_eq]
  generalize (lg_sl ([.ref h0, .int 3]) ++ List.replicate (3 - (lg_sl ([.ref h0, .int 3])).length) Slot.unset).toArray = ls at hl ⊢
  have hl : lv_has ls 3 [(0, .ref h0), (1, .int 3)] := hl
  refine lv_aload_n hx hb (show decode prog_8_method_1_code 0 = .ok (.aload_n 0, 1) from by decide +kernel) rfl (lv_at hl 0 rfl) ?_
  refine W.objInit hx hb hown (hts (.methodLink (kR 6) 1 objectInit) (gw_mem (p := 341) (by decide +kernel) (by decide +kernel))) (hts (.instanceMethod objectInit) (gw_mem (p := 134) (by decide +kernel) (by decide +kernel))) (hts (.code objectInit ⟨#[0xb1]⟩ 1 none) (gw_mem (p := 135) (by decide +kernel) (by decide +kernel))) rfl (by rw [hml]; exact hl.1) rfl (show decode prog_8_method_1_code 1 = .ok (.invokespecial 1, 3) from by decide +kernel) (Nat.le_of_ble_eq_true rfl) (Nat.le_of_ble_eq_true rfl) ?_
  refine W.eq (g2 := F0 m 4 ls []) rfl ?_
  refine lv_iload_n hx hb (show decode prog_8_method_1_code 4 = .ok (.iload_n 1, 1) from by decide +kernel) rfl (lv_at hl 1 rfl) ?_
  refine lv_iconst (v := 0) hx hb (show decode prog_8_method_1_code 5 = .ok (.iconst 0, 1) from by decide +kernel) (by decide) ?_
  refine va_mmax hx hb (by rw [hml]; exact hl.1.symm) hown (hts _ (gw_mem (p := 342) (by decide +kernel) (by decide +kernel))) (hts _ (gw_mem (p := 155) (by decide +kernel) (by decide +kernel))) (hts _ (gw_mem (p := 110) (by decide +kernel) (by decide +kernel))) (hts _ (gw_mem (p := 156) (by decide +kernel) (by decide +kernel))) (Nat.le_of_ble_eq_true rfl) (Nat.le_of_ble_eq_true rfl) (Nat.le_of_ble_eq_true rfl) (Nat.le_of_ble_eq_true rfl) (show decode prog_8_method_1_code 6 = .ok (.invokestatic 7, 3) from by decide +kernel) ?_
  refine lv_topi (fun t6 e6 => ?_)
  have e6 : t6 = 3 := by rw [e6]; decide
  subst e6
  refine lv_istore_n (lv' := [(2, .int 3), (0, .ref h0), (1, .int 3)]) hx hb (show decode prog_8_method_1_code 9 = .ok (.istore_n 2, 1) from by decide +kernel) rfl hl (by decide) rfl (fun ls hl => ?_)
  refine lv_aload_n hx hb (show decode prog_8_method_1_code 10 = .ok (.aload_n 0, 1) from by decide +kernel) rfl (lv_at hl 1 rfl) ?_
  refine lv_iload_n hx hb (show decode prog_8_method_1_code 11 = .ok (.iload_n 2, 1) from by decide +kernel) rfl (lv_at hl 0 rfl) ?_
  refine va_newa (atype := .long) (ty := .long) (N' := 3) (a0 := (3, .inr (.inl (fun _ => 0)))) hx hb (hts (.arrayClass .long) (gw_mem (p := 359) (by decide +kernel) (by decide +kernel))) rfl hK hP hD hS hA (fun _ => rfl) (by decide) (by decide) (Nat.le_of_ble_eq_true rfl) (Nat.le_of_ble_eq_true rfl) (Nat.le_of_ble_eq_true rfl) (show decode prog_8_method_1_code 12 = .ok (.newarray .long, 2) from by decide +kernel) (fun q12 c12 H hK1 hP hD hS => ?_)
  obtain rfl : c12 = cA 2 := ka_2 hK1
  refine W.widen (k := 1) (n := 3) (Nat.le_of_ble_eq_true rfl) (Nat.le_of_ble_eq_true rfl) ?_
  have hP : va_P (dC, dI) vCl [(h0, .inr (6, [.null, .null, .null, .null, .null])), (q12, .inl (cA 2, 3, .inr (.inl (fun _ => 0))))] H := hP
  have hD : va_D A [(h0, .inr (6, [.null, .null, .null, .null, .null])), (q12, .inl (cA 2, 3, .inr (.inl (fun _ => 0))))] := hD
  refine va_putF (D := (dC, dI)) (ci := 6) (v := .ref q12) (ty := kY_6 0) (C := kR 6) (T := kT_6) (N := 5) hx hb hts kU_6 kY_6 kY_6_ok kN_6 hown hK hP hD hS 0 rfl rfl 0 (by decide) (hts (.fieldLink (kR 6) 13 (kR 6) "lows" "[J") (gw_mem (p := 343) (by decide +kernel) (by decide +kernel))) (fun _ h9 => h9) rfl hin rfl (by decide +kernel) rfl rfl (Nat.le_of_ble_eq_true rfl) (show decode prog_8_method_1_code 14 = .ok (.putfield 13, 3) from by decide +kernel) (fun H locs hP hD hS => ?_)
  have hP : va_P (dC, dI) vCl [(h0, .inr (6, [.ref q12, .null, .null, .null, .null])), (q12, .inl (cA 2, 3, .inr (.inl (fun _ => 0))))] H := hP
  have hD : va_D A [(h0, .inr (6, [.ref q12, .null, .null, .null, .null])), (q12, .inl (cA 2, 3, .inr (.inl (fun _ => 0))))] := hD
  refine lv_aload_n hx hb (show decode prog_8_method_1_code 17 = .ok (.aload_n 0, 1) from by decide +kernel) rfl (lv_at hl 1 rfl) ?_
  refine lv_iload_n hx hb (show decode prog_8_method_1_code 18 = .ok (.iload_n 2, 1) from by decide +kernel) rfl (lv_at hl 0 rfl) ?_
  refine va_newa (atype := .long) (ty := .long) (N' := 3) (a0 := (3, .inr (.inl (fun _ => 0)))) hx hb (hts (.arrayClass .long) (gw_mem (p := 359) (by decide +kernel) (by decide +kernel))) rfl hK hP hD hS hA (fun _ => rfl) (by decide) (by decide) (Nat.le_of_ble_eq_true rfl) (Nat.le_of_ble_eq_true rfl) (Nat.le_of_ble_eq_true rfl) (show decode prog_8_method_1_code 19 = .ok (.newarray .long, 2) from by decide +kernel) (fun q19 c19 H hK1 hP hD hS => ?_)
  obtain rfl : c19 = cA 2 := ka_2 hK1
  refine W.widen (k := 2) (n := 6) (Nat.le_of_ble_eq_true rfl) (Nat.le_of_ble_eq_true rfl) ?_
  have hP : va_P (dC, dI) vCl [(h0, .inr (6, [.ref q12, .null, .null, .null, .null])), (q12, .inl (cA 2, 3, .inr (.inl (fun _ => 0)))), (q19, .inl (cA 2, 3, .inr (.inl (fun _ => 0))))] H := hP
  have hD : va_D A [(h0, .inr (6, [.ref q12, .null, .null, .null, .null])), (q12, .inl (cA 2, 3, .inr (.inl (fun _ => 0)))), (q19, .inl (cA 2, 3, .inr (.inl (fun _ => 0))))] := hD
  refine va_putF (D := (dC, dI)) (ci := 6) (v := .ref q19) (ty := kY_6 1) (C := kR 6) (T := kT_6) (N := 5) hx hb hts kU_6 kY_6 kY_6_ok kN_6 hown hK hP hD hS 0 rfl rfl 1 (by decide) (hts (.fieldLink (kR 6) 19 (kR 6) "highs" "[J") (gw_mem (p := 344) (by decide +kernel) (by decide +kernel))) (fun _ h9 => h9) rfl hin rfl (by decide +kernel) rfl rfl (Nat.le_of_ble_eq_true rfl) (show decode prog_8_method_1_code 21 = .ok (.putfield 19, 3) from by decide +kernel) (fun H locs hP hD hS => ?_)
  have hP : va_P (dC, dI) vCl [(h0, .inr (6, [.ref q12, .ref q19, .null, .null, .null])), (q12, .inl (cA 2, 3, .inr (.inl (fun _ => 0)))), (q19, .inl (cA 2, 3, .inr (.inl (fun _ => 0))))] H := hP
  have hD : va_D A [(h0, .inr (6, [.ref q12, .ref q19, .null, .null, .null])), (q12, .inl (cA 2, 3, .inr (.inl (fun _ => 0)))), (q19, .inl (cA 2, 3, .inr (.inl (fun _ => 0))))] := hD
  refine lv_aload_n hx hb (show decode prog_8_method_1_code 24 = .ok (.aload_n 0, 1) from by decide +kernel) rfl (lv_at hl 1 rfl) ?_
  refine lv_iload_n hx hb (show decode prog_8_method_1_code 25 = .ok (.iload_n 2, 1) from by decide +kernel) rfl (lv_at hl 0 rfl) ?_
  refine va_newa (atype := .int) (ty := .int) (N' := 3) (a0 := (3, .inl (fun _ => 0))) hx hb (hts (.arrayClass .int) (gw_mem (p := 169) (by decide +kernel) (by decide +kernel))) rfl hK hP hD hS hA (fun _ => rfl) (by decide) (by decide) (Nat.le_of_ble_eq_true rfl) (Nat.le_of_ble_eq_true rfl) (Nat.le_of_ble_eq_true rfl) (show decode prog_8_method_1_code 26 = .ok (.newarray .int, 2) from by decide +kernel) (fun q26 c26 H hK1 hP hD hS => ?_)
  obtain rfl : c26 = cA 0 := ka_0 hK1
  refine W.widen (k := 3) (n := 9) (Nat.le_of_ble_eq_true rfl) (Nat.le_of_ble_eq_true rfl) ?_
  have hP : va_P (dC, dI) vCl [(h0, .inr (6, [.ref q12, .ref q19, .null, .null, .null])), (q12, .inl (cA 2, 3, .inr (.inl (fun _ => 0)))), (q19, .inl (cA 2, 3, .inr (.inl (fun _ => 0)))), (q26, .inl (cA 0, 3, .inl (fun _ => 0)))] H := hP
  have hD : va_D A [(h0, .inr (6, [.ref q12, .ref q19, .null, .null, .null])), (q12, .inl (cA 2, 3, .inr (.inl (fun _ => 0)))), (q19, .inl (cA 2, 3, .inr (.inl (fun _ => 0)))), (q26, .inl (cA 0, 3, .inl (fun _ => 0)))] := hD
  refine va_putF (D := (dC, dI)) (ci := 6) (v := .ref q26) (ty := kY_6 2) (C := kR 6) (T := kT_6) (N := 5) hx hb hts kU_6 kY_6 kY_6_ok kN_6 hown hK hP hD hS 0 rfl rfl 2 (by decide) (hts (.fieldLink (kR 6) 22 (kR 6) "sons" "[I") (gw_mem (p := 345) (by decide +kernel) (by decide +kernel))) (fun _ h9 => h9) rfl hin rfl (by decide +kernel) rfl rfl (Nat.le_of_ble_eq_true rfl) (show decode prog_8_method_1_code 28 = .ok (.putfield 22, 3) from by decide +kernel) (fun H locs hP hD hS => ?_)
  have hP : va_P (dC, dI) vCl [(h0, .inr (6, [.ref q12, .ref q19, .ref q26, .null, .null])), (q12, .inl (cA 2, 3, .inr (.inl (fun _ => 0)))), (q19, .inl (cA 2, 3, .inr (.inl (fun _ => 0)))), (q26, .inl (cA 0, 3, .inl (fun _ => 0)))] H := hP
  have hD : va_D A [(h0, .inr (6, [.ref q12, .ref q19, .ref q26, .null, .null])), (q12, .inl (cA 2, 3, .inr (.inl (fun _ => 0)))), (q19, .inl (cA 2, 3, .inr (.inl (fun _ => 0)))), (q26, .inl (cA 0, 3, .inl (fun _ => 0)))] := hD
  refine lv_aload_n hx hb (show decode prog_8_method_1_code 31 = .ok (.aload_n 0, 1) from by decide +kernel) rfl (lv_at hl 1 rfl) ?_
  refine lv_iload_n hx hb (show decode prog_8_method_1_code 32 = .ok (.iload_n 2, 1) from by decide +kernel) rfl (lv_at hl 0 rfl) ?_
  refine va_newa (atype := .int) (ty := .int) (N' := 3) (a0 := (3, .inl (fun _ => 0))) hx hb (hts (.arrayClass .int) (gw_mem (p := 169) (by decide +kernel) (by decide +kernel))) rfl hK hP hD hS hA (fun _ => rfl) (by decide) (by decide) (Nat.le_of_ble_eq_true rfl) (Nat.le_of_ble_eq_true rfl) (Nat.le_of_ble_eq_true rfl) (show decode prog_8_method_1_code 33 = .ok (.newarray .int, 2) from by decide +kernel) (fun q33 c33 H hK1 hP hD hS => ?_)
  obtain rfl : c33 = cA 0 := ka_0 hK1
  refine W.widen (k := 4) (n := 12) (Nat.le_of_ble_eq_true rfl) (Nat.le_of_ble_eq_true rfl) ?_
  have hP : va_P (dC, dI) vCl [(h0, .inr (6, [.ref q12, .ref q19, .ref q26, .null, .null])), (q12, .inl (cA 2, 3, .inr (.inl (fun _ => 0)))), (q19, .inl (cA 2, 3, .inr (.inl (fun _ => 0)))), (q26, .inl (cA 0, 3, .inl (fun _ => 0))), (q33, .inl (cA 0, 3, .inl (fun _ => 0)))] H := hP
  have hD : va_D A [(h0, .inr (6, [.ref q12, .ref q19, .ref q26, .null, .null])), (q12, .inl (cA 2, 3, .inr (.inl (fun _ => 0)))), (q19, .inl (cA 2, 3, .inr (.inl (fun _ => 0)))), (q26, .inl (cA 0, 3, .inl (fun _ => 0))), (q33, .inl (cA 0, 3, .inl (fun _ => 0)))] := hD
  refine va_putF (D := (dC, dI)) (ci := 6) (v := .ref q33) (ty := kY_6 3) (C := kR 6) (T := kT_6) (N := 5) hx hb hts kU_6 kY_6 kY_6_ok kN_6 hown hK hP hD hS 0 rfl rfl 3 (by decide) (hts (.fieldLink (kR 6) 26 (kR 6) "curates" "[I") (gw_mem (p := 346) (by decide +kernel) (by decide +kernel))) (fun _ h9 => h9) rfl hin rfl (by decide +kernel) rfl rfl (Nat.le_of_ble_eq_true rfl) (show decode prog_8_method_1_code 35 = .ok (.putfield 26, 3) from by decide +kernel) (fun H locs hP hD hS => ?_)
  have hP : va_P (dC, dI) vCl [(h0, .inr (6, [.ref q12, .ref q19, .ref q26, .ref q33, .null])), (q12, .inl (cA 2, 3, .inr (.inl (fun _ => 0)))), (q19, .inl (cA 2, 3, .inr (.inl (fun _ => 0)))), (q26, .inl (cA 0, 3, .inl (fun _ => 0))), (q33, .inl (cA 0, 3, .inl (fun _ => 0)))] H := hP
  have hD : va_D A [(h0, .inr (6, [.ref q12, .ref q19, .ref q26, .ref q33, .null])), (q12, .inl (cA 2, 3, .inr (.inl (fun _ => 0)))), (q19, .inl (cA 2, 3, .inr (.inl (fun _ => 0)))), (q26, .inl (cA 0, 3, .inl (fun _ => 0))), (q33, .inl (cA 0, 3, .inl (fun _ => 0)))] := hD
  refine lv_aload_n hx hb (show decode prog_8_method_1_code 38 = .ok (.aload_n 0, 1) from by decide +kernel) rfl (lv_at hl 1 rfl) ?_
  refine lv_iload_n hx hb (show decode prog_8_method_1_code 39 = .ok (.iload_n 2, 1) from by decide +kernel) rfl (lv_at hl 0 rfl) ?_
  refine va_newa (atype := .int) (ty := .int) (N' := 3) (a0 := (3, .inl (fun _ => 0))) hx hb (hts (.arrayClass .int) (gw_mem (p := 169) (by decide +kernel) (by decide +kernel))) rfl hK hP hD hS hA (fun _ => rfl) (by decide) (by decide) (Nat.le_of_ble_eq_true rfl) (Nat.le_of_ble_eq_true rfl) (Nat.le_of_ble_eq_true rfl) (show decode prog_8_method_1_code 40 = .ok (.newarray .int, 2) from by decide +kernel) (fun q40 c40 H hK1 hP hD hS => ?_)
  obtain rfl : c40 = cA 0 := ka_0 hK1
  refine W.widen (k := 5) (n := 15) (Nat.le_of_ble_eq_true rfl) (Nat.le_of_ble_eq_true rfl) ?_
  have hP : va_P (dC, dI) vCl [(h0, .inr (6, [.ref q12, .ref q19, .ref q26, .ref q33, .null])), (q12, .inl (cA 2, 3, .inr (.inl (fun _ => 0)))), (q19, .inl (cA 2, 3, .inr (.inl (fun _ => 0)))), (q26, .inl (cA 0, 3, .inl (fun _ => 0))), (q33, .inl (cA 0, 3, .inl (fun _ => 0))), (q40, .inl (cA 0, 3, .inl (fun _ => 0)))] H := hP
  have hD : va_D A [(h0, .inr (6, [.ref q12, .ref q19, .ref q26, .ref q33, .null])), (q12, .inl (cA 2, 3, .inr (.inl (fun _ => 0)))), (q19, .inl (cA 2, 3, .inr (.inl (fun _ => 0)))), (q26, .inl (cA 0, 3, .inl (fun _ => 0))), (q33, .inl (cA 0, 3, .inl (fun _ => 0))), (q40, .inl (cA 0, 3, .inl (fun _ => 0)))] := hD
  refine va_putF (D := (dC, dI)) (ci := 6) (v := .ref q40) (ty := kY_6 4) (C := kR 6) (T := kT_6) (N := 5) hx hb hts kU_6 kY_6 kY_6_ok kN_6 hown hK hP hD hS 0 rfl rfl 4 (by decide) (hts (.fieldLink (kR 6) 29 (kR 6) "years" "[I") (gw_mem (p := 347) (by decide +kernel) (by decide +kernel))) (fun _ h9 => h9) rfl hin rfl (by decide +kernel) rfl rfl (Nat.le_of_ble_eq_true rfl) (show decode prog_8_method_1_code 42 = .ok (.putfield 29, 3) from by decide +kernel) (fun H locs hP hD hS => ?_)
  have hP : va_P (dC, dI) vCl [(h0, .inr (6, [.ref q12, .ref q19, .ref q26, .ref q33, .ref q40])), (q12, .inl (cA 2, 3, .inr (.inl (fun _ => 0)))), (q19, .inl (cA 2, 3, .inr (.inl (fun _ => 0)))), (q26, .inl (cA 0, 3, .inl (fun _ => 0))), (q33, .inl (cA 0, 3, .inl (fun _ => 0))), (q40, .inl (cA 0, 3, .inl (fun _ => 0)))] H := hP
  have hD : va_D A [(h0, .inr (6, [.ref q12, .ref q19, .ref q26, .ref q33, .ref q40])), (q12, .inl (cA 2, 3, .inr (.inl (fun _ => 0)))), (q19, .inl (cA 2, 3, .inr (.inl (fun _ => 0)))), (q26, .inl (cA 0, 3, .inl (fun _ => 0))), (q33, .inl (cA 0, 3, .inl (fun _ => 0))), (q40, .inl (cA 0, 3, .inl (fun _ => 0)))] := hD
  refine W.widen (k := 5) (n := 15) (Nat.le_of_ble_eq_true rfl) (Nat.le_of_ble_eq_true rfl) ?_
  exact W.vret hx hb hr (fun t ht hW => ⟨⟨(), rfl, trivial, q12, q19, q26, q33, q40, by rw [ht]; exact hP, hD⟩, hS.F ht⟩) hS.2.2 (show decode prog_8_method_1_code 45 = .ok (.return_, 1) from by decide +kernel)
set_option maxHeartbeats 4000000 in
set_option maxRecDepth 100000 in
theorem cc_chances (l : Launch) (dC : Nat → ClassId) (dI : Nat → Nat → Nat) (cA : Nat → ClassId) (h0 sz : Nat) : Met l MC_chances.2.1 (mws MC_chances) ({ frames := 2, cells := 0, slots := 0, locals := 128 }) (va_Pc [.ref h0] (fun U => U.heap.size = sz ∧ va_P (dC, dI) vCl [(h0, .inr (0, [.long 0, .long 0, .long 0, .int 0, .int 0, .int 0]))] U.heap ∧ Kc (dC, dI) cA U ∧ va_D (fun _ => True) [(h0, .inr (0, [.long 0, .long 0, .long 0, .int 0, .int 0, .int 0]))])) (va_Qv (fun _ : Unit => True) (fun _ t => va_P (dC, dI) vCl [(h0, .inr (0, [.long 0, .long 0, .long 1, .int 0, .int 0, .int 0]))] t.heap ∧ va_D (va_A [(h0, .inr (0, [.long 0, .long 0, .long 0, .int 0, .int 0, .int 0]))] sz) [(h0, .inr (0, [.long 0, .long 0, .long 1, .int 0, .int 0, .int 0]))]) (va_A [(h0, .inr (0, [.long 0, .long 0, .long 0, .int 0, .int 0, .int 0]))] sz)) 0 0 (va_A [(h0, .inr (0, [.long 0, .long 0, .long 0, .int 0, .int 0, .int 0]))] sz) := by
  refine Met.ofW (cc := prog_2_method_1_code) (maxL := 1) (ret := none) (by decide +kernel) rfl ?_
  intro p e s m args below meth c s₁ B hml hv
  obtain ⟨rfl, hsz, hP, hKc, hD0⟩ := hv
  have hx := B.exec
  have hb := B.bytes
  have hr := B.returns
  have hts0 := atoms_spec (ws := mws MC_chances) B.pre
  have hts : ∀ w ∈ gws, w.before _ s = true := fun w hw => hts0 w (List.mem_cons_of_mem _ hw)
  have hown : s.vm.findClass (kR 0) = some m.cls := findClass_of_methodNamed B.named
  have hlocks := B.notSynchronized
  have hin : meth.name = "<init>" := (name_of_methodNamed B.named B.method).1
  subst hsz
  have hK := hKc.1
  have hD := hD0.self (sz := s.heap.size)
  generalize hAe : va_A [(h0, .inr (0, [.long 0, .long 0, .long 0, .int 0, .int 0, .int 0]))] s.heap.size = A at hD ⊢
  have hA : ∀ q : Nat, s.heap.size ≤ q → A q := fun q h => by rw [← hAe]; exact Or.inr h
  have hS : va_S A s.heap s.heap [] := va_S.rf
  have hP : va_P (dC, dI) vCl [(h0, .inr (0, [.long 0, .long 0, .long 0, .int 0, .int 0, .int 0]))] s.heap := hP
  have hl := lv_entry ([.ref h0]) (n := 1) (Nat.le_of_ble_eq_true rfl)
  rw [lg_entry_eq]
  generalize (lg_sl ([.ref h0]) ++ List.replicate (1 - (lg_sl ([.ref h0])).length) Slot.unset).toArray = ls at hl ⊢
  have hl : lv_has ls 1 [(0, .ref h0)] := hl
  refine lv_aload_n hx hb (show decode prog_2_method_1_code 0 = .ok (.aload_n 0, 1) from by decide +kernel) rfl (lv_at hl 0 rfl) ?_
  refine W.objInit hx hb hown (hts (.methodLink (kR 0) 3 objectInit) (gw_mem (p := 450) (by decide +kernel) (by decide +kernel))) (hts (.instanceMethod objectInit) (gw_mem (p := 134) (by decide +kernel) (by decide +kernel))) (hts (.code objectInit ⟨#[0xb1]⟩ 1 none) (gw_mem (p := 135) (by decide +kernel) (by decide +kernel))) rfl (by rw [hml]; exact hl.1) rfl (show decode prog_2_method_1_code 1 = .ok (.invokespecial 3, 3) from by decide +kernel) (Nat.le_of_ble_eq_true rfl) (Nat.le_of_ble_eq_true rfl) ?_
  refine W.eq (g2 := F0 m 4 ls []) rfl ?_
  refine lv_aload_n hx hb (show decode prog_2_method_1_code 4 = .ok (.aload_n 0, 1) from by decide +kernel) rfl (lv_at hl 0 rfl) ?_
  refine lv_lconst (v := 0) hx hb (show decode prog_2_method_1_code 5 = .ok (.lconst 0, 1) from by decide +kernel) (by decide) ?_
  refine va_put (D := (dC, dI)) (ci := 0) (v := .long 0) (ty := kY_0 0) (C := kR 0) (T := kT_0) (N := 6) hx hb hts kU_0 kY_0 kY_0_ok kN_0 hown hK hP hD hS 0 rfl rfl 0 (by decide) (hts (.fieldLink (kR 0) 9 (kR 0) "inCell" "J") (gw_mem (p := 451) (by decide +kernel) (by decide +kernel))) (fun _ h9 => h9) rfl (by decide +kernel) rfl rfl (Nat.le_of_ble_eq_true rfl) (show decode prog_2_method_1_code 6 = .ok (.putfield 9, 3) from by decide +kernel) (fun H locs hP hD hS => ?_)
  have hP : va_P (dC, dI) vCl [(h0, .inr (0, [.long 0, .long 0, .long 0, .int 0, .int 0, .int 0]))] H := hP
  have hD : va_D A [(h0, .inr (0, [.long 0, .long 0, .long 0, .int 0, .int 0, .int 0]))] := hD
  refine lv_aload_n hx hb (show decode prog_2_method_1_code 9 = .ok (.aload_n 0, 1) from by decide +kernel) rfl (lv_at hl 0 rfl) ?_
  refine lv_lconst (v := 0) hx hb (show decode prog_2_method_1_code 10 = .ok (.lconst 0, 1) from by decide +kernel) (by decide) ?_
  refine va_put (D := (dC, dI)) (ci := 0) (v := .long 0) (ty := kY_0 1) (C := kR 0) (T := kT_0) (N := 6) hx hb hts kU_0 kY_0 kY_0_ok kN_0 hown hK hP hD hS 0 rfl rfl 1 (by decide) (hts (.fieldLink (kR 0) 15 (kR 0) "folkLost" "J") (gw_mem (p := 453) (by decide +kernel) (by decide +kernel))) (fun _ h9 => h9) rfl (by decide +kernel) rfl rfl (Nat.le_of_ble_eq_true rfl) (show decode prog_2_method_1_code 11 = .ok (.putfield 15, 3) from by decide +kernel) (fun H locs hP hD hS => ?_)
  have hP : va_P (dC, dI) vCl [(h0, .inr (0, [.long 0, .long 0, .long 0, .int 0, .int 0, .int 0]))] H := hP
  have hD : va_D A [(h0, .inr (0, [.long 0, .long 0, .long 0, .int 0, .int 0, .int 0]))] := hD
  refine lv_aload_n hx hb (show decode prog_2_method_1_code 14 = .ok (.aload_n 0, 1) from by decide +kernel) rfl (lv_at hl 0 rfl) ?_
  refine lv_lconst (v := 1) hx hb (show decode prog_2_method_1_code 15 = .ok (.lconst 1, 1) from by decide +kernel) (by decide) ?_
  refine va_put (D := (dC, dI)) (ci := 0) (v := .long 1) (ty := kY_0 2) (C := kR 0) (T := kT_0) (N := 6) hx hb hts kU_0 kY_0 kY_0_ok kN_0 hown hK hP hD hS 0 rfl rfl 2 (by decide) (hts (.fieldLink (kR 0) 18 (kR 0) "all" "J") (gw_mem (p := 455) (by decide +kernel) (by decide +kernel))) (fun _ h9 => h9) rfl (by decide +kernel) rfl rfl (Nat.le_of_ble_eq_true rfl) (show decode prog_2_method_1_code 16 = .ok (.putfield 18, 3) from by decide +kernel) (fun H locs hP hD hS => ?_)
  have hP : va_P (dC, dI) vCl [(h0, .inr (0, [.long 0, .long 0, .long 1, .int 0, .int 0, .int 0]))] H := hP
  have hD : va_D A [(h0, .inr (0, [.long 0, .long 0, .long 1, .int 0, .int 0, .int 0]))] := hD
  refine lv_aload_n hx hb (show decode prog_2_method_1_code 19 = .ok (.aload_n 0, 1) from by decide +kernel) rfl (lv_at hl 0 rfl) ?_
  refine lv_iconst (v := 0) hx hb (show decode prog_2_method_1_code 20 = .ok (.iconst 0, 1) from by decide +kernel) (by decide) ?_
  refine va_put (D := (dC, dI)) (ci := 0) (v := .int 0) (ty := kY_0 3) (C := kR 0) (T := kT_0) (N := 6) hx hb hts kU_0 kY_0 kY_0_ok kN_0 hown hK hP hD hS 0 rfl rfl 3 (by decide) (hts (.fieldLink (kR 0) 21 (kR 0) "row" "I") (gw_mem (p := 457) (by decide +kernel) (by decide +kernel))) (fun _ h9 => h9) rfl (by decide +kernel) rfl rfl (Nat.le_of_ble_eq_true rfl) (show decode prog_2_method_1_code 21 = .ok (.putfield 21, 3) from by decide +kernel) (fun H locs hP hD hS => ?_)
  have hP : va_P (dC, dI) vCl [(h0, .inr (0, [.long 0, .long 0, .long 1, .int 0, .int 0, .int 0]))] H := hP
  have hD : va_D A [(h0, .inr (0, [.long 0, .long 0, .long 1, .int 0, .int 0, .int 0]))] := hD
  refine lv_aload_n hx hb (show decode prog_2_method_1_code 24 = .ok (.aload_n 0, 1) from by decide +kernel) rfl (lv_at hl 0 rfl) ?_
  refine lv_iconst (v := 0) hx hb (show decode prog_2_method_1_code 25 = .ok (.iconst 0, 1) from by decide +kernel) (by decide) ?_
  refine va_put (D := (dC, dI)) (ci := 0) (v := .int 0) (ty := kY_0 4) (C := kR 0) (T := kT_0) (N := 6) hx hb hts kU_0 kY_0 kY_0_ok kN_0 hown hK hP hD hS 0 rfl rfl 4 (by decide) (hts (.fieldLink (kR 0) 25 (kR 0) "strides" "I") (gw_mem (p := 458) (by decide +kernel) (by decide +kernel))) (fun _ h9 => h9) rfl (by decide +kernel) rfl rfl (Nat.le_of_ble_eq_true rfl) (show decode prog_2_method_1_code 26 = .ok (.putfield 25, 3) from by decide +kernel) (fun H locs hP hD hS => ?_)
  have hP : va_P (dC, dI) vCl [(h0, .inr (0, [.long 0, .long 0, .long 1, .int 0, .int 0, .int 0]))] H := hP
  have hD : va_D A [(h0, .inr (0, [.long 0, .long 0, .long 1, .int 0, .int 0, .int 0]))] := hD
  refine lv_aload_n hx hb (show decode prog_2_method_1_code 29 = .ok (.aload_n 0, 1) from by decide +kernel) rfl (lv_at hl 0 rfl) ?_
  refine lv_iconst (v := 0) hx hb (show decode prog_2_method_1_code 30 = .ok (.iconst 0, 1) from by decide +kernel) (by decide) ?_
  refine va_put (D := (dC, dI)) (ci := 0) (v := .int 0) (ty := kY_0 5) (C := kR 0) (T := kT_0) (N := 6) hx hb hts kU_0 kY_0 kY_0_ok kN_0 hown hK hP hD hS 0 rfl rfl 5 (by decide) (hts (.fieldLink (kR 0) 28 (kR 0) "goal" "I") (gw_mem (p := 459) (by decide +kernel) (by decide +kernel))) (fun _ h9 => h9) rfl (by decide +kernel) rfl rfl (Nat.le_of_ble_eq_true rfl) (show decode prog_2_method_1_code 31 = .ok (.putfield 28, 3) from by decide +kernel) (fun H locs hP hD hS => ?_)
  have hP : va_P (dC, dI) vCl [(h0, .inr (0, [.long 0, .long 0, .long 1, .int 0, .int 0, .int 0]))] H := hP
  have hD : va_D A [(h0, .inr (0, [.long 0, .long 0, .long 1, .int 0, .int 0, .int 0]))] := hD
  refine W.widen (k := 0) (n := 0) (Nat.le_of_ble_eq_true rfl) (Nat.le_of_ble_eq_true rfl) ?_
  exact W.vret hx hb hr (fun t ht hW => ⟨⟨(), rfl, trivial, by rw [ht]; exact hP, hD⟩, hS.F ht⟩) hS.2.2 (show decode prog_2_method_1_code 34 = .ok (.return_, 1) from by decide +kernel)
