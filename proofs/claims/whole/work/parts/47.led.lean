/-! ===== x.led: a place, or NoSuchElementException ===== -/
def xN : String := "java/util/NoSuchElementException"
def xNs : List String := ["java/lang/RuntimeException", "java/lang/Exception"]
def isCD (w : Cond) : Bool := match w with
  | .castable _ _ => true
  | .declares _ => true
  | _ => false
set_option maxRecDepth 100000 in
theorem at_cd : ((vx_at0 (kR 9) 374 xN xNs).filter (fun w => !goodWord w)).all isCD = true := by decide +kernel
set_option maxRecDepth 100000 in
theorem at_ot : ∀ w ∈ Cond.classLink (kR 9) 372 xN :: Cond.initialized xN :: vx_at0 (kR 9) 374 xN xNs, vx_ot w = true := by decide +kernel
set_option maxRecDepth 100000 in
theorem at_gw : ∀ w ∈ (vx_at0 (kR 9) 374 xN xNs).filter goodWord, w ∈ gws := by
  intro w hw
  have h : ((vx_at0 (kR 9) 374 xN xNs).filter goodWord).all (fun w => decide (w ∈ lw_tbl)) = true := by decide +kernel
  exact List.mem_filter.mpr ⟨of_decide_eq_true (List.all_eq_true.mp h w hw), (List.mem_filter.mp hw).2⟩
def LedE (A : Nat → Prop) (U : State) (H : Heap) : Prop := (∀ w ∈ (vx_at0 (kR 9) 374 xN xNs).filter (fun w => !goodWord w), va_Nw w U) ∧ vx_Zq Bundle.tN "UNASSIGNED_STACK" Bundle.steD A U H ∧ vx_Zq Bundle.tN "SUPPRESSED_SENTINEL" Bundle.listD A U H
theorem LedE.to {A B : Nat → Prop} {s U : State} {H0 H : Heap} (h : LedE A s H0) (hW : s.WarmedH U.vm) (hq : ∀ q : Nat, q < H0.size → ¬ A q → H[q]? = H0[q]?) (hAB : ∀ q, B q → A q) : LedE B U H := by
  obtain ⟨h1, h2, h3⟩ := h
  have hv := hW.alike
  refine ⟨fun w hw => ?_, ((h2.moved hv).kept hq).narrow hAB, ((h3.moved hv).kept hq).narrow hAB⟩
  have hc := List.all_eq_true.mp at_cd w hw
  have hz := h1 w hw
  cases w <;> first | (cases hc; done) | exact va_Nw.warmC hW hz | exact va_Nw.warmD hW hz
def QX (D : va_G) (a : Nat → Nat) (cA : Nat → ClassId) (P : Option Int32 × Sg → Prop) (A : Nat → Prop) : Array Value → State → Outcome → State → Prop := fun _ st oc t =>
  (∃ (r : Int32) (σ' : Sg), oc = .returned (some (.int r)) ∧ P (some r, σ') ∧ va_P D vCl (wld a cA σ') t.heap) ∧ va_F A st t
def XX (D : va_G) (a : Nat → Nat) (cA : Nat → ClassId) (P : Option Int32 × Sg → Prop) (A : Nat → Prop) : String → State → State → Prop := fun E st t =>
  E = xN ∧ (∃ σ' : Sg, P (none, σ') ∧ va_P D vCl (wld a cA σ') t.heap) ∧ va_F A st t
def Cr9 (P : Option Int32 × Sg → Prop) (x : CX) : Prop := match x with
  | ((_, l, _, R, s, _, args, below, meth, c), (a, cA, D, (cells, slots), Q)) =>
    meth.sig.returnType = some .int ∧ meth.locks = false ∧ cells = 0 ∧ slots = 0 ∧ (∀ z ∈ c.exceptionTable.toList, False) ∧ LedE (Aw a s.heap.size) s s.heap ∧ l.stackTraces = false ∧ 6 ≤ R.frames ∧ 384 ≤ R.locals ∧ 1 ≤ R.cells ∧ 6 ≤ R.slots ∧ Q = vx_MQ below (QX D a cA P (Aw a s.heap.size)) (XX D a cA P (Aw a s.heap.size)) args s 1 6 (Aw a s.heap.size)
theorem g_iretX {x : CX} {own : Nat} {cc : ByteArray} {P : Option Int32 × Sg → Prop} {pc : Nat} {lo : List (Option Value)} {σ : Sg} (hx : Cx own cc x) (hr : Cr9 P x) {v : Int32} (hd : decode cc pc = .ok (.ireturn, 1)) (hP : P (some v, σ)) : G x pc lo [.int v] σ := by
  obtain ⟨⟨p, l, e, R, s, m, args, below, meth, c⟩, ⟨a, cA, D, ⟨cells, slots⟩, Q⟩⟩ := x
  obtain ⟨hexec, hb, hown, hts, hK, hinj⟩ := hx
  obtain ⟨h1, hlocks, rfl, rfl, -, -, -, -, -, -, -, rfl⟩ := hr
  intro H locs ls hP1 hS hl
  refine vx_ret (W.widen (k := 1) (n := 6) (by decide) (by decide) ?_)
  exact W.iret (v := v) hexec hb h1 (fun t ht hW => ⟨⟨v, σ, rfl, hP, by rw [ht]; exact hP1⟩, hS.F ht⟩) hS.2.2 hd hlocks
theorem g_throw {x : CX} {cc : ByteArray} {P : Option Int32 × Sg → Prop} {pc : Nat} {lo : List (Option Value)} {σ : Sg} (hx : Cx 9 cc x) (hr : Cr9 P x) (d0 : decode cc pc = .ok (.new 372, 3)) (d3 : decode cc (pc + 3) = .ok (.dup, 1)) (d4 : decode cc (pc + 4) = .ok (.invokespecial 374, 3)) (d7 : decode cc (pc + 7) = .ok (.athrow, 1)) (hP : P (none, σ)) : G x pc lo [] σ := by
  have w1 : Cond.classLink (kR 9) 372 xN ∈ gws := gw_mem (p := 1342) (by decide +kernel) (by decide +kernel)
  have w2 : Cond.initialized xN ∈ gws := gw_mem (p := 127) (by decide +kernel) (by decide +kernel)
  obtain ⟨⟨p, l, e, R, s, m, args, below, meth, c⟩, ⟨a, cA, D, ⟨cells, slots⟩, Q⟩⟩ := x
  obtain ⟨hexec, hb, hown, hts, hK, hinj⟩ := hx
  obtain ⟨h1, hlocks, rfl, rfl, htab, hled, htr, hf, hlo, hce, hsl, rfl⟩ := hr
  intro H locs ls hP1 hS hl
  have hat : ∀ w ∈ vx_at0 (kR 9) 374 xN xNs, w.before args s = true := by
    intro w hw
    by_cases g : goodWord w = true
    · exact hts w (at_gw w (List.mem_filter.mpr ⟨hw, g⟩))
    · have hm : w ∈ (vx_at0 (kR 9) 374 xN xNs).filter (fun w => !goodWord w) := List.mem_filter.mpr ⟨hw, by simp [g]⟩
      have hc := List.all_eq_true.mp at_cd w hm
      have hz := hled.1 w hm
      cases w <;> first | (cases hc; done) | exact va_Nw.use rfl hz
  exact vx_throw0 (own := kR 9) (cls := xN) (names := xNs) (A := Aw a s.heap.size) hexec hb htr hown (by decide +kernel) (by decide +kernel) (hts _ w1) (hts _ w2) hat at_ot hled.2.1 hled.2.2 hS hl.1 d0 d3 d4 d7 (fun z hz => (htab z hz).elim) (by show 5 < R.frames; omega) (by show 0 + (13 * 3 + 42) ≤ R.locals; omega) hce hsl hlocks
    (fun t hv hz hk => ⟨rfl, ⟨σ, hP, hP1.kept (fun k q hq => hk q.1 (hP1 k q hq).lt)⟩, Nat.le_trans hS.1 hz, fun q h1 h2 => (hk q (Nat.lt_of_lt_of_le h1 hS.1)).trans (hS.2.1 q h1 h2)⟩) hS.2.2 (Nat.le_refl _) (Nat.le_refl _)
