def nstL : List (Nat × Nat × MethodName) := [(9, 9, ⟨"SevenLeague$Reade\x72", "<init>", "()V"⟩), (5, 36, ⟨"SevenLeague$Country", "<init>", "()V"⟩), (9, 18, ⟨"SevenLeague$Country", "<init>", "()V"⟩), (9, 25, ⟨"SevenLeague$State", "<init>", "()V"⟩), (9, 35, ⟨"SevenLeague$History", "<init>", "()V"⟩), (9, 55, ⟨"SevenLeague$Paths", "<init>", "()V"⟩), (9, 62, ⟨"SevenLeague$Tours", "<init>", "()V"⟩), (8, 30, ⟨"SevenLeague$State", "<init>", "()V"⟩), (9, 69, ⟨"SevenLeague$Chances", "<init>", "()V"⟩), (5, 170, ⟨"SevenLeague", "span", "(II)J"⟩), (5, 206, ⟨"SevenLeague", "digitFo\x72", "(II)I"⟩), (1, 73, ⟨"SevenLeague", "bit", "(JI)Z"⟩), (5, 217, ⟨"SevenLeague", "inside", "(II)J"⟩), (7, 46, ⟨"SevenLeague", "bit", "(JI)Z"⟩), (1, 67, ⟨"SevenLeague", "below", "(I)J"⟩), (1, 88, ⟨"SevenLeague", "inside", "(II)J"⟩), (7, 64, ⟨"SevenLeague", "inside", "(II)J"⟩), (4, 80, ⟨"SevenLeague", "span", "(II)J"⟩), (4, 103, ⟨"SevenLeague", "inside", "(II)J"⟩), (7, 70, ⟨"SevenLeague", "span", "(II)J"⟩), (8, 71, ⟨"SevenLeague", "bit", "(JI)Z"⟩), (0, 52, ⟨"SevenLeague", "digitOf", "(III)I"⟩), (0, 63, ⟨"SevenLeague", "inside", "(II)J"⟩)]
def strTx : List String := ["land", "ground", "boots", "place", "stride", "unsure", "seen", "cells", "son", "curate", "gout", "heath", "bog", "wood", "at", "folk", "up", "down", "gone", "there"]
def strLen : List Nat := [4, 6, 5, 5, 6, 6, 4, 5, 3, 6, 4, 5, 3, 4, 2, 4, 2, 4, 4, 5]
def strByt : List (List Int32) := [[108, 97, 110, 100], [103, 114, 111, 117, 110, 100], [98, 111, 111, 116, 115], [112, 108, 97, 99, 101], [115, 116, 114, 105, 100, 101], [117, 110, 115, 117, 114, 101], [115, 101, 101, 110], [99, 101, 108, 108, 115], [115, 111, 110], [99, 117, 114, 97, 116, 101], [103, 111, 117, 116], [104, 101, 97, 116, 104], [98, 111, 103], [119, 111, 111, 100], [97, 116], [102, 111, 108, 107], [117, 112], [100, 111, 119, 110], [103, 111, 110, 101], [116, 104, 101, 114, 101]]
def strL : List (Nat × Nat × Nat) := [(5, 245, 0), (5, 247, 1), (5, 249, 2), (5, 250, 3), (5, 252, 4), (5, 254, 5), (5, 255, 6), (5, 129, 7), (5, 141, 8), (5, 152, 9), (5, 157, 10), (5, 161, 11), (5, 166, 12), (5, 168, 13), (5, 184, 14), (5, 193, 15), (5, 202, 16), (5, 204, 17), (5, 232, 18), (5, 234, 19), (10, 137, 0), (10, 221, 7), (10, 227, 8), (10, 229, 9), (10, 231, 10), (10, 139, 1), (10, 233, 11), (10, 235, 12), (10, 237, 13), (10, 141, 2), (10, 143, 3), (10, 144, 4), (10, 146, 5), (10, 148, 6), (10, 243, 14), (10, 247, 15), (10, 249, 16), (10, 251, 17), (10, 257, 18), (10, 259, 19)]
def roomL : List Int32 := [1, 6, 3, 6, 8, 4, 6]
def Env9 (a : Nat → Nat) (cA : Nat → ClassId) (D : va_G) (A : Nat → Prop) (U : State) (H : Heap) : Prop :=
  va_K D vCl (tyL cA) U ∧ Inj a ∧ (∀ q ∈ nstL, va_Nw (.methodLinkNest (kR q.1) q.2.1 q.2.2 "SevenLeague") U) ∧ vk_S 20 strLen strByt (fun i => a (100 + i)) (fun i => a (200 + i)) A U H ∧ (∀ q ∈ strL, vk_R (kR q.1) q.2.1 (strTx.getD q.2.2 "") (a (100 + q.2.2)) U) ∧ va_Z "java/lang/String" "COMPACT_STRINGS" "Z" (.int 1) A U H ∧ va_Z "SevenLeague$Reade\x72" "ROOM" "[I" (.ref (a 90)) A U H ∧ va_T .int (a 90) 7 (fun j => .int (roomL.getD j 0)) A U H ∧ (va_Z "jdk/internal/util/Preconditions" "SIOOBE_FORMATTER" "Ljava/util/function/BiFunction;" .null A U H ∨ va_Z "jdk/internal/util/Preconditions" "SIOOBE_FORMATTER" "Ljava/util/function/BiFunction;" (.ref (a 91)) A U H)
theorem Env9.to {a : Nat → Nat} {cA : Nat → ClassId} {D : va_G} {A B : Nat → Prop} {s U : State} {H0 H : Heap} (h : Env9 a cA D A s H0) (hW : s.WarmedH U.vm) (hq : ∀ q : Nat, q < H0.size → ¬ A q → H[q]? = H0[q]?) (hAB : ∀ q, B q → A q) : Env9 a cA D B U H := by
  obtain ⟨h1, h2, h3, h4, h5, h6, h7, h8, h9⟩ := h
  have hv := hW.alike
  exact ⟨va_K.moved hv h1, h2, fun q hm => va_Nw.warmM hW (h3 q hm), ((h4.moved hv).kept hq).narrow hAB, fun q hm => (h5 q hm).warm hW, ((h6.moved hv).kept hq).narrow hAB, ((h7.moved hv).kept hq).narrow hAB, ((h8.moved hv).kept hq).narrow hAB, h9.elim (fun h => Or.inl (((h.moved hv).kept hq).narrow hAB)) (fun h => Or.inr (((h.moved hv).kept hq).narrow hAB))⟩
theorem Env9.calling {a : Nat → Nat} {cA : Nat → ClassId} {D : va_G} {A : Nat → Prop} {U : State} {H : Heap} {g : JFrame} {mk : MethodId} {vs : Array Value} (h : Env9 a cA D A U H) : Env9 a cA D A (U.calling g mk vs) H := by
  obtain ⟨h1, h2, h3, h4, h5, h6, h7, h8, h9⟩ := h
  have e : (U.calling g mk vs).vm = U.vm := rfl
  have hv : U.vm.Alike (U.calling g mk vs).vm := Vm.Alike.refl U.vm
  exact ⟨va_K.moved hv h1, h2, fun q hm => va_Nw.same rfl e.symm (h3 q hm), h4.moved hv, fun q hm => (h5 q hm).same e, h6.moved hv, h7.moved hv, h8.moved hv, h9.elim (fun h => Or.inl (h.moved hv)) (fun h => Or.inr (h.moved hv))⟩
def rmD (d : Nat) : Room := { frames := d, cells := 0, slots := 0, locals := 64 * d }
/-- a method: the number of its class, its name, code, locals, what it answers -/
abbrev MD : Type := Nat × MethodName × ByteArray × Nat × Option FieldType
def mws (M : MD) : List Cond := Cond.code M.2.1 M.2.2.1 M.2.2.2.1 M.2.2.2.2 :: gws
abbrev EX : Type := Launch × va_G × (Nat → Nat) × (Nat → ClassId)
def Qev {ρ : Type} (y : EX) (rv : ρ → Option Value) (P : ρ × Sg → Prop) (A : Nat → Prop) : Array Value → State → Outcome → State → Prop := fun _ st oc t =>
  (∃ (r : ρ) (σ' : Sg), oc = .returned ((rv r).map (ren y.2.2.1)) ∧ P (r, σ') ∧ va_P y.2.1 vCl (wld y.2.2.1 y.2.2.2 σ') t.heap) ∧ va_F A st t
def Pev (y : EX) (vs : List Value) (σ : Sg) (sz : Nat) : Array Value → State → Prop := va_Pc (vs.map (ren y.2.2.1)) (fun U => U.heap.size = sz ∧ Env9 y.2.2.1 y.2.2.2 y.2.1 (Aw y.2.2.1 sz) U U.heap ∧ va_P y.2.1 vCl (wld y.2.2.1 y.2.2.2 σ) U.heap)
def Ev {ρ : Type} (y : EX) (M : MD) (d : Nat) (vs : List Value) (σ : Sg) (rv : ρ → Option Value) (P : ρ × Sg → Prop) : Prop :=
  ∀ sz : Nat, Met y.1 M.2.1 (mws M) (rmD d) (Pev y vs σ sz) (Qev y rv P (Aw y.2.2.1 sz)) 0 0 (Aw y.2.2.1 sz)
/-- what a call needs of the caller's context -/
def Cc (y : EX) (nL d : Nat) (x : CX) : Prop := match x with
  | ((_, l, _, R, s, _, _, _, _, c), (a, cA, D, (cells, slots), _)) =>
    y = (l, D, a, cA) ∧ c.maxLocals = nL ∧ d ≤ R.frames ∧ 64 * d ≤ R.locals ∧ cells ≤ R.cells ∧ slots ≤ R.slots ∧ Env9 a cA D (Aw a s.heap.size) s s.heap
/-- what a method's end needs -/
def Cr {ρ : Type} (M : MD) (rv : ρ → Option Value) (P : ρ × Sg → Prop) (x : CX) : Prop := match x with
  | ((_, l, _, _, s, _, args, below, meth, _), (a, cA, D, (cells, slots), Q)) =>
    meth.sig.returnType = M.2.2.2.2 ∧ meth.locks = false ∧ cells = 0 ∧ slots = 0 ∧ Q = MQ below (Qev (l, D, a, cA) rv P (Aw a s.heap.size)) args s 0 0 (Aw a s.heap.size)
def Mok (M : MD) (n : Nat) : Prop := Cond.code M.2.1 M.2.2.1 M.2.2.2.1 M.2.2.2.2 ∈ gws ∧ Cond.initialized M.2.1.cls ∈ gws ∧ plainName M.2.1.cls = true ∧ M.2.2.2.1 ≤ 45 ∧ M.2.1.cls = kR M.1 ∧ (M.2.1.cls ≠ "java/lang/invoke/MethodHandle" ∧ M.2.1.cls ≠ "java/lang/invoke/VarHandle") ∧ (parseMethodDescriptor M.2.1.desc).map (fun d => d.parameters.length) = some n
def LnV (own idx : Nat) (M : MD) : Prop := Cond.methodLink (kR own) idx M.2.1 ∈ gws ∧ Cond.instanceMethod M.2.1 ∈ gws ∧ Cond.selects (kR M.1) M.2.1 M.2.1 ∈ gws
def LnS (own idx : Nat) (M : MD) : Prop := Cond.methodLink (kR own) idx M.2.1 ∈ gws ∧ Cond.static M.2.1 ∈ gws
def LnN (own idx : Nat) (M : MD) : Prop := (own, idx, M.2.1) ∈ nstL ∧ Cond.static M.2.1 ∈ gws
theorem gw_good {w : Cond} (h : w ∈ gws) : (w.onTables && w.keeps) = true ∨ ∃ ty, w = .arrayClass ty := good_of_word (List.mem_filter.mp h).2
theorem gw_in {ws : List Cond} (h : ∀ w ∈ ws, w ∈ gws) : GoodIn gws ws := fun w hw => ⟨h w hw, gw_good (h w hw)⟩
theorem mws_in {M : MD} (h : Cond.code M.2.1 M.2.2.1 M.2.2.2.1 M.2.2.2.2 ∈ gws) : ∀ w ∈ mws M, w ∈ gws := fun w hw => (List.mem_cons.mp hw).elim (fun e => e ▸ h) id
theorem pev_blind {y : EX} {vs : List Value} {σ : Sg} {sz : Nat} : FrameBlind (Pev y vs σ sz) := fun _ _ _ _ h => ⟨h.1, h.2.1, h.2.2.1.calling, h.2.2.2⟩
theorem Aw_sub {a : Nat → Nat} {n m : Nat} (h : n ≤ m) : ∀ q, Aw a m q → Aw a n q := fun _ hq => hq.elim Or.inl (fun z => Or.inr (Nat.le_trans h z))
section CALLS
variable {p : Program} {l : Launch} {e : Env} {R : Room} {s : State} {m : MethodId} {args : Array Value} {below : List Frame} {meth : Method} {c : Code} {H : Heap} {locs : List Loc} {cells slots : Nat} {Q : State → Prop}
theorem ev_goes {ρ : Type} {y : EX} {rv : ρ → Option Value} {P : ρ × Sg → Prop} {pc : Nat} {ls : Array Slot} {st0 rest : List Value} {va : Array Value} (hr : va_Run p l e R s m args below meth c H locs cells slots 0 0 (F0 m pc ls st0) rest (Qev y rv P (Aw y.2.2.1 H.size) va) (Aw y.2.2.1 H.size)) (hS : va_S (Aw y.2.2.1 s.heap.size) s.heap H locs)
    (kk : ∀ (r : ρ) (σ' : Sg) (H1 : Heap) (locs1 : List Loc), P (r, σ') → va_P y.2.1 vCl (wld y.2.2.1 y.2.2.2 σ') H1 → va_S (Aw y.2.2.1 s.heap.size) s.heap H1 locs1 → W p l e R s m args below meth c H1 locs1 cells slots Q (F0 m (pc + 3) ls (((rv r).map (ren y.2.2.1)).toList ++ rest))) : W p l e R s m args below meth c H locs cells slots Q (F0 m pc ls st0) := by
  intro T hT X
  obtain ⟨v, st₀, t, T', L, h0, X', hL, e1, e2, ⟨⟨r, σ', hv, hp, hP⟩, hz, hk⟩, st⟩ := hr T hT X
  cases hv
  rw [h0] at hz hk
  have hsub := Aw_sub (a := y.2.2.1) hS.1
  have hS1 : va_S (Aw y.2.2.1 s.heap.size) s.heap T'.heap (locs ++ L) := by
    refine ⟨Nat.le_trans hS.1 (by rw [e1]; exact hz), fun q h1 h2 => ?_, fun q hq => ?_⟩
    · rw [e1, hk q (Nat.lt_of_lt_of_le h1 hS.1) (fun z => h2 (hsub q z))]
      exact hS.2.1 q h1 h2
    · rcases List.mem_append.mp hq with h | h
      · exact hS.2.2 q h
      · exact hsub _ (hL q h)
  obtain ⟨t2, a1, b1⟩ := kk r σ' T'.heap (locs ++ L) hp (by rw [e1]; exact hP) hS1 T' rfl X'
  exact ⟨t2, st t2 a1, b1⟩
end CALLS
theorem recvK {s : State} {H : Heap} {D : va_G} {a : Nat → Nat} {cA : Nat → ClassId} {σ : Sg} {i ci : Nat} {fs : List (Nat × Nat)} (hK : va_K D vCl (tyL cA) s) (hP : va_P D vCl (wld a cA σ) H) (hi : SH[i]? = some (.inl (ci, fs))) : ∃ cell : Cell, H[a i]? = some cell ∧ cell.vm.isStatics = false ∧ s.vm.findClass (kR ci) = some cell.cls := by
  have h := List.all_eq_true.mp sh_all _ (List.mem_of_getElem? hi)
  unfold sh_row at h
  cases hc : vCl[ci]? with
  | none => simp only [hc] at h; cases h
  | some c =>
    have hn : c.1 = kR ci := by
      match ci, hc with
      | 0, hc => cases hc; rfl
      | 1, hc => cases hc; rfl
      | 2, hc => cases hc; rfl
      | 3, hc => cases hc; rfl
      | 4, hc => cases hc; rfl
      | 5, hc => cases hc; rfl
      | 6, hc => cases hc; rfl
      | 7, hc => cases hc; rfl
      | 8, hc => cases hc; rfl
      | 9, hc => cases hc; rfl
      | 10, hc => cases hc; rfl
      | n + 11, hc => simp [vCl] at hc
    rw [← hn]
    exact va_recv hK hP hc (wld_at hi)
theorem cat_ren (a : Nat → Nat) (rest : List Value) : ((rest.map (ren a)).map fun v => v.category).sum = (rest.map fun v => v.category).sum := by
  rw [List.map_map]
  congr 1
  exact List.map_congr_left fun v _ => ren_cat a v
theorem opt_ren (a : Nat → Nat) (o : Option Value) (rest : List Value) : (o.map (ren a)).toList ++ rest.map (ren a) = (o.toList ++ rest).map (ren a) := by cases o <;> simp
theorem g_callV {ρ : Type} {x : CX} {own : Nat} {cc : ByteArray} {y : EX} {nL d d' idx pc i : Nat} {M : MD} {lo : List (Option Value)} {rest : List Value} {σ : Sg} {rv : ρ → Option Value} {P : ρ × Sg → Prop} {fs : List (Nat × Nat)} (As : List Value) (hx : Cx own cc x) (hc : Cc y nL d x) (hM : Mok M As.length) (hl : LnV own idx M) (hi : SH[i]? = some (.inl (M.1, fs))) (hd : decode cc pc = .ok (.invokevirtual idx, 3)) (hdd : d' + 1 ≤ d) (hst : (rest.map fun v => v.category).sum ≤ 8) (hE : Ev y M d' (.ref i :: As) σ rv P)
    (k : ∀ r σ', P (r, σ') → G x (pc + 3) lo ((rv r).toList ++ rest) σ') : G x pc lo (As.reverse ++ .ref i :: rest) σ := by
  obtain ⟨⟨p, l, e, R, s, m, args, below, meth, c⟩, ⟨a, cA, D, ⟨cells, slots⟩, Q⟩⟩ := x
  obtain ⟨hexec, hb, hown, hts, hK, hinj⟩ := hx
  obtain ⟨rfl, hml, hfr, hlo, hce, hsl, hE9⟩ := hc
  obtain ⟨m1, m2, m3, m4, m5, m6, m7⟩ := hM
  obtain ⟨l1, l2, l3⟩ := hl
  intro H locs ls hP hS hl
  have hst2 : (((rest.map (ren a))).map fun v => v.category).sum ≤ 8 := by rw [cat_ren]; exact hst
  have hin : ∀ w ∈ wsV (kR own) idx (kR M.1) M.2.1 (mws M), w ∈ gws := by
    intro w hw
    unfold wsV at hw
    rcases List.mem_append.mp hw with h | h
    · simp only [List.mem_cons, List.not_mem_nil, or_false] at h
      rcases h with rfl | rfl | rfl | rfl
      · exact l1
      · exact l2
      · exact l3
      · rw [← m5]; exact m2
    · exact mws_in m1 w h
  have hrun := va_runV (e := e) (below := below) (meth := meth) (locs := locs) (g := F0 m pc ls ((As.reverse ++ .ref i :: rest).map (ren a))) (As := As.map (ren a)) (rest := rest.map (ren a)) (b := a i) (C := kR M.1) (n := As.length) (cells := cells) (slots := slots) ⟨hexec, hb, hml, hown, hts⟩ (hE H.size)
    (cwV As.length hts (gw_in hin) rfl rfl rfl ⟨m5, m6.1, m6.2, m7⟩ ⟨by show d' + 1 ≤ R.frames; omega, by show 8 + (M.2.2.2.1 + 11) + 64 * d' ≤ R.locals; omega⟩)
    ⟨pev_blind, recvK hK hP hi, fun U hU hW => ⟨rfl, by rw [hU], by rw [hU]; exact hE9.to hW hS.2.1 (Aw_sub hS.1), by rw [hU]; exact hP⟩⟩ rfl (by rw [List.length_map]) (hl.1.trans hml) (by simp [ren]) (lv_room hst2) hd ⟨hce, hsl⟩
  refine ev_goes (y := (l, D, a, cA)) hrun hS (fun r σ' H1 locs1 hp hP1 hS1 => ?_)
  rw [opt_ren]
  exact k r σ' hp H1 locs1 ls hP1 hS1 hl
theorem g_callS {ρ : Type} {x : CX} {own : Nat} {cc : ByteArray} {y : EX} {nL d d' idx pc : Nat} {M : MD} {lo : List (Option Value)} {rest : List Value} {σ : Sg} {rv : ρ → Option Value} {P : ρ × Sg → Prop} (As : List Value) (hx : Cx own cc x) (hc : Cc y nL d x) (hM : Mok M As.length) (hl : LnS own idx M) (hd : decode cc pc = .ok (.invokestatic idx, 3)) (hdd : d' + 1 ≤ d) (hst : (rest.map fun v => v.category).sum ≤ 8) (hE : Ev y M d' As σ rv P)
    (k : ∀ r σ', P (r, σ') → G x (pc + 3) lo ((rv r).toList ++ rest) σ') : G x pc lo (As.reverse ++ rest) σ := by
  obtain ⟨⟨p, l, e, R, s, m, args, below, meth, c⟩, ⟨a, cA, D, ⟨cells, slots⟩, Q⟩⟩ := x
  obtain ⟨hexec, hb, hown, hts, hK, hinj⟩ := hx
  obtain ⟨rfl, hml, hfr, hlo, hce, hsl, hE9⟩ := hc
  obtain ⟨m1, m2, m3, m4, m5, m6, m7⟩ := hM
  obtain ⟨l1, l2⟩ := hl
  intro H locs ls hP hS hl
  have hst2 : (((rest.map (ren a))).map fun v => v.category).sum ≤ 8 := by rw [cat_ren]; exact hst
  have hrun := va_runS (e := e) (below := below) (meth := meth) (locs := locs) (g := F0 m pc ls ((As.reverse ++ rest).map (ren a))) (As := As.map (ren a)) (rest := rest.map (ren a)) (n := As.length) (cells := cells) (slots := slots) ⟨hexec, hb, hml, hown, hts⟩ (hE H.size)
    ⟨callB_of As.length hts (gw_in (mws_in m1)) rfl rfl rfl (hts _ m2) (hts _ l1) ⟨m6.1, m6.2, m7⟩ ⟨by show d' + 1 ≤ R.frames; omega, by show 8 + (M.2.2.2.1 + 11) + 64 * d' ≤ R.locals; omega⟩, hts _ l2⟩
    ⟨pev_blind, fun U hU hW => ⟨rfl, by rw [hU], by rw [hU]; exact hE9.to hW hS.2.1 (Aw_sub hS.1), by rw [hU]; exact hP⟩⟩ rfl (by rw [List.length_map]) (hl.1.trans hml) (by simp) (lv_room hst2) hd ⟨hce, hsl⟩
  refine ev_goes (y := (l, D, a, cA)) hrun hS (fun r σ' H1 locs1 hp hP1 hS1 => ?_)
  rw [opt_ren]
  exact k r σ' hp H1 locs1 ls hP1 hS1 hl
theorem g_callN {ρ : Type} {x : CX} {own : Nat} {cc : ByteArray} {y : EX} {nL d d' idx pc : Nat} {M : MD} {lo : List (Option Value)} {rest : List Value} {σ : Sg} {rv : ρ → Option Value} {P : ρ × Sg → Prop} (As : List Value) (hx : Cx own cc x) (hc : Cc y nL d x) (hM : Mok M As.length) (hl : LnN own idx M) (hd : decode cc pc = .ok (.invokestatic idx, 3)) (hdd : d' + 1 ≤ d) (hst : (rest.map fun v => v.category).sum ≤ 8) (hE : Ev y M d' As σ rv P)
    (k : ∀ r σ', P (r, σ') → G x (pc + 3) lo ((rv r).toList ++ rest) σ') : G x pc lo (As.reverse ++ rest) σ := by
  obtain ⟨⟨p, l, e, R, s, m, args, below, meth, c⟩, ⟨a, cA, D, ⟨cells, slots⟩, Q⟩⟩ := x
  obtain ⟨hexec, hb, hown, hts, hK, hinj⟩ := hx
  obtain ⟨rfl, hml, hfr, hlo, hce, hsl, hE9⟩ := hc
  obtain ⟨m1, m2, m3, m4, m5, m6, m7⟩ := hM
  obtain ⟨l1, l2⟩ := hl
  intro H locs ls hP hS hl
  have hst2 : (((rest.map (ren a))).map fun v => v.category).sum ≤ 8 := by rw [cat_ren]; exact hst
  have hrun := va_runSN (e := e) (below := below) (meth := meth) (locs := locs) (g := F0 m pc ls ((As.reverse ++ rest).map (ren a))) (As := As.map (ren a)) (rest := rest.map (ren a)) (n := As.length) (cells := cells) (slots := slots) ⟨hexec, hb, hml, hown, hts⟩ (hE H.size)
    ⟨va_cnB As.length hts (gw_in (mws_in m1)) rfl rfl rfl (hE9.2.2.1 _ l1) (hts _ m2) ⟨m6.1, m6.2, m7⟩ ⟨by show d' + 1 ≤ R.frames; omega, by show 8 + (M.2.2.2.1 + 11) + 64 * d' ≤ R.locals; omega⟩, hts _ l2, trivial⟩
    ⟨pev_blind, fun U hU hW => ⟨rfl, by rw [hU], by rw [hU]; exact hE9.to hW hS.2.1 (Aw_sub hS.1), by rw [hU]; exact hP⟩⟩ rfl (by rw [List.length_map]) (hl.1.trans hml) (by simp) (lv_room hst2) hd ⟨hce, hsl⟩
  refine ev_goes (y := (l, D, a, cA)) hrun hS (fun r σ' H1 locs1 hp hP1 hS1 => ?_)
  rw [opt_ren]
  exact k r σ' hp H1 locs1 ls hP1 hS1 hl
/-! ===== a method's end ===== -/
section RETS
variable {ρ : Type} {x : CX} {own : Nat} {cc : ByteArray} {M : MD} {rv : ρ → Option Value} {P : ρ × Sg → Prop} {pc : Nat} {lo : List (Option Value)} {σ : Sg}
theorem g_iret (hx : Cx own cc x) (hr : Cr M rv P x) (ht : M.2.2.2.2 = some .int) {v : Int32} (r : ρ) (hv : rv r = some (.int v)) (hd : decode cc pc = .ok (.ireturn, 1)) (hP : P (r, σ)) : G x pc lo [.int v] σ := by
  obtain ⟨⟨p, l, e, R, s, m, args, below, meth, c⟩, ⟨a, cA, D, ⟨cells, slots⟩, Q⟩⟩ := x
  obtain ⟨hexec, hb, hown, hts, hK, hinj⟩ := hx
  obtain ⟨h1, hlocks, rfl, rfl, rfl⟩ := hr
  exact fun H locs ls hP1 hS hl => W.iret (v := v) hexec hb (h1.trans ht) (fun t ht hW => ⟨⟨r, σ, by rw [hv]; rfl, hP, by rw [ht]; exact hP1⟩, hS.F ht⟩) hS.2.2 hd hlocks
theorem g_zret (hx : Cx own cc x) (hr : Cr M rv P x) (ht : M.2.2.2.2 = some .boolean) {b : Bool} (r : ρ) (hv : rv r = some (.int (b2i b))) (hd : decode cc pc = .ok (.ireturn, 1)) (hP : P (r, σ)) : G x pc lo [.int (b2i b)] σ := by
  obtain ⟨⟨p, l, e, R, s, m, args, below, meth, c⟩, ⟨a, cA, D, ⟨cells, slots⟩, Q⟩⟩ := x
  obtain ⟨hexec, hb, hown, hts, hK, hinj⟩ := hx
  obtain ⟨h1, hlocks, rfl, rfl, rfl⟩ := hr
  exact fun H locs ls hP1 hS hl => W.zret (v := b2i b) (ty := .boolean) hexec hb (h1.trans ht) (by cases b <;> rfl) (fun t ht hW => ⟨⟨r, σ, by rw [hv]; rfl, hP, by rw [ht]; exact hP1⟩, hS.F ht⟩) hS.2.2 hd hlocks
theorem g_lret (hx : Cx own cc x) (hr : Cr M rv P x) (ht : M.2.2.2.2 = some .long) {v : Int64} (r : ρ) (hv : rv r = some (.long v)) (hd : decode cc pc = .ok (.lreturn, 1)) (hP : P (r, σ)) : G x pc lo [.long v] σ := by
  obtain ⟨⟨p, l, e, R, s, m, args, below, meth, c⟩, ⟨a, cA, D, ⟨cells, slots⟩, Q⟩⟩ := x
  obtain ⟨hexec, hb, hown, hts, hK, hinj⟩ := hx
  obtain ⟨h1, hlocks, rfl, rfl, rfl⟩ := hr
  exact fun H locs ls hP1 hS hl => W.lret (v := v) hexec hb (h1.trans ht) (fun t ht hW => ⟨⟨r, σ, by rw [hv]; rfl, hP, by rw [ht]; exact hP1⟩, hS.F ht⟩) hS.2.2 hd hlocks
theorem g_vret (hx : Cx own cc x) (hr : Cr M rv P x) (ht : M.2.2.2.2 = none) (r : ρ) (hv : rv r = none) (hd : decode cc pc = .ok (.return_, 1)) (hP : P (r, σ)) : G x pc lo [] σ := by
  obtain ⟨⟨p, l, e, R, s, m, args, below, meth, c⟩, ⟨a, cA, D, ⟨cells, slots⟩, Q⟩⟩ := x
  obtain ⟨hexec, hb, hown, hts, hK, hinj⟩ := hx
  obtain ⟨h1, hlocks, rfl, rfl, rfl⟩ := hr
  exact fun H locs ls hP1 hS hl => W.vret hexec hb (h1.trans ht) (fun t ht hW => ⟨⟨r, σ, by rw [hv]; rfl, hP, by rw [ht]; exact hP1⟩, hS.F ht⟩) hS.2.2 hd hlocks
theorem g_aret (hx : Cx own cc x) (hr : Cr M rv P x) (ht : ∃ n, M.2.2.2.2 = some (.object n)) {i : Nat} (r : ρ) (hv : rv r = some (.ref i)) (hd : decode cc pc = .ok (.areturn, 1)) (hP : P (r, σ)) : G x pc lo [.ref i] σ := by
  obtain ⟨⟨p, l, e, R, s, m, args, below, meth, c⟩, ⟨a, cA, D, ⟨cells, slots⟩, Q⟩⟩ := x
  obtain ⟨hexec, hb, hown, hts, hK, hinj⟩ := hx
  obtain ⟨h1, hlocks, rfl, rfl, rfl⟩ := hr
  obtain ⟨n, ht⟩ := ht
  exact fun H locs ls hP1 hS hl => W.aret (v := .ref (a i)) hexec hb (h1.trans ht) (Or.inl ⟨n, rfl⟩) (Or.inr ⟨_, rfl⟩) (fun t ht hW => ⟨⟨r, σ, by rw [hv]; rfl, hP, by rw [ht]; exact hP1⟩, hS.F ht⟩) hS.2.2 hd hlocks
end RETS
/-! ===== a method's beginning ===== -/
def ent : List Value → List (Option Value)
  | [] => []
  | v :: r => match v with
    | .long y => some (.long y) :: none :: ent r
    | .double y => some (.double y) :: none :: ent r
    | u => some u :: ent r
def entN (vs : List Value) (n : Nat) : List (Option Value) := ent vs ++ List.replicate (n - (ent vs).length) none
theorem ent_len (a : Nat → Nat) (vs : List Value) : (lg_sl (vs.map (ren a))).length = (ent vs).length := by
  induction vs with
  | nil => rfl
  | cons v r ih =>
    unfold lg_sl at ih ⊢
    rw [List.map_cons, List.flatMap_cons, List.length_append, ih]
    cases v <;> simp [ent, ren, Value.category] <;> omega
theorem ent_at (a : Nat → Nat) (vs : List Value) : ∀ (k i : Nat) (v : Value), (ent vs)[i]? = some (some v) → (k + i, ren a v) ∈ lv_args k (vs.map (ren a)) := by
  induction vs with
  | nil => intro k i v h; simp [ent] at h
  | cons u r ih =>
    intro k i v h
    rw [List.map_cons]
    unfold lv_args
    cases u with
    | long y =>
      match i, h with
      | 0, h => cases h; exact List.mem_cons_self
      | 1, h => cases h
      | j + 2, h =>
        have := ih (k + 2) j v h
        rw [show k + (j + 2) = k + 2 + j by omega]
        exact List.mem_cons_of_mem _ this
    | double y =>
      match i, h with
      | 0, h => cases h; exact List.mem_cons_self
      | 1, h => cases h
      | j + 2, h =>
        have := ih (k + 2) j v h
        rw [show k + (j + 2) = k + 2 + j by omega]
        exact List.mem_cons_of_mem _ this
    | int y =>
      match i, h with
      | 0, h => cases h; exact List.mem_cons_self
      | j + 1, h =>
        have := ih (k + 1) j v h
        rw [show k + (j + 1) = k + 1 + j by omega]
        exact List.mem_cons_of_mem _ this
    | float y =>
      match i, h with
      | 0, h => cases h; exact List.mem_cons_self
      | j + 1, h =>
        have := ih (k + 1) j v h
        rw [show k + (j + 1) = k + 1 + j by omega]
        exact List.mem_cons_of_mem _ this
    | null =>
      match i, h with
      | 0, h => cases h; exact List.mem_cons_self
      | j + 1, h =>
        have := ih (k + 1) j v h
        rw [show k + (j + 1) = k + 1 + j by omega]
        exact List.mem_cons_of_mem _ this
    | ref y =>
      match i, h with
      | 0, h => cases h; exact List.mem_cons_self
      | j + 1, h =>
        have := ih (k + 1) j v h
        rw [show k + (j + 1) = k + 1 + j by omega]
        exact List.mem_cons_of_mem _ this
    | retAddr y =>
      match i, h with
      | 0, h => cases h; exact List.mem_cons_self
      | j + 1, h =>
        have := ih (k + 1) j v h
        rw [show k + (j + 1) = k + 1 + j by omega]
        exact List.mem_cons_of_mem _ this
theorem ent_lh (a : Nat → Nat) (vs : List Value) {n : Nat} (h : (ent vs).length ≤ n) : lh ((lg_sl (vs.map (ren a)) ++ List.replicate (n - (lg_sl (vs.map (ren a))).length) Slot.unset).toArray) n a (entN vs n) := by
  have h1 := lv_entry (vs.map (ren a)) (n := n) (by rw [ent_len]; exact h)
  refine ⟨h1.1, by simp [entN]; omega, h1.2.1, fun i v hv => ?_⟩
  unfold entN at hv
  have h2 : (ent vs)[i]? = some (some v) := by
    rcases Nat.lt_or_ge i (ent vs).length with q | q
    · rw [List.getElem?_append_left q] at hv; exact hv
    · rw [List.getElem?_append_right q, List.getElem?_replicate] at hv
      split at hv <;> simp at hv
  have h3 := ent_at a vs 0 i v h2
  rw [Nat.zero_add] at h3
  exact h1.2.2 _ h3
theorem Ev.of {ρ : Type} {y : EX} {M : MD} {d : Nat} {vs : List Value} {σ : Sg} {rv : ρ → Option Value} {P : ρ × Sg → Prop} {n : Nat} (hM : Mok M n) (he : (ent vs).length ≤ M.2.2.2.1) (k : ∀ x : CX, Cx M.1 M.2.2.1 x → Cc y M.2.2.2.1 d x → Cr M rv P x → G x 0 (entN vs M.2.2.2.1) [] σ) : Ev y M d vs σ rv P := by
  obtain ⟨l, D, a, cA⟩ := y
  obtain ⟨m1, m2, m3, m4, m5, m6, m7⟩ := hM
  intro sz
  refine Met.ofW (cc := M.2.2.1) (maxL := M.2.2.2.1) (ret := M.2.2.2.2) m3 rfl ?_
  intro p e s m args below meth c s₁ B hml hv
  obtain ⟨rfl, rfl, hE9, hP⟩ := hv
  have hts := atoms_spec (ws := mws M) B.pre
  have hx : Cx M.1 M.2.2.1 ((p, l, e, rmD d, s, m, (vs.map (ren a)).toArray, below, meth, c), (a, cA, D, (0, 0), MQ below (Qev (l, D, a, cA) rv P (Aw a s.heap.size)) (vs.map (ren a)).toArray s 0 0 (Aw a s.heap.size))) :=
    ⟨B.exec, B.bytes, by rw [← m5]; exact findClass_of_methodNamed B.named, fun w hw => hts w (List.mem_cons_of_mem _ hw), hE9.1, hE9.2.1⟩
  have hk := k _ hx ⟨rfl, hml, Nat.le_refl _, Nat.le_refl _, Nat.le_refl _, Nat.le_refl _, hE9⟩ ⟨B.returns, B.notSynchronized, rfl, rfl, rfl⟩
  rw [lg_entry_eq]
  exact hk s.heap [] _ hP va_S.rf (by rw [hml]; exact ent_lh a vs he)
/-! ===== answers that may be wanting ===== -/
def ok {α : Type} (o : Option α) (P : α → Prop) : Prop := ∃ z, o = some z ∧ P z
theorem ok_some {α : Type} {z : α} {P : α → Prop} (h : ok (some z) P) : P z := by
  obtain ⟨w, e, h⟩ := h
  cases e
  exact h
theorem ok_none {α : Type} {P : α → Prop} {C : Prop} (h : ok (none : Option α) P) : C := by
  obtain ⟨w, e, h⟩ := h
  cases e
theorem ok_t {α : Type} {c : Prop} {D : Decidable c} {o1 o2 : Option α} {P : α → Prop} (h : ok (@ite _ c D o1 o2) P) (hc : c) : ok o1 P := by rwa [if_pos hc] at h
theorem ok_f {α : Type} {c : Prop} {D : Decidable c} {o1 o2 : Option α} {P : α → Prop} (h : ok (@ite _ c D o1 o2) P) (hc : ¬ c) : ok o2 P := by rwa [if_neg hc] at h
theorem ok_g {α : Type} {c : Prop} {D : Decidable c} {o1 : Option α} {P : α → Prop} (h : ok (@ite _ c D o1 none) P) : c ∧ ok o1 P := by
  by_cases hc : c
  · rw [if_pos hc] at h; exact ⟨hc, h⟩
  · rw [if_neg hc] at h; exact ok_none h
theorem ok_b {α β : Type} {o : Option α} {f : α → Option β} {P : β → Prop} (h : ok (o.bind f) P) : ok o (fun z => ok (f z) P) := by
  obtain ⟨w, e, h⟩ := h
  obtain ⟨z, h1, h2⟩ := Option.bind_eq_some_iff.mp e
  exact ⟨z, h1, w, h2, h⟩
def rvI (r : Int32) : Option Value := some (.int r)
def rvL (r : Int64) : Option Value := some (.long r)
def rvB (r : Bool) : Option Value := some (.int (b2i r))
def rvN (_ : Unit) : Option Value := none
def rvA (i : Nat) : Option Value := some (.ref i)
