-- ===== end of PART A; then your names; then what follows =====
/-! THE CLAIM OUT OF ONE WALK OF THE LAW'S BODY. Your part is whole_start (and what it stands on); all else here is the same for every law, but numbers. -/
def R_law : String := "SevenLeagueLaw"
def lw_P (b : Addr) (xs : List Int32) (args : Array Value) (s : State) : Prop := args = #[.ref b] ∧ s.IntsAt b xs ∧ xs.length ≤ 3072 ∧ (Jvm.Cond.and given_1 narrow_1).before args s = true
def lw_Q (_ : Array Value) (s : State) (o : Outcome) (t : State) : Prop := o = .returned (some (.int 1)) ∧ Framed s o t [] 601024 7293034
def lw_Z (below : List Frame) (a : Array Value) (s : State) : State → Prop := fun t => ∃ o, t.status = .running ∧ Ended t below o ∧ lw_Q a s o t
/-- the law's own end, with 1 on the stack, nothing written that was there before, its room as the claim has it -/
theorem lw_ret {p : Program} {l : Launch} {e : Env} {s : State} {m : MethodId} {below : List Frame} {meth : Method} {c : Code} {b : Nat} (hx : p.tables.exec = Jvm.exec) (hb : c.code = code) (hr : meth.sig.returnType = ret) (hlocks : meth.locks = false) {pc : Nat} {H : Heap} {ls : Array Slot} (hdg : decode code pc = .ok (.ireturn, 1)) : W p l e room_1 s m #[Value.ref b] below meth c H [] 601024 7293034 (lw_Z below #[Value.ref b] s) (F0 m pc ls [.int 1]) := by
  intro T hT X
  obtain ⟨fs, hret, hrun, hended, hW, hframe⟩ := X.leave (v := some (.int 1)) (hlocks := hlocks) (fun h => by rw [hr] at h; cases h)
  have hmeth' : T.vm.method? m = some meth := X.method'
  refine ⟨T.setFrames fs, ?_, .returned (some (.int 1)), hrun, hended, rfl, ⟨_, rfl⟩, hW, hframe⟩
  jvm_step X.here [X.here.top, hx, hb, hdg, hmeth', hr, ret, narrow_b1]
  (try refine ⟨rfl, ?_⟩); (try refine ⟨rfl, ?_⟩)
  first | (intro acts; rw [hret _ acts rfl rfl rfl]) | rw [hret _ _ rfl rfl rfl]
  exact Steps.refl _
/-- what holds at the law's entry: the machine, the code, the tables' words (any of lw_tbl by 'hts w (by decide +kernel)'), the script of L ints xs at the cell b, what the Statement gives of the start (any of its parts by flat_of_before) -/
def lw_At (p : Program) (s : State) (m : MethodId) (meth : Method) (c : Code) (b L : Nat) (xs : Nat → Int32) : Prop :=
  p.tables.exec = Jvm.exec ∧ c.code = code ∧ meth.sig.returnType = ret ∧ c.maxLocals = 7 ∧ s.vm.findClass R_law = some m.cls ∧ (∀ w ∈ lw_tbl, w.before #[Value.ref b] s = true) ∧ va_X b L xs s s.heap ∧ b < s.heap.size ∧ meth.locks = false ∧ (Jvm.Cond.and given_1 narrow_1).before #[Value.ref b] s = true
/-! ===== the law's own rules ===== -/
def Sx (L : Nat) (xs : Nat → Int32) (x : CX) : Prop := match x with
  | ((_, _, _, _, s, _, _, _, _, _), (a, _, _, _, _)) => va_X (a 92) L xs s s.heap ∧ a 92 < s.heap.size ∧ ¬ Aw a s.heap.size (a 92)
theorem g_slX {x : CX} {own : Nat} {cc : ByteArray} {L : Nat} {xs : Nat → Int32} {pc : Nat} {lo : List (Option Value)} {st : List Value} {σ : Sg} (hx : Cx own cc x) (hs : Sx L xs x) (hd : decode cc pc = .ok (.arraylength, 1)) (k : G x (pc + 1) lo (.int (nI L) :: st) σ) : G x pc lo (.ref 92 :: st) σ := by
  obtain ⟨⟨p, l, e, R, s, m, args, below, meth, c⟩, ⟨a, cA, D, ⟨cells, slots⟩, Q⟩⟩ := x
  obtain ⟨hexec, hb, hown, hts, hK, hinj⟩ := hx
  exact fun H locs ls hP hS hl => va_slen hexec hb hs.1 hs.2.1 hs.2.2 hS hd (k H locs ls hP hS hl)
theorem g_sldX {x : CX} {own : Nat} {cc : ByteArray} {L : Nat} {xs : Nat → Int32} {pc : Nat} {lo : List (Option Value)} {st : List Value} {σ : Sg} {i : Int32} (hx : Cx own cc x) (hs : Sx L xs x) (hi : vp_in i L) (hd : decode cc pc = .ok (.iaload, 1)) (k : G x (pc + 1) lo (.int (xs i.toNatClampNeg) :: st) σ) : G x pc lo (.int i :: .ref 92 :: st) σ := by
  obtain ⟨⟨p, l, e, R, s, m, args, below, meth, c⟩, ⟨a, cA, D, ⟨cells, slots⟩, Q⟩⟩ := x
  obtain ⟨hexec, hb, hown, hts, hK, hinj⟩ := hx
  exact fun H locs ls hP hS hl => va_sld hexec hb hs.1 hs.2.1 hs.2.2 hS hi hd (k H locs ls hP hS hl)
/-- the law's end -/
def Lx (b : Nat) (x : CX) : Prop := match x with
  | ((_, _, _, R, s, _, args, below, meth, _), (a, _, _, (cells, slots), Q)) => R = room_1 ∧ args = #[Value.ref b] ∧ meth.sig.returnType = ret ∧ meth.locks = false ∧ (∀ i, i < SH.length → s.heap.size ≤ a i) ∧ cells ≤ 601024 ∧ slots ≤ 7293034 ∧ Q = lw_Z below #[Value.ref b] s
theorem g_lawret {x : CX} {b pc : Nat} {lo : List (Option Value)} {σ : Sg} (hx : Cx 11 code x) (hL : Lx b x) (hd : decode code pc = .ok (.ireturn, 1)) : G x pc lo [.int 1] σ := by
  obtain ⟨⟨p, l, e, R, s, m, args, below, meth, c⟩, ⟨a, cA, D, ⟨cells, slots⟩, Q⟩⟩ := x
  obtain ⟨hexec, hb, hown, hts, hK, hinj⟩ := hx
  obtain ⟨rfl, rfl, hr, hlocks, ha, hc, hs, rfl⟩ := hL
  intro H locs ls hP hS hl
  refine va_forget (fun q hq => ?_) ?_
  · rcases hS.2.2 q hq with ⟨i, hi, e⟩ | h
    · rw [e]; exact ha i hi
    · exact h
  · refine W.widen (k := 601024) (n := 7293034) hc hs ?_
    exact lw_ret hexec hb hr hlocks hd
