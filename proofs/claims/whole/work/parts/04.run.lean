/-! ===== contexts, the judgement G, straight runs ===== -/
abbrev CX : Type := (Program × Launch × Env × Room × State × MethodId × Array Value × List Frame × Method × Code) × ((Nat → Nat) × (Nat → ClassId) × va_G × (Nat × Nat) × (State → Prop))
def G (x : CX) (pc : Nat) (lo : List (Option Value)) (st : List Value) (σ : Sg) : Prop := match x with
  | ((p, l, e, R, s, m, args, below, meth, c), (a, cA, D, (cells, slots), Q)) =>
    ∀ (H : Heap) (locs : List Loc) (ls : Array Slot), va_P D vCl (wld a cA σ) H → va_S (Aw a s.heap.size) s.heap H locs → lh ls c.maxLocals a lo → W p l e R s m args below meth c H locs cells slots Q (F0 m pc ls (st.map (ren a)))
def Cx (own : Nat) (cc : ByteArray) (x : CX) : Prop := match x with
  | ((p, l, e, R, s, m, args, below, meth, c), (a, cA, D, (cells, slots), Q)) =>
    p.tables.exec = Jvm.exec ∧ c.code = cc ∧ s.vm.findClass (kR own) = some m.cls ∧ (∀ w ∈ gws, w.before args s = true) ∧ va_K D vCl (tyL cA) s ∧ Inj a
abbrev Xr : Type := Option (List (Option Value) × List Value × Sg)
def xI (lo : List (Option Value)) (st : List Value) (σ : Sg) (o : Option (Option Value)) : Xr := match o with
  | some (some (.int y)) => some (lo, .int y :: st, σ)
  | _ => none
def xL (lo : List (Option Value)) (st : List Value) (σ : Sg) (o : Option (Option Value)) : Xr := match o with
  | some (some (.long y)) => some (lo, .long y :: st, σ)
  | _ => none
def xA (lo : List (Option Value)) (st : List Value) (σ : Sg) (o : Option (Option Value)) : Xr := match o with
  | some (some (.ref y)) => some (lo, .ref y :: st, σ)
  | _ => none
def xsI (lo : List (Option Value)) (st : List Value) (σ : Sg) (i : Nat) : Xr := match st with
  | .int y :: r => if (decide (i < lo.length) && nw lo i) = true then some (lo.set i (some (.int y)), r, σ) else none
  | _ => none
def xsA (lo : List (Option Value)) (st : List Value) (σ : Sg) (i : Nat) : Xr := match st with
  | .ref y :: r => if (decide (i < lo.length) && nw lo i) = true then some (lo.set i (some (.ref y)), r, σ) else none
  | _ => none
def xsL (lo : List (Option Value)) (st : List Value) (σ : Sg) (i : Nat) : Xr := match st with
  | .long y :: r => if (decide (i + 1 < lo.length) && nw lo i) = true then some ((lo.set i (some (.long y))).set (i + 1) none, r, σ) else none
  | _ => none
def xinc (lo : List (Option Value)) (st : List Value) (σ : Sg) (i : Nat) (v : Int32) : Xr := match lo[i]? with
  | some (some (.int y)) => if (decide (i < lo.length) && nw lo i) = true then some (lo.set i (some (.int (y + v))), st, σ) else none
  | _ => none
def xb (lo : List (Option Value)) (st : List Value) (σ : Sg) (f : Int32 → Int32 → Int32) : Xr := match st with
  | .int y :: .int z :: r => some (lo, .int (f z y) :: r, σ)
  | _ => none
def xd (lo : List (Option Value)) (st : List Value) (σ : Sg) (f : Int32 → Int32 → Int32) : Xr := match st with
  | .int y :: .int z :: r => if y = 0 then none else some (lo, .int (f z y) :: r, σ)
  | _ => none
def xbL (lo : List (Option Value)) (st : List Value) (σ : Sg) (f : Int64 → Int64 → Int64) : Xr := match st with
  | .long y :: .long z :: r => some (lo, .long (f z y) :: r, σ)
  | _ => none
def xu (lo : List (Option Value)) (st : List Value) (σ : Sg) (f : Int32 → Value) : Xr := match st with
  | .int y :: r => some (lo, f y :: r, σ)
  | _ => none
def xh (lo : List (Option Value)) (st : List Value) (σ : Sg) (f : Int64 → Int32 → Int64) : Xr := match st with
  | .int y :: .long z :: r => some (lo, .long (f z y) :: r, σ)
  | _ => none
def xget (own : Nat) (lo : List (Option Value)) (st : List Value) (σ : Sg) (idx : Nat) : Xr := match st with
  | .ref i :: r => match lk own idx, SH[i]? with
    | some (ci, k), some (.inl (cj, fs)) => if ci = cj then match fs[k]? with
      | some f => some (lo, fvl σ i k f :: r, σ)
      | none => none
      else none
    | _, _ => none
  | _ => none
def xpv (σ : Sg) (i k : Nat) (kd : Nat) (v : Value) : Option Sg := match kd, v with
  | 0, .int y => some (sI σ i k y)
  | 1, .long y => some (sL σ i k y)
  | 3, .null => some (sI σ i k 0)
  | 3, .ref j => if 0 < j ∧ j < 90 then some (sI σ i k (Int32.ofNat j)) else none
  | 4, .int y => if y = 0 ∨ y = 1 then some (sI σ i k y) else none
  | _, _ => none
def xput (own : Nat) (lo : List (Option Value)) (st : List Value) (σ : Sg) (idx : Nat) : Xr := match st with
  | v :: .ref i :: r => match lk own idx, SH[i]? with
    | some (ci, k), some (.inl (cj, fs)) => if ci = cj then match fs[k]? with
      | some f => match xpv σ i k f.1 v with
        | some σ' => some (lo, r, σ')
        | none => none
      | none => none
      else none
    | _, _ => none
  | _ => none
def xlen (lo : List (Option Value)) (st : List Value) (σ : Sg) : Xr := match st with
  | .ref i :: r => match SH[i]? with
    | some (.inr (_, n)) => some (lo, .int (nI n) :: r, σ)
    | _ => none
  | _ => none
def xald (lo : List (Option Value)) (st : List Value) (σ : Sg) : Xr := match st with
  | .int y :: .ref i :: r => match SH[i]? with
    | some (.inr (0, n)) => if ¬ (y < 0 ∨ n ≤ y.toNatClampNeg) then some (lo, .int (gA σ i y) :: r, σ) else none
    | _ => none
  | _ => none
def xast (lo : List (Option Value)) (st : List Value) (σ : Sg) : Xr := match st with
  | .int z :: .int y :: .ref i :: r => match SH[i]? with
    | some (.inr (0, n)) => if ¬ (y < 0 ∨ n ≤ y.toNatClampNeg) then some (lo, r, sA σ i y z) else none
    | _ => none
  | _ => none
def c1 (v : Value) : Bool := match v with
  | .long _ => false
  | .double _ => false
  | _ => true
def xdup (lo : List (Option Value)) (st : List Value) (σ : Sg) : Xr := match st with
  | v :: r => if c1 v = true then some (lo, v :: v :: r, σ) else none
  | _ => none
def xpop (lo : List (Option Value)) (st : List Value) (σ : Sg) : Xr := match st with
  | v :: r => if c1 v = true then some (lo, r, σ) else none
  | _ => none
def xdup2 (lo : List (Option Value)) (st : List Value) (σ : Sg) : Xr := match st with
  | .long y :: r => some (lo, .long y :: .long y :: r, σ)
  | v :: w :: r => if (c1 v && c1 w) = true then some (lo, v :: w :: v :: w :: r, σ) else none
  | _ => none
def xcmp (lo : List (Option Value)) (st : List Value) (σ : Sg) : Xr := match st with
  | .long y :: .long z :: r => some (lo, .int (lg_cmp z y) :: r, σ)
  | _ => none
def xl2i (lo : List (Option Value)) (st : List Value) (σ : Sg) : Xr := match st with
  | .long y :: r => some (lo, .int y.toInt32 :: r, σ)
  | _ => none
def ex (own : Nat) (i : Instr) (v : Int32) (w : Int64) (lo : List (Option Value)) (st : List Value) (σ : Sg) : Xr := match i with
  | .iconst _ => some (lo, .int v :: st, σ)
  | .bipush _ => some (lo, .int v :: st, σ)
  | .sipush _ => some (lo, .int v :: st, σ)
  | .ldc _ => some (lo, .int v :: st, σ)
  | .ldc_w _ => some (lo, .int v :: st, σ)
  | .lconst _ => some (lo, .long w :: st, σ)
  | .ldc2_w _ => some (lo, .long w :: st, σ)
  | .aconst_null => some (lo, .null :: st, σ)
  | .iload k => xI lo st σ lo[k]?
  | .iload_n k => xI lo st σ lo[k.val]?
  | .lload k => xL lo st σ lo[k]?
  | .lload_n k => xL lo st σ lo[k.val]?
  | .aload k => xA lo st σ lo[k]?
  | .aload_n k => xA lo st σ lo[k.val]?
  | .istore k => xsI lo st σ k
  | .istore_n k => xsI lo st σ k.val
  | .lstore k => xsL lo st σ k
  | .lstore_n k => xsL lo st σ k.val
  | .astore k => xsA lo st σ k
  | .astore_n k => xsA lo st σ k.val
  | .iinc k _ => xinc lo st σ k v
  | .iadd => xb lo st σ (fun z y => z + y)
  | .isub => xb lo st σ (fun z y => z - y)
  | .imul => xb lo st σ (fun z y => z * y)
  | .iand => xb lo st σ (fun z y => z &&& y)
  | .ior => xb lo st σ (fun z y => z ||| y)
  | .ixor => xb lo st σ (fun z y => z ^^^ y)
  | .ishl => xb lo st σ (fun z y => z <<< (y &&& 31))
  | .ishr => xb lo st σ (fun z y => z >>> (y &&& 31))
  | .iushr => xb lo st σ (fun z y => (z.toUInt32 >>> (y.toUInt32 &&& Int32.toUInt32 31)).toInt32)
  | .idiv => xd lo st σ (fun z y => z / y)
  | .irem => xd lo st σ (fun z y => z - z / y * y)
  | .ineg => xu lo st σ (fun y => .int (-y))
  | .i2l => xu lo st σ (fun y => .long y.toInt64)
  | .i2b => xu lo st σ (fun y => .int y.toInt8.toInt32)
  | .i2c => xu lo st σ (fun y => .int (y.toUInt32 % 65536).toInt32)
  | .l2i => xl2i lo st σ
  | .ladd => xbL lo st σ (fun z y => z + y)
  | .lsub => xbL lo st σ (fun z y => z - y)
  | .lmul => xbL lo st σ (fun z y => z * y)
  | .land => xbL lo st σ (fun z y => z &&& y)
  | .lor => xbL lo st σ (fun z y => z ||| y)
  | .lxor => xbL lo st σ (fun z y => z ^^^ y)
  | .lshl => xh lo st σ (fun z y => z <<< (y.toInt64 &&& 63))
  | .lushr => xh lo st σ (fun z y => (z.toUInt64 >>> (y.toInt64.toUInt64 &&& Int64.toUInt64 63)).toInt64)
  | .lcmp => xcmp lo st σ
  | .dup => xdup lo st σ
  | .dup2 => xdup2 lo st σ
  | .pop => xpop lo st σ
  | .getfield k => xget own lo st σ k
  | .putfield k => xput own lo st σ k
  | .arraylength => xlen lo st σ
  | .iaload => xald lo st σ
  | .iastore => xast lo st σ
  | _ => none
def iln (i : Instr) : Nat := match i with
  | .bipush _ => 2
  | .sipush _ => 3
  | .ldc _ => 2
  | .ldc_w _ => 3
  | .ldc2_w _ => 3
  | .iload _ => 2
  | .lload _ => 2
  | .aload _ => 2
  | .istore _ => 2
  | .lstore _ => 2
  | .astore _ => 2
  | .iinc _ _ => 3
  | .getfield _ => 3
  | .putfield _ => 3
  | _ => 1
def cst (own : Nat) (i : Instr) (v : Int32) (w : Int64) : Bool := match i with
  | .iconst n => decide (Int32.ofInt n = v)
  | .bipush n => decide ((Int8.ofInt n).toInt32 = v)
  | .sipush n => decide ((Int16.ofInt n).toInt32 = v)
  | .ldc n => decide (cI own n = some v)
  | .ldc_w n => decide (cI own n = some v)
  | .lconst n => decide (Int64.ofNat (n : Nat) = w)
  | .ldc2_w n => decide (cL own n = some w)
  | .iinc _ n => decide (Int32.ofInt n = v)
  | _ => true
abbrev Itm : Type := Instr × Int32 × Int64
def exs (own : Nat) : List Itm → List (Option Value) → List Value → Sg → Xr
  | [], lo, st, σ => some (lo, st, σ)
  | q :: r, lo, st, σ => match ex own q.1 q.2.1 q.2.2 lo st σ with
    | some z => exs own r z.1 z.2.1 z.2.2
    | none => none
def pcs : Nat → List Itm → Nat
  | pc, [] => pc
  | pc, q :: r => pcs (pc + iln q.1) r
def decs (own : Nat) (cc : ByteArray) : Nat → List Itm → Bool
  | _, [] => true
  | pc, q :: r => decide (decode cc pc = .ok (q.1, iln q.1)) && (cst own q.1 q.2.1 q.2.2 && decs own cc (pc + iln q.1) r)
/-! ===== straight runs are the machine's ===== -/
section EXS
variable {own : Nat} {cc : ByteArray} {pc : Nat} {lo lo' : List (Option Value)} {st st' : List Value} {σ σ' : Sg} {v : Int32} {w : Int64}
theorem xI_inv {o : Option (Option Value)} {z : List (Option Value) × List Value × Sg} (h : xI lo st σ o = some z) : ∃ y, o = some (some (.int y)) ∧ z = (lo, .int y :: st, σ) := by
  unfold xI at h
  split at h
  · exact ⟨_, rfl, (Option.some.inj h).symm⟩
  · cases h
theorem xL_inv {o : Option (Option Value)} {z : List (Option Value) × List Value × Sg} (h : xL lo st σ o = some z) : ∃ y, o = some (some (.long y)) ∧ z = (lo, .long y :: st, σ) := by
  unfold xL at h
  split at h
  · exact ⟨_, rfl, (Option.some.inj h).symm⟩
  · cases h
theorem xA_inv {o : Option (Option Value)} {z : List (Option Value) × List Value × Sg} (h : xA lo st σ o = some z) : ∃ y, o = some (some (.ref y)) ∧ z = (lo, .ref y :: st, σ) := by
  unfold xA at h
  split at h
  · exact ⟨_, rfl, (Option.some.inj h).symm⟩
  · cases h
theorem xsI_inv {i : Nat} {z : List (Option Value) × List Value × Sg} (h : xsI lo st σ i = some z) : ∃ y r, st = .int y :: r ∧ i < lo.length ∧ nw lo i = true ∧ z = (lo.set i (some (.int y)), r, σ) := by
  unfold xsI at h
  split at h
  · split at h
    · rename_i h2
      simp only [Bool.and_eq_true, decide_eq_true_eq] at h2
      exact ⟨_, _, rfl, h2.1, h2.2, (Option.some.inj h).symm⟩
    · cases h
  · cases h
theorem xsA_inv {i : Nat} {z : List (Option Value) × List Value × Sg} (h : xsA lo st σ i = some z) : ∃ y r, st = .ref y :: r ∧ i < lo.length ∧ nw lo i = true ∧ z = (lo.set i (some (.ref y)), r, σ) := by
  unfold xsA at h
  split at h
  · split at h
    · rename_i h2
      simp only [Bool.and_eq_true, decide_eq_true_eq] at h2
      exact ⟨_, _, rfl, h2.1, h2.2, (Option.some.inj h).symm⟩
    · cases h
  · cases h
theorem xsL_inv {i : Nat} {z : List (Option Value) × List Value × Sg} (h : xsL lo st σ i = some z) : ∃ y r, st = .long y :: r ∧ i + 1 < lo.length ∧ nw lo i = true ∧ z = ((lo.set i (some (.long y))).set (i + 1) none, r, σ) := by
  unfold xsL at h
  split at h
  · split at h
    · rename_i h2
      simp only [Bool.and_eq_true, decide_eq_true_eq] at h2
      exact ⟨_, _, rfl, h2.1, h2.2, (Option.some.inj h).symm⟩
    · cases h
  · cases h
theorem xinc_inv {i : Nat} {z : List (Option Value) × List Value × Sg} (h : xinc lo st σ i v = some z) : ∃ y, lo[i]? = some (some (.int y)) ∧ i < lo.length ∧ nw lo i = true ∧ z = (lo.set i (some (.int (y + v))), st, σ) := by
  unfold xinc at h
  split at h
  · split at h
    · rename_i h1 h2
      simp only [Bool.and_eq_true, decide_eq_true_eq] at h2
      exact ⟨_, h1, h2.1, h2.2, (Option.some.inj h).symm⟩
    · cases h
  · cases h
theorem xb_inv {f : Int32 → Int32 → Int32} {z : List (Option Value) × List Value × Sg} (h : xb lo st σ f = some z) : ∃ y u r, st = .int y :: .int u :: r ∧ z = (lo, .int (f u y) :: r, σ) := by
  unfold xb at h
  split at h
  · exact ⟨_, _, _, rfl, (Option.some.inj h).symm⟩
  · cases h
theorem xd_inv {f : Int32 → Int32 → Int32} {z : List (Option Value) × List Value × Sg} (h : xd lo st σ f = some z) : ∃ y u r, st = .int y :: .int u :: r ∧ ¬ y = 0 ∧ z = (lo, .int (f u y) :: r, σ) := by
  unfold xd at h
  split at h
  · split at h
    · cases h
    · rename_i h2
      exact ⟨_, _, _, rfl, h2, (Option.some.inj h).symm⟩
  · cases h
theorem xbL_inv {f : Int64 → Int64 → Int64} {z : List (Option Value) × List Value × Sg} (h : xbL lo st σ f = some z) : ∃ y u r, st = .long y :: .long u :: r ∧ z = (lo, .long (f u y) :: r, σ) := by
  unfold xbL at h
  split at h
  · exact ⟨_, _, _, rfl, (Option.some.inj h).symm⟩
  · cases h
theorem xu_inv {f : Int32 → Value} {z : List (Option Value) × List Value × Sg} (h : xu lo st σ f = some z) : ∃ y r, st = .int y :: r ∧ z = (lo, f y :: r, σ) := by
  unfold xu at h
  split at h
  · exact ⟨_, _, rfl, (Option.some.inj h).symm⟩
  · cases h
theorem xh_inv {f : Int64 → Int32 → Int64} {z : List (Option Value) × List Value × Sg} (h : xh lo st σ f = some z) : ∃ y u r, st = .int y :: .long u :: r ∧ z = (lo, .long (f u y) :: r, σ) := by
  unfold xh at h
  split at h
  · exact ⟨_, _, _, rfl, (Option.some.inj h).symm⟩
  · cases h
theorem xget_inv {idx : Nat} {z : List (Option Value) × List Value × Sg} (h : xget own lo st σ idx = some z) : ∃ i r ci k fs f, st = .ref i :: r ∧ lk own idx = some (ci, k) ∧ SH[i]? = some (.inl (ci, fs)) ∧ fs[k]? = some f ∧ z = (lo, fvl σ i k f :: r, σ) := by
  unfold xget at h
  split at h
  · split at h
    · split at h
      · rename_i h1 h2 h3
        subst h3
        split at h
        · rename_i h4
          exact ⟨_, _, _, _, _, _, rfl, h1, h2, h4, (Option.some.inj h).symm⟩
        · cases h
      · cases h
    · cases h
  · cases h
theorem xput_inv {idx : Nat} {z : List (Option Value) × List Value × Sg} (h : xput own lo st σ idx = some z) : ∃ u i r ci k fs f σ', st = u :: .ref i :: r ∧ lk own idx = some (ci, k) ∧ SH[i]? = some (.inl (ci, fs)) ∧ fs[k]? = some f ∧ xpv σ i k f.1 u = some σ' ∧ z = (lo, r, σ') := by
  unfold xput at h
  split at h
  · split at h
    · split at h
      · rename_i h1 h2 h3
        subst h3
        split at h
        · rename_i h4
          split at h
          · rename_i h5
            exact ⟨_, _, _, _, _, _, _, _, rfl, h1, h2, h4, h5, (Option.some.inj h).symm⟩
          · cases h
        · cases h
      · cases h
    · cases h
  · cases h
theorem xlen_inv {z : List (Option Value) × List Value × Sg} (h : xlen lo st σ = some z) : ∃ i r t n, st = .ref i :: r ∧ SH[i]? = some (.inr (t, n)) ∧ z = (lo, .int (nI n) :: r, σ) := by
  unfold xlen at h
  split at h
  · split at h
    · rename_i h1
      exact ⟨_, _, _, _, rfl, h1, (Option.some.inj h).symm⟩
    · cases h
  · cases h
theorem xald_inv {z : List (Option Value) × List Value × Sg} (h : xald lo st σ = some z) : ∃ y i r n, st = .int y :: .ref i :: r ∧ SH[i]? = some (.inr (0, n)) ∧ vp_in y n ∧ z = (lo, .int (gA σ i y) :: r, σ) := by
  unfold xald at h
  split at h
  · split at h
    · split at h
      · rename_i h1 h2
        exact ⟨_, _, _, _, rfl, h1, h2, (Option.some.inj h).symm⟩
      · cases h
    · cases h
  · cases h
theorem xast_inv {z : List (Option Value) × List Value × Sg} (h : xast lo st σ = some z) : ∃ u y i r n, st = .int u :: .int y :: .ref i :: r ∧ SH[i]? = some (.inr (0, n)) ∧ vp_in y n ∧ z = (lo, r, sA σ i y u) := by
  unfold xast at h
  split at h
  · split at h
    · split at h
      · rename_i h1 h2
        exact ⟨_, _, _, _, _, rfl, h1, h2, (Option.some.inj h).symm⟩
      · cases h
    · cases h
  · cases h
theorem c1_ok {u : Value} (h : c1 u = true) (a : Nat → Nat) : (ren a u).category = 1 := by
  rw [ren_cat]
  cases u <;> first | rfl | cases h
theorem xdup_inv {z : List (Option Value) × List Value × Sg} (h : xdup lo st σ = some z) : ∃ u r, st = u :: r ∧ c1 u = true ∧ z = (lo, u :: u :: r, σ) := by
  unfold xdup at h
  split at h
  · split at h
    · rename_i h1
      exact ⟨_, _, rfl, h1, (Option.some.inj h).symm⟩
    · cases h
  · cases h
theorem xpop_inv {z : List (Option Value) × List Value × Sg} (h : xpop lo st σ = some z) : ∃ u r, st = u :: r ∧ c1 u = true ∧ z = (lo, r, σ) := by
  unfold xpop at h
  split at h
  · split at h
    · rename_i h1
      exact ⟨_, _, rfl, h1, (Option.some.inj h).symm⟩
    · cases h
  · cases h
theorem xdup2_inv {z : List (Option Value) × List Value × Sg} (h : xdup2 lo st σ = some z) : (∃ y r, st = .long y :: r ∧ z = (lo, .long y :: .long y :: r, σ)) ∨ ∃ u t r, st = u :: t :: r ∧ c1 u = true ∧ c1 t = true ∧ z = (lo, u :: t :: u :: t :: r, σ) := by
  unfold xdup2 at h
  split at h
  · exact Or.inl ⟨_, _, rfl, (Option.some.inj h).symm⟩
  · split at h
    · rename_i h1
      simp only [Bool.and_eq_true] at h1
      exact Or.inr ⟨_, _, _, rfl, h1.1, h1.2, (Option.some.inj h).symm⟩
    · cases h
  · cases h
theorem xcmp_inv {z : List (Option Value) × List Value × Sg} (h : xcmp lo st σ = some z) : ∃ y u r, st = .long y :: .long u :: r ∧ z = (lo, .int (lg_cmp u y) :: r, σ) := by
  unfold xcmp at h
  split at h
  · exact ⟨_, _, _, rfl, (Option.some.inj h).symm⟩
  · cases h
theorem xl2i_inv {z : List (Option Value) × List Value × Sg} (h : xl2i lo st σ = some z) : ∃ y r, st = .long y :: r ∧ z = (lo, .int y.toInt32 :: r, σ) := by
  unfold xl2i at h
  split at h
  · exact ⟨_, _, rfl, (Option.some.inj h).symm⟩
  · cases h
end EXS
