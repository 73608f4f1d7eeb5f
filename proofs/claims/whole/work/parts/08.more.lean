/-! ===== more rules ===== -/
abbrev vin (y : Int32) (n : Nat) : Prop := ¬ (y < 0 ∨ n ≤ y.toNatClampNeg)
def rvR (i : Nat) (_ : Unit) : Option Value := some (.ref i)
theorem ok_n {α : Type} {c : Prop} {D : Decidable c} {o1 : Option α} {P : α → Prop} (h : ok (@ite _ c D none o1) P) : ¬ c ∧ ok o1 P := by
  by_cases hc : c
  · rw [if_pos hc] at h; exact ok_none h
  · rw [if_neg hc] at h; exact ⟨hc, h⟩
theorem ok_r {α : Type} {c d : Prop} {D : Decidable c} {E : Decidable d} {o1 o2 : Option α} {P : α → Prop} (h : ok (@ite _ c D o1 (@ite _ d E o2 none)) P) : c ∨ d := by
  by_cases hc : c
  · exact Or.inl hc
  · rw [if_neg hc] at h; exact Or.inr (ok_g h).1
def subl : List (Option Value) → List (Option Value) → Prop
  | [], [] => True
  | none :: r, _ :: t => subl r t
  | some v :: r, o :: t => o = some v ∧ subl r t
  | _, _ => False
theorem subl_ok : ∀ (l t : List (Option Value)), subl l t → l.length = t.length ∧ ∀ (i : Nat) (v : Value), l[i]? = some (some v) → t[i]? = some (some v)
  | [], [], _ => ⟨rfl, fun i v h => by simp at h⟩
  | none :: r, o :: t, h => by
    obtain ⟨h1, h2⟩ := subl_ok r t h
    refine ⟨by simp [h1], fun i v hv => ?_⟩
    match i, hv with
    | 0, hv => cases hv
    | j + 1, hv => exact h2 j v hv
  | some u :: r, o :: t, h => by
    obtain ⟨h0, h⟩ := h
    obtain ⟨h1, h2⟩ := subl_ok r t h
    refine ⟨by simp [h1], fun i v hv => ?_⟩
    match i, hv with
    | 0, hv => rw [h0]; exact hv
    | j + 1, hv => exact h2 j v hv
  | [], _ :: _, h => h.elim
  | none :: _, [], h => h.elim
  | some _ :: _, [], h => h.elim
theorem g_wk {x : CX} {pc : Nat} {lo lo' : List (Option Value)} {st : List Value} {σ : Sg} (h : subl lo' lo) (k : G x pc lo' st σ) : G x pc lo st σ := g_weak (subl_ok _ _ h).1 (subl_ok _ _ h).2 k
theorem g_acn {x : CX} {own : Nat} {cc : ByteArray} (hx : Cx own cc x) {pc tgt j : Nat} {off : Int} {lo : List (Option Value)} {st : List Value} {σ : Sg} {z : Int32} (hd : decode cc pc = .ok (.if_acmp .ne off, 3)) (ht : (pc : Int) + off = (tgt : Int)) (hj : 0 < j ∧ j < SH.length) (hz : z = Int32.ofNat j ∨ z = 0) (kt : z = 0 → G x tgt lo st σ) (kf : z = Int32.ofNat j → G x (pc + 3) lo st σ) : G x pc lo (.ref j :: crf z :: st) σ := by
  obtain ⟨⟨p, l, e, R, s, m, args, below, meth, c⟩, ⟨a, cA, D, ⟨cells, slots⟩, Q⟩⟩ := x
  obtain ⟨hexec, hb, hown, hts, hK, hinj⟩ := hx
  intro H locs ls hP hS hl
  have h0 : j < 2 ^ 31 := Nat.lt_trans hj.2 (by decide)
  rcases hz with hz | hz
  · have e1 : crf z = .ref j := by
      rw [hz]
      unfold crf
      rw [if_neg (show ¬ Int32.ofNat j = 0 from nI_ne0 hj.1 h0)]
      exact congrArg Value.ref (show (Int32.ofNat j).toNatClampNeg = j from nI_clamp h0)
    rw [e1]
    exact lv_acmp_ne (rx := some (a j)) (ry := some (a j)) hexec hb hd ht (fun h => absurd rfl h) (fun _ => kf hz H locs ls hP hS hl)
  · have e1 : crf z = .null := by rw [hz]; rfl
    rw [e1]
    exact lv_acmp_ne (rx := none) (ry := some (a j)) hexec hb hd ht (fun _ => kt hz H locs ls hP hS hl) (fun h => by cases h)
theorem g_tin {x : CX} {own : Nat} {cc : ByteArray} (hx : Cx own cc x) {pc tgt len : Nat} {dflt lo hi off : Int} {offs : Array Int} {ls : List (Option Value)} {st : List Value} {σ : Sg} {y v : Int32} (hd : decode cc pc = .ok (.tableswitch dflt lo hi offs, len)) (hy : y = v) (h1 : ¬ v.toInt < lo) (h2 : ¬ hi < v.toInt) (ho : offs[(v.toInt - lo).toNat]? = some off) (ht : (pc : Int) + off = (tgt : Int)) (k : G x tgt ls st σ) : G x pc ls (.int y :: st) σ := by
  obtain ⟨⟨p, l, e, R, s, m, args, below, meth, c⟩, ⟨a, cA, D, ⟨cells, slots⟩, Q⟩⟩ := x
  obtain ⟨hexec, hb, hown, hts, hK, hinj⟩ := hx
  subst hy
  exact fun H locs ls hP hS hl => lv_tableIn hexec hb hd h1 h2 ho ht (k H locs ls hP hS hl)
theorem g_tout {x : CX} {own : Nat} {cc : ByteArray} (hx : Cx own cc x) {pc tgt len n : Nat} {dflt : Int} {offs : Array Int} {ls : List (Option Value)} {st : List Value} {σ : Sg} {y : Int32} (hd : decode cc pc = .ok (.tableswitch dflt 0 ((n : Int) - 1) offs, len)) (hn : n < 1000) (hy : ∀ k, k < n → ¬ y = nI k) (ht : (pc : Int) + dflt = (tgt : Int)) (k : G x tgt ls st σ) : G x pc ls (.int y :: st) σ := by
  obtain ⟨⟨p, l, e, R, s, m, args, below, meth, c⟩, ⟨a, cA, D, ⟨cells, slots⟩, Q⟩⟩ := x
  obtain ⟨hexec, hb, hown, hts, hK, hinj⟩ := hx
  refine fun H locs ls hP hS hl => lv_tableOut hexec hb hd ?_ ht (k H locs ls hP hS hl)
  by_cases h : y < 0
  · left
    have := Int32.lt_iff_toInt_lt.mp h
    simpa using this
  · right
    obtain ⟨j, hj, rfl⟩ := nI_of h
    rw [nI_toInt hj]
    rcases Nat.lt_or_ge j n with q | q
    · exact absurd rfl (hy j q)
    · omega
def swl (y : Int32) : List Nat → Prop
  | [] => True
  | k :: r => (¬ y = nI k) ∧ swl y r
theorem swl_ok {y : Int32} : ∀ {l : List Nat}, swl y l → ∀ k ∈ l, ¬ y = nI k
  | [], _, k, hk => by cases hk
  | q :: r, h, k, hk => by
    rcases List.mem_cons.mp hk with e | e
    · subst e; exact h.1
    · exact swl_ok h.2 k e
theorem sw_ne {y : Int32} {n : Nat} (h : swl y (List.range n)) : ∀ k, k < n → ¬ y = nI k := fun k hk => swl_ok h k (List.mem_range.mpr hk)
theorem g_lin {x : CX} {own : Nat} {cc : ByteArray} (hx : Cx own cc x) {pc tgt len : Nat} {dflt off : Int} {ps : Array (Int × Int)} {ls : List (Option Value)} {st : List Value} {σ : Sg} {y v : Int32} (hd : decode cc pc = .ok (.lookupswitch dflt ps, len)) (hy : y = v) (hp : (ps.toList.zip (ps.toList.drop 1)).all (fun (a, next) => a.1 < next.1) = true) (ho : Op.lookupswitch.offset ps.toList dflt v.toInt = off) (ht : (pc : Int) + off = (tgt : Int)) (k : G x tgt ls st σ) : G x pc ls (.int y :: st) σ := by
  obtain ⟨⟨p, l, e, R, s, m, args, below, meth, c⟩, ⟨a, cA, D, ⟨cells, slots⟩, Q⟩⟩ := x
  obtain ⟨hexec, hb, hown, hts, hK, hinj⟩ := hx
  subst hy
  exact fun H locs ls hP hS hl => lv_lookup hexec hb hd hp ho ht (k H locs ls hP hS hl)
/-! ===== Math ===== -/
def jmax (z y : Int32) : Int32 := if z < y then y else z
def jmin (z y : Int32) : Int32 := if y < z then y else z
def jabs (z : Int32) : Int32 := if 0 ≤ z then z else 0 - z
theorem g_mmax {x : CX} {own : Nat} {cc : ByteArray} {yy : EX} {nL d idx pc : Nat} {lo : List (Option Value)} {st : List Value} {σ : Sg} {z y : Int32} (hx : Cx own cc x) (hc : Cc yy nL d x) (h1 : 1 ≤ d) (hl : Cond.methodLink (kR own) idx Lib.Math.max.name ∈ gws) (hd : decode cc pc = .ok (.invokestatic idx, 3)) (hst : (st.map fun v => v.category).sum ≤ 8) (k : G x (pc + 3) lo (.int (jmax z y) :: st) σ) : G x pc lo (.int y :: .int z :: st) σ := by
  have w1 : Cond.static Lib.Math.max.name ∈ gws := gw_mem (p := 155) (by decide +kernel) (by decide +kernel)
  have w2 : Cond.initialized "java/lang/Math" ∈ gws := gw_mem (p := 110) (by decide +kernel) (by decide +kernel)
  have w3 : Cond.code Lib.Math.max.name Lib.Math.max.code 2 (some .int) ∈ gws := gw_mem (p := 156) (by decide +kernel) (by decide +kernel)
  obtain ⟨⟨p, l, e, R, s, m, args, below, meth, c⟩, ⟨a, cA, D, ⟨cells, slots⟩, Q⟩⟩ := x
  obtain ⟨hexec, hb, hown, hts, hK, hinj⟩ := hx
  obtain ⟨rfl, hml, hfr, hlo, hce, hsl, hE9⟩ := hc
  intro H locs ls hP hS hl2
  have hst2 : (((st.map (ren a))).map fun v => v.category).sum ≤ 8 := by rw [cat_ren]; exact hst
  exact va_mmax hexec hb hl2.1.symm hown (hts _ hl) (hts _ w1) (hts _ w2) (hts _ w3) (Nat.le_trans h1 hfr) (by omega) hce hsl hd (k H locs ls hP hS hl2)
theorem g_mmin {x : CX} {own : Nat} {cc : ByteArray} {yy : EX} {nL d idx pc : Nat} {lo : List (Option Value)} {st : List Value} {σ : Sg} {z y : Int32} (hx : Cx own cc x) (hc : Cc yy nL d x) (h1 : 1 ≤ d) (hl : Cond.methodLink (kR own) idx Lib.Math.min.name ∈ gws) (hd : decode cc pc = .ok (.invokestatic idx, 3)) (hst : (st.map fun v => v.category).sum ≤ 8) (k : G x (pc + 3) lo (.int (jmin z y) :: st) σ) : G x pc lo (.int y :: .int z :: st) σ := by
  have w1 : Cond.static Lib.Math.min.name ∈ gws := gw_mem (p := 532) (by decide +kernel) (by decide +kernel)
  have w2 : Cond.initialized "java/lang/Math" ∈ gws := gw_mem (p := 110) (by decide +kernel) (by decide +kernel)
  have w3 : Cond.code Lib.Math.min.name Lib.Math.min.code 2 (some .int) ∈ gws := gw_mem (p := 533) (by decide +kernel) (by decide +kernel)
  obtain ⟨⟨p, l, e, R, s, m, args, below, meth, c⟩, ⟨a, cA, D, ⟨cells, slots⟩, Q⟩⟩ := x
  obtain ⟨hexec, hb, hown, hts, hK, hinj⟩ := hx
  obtain ⟨rfl, hml, hfr, hlo, hce, hsl, hE9⟩ := hc
  intro H locs ls hP hS hl2
  have hst2 : (((st.map (ren a))).map fun v => v.category).sum ≤ 8 := by rw [cat_ren]; exact hst
  exact va_mmin hexec hb hl2.1.symm hown (hts _ hl) (hts _ w1) (hts _ w2) (hts _ w3) (Nat.le_trans h1 hfr) (by omega) hce hsl hd (k H locs ls hP hS hl2)
theorem g_mabs {x : CX} {own : Nat} {cc : ByteArray} {yy : EX} {nL d idx pc : Nat} {lo : List (Option Value)} {st : List Value} {σ : Sg} {z : Int32} (hx : Cx own cc x) (hc : Cc yy nL d x) (h1 : 1 ≤ d) (hl : Cond.methodLink (kR own) idx Lib.Math.abs.name ∈ gws) (hd : decode cc pc = .ok (.invokestatic idx, 3)) (hst : (st.map fun v => v.category).sum ≤ 8) (k : G x (pc + 3) lo (.int (jabs z) :: st) σ) : G x pc lo (.int z :: st) σ := by
  have w1 : Cond.static Lib.Math.abs.name ∈ gws := gw_mem (p := 1088) (by decide +kernel) (by decide +kernel)
  have w2 : Cond.initialized "java/lang/Math" ∈ gws := gw_mem (p := 110) (by decide +kernel) (by decide +kernel)
  have w3 : Cond.code Lib.Math.abs.name Lib.Math.abs.code 1 (some .int) ∈ gws := gw_mem (p := 1089) (by decide +kernel) (by decide +kernel)
  obtain ⟨⟨p, l, e, R, s, m, args, below, meth, c⟩, ⟨a, cA, D, ⟨cells, slots⟩, Q⟩⟩ := x
  obtain ⟨hexec, hb, hown, hts, hK, hinj⟩ := hx
  obtain ⟨rfl, hml, hfr, hlo, hce, hsl, hE9⟩ := hc
  intro H locs ls hP hS hl2
  have hst2 : (((st.map (ren a))).map fun v => v.category).sum ≤ 8 := by rw [cat_ren]; exact hst
  exact va_mabs hexec hb hl2.1.symm hown (hts _ hl) (hts _ w1) (hts _ w2) (hts _ w3) (Nat.le_trans h1 hfr) (by omega) hce hsl hd (k H locs ls hP hS hl2)
