set_option maxHeartbeats 4000000 in
theorem xpv_ok {a : Nat → Nat} {cA : Nat → ClassId} {σ σ' : Sg} {i ci k : Nat} {fs : List (Nat × Nat)} {f : Nat × Nat} {v : Value} {ty : FieldType} (hi : SH[i]? = some (.inl (ci, fs))) (hk : fs[k]? = some f) (h : xpv σ i k f.1 v = some σ') :
    (wld a cA σ).set i (a i, .inr (ci, (fs.mapIdx (fun k f => ren a (fvl σ i k f))).set k (ren a v))) = wld a cA σ' := by
  obtain ⟨kd, r⟩ := f
  have key : ∀ σ', (∀ (j : Nat) (z : Shp), j ≠ i → cel a cA σ' j z = cel a cA σ j z) → (∀ (q : Nat) (z : Nat × Nat), q ≠ k → fvl σ' i q z = fvl σ i q z) → fvl σ' i k (kd, r) = v → (wld a cA σ).set i (a i, .inr (ci, (fs.mapIdx (fun k f => ren a (fvl σ i k f))).set k (ren a v))) = wld a cA σ' := by
    intro σ' h1 h2 h3
    rw [← h3]
    exact wld_put hi hk h1 h2
  unfold xpv at h
  split at h
  · rename_i y hkd
    cases h
    have hkd : kd = 0 := hkd
    subst hkd
    exact key _ (fun j z n => cel_sI_ne n) (fun q z n => fvl_sI_ne (fun u => n u.2)) (by show Value.int (gI (sI σ i k y) i k) = _; rw [gI_eq])
  · rename_i y hkd
    cases h
    have hkd : kd = 1 := hkd
    subst hkd
    exact key _ (fun j z n => cel_sL_ne n) (fun q z n => fvl_sL_ne (fun u => n u.2)) (by show Value.long (gL (sL σ i k y) i k) = _; rw [gL_eq])
  · rename_i hkd
    cases h
    have hkd : kd = 3 := hkd
    subst hkd
    exact key _ (fun j z n => cel_sI_ne n) (fun q z n => fvl_sI_ne (fun u => n u.2)) (by show crf (gI (sI σ i k 0) i k) = _; rw [gI_eq]; rfl)
  · rename_i j hkd
    split at h
    · rename_i hj
      cases h
      have hkd : kd = 3 := hkd
      subst hkd
      refine key _ (fun j z n => cel_sI_ne n) (fun q z n => fvl_sI_ne (fun u => n u.2)) ?_
      show crf (gI (sI σ i k (Int32.ofNat j)) i k) = _
      rw [gI_eq]
      unfold crf
      have h0 : j < 2 ^ 31 := Nat.lt_trans hj.2 (by decide)
      have h1 : ¬ Int32.ofNat j = 0 := nI_ne0 hj.1 h0
      have h2 : (Int32.ofNat j).toNatClampNeg = j := nI_clamp h0
      rw [if_neg h1]
      exact congrArg Value.ref h2
    · cases h
  · rename_i y hkd
    split at h
    · cases h
      have hkd : kd = 4 := hkd
      subst hkd
      exact key _ (fun j z n => cel_sI_ne n) (fun q z n => fvl_sI_ne (fun u => n u.2)) (by show Value.int (gI (sI σ i k y) i k) = _; rw [gI_eq])
    · cases h
  · cases h
def kdt (kd : Nat) (ty : FieldType) : Bool := match kd, ty with
  | 0, .int => true
  | 1, .long => true
  | 2, .object _ => true
  | 2, .array _ => true
  | 3, .object _ => true
  | 4, .boolean => true
  | _, _ => false
/-- the kinds of the fixed cells' fields are their types, of fields that aren't final unless they are fixed -/
def sh_row (h : Shp) : Bool := match h with
  | .inl (ci, fs) => match vCl[ci]? with
    | some c => decide (fs.length = c.2.2) && (fs.zipIdx).all (fun z => kdt z.1.1 (kYt ci z.2) && (decide (z.1.1 = 2) || !(c.2.1 z.2).2.2.2))
    | none => false
  | .inr (t, _) => decide (t < 3)
set_option maxRecDepth 100000 in
theorem sh_all : SH.all sh_row = true := by decide +kernel
theorem sh_ok {i ci k : Nat} {fs : List (Nat × Nat)} {f : Nat × Nat} (hi : SH[i]? = some (.inl (ci, fs))) (hk : fs[k]? = some f) : ∃ c : vw_C, vCl[ci]? = some c ∧ fs.length = c.2.2 ∧ k < c.2.2 ∧ kdt f.1 (kYt ci k) = true ∧ (f.1 ≠ 2 → (c.2.1 k).2.2.2 = false) := by
  have h := List.all_eq_true.mp sh_all _ (List.mem_of_getElem? hi)
  unfold sh_row at h
  cases hc : vCl[ci]? with
  | none => simp only [hc] at h; cases h
  | some c =>
    simp only [hc, Bool.and_eq_true, decide_eq_true_eq] at h
    obtain ⟨h1, h2⟩ := h
    have h3 := List.all_eq_true.mp h2 (f, k) (by rw [List.mem_zipIdx_iff_getElem?]; exact hk)
    simp only [Bool.and_eq_true, Bool.or_eq_true, decide_eq_true_eq, Bool.not_eq_true'] at h3
    exact ⟨c, rfl, h1, by rw [← h1]; exact (List.getElem?_eq_some_iff.mp hk).1, h3.1, fun n => h3.2.resolve_left n⟩
theorem sh_arr {i t n : Nat} (hi : SH[i]? = some (.inr (t, n))) : t < 3 := by
  have h := List.all_eq_true.mp sh_all _ (List.mem_of_getElem? hi)
  simpa [sh_row] using h
theorem xpv_fit {σ σ' : Sg} {i k kd : Nat} {v : Value} {ty : FieldType} (h : xpv σ i k kd v = some σ') (hk : kdt kd ty = true) (a : Nat → Nat) : narrow ty (ren a v) = ren a v ∧ fits ty (ren a v) = true ∧ kd ≠ 2 := by
  unfold xpv at h
  split at h
  · cases ty <;> first | exact ⟨rfl, rfl, by decide⟩ | cases hk
  · cases ty <;> first | exact ⟨rfl, rfl, by decide⟩ | cases hk
  · cases ty <;> first | exact ⟨rfl, rfl, by decide⟩ | cases hk
  · cases ty <;> first | exact ⟨rfl, rfl, by decide⟩ | cases hk
  · rename_i y
    split at h
    · rename_i hy
      cases ty <;> first | (cases hk; done) | (rcases hy with rfl | rfl <;> exact ⟨rfl, rfl, by decide⟩)
    · cases h
  · cases h
set_option maxHeartbeats 8000000 in
theorem ex_ok {x : CX} {own : Nat} {cc : ByteArray} (hx : Cx own cc x) {i : Instr} {v : Int32} {w : Int64} {pc : Nat} {lo : List (Option Value)} {st : List Value} {σ : Sg} {z : List (Option Value) × List Value × Sg} (hd : decode cc pc = .ok (i, iln i)) (hc : cst own i v w = true) (he : ex own i v w lo st σ = some z) (k : G x (pc + iln i) z.1 z.2.1 z.2.2) : G x pc lo st σ := by
  obtain ⟨⟨p, l, e, R, s, m, args, below, meth, c⟩, ⟨a, cA, D, ⟨cells, slots⟩, Q⟩⟩ := x
  obtain ⟨hexec, hb, hown, hts, hK, hinj⟩ := hx
  cases i <;> first
    | (cases he; done)
    | skip
  case iconst n => cases he; exact fun H locs ls hP hS hl => lv_iconst hexec hb hd (of_decide_eq_true hc) (k H locs ls hP hS hl)
  case bipush n => cases he; exact fun H locs ls hP hS hl => lv_bipush hexec hb hd (of_decide_eq_true hc) (k H locs ls hP hS hl)
  case sipush n => cases he; exact fun H locs ls hP hS hl => lv_sipush hexec hb hd (of_decide_eq_true hc) (k H locs ls hP hS hl)
  case lconst n => cases he; exact fun H locs ls hP hS hl => lv_lconst hexec hb hd (of_decide_eq_true hc) (k H locs ls hP hS hl)
  case ldc n => cases he; exact fun H locs ls hP hS hl => lv_ldc hexec hb hown (hts _ (cI_ok (of_decide_eq_true hc))) hd (k H locs ls hP hS hl)
  case ldc_w n => cases he; exact fun H locs ls hP hS hl => lv_ldcw hexec hb hown (hts _ (cI_ok (of_decide_eq_true hc))) hd (k H locs ls hP hS hl)
  case ldc2_w n => cases he; exact fun H locs ls hP hS hl => lv_ldc2 hexec hb hown (hts _ (cL_ok (of_decide_eq_true hc))) hd (k H locs ls hP hS hl)
  case aconst_null => cases he; exact fun H locs ls hP hS hl => lv_null hexec hb hd (k H locs ls hP hS hl)
  case iload n => obtain ⟨y, h1, rfl⟩ := xI_inv he; exact fun H locs ls hP hS hl => lv_iload hexec hb hd (hl.2.2.2 _ _ h1) (k H locs ls hP hS hl)
  case iload_n n => obtain ⟨y, h1, rfl⟩ := xI_inv he; exact fun H locs ls hP hS hl => lv_iload_n hexec hb hd rfl (hl.2.2.2 _ _ h1) (k H locs ls hP hS hl)
  case lload n => obtain ⟨y, h1, rfl⟩ := xL_inv he; exact fun H locs ls hP hS hl => lv_lload hexec hb hd (hl.2.2.2 _ _ h1) (k H locs ls hP hS hl)
  case lload_n n => obtain ⟨y, h1, rfl⟩ := xL_inv he; exact fun H locs ls hP hS hl => lv_lload_n hexec hb hd rfl (hl.2.2.2 _ _ h1) (k H locs ls hP hS hl)
  case aload n => obtain ⟨y, h1, rfl⟩ := xA_inv he; exact fun H locs ls hP hS hl => lv_aload hexec hb hd (hl.2.2.2 _ _ h1) (k H locs ls hP hS hl)
  case aload_n n => obtain ⟨y, h1, rfl⟩ := xA_inv he; exact fun H locs ls hP hS hl => lv_aload_n hexec hb hd rfl (hl.2.2.2 _ _ h1) (k H locs ls hP hS hl)
  case istore n => obtain ⟨y, r, rfl, h1, h2, rfl⟩ := xsI_inv he; exact fun H locs ls hP hS hl => lv_istore hexec hb hd (lh_has hl) (by rw [← hl.2.1]; exact h1) rfl (fun ls' h' => k H locs ls' hP hS (lh_st1 (w := .int y) hl h2 h1 h'))
  case istore_n n => obtain ⟨y, r, rfl, h1, h2, rfl⟩ := xsI_inv he; exact fun H locs ls hP hS hl => lv_istore_n hexec hb hd rfl (lh_has hl) (by rw [← hl.2.1]; exact h1) rfl (fun ls' h' => k H locs ls' hP hS (lh_st1 (w := .int y) hl h2 h1 h'))
  case lstore n => obtain ⟨y, r, rfl, h1, h2, rfl⟩ := xsL_inv he; exact fun H locs ls hP hS hl => lv_lstore hexec hb hd (lh_has hl) (by rw [← hl.2.1]; exact h1) rfl (fun ls' h' => k H locs ls' hP hS (lh_st2 (w := .long y) hl h2 h1 h'))
  case lstore_n n => obtain ⟨y, r, rfl, h1, h2, rfl⟩ := xsL_inv he; exact fun H locs ls hP hS hl => lv_lstore_n hexec hb hd rfl (lh_has hl) (by rw [← hl.2.1]; exact h1) rfl (fun ls' h' => k H locs ls' hP hS (lh_st2 (w := .long y) hl h2 h1 h'))
  case astore n => obtain ⟨y, r, rfl, h1, h2, rfl⟩ := xsA_inv he; exact fun H locs ls hP hS hl => lv_astore hexec hb hd (lh_has hl) (by rw [← hl.2.1]; exact h1) rfl (fun ls' h' => k H locs ls' hP hS (lh_st1 (w := .ref y) hl h2 h1 h'))
  case astore_n n => obtain ⟨y, r, rfl, h1, h2, rfl⟩ := xsA_inv he; exact fun H locs ls hP hS hl => lv_astore_n hexec hb hd rfl (lh_has hl) (by rw [← hl.2.1]; exact h1) rfl (fun ls' h' => k H locs ls' hP hS (lh_st1 (w := .ref y) hl h2 h1 h'))
  case iinc n j =>
    obtain ⟨y, h0, h1, h2, rfl⟩ := xinc_inv he
    intro H locs ls hP hS hl
    have hm : (n, Value.int y) ∈ lvl a lo := lvl_mem.mpr ⟨_, h0, rfl⟩
    obtain ⟨q, hq⟩ := List.getElem?_of_mem hm
    exact lv_iinc hexec hb hd (lh_has hl) hq (by rw [of_decide_eq_true hc]) (by rw [← hl.2.1]; exact h1) rfl (fun ls' h' => k H locs ls' hP hS (lh_st1 (w := .int (y + v)) hl h2 h1 h'))
  case iadd => obtain ⟨y, u, r, rfl, rfl⟩ := xb_inv he; exact fun H locs ls hP hS hl => lv_iadd hexec hb hd (k H locs ls hP hS hl)
  case isub => obtain ⟨y, u, r, rfl, rfl⟩ := xb_inv he; exact fun H locs ls hP hS hl => lv_isub hexec hb hd (k H locs ls hP hS hl)
  case imul => obtain ⟨y, u, r, rfl, rfl⟩ := xb_inv he; exact fun H locs ls hP hS hl => lv_imul hexec hb hd (k H locs ls hP hS hl)
  case iand => obtain ⟨y, u, r, rfl, rfl⟩ := xb_inv he; exact fun H locs ls hP hS hl => lv_iand hexec hb hd (k H locs ls hP hS hl)
  case ior => obtain ⟨y, u, r, rfl, rfl⟩ := xb_inv he; exact fun H locs ls hP hS hl => lv_ior hexec hb hd (k H locs ls hP hS hl)
  case ixor => obtain ⟨y, u, r, rfl, rfl⟩ := xb_inv he; exact fun H locs ls hP hS hl => lv_ixor hexec hb hd (k H locs ls hP hS hl)
  case ishl => obtain ⟨y, u, r, rfl, rfl⟩ := xb_inv he; exact fun H locs ls hP hS hl => lv_ishl hexec hb hd (k H locs ls hP hS hl)
  case ishr => obtain ⟨y, u, r, rfl, rfl⟩ := xb_inv he; exact fun H locs ls hP hS hl => lv_ishr hexec hb hd (k H locs ls hP hS hl)
  case iushr => obtain ⟨y, u, r, rfl, rfl⟩ := xb_inv he; exact fun H locs ls hP hS hl => lv_iushr hexec hb hd rfl (k H locs ls hP hS hl)
  case idiv => obtain ⟨y, u, r, rfl, h1, rfl⟩ := xd_inv he; exact fun H locs ls hP hS hl => lv_idiv hexec hb hd h1 (k H locs ls hP hS hl)
  case irem => obtain ⟨y, u, r, rfl, h1, rfl⟩ := xd_inv he; exact fun H locs ls hP hS hl => lv_irem hexec hb hd h1 (k H locs ls hP hS hl)
  case ineg => obtain ⟨y, r, rfl, rfl⟩ := xu_inv he; exact fun H locs ls hP hS hl => lv_ineg hexec hb hd (k H locs ls hP hS hl)
  case i2l => obtain ⟨y, r, rfl, rfl⟩ := xu_inv he; exact fun H locs ls hP hS hl => lv_i2l hexec hb hd rfl (k H locs ls hP hS hl)
  case i2b => obtain ⟨y, r, rfl, rfl⟩ := xu_inv he; exact fun H locs ls hP hS hl => lv_i2b hexec hb hd rfl (k H locs ls hP hS hl)
  case i2c => obtain ⟨y, r, rfl, rfl⟩ := xu_inv he; exact fun H locs ls hP hS hl => lv_i2c hexec hb hd rfl (k H locs ls hP hS hl)
  case l2i => obtain ⟨y, r, rfl, rfl⟩ := xl2i_inv he; exact fun H locs ls hP hS hl => lv_l2i hexec hb hd rfl (k H locs ls hP hS hl)
  case ladd => obtain ⟨y, u, r, rfl, rfl⟩ := xbL_inv he; exact fun H locs ls hP hS hl => lv_ladd hexec hb hd (k H locs ls hP hS hl)
  case lsub => obtain ⟨y, u, r, rfl, rfl⟩ := xbL_inv he; exact fun H locs ls hP hS hl => lv_lsub hexec hb hd (k H locs ls hP hS hl)
  case lmul => obtain ⟨y, u, r, rfl, rfl⟩ := xbL_inv he; exact fun H locs ls hP hS hl => lv_lmul hexec hb hd (k H locs ls hP hS hl)
  case land => obtain ⟨y, u, r, rfl, rfl⟩ := xbL_inv he; exact fun H locs ls hP hS hl => lv_land hexec hb hd (k H locs ls hP hS hl)
  case lor => obtain ⟨y, u, r, rfl, rfl⟩ := xbL_inv he; exact fun H locs ls hP hS hl => lv_lor hexec hb hd (k H locs ls hP hS hl)
  case lxor => obtain ⟨y, u, r, rfl, rfl⟩ := xbL_inv he; exact fun H locs ls hP hS hl => lv_lxor hexec hb hd (k H locs ls hP hS hl)
  case lshl => obtain ⟨y, u, r, rfl, rfl⟩ := xh_inv he; exact fun H locs ls hP hS hl => lv_lshl hexec hb hd rfl (k H locs ls hP hS hl)
  case lushr => obtain ⟨y, u, r, rfl, rfl⟩ := xh_inv he; exact fun H locs ls hP hS hl => lv_lushr hexec hb hd rfl (k H locs ls hP hS hl)
  case lcmp => obtain ⟨y, u, r, rfl, rfl⟩ := xcmp_inv he; exact fun H locs ls hP hS hl => W.lcmp hexec hb hd (k H locs ls hP hS hl)
  case dup => obtain ⟨u, r, rfl, h1, rfl⟩ := xdup_inv he; exact fun H locs ls hP hS hl => lv_dup hexec hb hd (c1_ok h1 a) (k H locs ls hP hS hl)
  case pop => obtain ⟨u, r, rfl, h1, rfl⟩ := xpop_inv he; exact fun H locs ls hP hS hl => lv_pop hexec hb hd (c1_ok h1 a) (k H locs ls hP hS hl)
  case dup2 =>
    rcases xdup2_inv he with ⟨y, r, rfl, rfl⟩ | ⟨u, t, r, rfl, h1, h2, rfl⟩
    · exact fun H locs ls hP hS hl => lv_dup2_2 hexec hb hd rfl (k H locs ls hP hS hl)
    · exact fun H locs ls hP hS hl => lv_dup2_11 hexec hb hd (c1_ok h1 a) (c1_ok h2 a) (k H locs ls hP hS hl)
  case getfield n =>
    obtain ⟨i, r, ci, q, fs, f, rfl, h1, h2, h3, rfl⟩ := xget_inv he
    obtain ⟨cl, c1, c2, c3⟩ := lk_ok h1
    obtain ⟨cn, ct, cN⟩ := cl
    exact fun H locs ls hP hS hl => va_get (ci := ci) (C := cn) (T := ct) (N := cN) hexec hb hts (cl_ok c1).1 hown hK hP i (wld_at h2) c1 q c2 (hts _ c3) (fun _ h9 => h9) (by rw [List.getElem?_mapIdx, h3]; rfl) hd (k H locs ls hP hS hl)
  case putfield n =>
    obtain ⟨u, i, r, ci, q, fs, f, σ', rfl, h1, h2, h3, h4, rfl⟩ := xput_inv he
    obtain ⟨cl, c1, c2, c3⟩ := lk_ok h1
    obtain ⟨cl', d1, d2, d3, d4, d5⟩ := sh_ok h2 h3
    obtain rfl : cl' = cl := Option.some.inj (d1.symm.trans c1)
    obtain ⟨cn, ct, cN⟩ := cl'
    obtain ⟨g1, g2, g3⟩ := xpv_fit h4 d4 a
    intro H locs ls hP hS hl
    refine va_put (ci := ci) (C := cn) (T := ct) (N := cN) (v := ren a u) hexec hb hts (cl_ok c1).1 (kYt ci) (cl_ok c1).2.1 (cl_ok c1).2.2 hown hK hP (wld_D hinj) hS i (wld_at h2) c1 q c2 (hts _ c3) (fun _ h9 => h9) (d5 g3) ((cl_ok c1).2.1 q c2) g1 g2 (by rw [List.length_mapIdx, d2]; exact d3) hd (fun H1 locs1 hP1 _ hS1 => ?_)
    rw [xpv_ok (ty := .int) h2 h3 h4] at hP1
    exact k H1 locs1 ls hP1 hS1 hl
  case arraylength =>
    obtain ⟨i, r, t, n, rfl, h1, rfl⟩ := xlen_inv he
    have ht := sh_arr h1
    have ht2 : (tyL cA)[t]? = some (cA t, ((tyL cA)[t]?.getD (cA 0, .int)).2) := by
      match t, ht with
      | 0, _ => rfl
      | 1, _ => rfl
      | 2, _ => rfl
    exact fun H locs ls hP hS hl => va_alen hexec hb hK hP i t (wld_at h1) ht2 rfl hd (k H locs ls hP hS hl)
  case iaload =>
    obtain ⟨y, i, r, n, rfl, h1, h2, rfl⟩ := xald_inv he
    exact fun H locs ls hP hS hl => va_iald hexec hb hK hP i 0 (wld_at h1) rfl h2 hd (k H locs ls hP hS hl)
  case iastore =>
    obtain ⟨u, y, i, r, n, rfl, h1, h2, rfl⟩ := xast_inv he
    intro H locs ls hP hS hl
    refine va_iast hexec hb hK hP (wld_D hinj) hS i 0 (wld_at h1) rfl h2 hd (fun H1 locs1 hP1 _ hS1 => ?_)
    have e1 : upd (gI σ i) y.toNatClampNeg u = gI (sA σ i y u) i := by
      funext q
      unfold upd sA
      by_cases e : q = y.toNatClampNeg
      · subst e; rw [if_pos rfl, gI_eq]
      · rw [if_neg e, gI_ne (fun z => e z.2)]
    rw [e1] at hP1
    have e2 : (wld a cA σ).set i (cel a cA (sA σ i y u) i (.inr (0, n))) = wld a cA (sA σ i y u) := wld_set h1 (fun j z n => cel_sI_ne n)
    have e3 : cel a cA (sA σ i y u) i (.inr (0, n)) = (a i, .inl (cA 0, n, .inl (gI (sA σ i y u) i))) := rfl
    rw [e3] at e2
    rw [e2] at hP1
    exact k H1 locs1 ls hP1 hS1 hl
theorem exs_ok {x : CX} {own : Nat} {cc : ByteArray} (hx : Cx own cc x) (is : List Itm) : ∀ (pc : Nat) (lo : List (Option Value)) (st : List Value) (σ : Sg) (z : List (Option Value) × List Value × Sg), decs own cc pc is = true → exs own is lo st σ = some z → G x (pcs pc is) z.1 z.2.1 z.2.2 → G x pc lo st σ := by
  induction is with
  | nil =>
    intro pc lo st σ z _ he k
    have e : (lo, st, σ) = z := Option.some.inj he
    subst e
    exact k
  | cons q r ih =>
    intro pc lo st σ z hd he k
    unfold decs at hd
    simp only [Bool.and_eq_true, decide_eq_true_eq] at hd
    unfold exs at he
    cases h1 : ex own q.1 q.2.1 q.2.2 lo st σ with
    | none => rw [h1] at he; cases he
    | some z1 =>
      rw [h1] at he
      exact ex_ok hx hd.1 hd.2.1 h1 (ih _ _ _ _ z hd.2.2 he k)
theorem g_run {x : CX} {own : Nat} {cc : ByteArray} (hx : Cx own cc x) (is : List Itm) {pc pc' : Nat} {lo lo' : List (Option Value)} {st st' : List Value} {σ σ' : Sg} (hd : decs own cc pc is = true) (hp : pcs pc is = pc') (he : exs own is lo st σ = some (lo', st', σ')) (k : G x pc' lo' st' σ') : G x pc lo st σ := by
  subst hp
  exact exs_ok hx is pc lo st σ _ hd he k
