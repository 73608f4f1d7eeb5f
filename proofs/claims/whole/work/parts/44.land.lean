/-! ===== x.land: country and draft change places; their cells change names ===== -/
def pi (k : Nat) : Nat := if 10 ≤ k ∧ k < 25 then k + 15 else if 25 ≤ k ∧ k < 40 then k - 15 else k
def swc (z : Int32) : Int32 := if z = 10 then 25 else if z = 25 then 10 else z
def sw (σ : Sg) : Sg := (fun i k => if i = 55 ∧ k = 7 then swc (σ.1 55 7) else σ.1 (pi i) k, fun i k => σ.2 (pi i) k)
def mpf (f : Nat × Nat) : Nat × Nat := if f.1 = 2 then (2, pi f.2) else f
def mps (h : Shp) : Shp := match h with
  | .inl o => .inl (o.1, o.2.map mpf)
  | .inr r => .inr r
theorem pi_pi (k : Nat) : pi (pi k) = k := by unfold pi; split <;> split <;> (try split) <;> omega
theorem pi_hi {k : Nat} (h : 40 ≤ k) : pi k = k := by unfold pi; split <;> (try split) <;> omega
theorem pi_lt {k : Nat} (h : k < 86) : pi k < 86 := by unfold pi; split <;> (try split) <;> omega
theorem SH_len : SH.length = 86 := by decide +kernel
set_option maxRecDepth 100000 in
theorem sh_pi : (List.range 86).all (fun k => decide (k = 0) || (decide (k = 1) || decide (SH[pi k]? = (SH[k]?).map mps))) = true := by decide +kernel
set_option maxRecDepth 100000 in
theorem sh_k3 : (SH.zipIdx).all (fun z => match z.1 with | .inl o => (o.2.zipIdx).all (fun f => !(decide (f.1.1 = 3)) || (decide (z.2 = 55) && decide (f.2 = 7))) | .inr _ => true) = true := by decide +kernel
theorem sh_k3' {i k ci : Nat} {fs : List (Nat × Nat)} {r : Nat} (hi : SH[i]? = some (.inl (ci, fs))) (hk : fs[k]? = some (3, r)) : i = 55 ∧ k = 7 := by
  have h := List.all_eq_true.mp sh_k3 (.inl (ci, fs), i) (by rw [List.mem_zipIdx_iff_getElem?]; exact hi)
  have h2 := List.all_eq_true.mp h ((3, r), k) (by rw [List.mem_zipIdx_iff_getElem?]; exact hk)
  simpa using h2
theorem cel_pi {a : Nat → Nat} {cA : Nat → ClassId} {σ : Sg} (hz : gI σ 55 7 = 0 ∨ gI σ 55 7 = 10) {k : Nat} {h : Shp} (hk : SH[k]? = some h) : cel (fun i => a (pi i)) cA (sw σ) k h = cel a cA σ (pi k) (mps h) := by
  rcases h with ⟨c, fs⟩ | ⟨t, n⟩
  · unfold cel mps
    simp only [Prod.mk.injEq, true_and, Sum.inr.injEq]
    apply List.ext_getElem?
    intro j
    rw [List.getElem?_mapIdx, List.getElem?_mapIdx, List.getElem?_map]
    cases hj : fs[j]? with
    | none => rfl
    | some f =>
      obtain ⟨kd, r⟩ := f
      simp only [Option.map_some, Option.some.injEq]
      by_cases e3 : kd = 3
      · subst e3
        obtain ⟨rfl, rfl⟩ := sh_k3' hk hj
        show ren _ (crf (swc (σ.1 55 7))) = ren a (crf (gI σ (pi 55) 7))
        rw [show pi 55 = 55 from rfl]
        have hz' : σ.1 55 7 = 0 ∨ σ.1 55 7 = 10 := hz
        show ren _ (crf (swc (σ.1 55 7))) = ren a (crf (σ.1 55 7))
        rcases hz' with e | e
        · rw [e]; rfl
        · rw [e]
          show ren _ (crf 25) = ren a (crf 10)
          rfl
      · have hne : ¬ (k = 55 ∧ j = 7) ∨ kd = 1 ∨ kd = 2 := by
          by_cases q : k = 55 ∧ j = 7
          · right
            obtain ⟨rfl, rfl⟩ := q
            exfalso
            have hs : SH[55]? = some (.inl (4, [(2, 56), (2, 57), (2, 58), (2, 59), (2, 60), (2, 61), (2, 62), (3, 0), (1, 0), (0, 0), (0, 0), (1, 0)])) := by decide +kernel
            rw [hs] at hk
            cases hk
            cases hj
            exact e3 rfl
          · exact Or.inl q
        unfold fvl mpf
        match kd, e3, hne with
        | 0, _, hne =>
          have hne : ¬ (k = 55 ∧ j = 7) := hne.resolve_right (by omega)
          show Value.int (gI (sw σ) k j) = Value.int (gI σ (pi k) j)
          simp [gI, sw, hne]
        | 1, _, _ => rfl
        | 2, _, _ => rfl
        | 3, e3, _ => exact absurd rfl e3
        | n + 4, _, hne =>
          have hne : ¬ (k = 55 ∧ j = 7) := hne.resolve_right (by omega)
          show ren _ (Value.int (gI (sw σ) k j)) = _
          rw [if_neg (show ¬ (n + 4) = 2 by omega)]
          show ren _ (Value.int (gI (sw σ) k j)) = ren a (Value.int (gI σ (pi k) j))
          simp [gI, sw, hne, ren]
  · unfold cel mps
    have hk55 : k ≠ 55 := by
      rintro rfl
      have hs : SH[55]? = some (.inl (4, [(2, 56), (2, 57), (2, 58), (2, 59), (2, 60), (2, 61), (2, 62), (3, 0), (1, 0), (0, 0), (0, 0), (1, 0)])) := by decide +kernel
      rw [hs] at hk
      cases hk
    have e1 : gI (sw σ) k = gI σ (pi k) := by
      funext j
      show (if k = 55 ∧ j = 7 then _ else _) = _
      rw [if_neg (fun z => hk55 z.1)]
      rfl
    have e2 : gL (sw σ) k = gL σ (pi k) := rfl
    simp only [e1, e2]
abbrev fsX : List (Nat × Nat) := [(2, 1), (2, 10), (2, 40), (2, 41), (2, 42), (2, 49), (0, 0), (2, 55), (2, 63), (2, 65), (0, 0)]
abbrev fsR : List (Nat × Nat) := [(2, 2), (0, 0), (0, 0), (0, 0), (0, 0), (0, 0), (0, 0), (2, 25), (2, 3), (2, 4), (2, 6), (2, 8), (0, 0), (0, 0)]
theorem sh_x : SH[0]? = some (.inl (9, fsX)) := by decide +kernel
theorem sh_r : SH[1]? = some (.inl (5, fsR)) := by decide +kernel
def wsX (a : Nat → Nat) (σ : Sg) : List Value := (fsX.mapIdx (fun k f => ren a (fvl σ 0 k f))).set 1 (.ref (a 25))
def wsR (a : Nat → Nat) (σ : Sg) : List Value := (fsR.mapIdx (fun k f => ren a (fvl σ 1 k f))).set 7 (.ref (a 10))
theorem cel_x {a : Nat → Nat} {cA : Nat → ClassId} {σ : Sg} : cel (fun i => a (pi i)) cA (sw σ) 0 (.inl (9, fsX)) = (a 0, .inr (9, wsX a σ)) := by
  have g1 : ∀ k, gI (sw σ) 0 k = gI σ 0 k := fun k => by simp [gI, sw, pi]
  simp [cel, wsX, fsX, fvl, ren, g1, List.mapIdx_cons, pi]
theorem cel_r {a : Nat → Nat} {cA : Nat → ClassId} {σ : Sg} : cel (fun i => a (pi i)) cA (sw σ) 1 (.inl (5, fsR)) = (a 1, .inr (5, wsR a σ)) := by
  have g1 : ∀ k, gI (sw σ) 1 k = gI σ 1 k := fun k => by simp [gI, sw, pi]
  simp [cel, wsR, fsR, fvl, ren, g1, List.mapIdx_cons, pi]
theorem wld_pi {a : Nat → Nat} {cA : Nat → ClassId} {σ : Sg} {D : va_G} {H : Heap} (hz : gI σ 55 7 = 0 ∨ gI σ 55 7 = 10) (hP : va_P D vCl (((wld a cA σ).set 0 (a 0, .inr (9, wsX a σ))).set 1 (a 1, .inr (5, wsR a σ))) H) : va_P D vCl (wld (fun i => a (pi i)) cA (sw σ)) H := by
  have hlen : (wld a cA σ).length = 86 := by simp [wld, SH_len]
  intro k q hq
  have hk : k < 86 := by
    have := (wld_in hq).1
    rw [SH_len] at this
    exact this
  by_cases h0 : k = 0
  · subst h0
    rw [wld_at sh_x, cel_x] at hq
    have := hP 0 (a 0, .inr (9, wsX a σ)) (by rw [List.getElem?_set_ne (by decide), List.getElem?_set_self (by rw [hlen]; decide)])
    cases hq
    exact this
  · by_cases h1 : k = 1
    · subst h1
      rw [wld_at sh_r, cel_r] at hq
      have := hP 1 (a 1, .inr (5, wsR a σ)) (by rw [List.getElem?_set_self (by rw [List.length_set, hlen]; decide)])
      cases hq
      exact this
    · have h := List.all_eq_true.mp sh_pi k (List.mem_range.mpr hk)
      simp only [Bool.or_eq_true, decide_eq_true_eq, h0, h1, false_or] at h
      cases hs : SH[k]? with
      | none => rw [List.getElem?_eq_none_iff, SH_len] at hs; omega
      | some z =>
        rw [hs] at h
        rw [wld_at hs, cel_pi hz hs] at hq
        have hp0 : pi k ≠ 0 := by unfold pi; split <;> (try split) <;> omega
        have hp1 : pi k ≠ 1 := by unfold pi; split <;> (try split) <;> omega
        refine hP (pi k) q ?_
        rw [List.getElem?_set_ne (fun e => hp1 e.symm), List.getElem?_set_ne (fun e => hp0 e.symm), wld_at h]
        exact hq
theorem Aw_pi (a : Nat → Nat) (sz : Nat) : Aw (fun i => a (pi i)) sz = Aw a sz := by
  funext q
  unfold Aw
  apply propext
  constructor
  · rintro (⟨i, hi, rfl⟩ | h)
    · exact Or.inl ⟨pi i, by rw [SH_len] at hi ⊢; exact pi_lt hi, rfl⟩
    · exact Or.inr h
  · rintro (⟨i, hi, rfl⟩ | h)
    · exact Or.inl ⟨pi i, by rw [SH_len] at hi ⊢; exact pi_lt hi, by show a i = a (pi (pi i)); rw [pi_pi]⟩
    · exact Or.inr h
theorem Inj_pi {a : Nat → Nat} (h : Inj a) : Inj (fun i => a (pi i)) := by
  intro i j hi hj e
  rw [SH_len] at hi hj
  have := h (pi i) (pi j) (by rw [SH_len]; exact pi_lt hi) (by rw [SH_len]; exact pi_lt hj) e
  rw [← pi_pi i, this, pi_pi]
theorem Env9_pi {a : Nat → Nat} {cA : Nat → ClassId} {D : va_G} {A : Nat → Prop} {U : State} {H : Heap} (h : Env9 a cA D A U H) : Env9 (fun i => a (pi i)) cA D A U H := by
  obtain ⟨h1, h2, h3, h4, h5, h6, h7, h8, h9⟩ := h
  have e1 : (fun i => a (pi (100 + i))) = (fun i => a (100 + i)) := funext fun i => by rw [pi_hi (by omega)]
  have e2 : (fun i => a (pi (200 + i))) = (fun i => a (200 + i)) := funext fun i => by rw [pi_hi (by omega)]
  refine ⟨h1, Inj_pi h2, h3, ?_, fun q hq => ?_, h6, h7, h8, h9⟩
  · show vk_S 20 strLen strByt (fun i => a (pi (100 + i))) (fun i => a (pi (200 + i))) A U H
    rw [e1, e2]
    exact h4
  · have := h5 q hq
    show vk_R _ _ _ (a (pi (100 + q.2.2))) U
    rw [pi_hi (by omega)]
    exact this
/-- the context with the names of the cells changed -/
def xpi (x : CX) : CX := (x.1, (fun i => x.2.1 (pi i)), x.2.2)
def ey (x : CX) : EX := (x.1.2.1, x.2.2.2.1, x.2.1, x.2.2.1)
theorem Cx_pi {x : CX} {own : Nat} {cc : ByteArray} (h : Cx own cc x) : Cx own cc (xpi x) := by
  obtain ⟨⟨p, l, e, R, s, m, args, below, meth, c⟩, ⟨a, cA, D, ⟨cells, slots⟩, Q⟩⟩ := x
  obtain ⟨hexec, hb, hown, hts, hK, hinj⟩ := h
  exact ⟨hexec, hb, hown, hts, hK, Inj_pi hinj⟩
theorem Cc_pi {x : CX} {nL d : Nat} (h : Cc (ey x) nL d x) : Cc (ey (xpi x)) nL d (xpi x) := by
  obtain ⟨⟨p, l, e, R, s, m, args, below, meth, c⟩, ⟨a, cA, D, ⟨cells, slots⟩, Q⟩⟩ := x
  obtain ⟨-, hml, hfr, hlo, hce, hsl, hE9⟩ := h
  refine ⟨rfl, hml, hfr, hlo, hce, hsl, ?_⟩
  rw [Aw_pi]
  exact Env9_pi hE9
set_option maxHeartbeats 4000000 in
theorem g_swap {x : CX} {nL d : Nat} {v1 : Int32} {σ : Sg} (hx : Cx 9 prog_1_method_3_code x) (hc : Cc (ey x) nL d x) (hz : gI σ 55 7 = 0 ∨ gI σ 55 7 = 10) (k : G (xpi x) 85 [some (.ref 0), some (.int v1), none] [] (sw σ)) : G x 66 [some (.ref 0), some (.int v1), some (.ref 10)] [] σ := by
  refine g_run hx [(.aload_n 0, 0, 0), (.aload_n 0, 0, 0), (.getfield 10, 0, 0), (.getfield 93, 0, 0)] (pc' := 74) (lo' := [some (.ref 0), some (.int v1), some (.ref 10)]) (st' := [.ref 25, .ref 0]) (σ' := σ) (by decide +kernel) rfl rfl ?_
  have l1 : lk 9 19 = some (9, 1) := by decide +kernel
  have l2 : lk 9 10 = some (9, 0) := by decide +kernel
  have l3 : lk 9 93 = some (5, 7) := by decide +kernel
  obtain ⟨⟨p, l, e, R, s, m, args, below, meth, c⟩, ⟨a, cA, D, ⟨cells, slots⟩, Q⟩⟩ := x
  obtain ⟨hexec, hb, hown, hts, hK, hinj⟩ := hx
  intro H locs ls hP hS hl
  obtain ⟨cl1, c1, c2, c3⟩ := lk_ok l1
  obtain ⟨cl2, d1, d2, d3⟩ := lk_ok l2
  obtain ⟨cl3, f1, f2, f3⟩ := lk_ok l3
  obtain rfl : cl1 = (kR 9, kT_9, 11) := Option.some.inj (c1.symm.trans rfl)
  obtain rfl : cl2 = (kR 9, kT_9, 11) := Option.some.inj (d1.symm.trans rfl)
  obtain rfl : cl3 = (kR 5, kT_5, 14) := Option.some.inj (f1.symm.trans rfl)
  refine va_put (ci := 9) (C := kR 9) (T := kT_9) (N := 11) (v := .ref (a 25)) (ty := kY_9 1) hexec hb hts (cl_ok c1).1 (kYt 9) (cl_ok c1).2.1 (cl_ok c1).2.2 hown hK hP (wld_D hinj) hS 0 (wld_at sh_x) c1 1 c2 (hts _ c3) (fun _ h9 => h9) rfl (by decide +kernel) rfl rfl (by rw [List.length_mapIdx]; decide) (show decode prog_1_method_3_code 74 = .ok (.putfield 19, 3) from by decide +kernel) (fun H1 locs1 hP1 hD1 hS1 => ?_)
  have hlen : (wld a cA σ).length = 86 := by simp [wld, SH_len]
  refine lv_aload_n hexec hb (show decode prog_1_method_3_code 77 = .ok (.aload_n 0, 1) from by decide +kernel) rfl (hl.2.2.2 0 (.ref 0) rfl) ?_
  refine va_get (ci := 9) (C := kR 9) (T := kT_9) (N := 11) (v := .ref (a 1)) hexec hb hts (cl_ok d1).1 hown hK hP1 0 (List.getElem?_set_self (by rw [hlen]; decide)) d1 0 d2 (hts _ d3) (fun _ h9 => h9) rfl (show decode prog_1_method_3_code 78 = .ok (.getfield 10, 3) from by decide +kernel) ?_
  refine lv_aload_n hexec hb (show decode prog_1_method_3_code 81 = .ok (.aload_n 2, 1) from by decide +kernel) rfl (hl.2.2.2 2 (.ref 10) rfl) ?_
  refine va_put (ci := 5) (C := kR 5) (T := kT_5) (N := 14) (v := .ref (a 10)) (ty := kY_5 7) hexec hb hts (cl_ok f1).1 (kYt 5) (cl_ok f1).2.1 (cl_ok f1).2.2 hown hK hP1 hD1 hS1 1 ((List.getElem?_set_ne (by decide)).trans (wld_at sh_r)) f1 7 f2 (hts _ f3) (fun _ h9 => h9) rfl (by decide +kernel) rfl rfl (by rw [List.length_mapIdx]; decide) (show decode prog_1_method_3_code 82 = .ok (.putfield 93, 3) from by decide +kernel) (fun H2 locs2 hP2 hD2 hS2 => ?_)
  have hP3 := wld_pi hz hP2
  exact k H2 locs2 ls hP3 (by rw [Aw_pi]; exact hS2) ⟨hl.1, hl.2.1, hl.2.2.1, fun i v hv => by
    match i, hv with
    | 0, hv => cases hv; exact hl.2.2.2 0 (.ref 0) rfl
    | 1, hv => cases hv; exact hl.2.2.2 1 (.int v1) rfl
    | 2, hv => cases hv
    | n + 3, hv => simp at hv⟩
