/-! ===== text constants, the fixed row ROOM ===== -/
def slen (w : Nat) : Int32 := nI (strLen.getD w 0) >>> ((0 : Int32) &&& 31)
def sbyt (w : Nat) (i : Int32) : Int32 := (strByt.getD w []).getD i.toNatClampNeg 0
def schr (w : Nat) (i : Int32) : Int32 := ((sbyt w i &&& 255).toUInt32 % 65536).toInt32
def roomV (i : Int32) : Int32 := roomL.getD i.toNatClampNeg 0
section STRS
variable {x : CX} {own : Nat} {cc : ByteArray} {y : EX} {nL d pc : Nat} {lo : List (Option Value)} {st : List Value} {σ : Sg}
theorem g_ldcS {idx sid : Nat} (hx : Cx own cc x) (hc : Cc y nL d x) (hm : (own, idx, sid) ∈ strL) (hd : decode cc pc = .ok (.ldc idx, 2)) (k : G x (pc + 2) lo (.ref (100 + sid) :: st) σ) : G x pc lo st σ := by
  obtain ⟨⟨p, l, e, R, s, m, args, below, meth, c⟩, ⟨a, cA, D, ⟨cells, slots⟩, Q⟩⟩ := x
  obtain ⟨hexec, hb, hown, hts, hK, hinj⟩ := hx
  obtain ⟨rfl, hml, hfr, hlo, hce, hsl, hE9⟩ := hc
  have hz : vk_R (kR own) idx (strTx.getD sid "") (a (100 + sid)) s := hE9.2.2.2.2.1 (own, idx, sid) hm
  generalize strTx.getD sid "" = tx at hz
  intro H locs ls hP hS hl
  have k1 := k H locs ls hP hS hl
  rw [List.map_cons] at k1
  exact va_ldcS (tx := tx) (q := a (100 + sid)) hexec hb hown hz hd k1
theorem g_ldcW {idx sid : Nat} (hx : Cx own cc x) (hc : Cc y nL d x) (hm : (own, idx, sid) ∈ strL) (hd : decode cc pc = .ok (.ldc_w idx, 3)) (k : G x (pc + 3) lo (.ref (100 + sid) :: st) σ) : G x pc lo st σ := by
  obtain ⟨⟨p, l, e, R, s, m, args, below, meth, c⟩, ⟨a, cA, D, ⟨cells, slots⟩, Q⟩⟩ := x
  obtain ⟨hexec, hb, hown, hts, hK, hinj⟩ := hx
  obtain ⟨rfl, hml, hfr, hlo, hce, hsl, hE9⟩ := hc
  have hz : vk_R (kR own) idx (strTx.getD sid "") (a (100 + sid)) s := hE9.2.2.2.2.1 (own, idx, sid) hm
  generalize strTx.getD sid "" = tx at hz
  intro H locs ls hP hS hl
  have k1 := k H locs ls hP hS hl
  rw [List.map_cons] at k1
  intro T hT X
  obtain ⟨t, a1, b1⟩ := k1 T hT X
  exact ⟨t, X.ldcStringW hexec hown (text := tx) (a := a (100 + sid)) hz.1 hz.2 (g := F0 m pc ls (st.map (ren a))) rfl (by rw [hb]; exact hd) t a1, b1⟩
theorem g_sval {w : Nat} (hx : Cx 15 cc x) (hc : Cc y nL d x) (hw : w < 20) (hd : decode cc pc = .ok (.getfield 9, 3)) (k : G x (pc + 3) lo (.ref (200 + w) :: st) σ) : G x pc lo (.ref (100 + w) :: st) σ := by
  have w1 : Cond.fieldLink "java/lang/String" 9 "java/lang/String" "value" "[B" ∈ gws := gw_mem (p := 2113) (by decide +kernel) (by decide +kernel)
  obtain ⟨⟨p, l, e, R, s, m, args, below, meth, c⟩, ⟨a, cA, D, ⟨cells, slots⟩, Q⟩⟩ := x
  obtain ⟨hexec, hb, hown, hts, hK, hinj⟩ := hx
  obtain ⟨rfl, hml, hfr, hlo, hce, hsl, hE9⟩ := hc
  exact fun H locs ls hP hS hl => vk_getf hexec hb (hE9.2.2.2.1.1 w hw).2.2.1 hS hown (hts _ w1) (fun _ h9 => h9) hd (k H locs ls hP hS hl)
theorem g_scod {w : Nat} (hx : Cx 15 cc x) (hc : Cc y nL d x) (hw : w < 20) (hd : decode cc pc = .ok (.getfield 15, 3)) (k : G x (pc + 3) lo (.int 0 :: st) σ) : G x pc lo (.ref (100 + w) :: st) σ := by
  have w1 : Cond.fieldLink "java/lang/String" 15 "java/lang/String" "code\x72" "B" ∈ gws := gw_mem (p := 2114) (by decide +kernel) (by decide +kernel)
  obtain ⟨⟨p, l, e, R, s, m, args, below, meth, c⟩, ⟨a, cA, D, ⟨cells, slots⟩, Q⟩⟩ := x
  obtain ⟨hexec, hb, hown, hts, hK, hinj⟩ := hx
  obtain ⟨rfl, hml, hfr, hlo, hce, hsl, hE9⟩ := hc
  exact fun H locs ls hP hS hl => vk_getf hexec hb (hE9.2.2.2.1.1 w hw).2.1 hS hown (hts _ w1) (fun _ h9 => h9) hd (k H locs ls hP hS hl)
theorem g_scmp (hx : Cx 15 cc x) (hc : Cc y nL d x) (hd : decode cc pc = .ok (.getstatic 38, 3)) (k : G x (pc + 3) lo (.int 1 :: st) σ) : G x pc lo st σ := by
  have w1 : Cond.fieldLink "java/lang/String" 38 "java/lang/String" "COMPACT_STRINGS" "Z" ∈ gws := gw_mem (p := 573) (by decide +kernel) (by decide +kernel)
  obtain ⟨⟨p, l, e, R, s, m, args, below, meth, c⟩, ⟨a, cA, D, ⟨cells, slots⟩, Q⟩⟩ := x
  obtain ⟨hexec, hb, hown, hts, hK, hinj⟩ := hx
  obtain ⟨rfl, hml, hfr, hlo, hce, hsl, hE9⟩ := hc
  exact fun H locs ls hP hS hl => va_gets hexec hb hE9.2.2.2.2.2.1 hS hown (hts _ w1) (fun _ h9 => h9) hd (k H locs ls hP hS hl)
theorem g_sfmt (hx : Cx 15 cc x) (hc : Cc y nL d x) (hd : decode cc pc = .ok (.getstatic 1053, 3)) (k1 : G x (pc + 3) lo (.null :: st) σ) (k2 : G x (pc + 3) lo (.ref 91 :: st) σ) : G x pc lo st σ := by
  have w1 : Cond.fieldLink "java/lang/String" 1053 "jdk/internal/util/Preconditions" "SIOOBE_FORMATTER" "Ljava/util/function/BiFunction;" ∈ gws := gw_mem (p := 589) (by decide +kernel) (by decide +kernel)
  obtain ⟨⟨p, l, e, R, s, m, args, below, meth, c⟩, ⟨a, cA, D, ⟨cells, slots⟩, Q⟩⟩ := x
  obtain ⟨hexec, hb, hown, hts, hK, hinj⟩ := hx
  obtain ⟨rfl, hml, hfr, hlo, hce, hsl, hE9⟩ := hc
  intro H locs ls hP hS hl
  rcases hE9.2.2.2.2.2.2.2.2 with hz | hz
  · exact va_gets hexec hb hz hS hown (hts _ w1) (fun _ h9 => h9) hd (k1 H locs ls hP hS hl)
  · exact va_gets hexec hb hz hS hown (hts _ w1) (fun _ h9 => h9) hd (k2 H locs ls hP hS hl)
theorem g_slenA {w : Nat} (hx : Cx own cc x) (hc : Cc y nL d x) (hw : w < 20) (hd : decode cc pc = .ok (.arraylength, 1)) (k : G x (pc + 1) lo (.int (nI (strLen.getD w 0)) :: st) σ) : G x pc lo (.ref (200 + w) :: st) σ := by
  obtain ⟨⟨p, l, e, R, s, m, args, below, meth, c⟩, ⟨a, cA, D, ⟨cells, slots⟩, Q⟩⟩ := x
  obtain ⟨hexec, hb, hown, hts, hK, hinj⟩ := hx
  obtain ⟨rfl, hml, hfr, hlo, hce, hsl, hE9⟩ := hc
  exact fun H locs ls hP hS hl => va_tlen hexec hb (hE9.2.2.2.1.1 w hw).2.2.2 hS rfl hd (k H locs ls hP hS hl)
theorem g_sbald {w : Nat} {i : Int32} (hx : Cx own cc x) (hc : Cc y nL d x) (hw : w < 20) (hi : vp_in i (strLen.getD w 0)) (hd : decode cc pc = .ok (.baload, 1)) (k : G x (pc + 1) lo (.int (sbyt w i) :: st) σ) : G x pc lo (.int i :: .ref (200 + w) :: st) σ := by
  obtain ⟨⟨p, l, e, R, s, m, args, below, meth, c⟩, ⟨a, cA, D, ⟨cells, slots⟩, Q⟩⟩ := x
  obtain ⟨hexec, hb, hown, hts, hK, hinj⟩ := hx
  obtain ⟨rfl, hml, hfr, hlo, hce, hsl, hE9⟩ := hc
  exact fun H locs ls hP hS hl => va_tb hexec hb (hE9.2.2.2.1.1 w hw).2.2.2 hS hi rfl hd (k H locs ls hP hS hl)
theorem g_room (hx : Cx 5 cc x) (hc : Cc y nL d x) (hd : decode cc pc = .ok (.getstatic 126, 3)) (k : G x (pc + 3) lo (.ref 90 :: st) σ) : G x pc lo st σ := by
  have w1 : Cond.fieldLink "SevenLeague$Reade\x72" 126 "SevenLeague$Reade\x72" "ROOM" "[I" ∈ gws := gw_mem (p := 623) (by decide +kernel) (by decide +kernel)
  obtain ⟨⟨p, l, e, R, s, m, args, below, meth, c⟩, ⟨a, cA, D, ⟨cells, slots⟩, Q⟩⟩ := x
  obtain ⟨hexec, hb, hown, hts, hK, hinj⟩ := hx
  obtain ⟨rfl, hml, hfr, hlo, hce, hsl, hE9⟩ := hc
  exact fun H locs ls hP hS hl => va_gets hexec hb hE9.2.2.2.2.2.2.1 hS hown (hts _ w1) (fun _ h9 => h9) hd (k H locs ls hP hS hl)
theorem g_roomlen (hx : Cx own cc x) (hc : Cc y nL d x) (hd : decode cc pc = .ok (.arraylength, 1)) (k : G x (pc + 1) lo (.int (nI 7) :: st) σ) : G x pc lo (.ref 90 :: st) σ := by
  obtain ⟨⟨p, l, e, R, s, m, args, below, meth, c⟩, ⟨a, cA, D, ⟨cells, slots⟩, Q⟩⟩ := x
  obtain ⟨hexec, hb, hown, hts, hK, hinj⟩ := hx
  obtain ⟨rfl, hml, hfr, hlo, hce, hsl, hE9⟩ := hc
  exact fun H locs ls hP hS hl => va_tlen hexec hb hE9.2.2.2.2.2.2.2.1 hS rfl hd (k H locs ls hP hS hl)
theorem g_roomald {i : Int32} (hx : Cx own cc x) (hc : Cc y nL d x) (hi : vp_in i 7) (hd : decode cc pc = .ok (.iaload, 1)) (k : G x (pc + 1) lo (.int (roomV i) :: st) σ) : G x pc lo (.int i :: .ref 90 :: st) σ := by
  obtain ⟨⟨p, l, e, R, s, m, args, below, meth, c⟩, ⟨a, cA, D, ⟨cells, slots⟩, Q⟩⟩ := x
  obtain ⟨hexec, hb, hown, hts, hK, hinj⟩ := hx
  obtain ⟨rfl, hml, hfr, hlo, hce, hsl, hE9⟩ := hc
  exact fun H locs ls hP hS hl => va_ti hexec hb hE9.2.2.2.2.2.2.2.1 hS hi rfl hd (k H locs ls hP hS hl)
theorem g_cret {ρ : Type} {M : MD} {rv : ρ → Option Value} {P : ρ × Sg → Prop} (hx : Cx own cc x) (hr : Cr M rv P x) {ty : FieldType} (ht : M.2.2.2.2 = some ty) {v : Int32} (hn : narrow ty (.int v) = .int v) (r : ρ) (hv : rv r = some (.int v)) (hd : decode cc pc = .ok (.ireturn, 1)) (hP : P (r, σ)) : G x pc lo [.int v] σ := by
  obtain ⟨⟨p, l, e, R, s, m, args, below, meth, c⟩, ⟨a, cA, D, ⟨cells, slots⟩, Q⟩⟩ := x
  obtain ⟨hexec, hb, hown, hts, hK, hinj⟩ := hx
  obtain ⟨h1, hlocks, rfl, rfl, rfl⟩ := hr
  exact fun H locs ls hP1 hS hl => W.zret (v := v) (ty := ty) hexec hb (h1.trans ht) hn (fun t ht hW => ⟨⟨r, σ, by rw [hv]; rfl, hP, by rw [ht]; exact hP1⟩, hS.F ht⟩) hS.2.2 hd hlocks
end STRS
theorem g_callT {ρ : Type} {x : CX} {own : Nat} {cc : ByteArray} {y : EX} {nL d d' idx pc w : Nat} {M : MD} {lo : List (Option Value)} {rest : List Value} {σ : Sg} {rv : ρ → Option Value} {P : ρ × Sg → Prop} (As : List Value) (hx : Cx own cc x) (hc : Cc y nL d x) (hM : Mok M As.length) (h15 : M.1 = 15) (hl : LnV own idx M) (hw : w < 20) (hd : decode cc pc = .ok (.invokevirtual idx, 3)) (hdd : d' + 1 ≤ d) (hst : (rest.map fun v => v.category).sum ≤ 8) (hE : Ev y M d' (.ref (100 + w) :: As) σ rv P)
    (k : ∀ r σ', P (r, σ') → G x (pc + 3) lo ((rv r).toList ++ rest) σ') : G x pc lo (As.reverse ++ .ref (100 + w) :: rest) σ := by
  obtain ⟨⟨p, l, e, R, s, m, args, below, meth, c⟩, ⟨a, cA, D, ⟨cells, slots⟩, Q⟩⟩ := x
  obtain ⟨hexec, hb, hown, hts, hK, hinj⟩ := hx
  obtain ⟨rfl, hml, hfr, hlo, hce, hsl, hE9⟩ := hc
  obtain ⟨m1, m2, m3, m4, m5, m6, m7⟩ := hM
  obtain ⟨l1, l2, l3⟩ := hl
  intro H locs ls hP hS hl
  have hst2 : (((rest.map (ren a))).map fun v => v.category).sum ≤ 8 := by rw [cat_ren]; exact hst
  have hin : ∀ z ∈ wsV (kR own) idx (kR M.1) M.2.1 (mws M), z ∈ gws := by
    intro z hz
    unfold wsV at hz
    rcases List.mem_append.mp hz with h | h
    · simp only [List.mem_cons, List.not_mem_nil, or_false] at h
      rcases h with rfl | rfl | rfl | rfl
      · exact l1
      · exact l2
      · exact l3
      · rw [← m5]; exact m2
    · exact mws_in m1 z h
  have hrec : ∃ cell : Cell, H[a (100 + w)]? = some cell ∧ cell.vm.isStatics = false ∧ s.vm.findClass (kR M.1) = some cell.cls := by
    rw [h15]
    exact vk_recv (adK := fun i => a (100 + i)) hE9.2.2.2.1 hw hS
  have hrun := va_runV (e := e) (below := below) (meth := meth) (locs := locs) (g := F0 m pc ls ((As.reverse ++ .ref (100 + w) :: rest).map (ren a))) (As := As.map (ren a)) (rest := rest.map (ren a)) (b := a (100 + w)) (C := kR M.1) (n := As.length) (cells := cells) (slots := slots) ⟨hexec, hb, hml, hown, hts⟩ (hE H.size)
    (cwV As.length hts (gw_in hin) rfl rfl rfl ⟨m5, m6.1, m6.2, m7⟩ ⟨by show d' + 1 ≤ R.frames; omega, by show 8 + (M.2.2.2.1 + 11) + 64 * d' ≤ R.locals; omega⟩)
    ⟨pev_blind, hrec, fun U hU hW => ⟨rfl, by rw [hU], by rw [hU]; exact hE9.to hW hS.2.1 (Aw_sub hS.1), by rw [hU]; exact hP⟩⟩ rfl (by rw [List.length_map]) (hl.1.trans hml) (by simp [ren]) (lv_room hst2) hd ⟨hce, hsl⟩
  refine ev_goes (y := (l, D, a, cA)) hrun hS (fun r σ' H1 locs1 hp hP1 hS1 => ?_)
  rw [opt_ren]
  exact k r σ' hp H1 locs1 ls hP1 hS1 hl
theorem g_zretI {ρ : Type} {x : CX} {own : Nat} {cc : ByteArray} {M : MD} {rv : ρ → Option Value} {P : ρ × Sg → Prop} {pc : Nat} {lo : List (Option Value)} {σ : Sg} (hx : Cx own cc x) (hr : Cr M rv P x) (ht : M.2.2.2.2 = some .boolean) {v : Int32} (c : v = 0 ∨ v = 1) (r : ρ) (hv : rv r = some (.int (b2i (decide (v = 1))))) (hd : decode cc pc = .ok (.ireturn, 1)) (hP : P (r, σ)) : G x pc lo [.int v] σ := by
  have e : v = b2i (decide (v = 1)) := by rcases c with rfl | rfl <;> decide
  rw [show ([.int v] : List Value) = [.int (b2i (decide (v = 1)))] by rw [← e]]
  exact g_zret hx hr ht r hv hd hP
theorem g_bt {x : CX} {pc : Nat} {lo : List (Option Value)} {st : List Value} {σ : Sg} {c : Prop} {D : Decidable c} (hc : c) (k : G x pc lo (.int (b2i (@decide c D)) :: st) σ) : G x pc lo (.int 1 :: st) σ := by
  rw [decide_eq_true hc] at k
  exact k
theorem g_bf {x : CX} {pc : Nat} {lo : List (Option Value)} {st : List Value} {σ : Sg} {c : Prop} {D : Decidable c} (hc : ¬ c) (k : G x pc lo (.int (b2i (@decide c D)) :: st) σ) : G x pc lo (.int 0 :: st) σ := by
  rw [decide_eq_false hc] at k
  exact k
