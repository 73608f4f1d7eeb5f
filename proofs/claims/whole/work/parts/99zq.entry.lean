section ENTRB
variable {s : State} {args : Array Value} {A : Nat → Prop}
theorem st_inj : ∀ i j : Fin 20, Int32.ofNat (strLen.getD i.val 0) = Int32.ofNat (strLen.getD j.val 0) → (∀ k : Fin 8, k.val < strLen.getD i.val 0 → k.val < strLen.getD j.val 0 → (strByt.getD i.val []).getD k.val 0 = (strByt.getD j.val []).getD k.val 0) → i = j := by decide +kernel
theorem en_str (hs : ∀ c ∈ nfl, c.before args s = true) (hA : ∀ a : Nat, a < s.heap.size → ¬ A a) : ∃ aK aV : Nat → Nat, vk_S 20 strLen strByt aK aV A s s.heap ∧ ∀ i : Nat, i < 20 → (tmS i).eval args s none [] s = some (.ref (aK i)) := by
  have h0 : ∀ i : Nat, ∃ q : Nat × Nat, i < 20 → (tmS i).eval args s none [] s = some (.ref q.1) ∧ va_O "java/lang/String" q.1 A s s.heap ∧ va_OF "java/lang/String" "code\x72" "B" (.int 0) q.1 A s s.heap ∧ va_OF "java/lang/String" "value" "[B" (.ref q.2) q.1 A s s.heap ∧ va_T .byte q.2 (strLen.getD i 0) (fun j => .int ((strByt.getD i []).getD j 0)) A s s.heap := by
    intro i
    by_cases hi : i < 20
    · obtain ⟨t1, t2, t3, t4, t5, -⟩ := st_tab ⟨i, hi⟩
      have h8 : strLen.getD i 0 ≤ 8 := (wlen_8 hi).2
      obtain ⟨aK, aV, hS, hE⟩ := vk_Sof (args := args) (s := s) (N := 1) (tm := fun _ => tmS i) (len := [strLen.getD i 0]) (byt := [strByt.getD i []]) (A := A)
        (fun k hk => by obtain rfl : k = 0 := (by omega); show strLen.getD i 0 < 2 ^ 31; omega) (fun k hk => hs _ (wat_mem t1)) (fun k hk => hs _ (wat_mem t2)) (fun k hk => hs _ (wat_mem t3)) (fun k hk => by obtain rfl : k = 0 := (by omega); exact hs _ (wat_mem t4))
        (fun k hk j hj => by obtain rfl : k = 0 := (by omega); exact hs _ (wat_mem (t5 ⟨j, by have : j < strLen.getD i 0 := hj; omega⟩ hj))) (fun k j hk hj hne => absurd (show k = j by omega) hne) hA
      exact ⟨(aK 0, aV 0), fun _ => ⟨hE 0 (by omega), hS.1 0 (by omega)⟩⟩
    · exact ⟨(0, 0), fun h => absurd h hi⟩
  obtain ⟨ad, had⟩ := Classical.axiomOfChoice h0
  refine ⟨fun i => (ad i).1, fun i => (ad i).2, ⟨fun i hi => (had i hi).2, fun i j hi hj e => ?_⟩, fun i hi => (had i hi).1⟩
  obtain ⟨-, -, -, ⟨cf, k, x, f, cell, g1, g2, g3, g4, g5, g6⟩, T1⟩ := had i hi
  obtain ⟨-, -, -, ⟨cf', k', x', f', cell', g1', g2', g3', g4', g5', g6'⟩, T2⟩ := had j hj
  dsimp only at e
  rw [e] at g3
  cases g3.symm.trans g3'
  cases g1.symm.trans g1'
  have e2 : (ad i).2 = (ad j).2 := by
    have := Option.some.inj (g5.symm.trans g5')
    exact Value.ref.inj this
  obtain ⟨c1, p1, -, -, p4, p5, p6, -⟩ := T1
  obtain ⟨c2, q1, -, -, q4, q5, q6, -⟩ := T2
  rw [e2] at p1
  cases p1.symm.trans q1
  have := st_inj ⟨i, hi⟩ ⟨j, hj⟩ (p5.symm.trans q5) (fun k hk1 hk2 => by
    have := (p6 k.val hk1).symm.trans (q6 k.val hk2)
    cases hx : (strByt.getD i []).getD k.val 0 == (strByt.getD j []).getD k.val 0 with
    | true => exact eq_of_beq hx
    | false =>
      exfalso
      have h2 : (Value.int ((strByt.getD i []).getD k.val 0)) = Value.int ((strByt.getD j []).getD k.val 0) := Option.some.inj this
      rw [Value.int.inj h2] at hx
      simp at hx)
  exact congrArg Fin.val this
theorem en_ref (hts : ∀ w ∈ lw_tbl, w.before args s = true) (hs : ∀ c ∈ nfl, c.before args s = true) {aK : Nat → Nat} (hE : ∀ i : Nat, i < 20 → (tmS i).eval args s none [] s = some (.ref (aK i))) : ∀ q ∈ strL, vk_R (kR q.1) q.2.1 (strTx.getD q.2.2 "") (aK q.2.2) s := by
  intro q hq
  rw [← st_rez] at hq
  obtain ⟨z, hz, rfl⟩ := List.mem_map.mp hq
  have h := List.all_eq_true.mp st_ref z hz
  simp only [Bool.and_eq_true, Bool.or_eq_true, decide_eq_true_eq] at h
  obtain ⟨h1, h2, h3⟩ := h
  refine vk_R.of (hts _ (wat_mem h1)) ?_
  rcases h3 with ⟨e1, e2⟩ | ⟨e1, e2⟩
  · rw [e1, e2]; exact hE _ h2
  · rw [e1, e2]; exact va_eqR (hs _ (wat_mem (st_tab ⟨z.1.2.2, h2⟩).2.2.2.2.2)) (hE _ h2)
theorem en_nst (hts : ∀ w ∈ lw_tbl, w.before args s = true) : ∀ q ∈ nstL, va_Nw (.methodLinkNest (kR q.1) q.2.1 q.2.2 "SevenLeague") s := by
  intro q hq
  rw [← st_nez] at hq
  obtain ⟨z, hz, rfl⟩ := List.mem_map.mp hq
  exact va_Nw.of rfl (hts _ (wat_mem (List.all_eq_true.mp st_nst z hz)))
theorem en_room (hts : ∀ w ∈ lw_tbl, w.before args s = true) (hs : ∀ c ∈ nfl, c.before args s = true) (hA : ∀ a : Nat, a < s.heap.size → ¬ A a) : ∃ t : Nat, va_Z "SevenLeague$Reade\x72" "ROOM" "[I" (.ref t) A s s.heap ∧ va_T .int t 7 (fun j => .int (roomL.getD j 0)) A s s.heap := by
  obtain ⟨t, ht, hT⟩ := va_Tof (args := args) (s := s) (tm := .static "SevenLeague$Reade\x72" "ROOM" "[I") (ty := .int) (N := 7) (f := fun j => .int (roomL.getD j 0)) (A := A) (by decide) (hs _ wn_ra) (va_eqt (hs _ wn_rl)) (fun j hj => va_eqt (hs _ (wat_mem (wn_re ⟨j, hj⟩)))) hA
  exact ⟨t, va_Zof (hts _ wl_ro) (hts _ wi_ro) ht hA, hT⟩
theorem en_led (hts : ∀ w ∈ lw_tbl, w.before args s = true) (hs : ∀ c ∈ nfl, c.before args s = true) (hA : ∀ a : Nat, a < s.heap.size → ¬ A a) : LedE A s s.heap := by
  refine ⟨fun w hw => ?_, vx_Zqof (hts _ wl_us) (hts _ wi_th) (hs _ wn_us) hA, vx_Zqof (hts _ wl_ss) (hts _ wi_th) (hs _ wn_ss) hA⟩
  have h := List.all_eq_true.mp st_led w hw
  simp only [Bool.and_eq_true, decide_eq_true_eq] at h
  exact va_Nw.of h.1 (hts _ h.2)
theorem en_arr {ty : FieldType} (h : (Cond.arrayClass ty).before args s = true) : ∃ cA : ClassId, ArrOfT s cA ty ∧ s.vm.findClass ("[" ++ ty.toString) = some cA := by
  obtain ⟨cA, kA, comp, hf, hk, hkind⟩ := Cond.arrayClass_spec h
  exact ⟨cA, fun n z => ⟨fun k h => (by cases h), kA, hk, comp, hkind⟩, hf⟩
theorem en_cls (hts : ∀ w ∈ lw_tbl, w.before args s = true) : ∃ (dC : Nat → ClassId) (dI : Nat → Nat → Nat) (cA : Nat → ClassId), va_K (dC, dI) vCl (tyL cA) s := by
  have htg : ∀ w ∈ gws, w.before args s = true := fun w hw => hts w (List.mem_filter.mp hw).1
  obtain ⟨c0, i0, h0⟩ := u_known (C := kR 0) (T := kT_0) (N := 6) (n := 6) htg kU_0 (hts _ wk_0)
  obtain ⟨c1, i1, h1⟩ := u_known (C := kR 1) (T := kT_1) (N := 15) (n := 15) htg kU_1 (hts _ wk_1)
  obtain ⟨c2, i2, h2⟩ := u_known (C := kR 2) (T := kT_2) (N := 3) (n := 3) htg kU_2 (hts _ wk_2)
  obtain ⟨c3, i3, h3⟩ := u_known (C := kR 3) (T := kT_3) (N := 2) (n := 2) htg kU_3 (hts _ wk_3)
  obtain ⟨c4, i4, h4⟩ := u_known (C := kR 4) (T := kT_4) (N := 12) (n := 12) htg kU_4 (hts _ wk_4)
  obtain ⟨c5, i5, h5⟩ := u_known (C := kR 5) (T := kT_5) (N := 14) (n := 14) htg kU_5 (hts _ wk_5)
  obtain ⟨c6, i6, h6⟩ := u_known (C := kR 6) (T := kT_6) (N := 5) (n := 5) htg kU_6 (hts _ wk_6)
  obtain ⟨c7, i7, h7⟩ := u_known (C := kR 7) (T := kT_7) (N := 5) (n := 5) htg kU_7 (hts _ wk_7)
  obtain ⟨c8, i8, h8⟩ := u_known (C := kR 8) (T := kT_8) (N := 6) (n := 6) htg kU_8 (hts _ wk_8)
  obtain ⟨c9, i9, h9⟩ := u_known (C := kR 9) (T := kT_9) (N := 11) (n := 11) htg kU_9 (hts _ wk_9)
  obtain ⟨c10, i10, h10⟩ := u_known (C := kR 10) (T := kT_10) (N := 52) (n := 52) htg kU_10 (hts _ wk_10)
  obtain ⟨a0, p0, q0⟩ := en_arr (hts _ wa_i)
  obtain ⟨a1, p1, q1⟩ := en_arr (hts _ wa_b)
  obtain ⟨a2, p2, q2⟩ := en_arr (hts _ wa_l)
  refine ⟨fun k => match k with | 0 => c0 | 1 => c1 | 2 => c2 | 3 => c3 | 4 => c4 | 5 => c5 | 6 => c6 | 7 => c7 | 8 => c8 | 9 => c9 | _ => c10, fun k => match k with | 0 => i0 | 1 => i1 | 2 => i2 | 3 => i3 | 4 => i4 | 5 => i5 | 6 => i6 | 7 => i7 | 8 => i8 | 9 => i9 | _ => i10, fun k => match k with | 0 => a0 | 1 => a1 | _ => a2, fun c q hq => ?_, fun k q hq => ?_⟩
  · match c, hq with
    | 0, hq => cases hq; exact h0
    | 1, hq => cases hq; exact h1
    | 2, hq => cases hq; exact h2
    | 3, hq => cases hq; exact h3
    | 4, hq => cases hq; exact h4
    | 5, hq => cases hq; exact h5
    | 6, hq => cases hq; exact h6
    | 7, hq => cases hq; exact h7
    | 8, hq => cases hq; exact h8
    | 9, hq => cases hq; exact h9
    | 10, hq => cases hq; exact h10
    | n + 11, hq => simp [vCl] at hq
  · match k, hq with
    | 0, hq => cases hq; exact ⟨p0, q0⟩
    | 1, hq => cases hq; exact ⟨p1, q1⟩
    | 2, hq => cases hq; exact ⟨p2, q2⟩
    | n + 3, hq => simp [tyL] at hq
end ENTRB
