/-- the context behind a call of led: room for one cell of six slots is gone -/
def xled (x : CX) : CX := (x.1, (x.2.1, x.2.2.1, x.2.2.2.1, (x.2.2.2.2.1.1 + 1, x.2.2.2.2.1.2 + 6), x.2.2.2.2.2))
def LedX (x : CX) : Prop := match x with
  | ((_, l, _, R, s, _, _, _, _, _), (a, _, _, (cells, slots), _)) => LedE (Aw a s.heap.size) s s.heap ∧ l.stackTraces = false ∧ cells + 1 ≤ R.cells ∧ slots + 6 ≤ R.slots
theorem g_led {x : CX} {cc : ByteArray} {nL d pc : Nat} {lo : List (Option Value)} {rest : List Value} {σ : Sg} {v : Int32} {P : Int32 × Sg → Prop} (hx : Cx 11 cc x) (hc : Cc (ey x) nL d x) (hq : LedX x) (hdd : 10 ≤ d) (hd : decode cc pc = .ok (.invokestatic 260, 3)) (hst : (rest.map fun v => v.category).sum ≤ 8) (hE : EvD (ey x) v σ P)
    (k : ∀ r σ', P (r, σ') → G (xled x) (pc + 3) lo (.int r :: rest) σ') : G x pc lo (.ref 85 :: .int v :: .ref 0 :: rest) σ := by
  have w1 : Cond.methodLink (kR 11) 260 yLed ∈ gws := gw_mem (p := 1334) (by decide +kernel) (by decide +kernel)
  have w2 : Cond.static yLed ∈ gws := gw_mem (p := 1335) (by decide +kernel) (by decide +kernel)
  have w3 : Cond.initialized yLed.cls ∈ gws := gw_mem (p := 105) (by decide +kernel) (by decide +kernel)
  obtain ⟨⟨p, l, e, R, s, m, args, below, meth, c⟩, ⟨a, cA, D, ⟨cells, slots⟩, Q⟩⟩ := x
  obtain ⟨hexec, hb, hown, hts, hK, hinj⟩ := hx
  obtain ⟨-, hml, hfr, hlo, hce, hsl, hE9⟩ := hc
  obtain ⟨hled, htr, hc1, hs1⟩ := hq
  intro H locs ls hP hS hl
  have hst2 : (((rest.map (ren a))).map fun v => v.category).sum ≤ 8 := by rw [cat_ren]; exact hst
  have hcw : vx_CSW R s args (kR 11) 260 yLed method_3_code 4 (some .int) hLed wLed (rmL 2) 1 6 3 := by
    refine ⟨⟨rfl, rfl, by show 10 ≤ R.frames; omega, by show 8 + (4 + 11) + 64 * 9 ≤ R.locals; omega, pay_in hts (gw_in (fun w hw => (List.mem_cons.mp hw).elim (fun e => e ▸ led_code) id)), List.mem_cons_self⟩, hts _ led_code, hts _ w3, ⟨by decide +kernel, by decide +kernel⟩, fun sig h => ?_, hts _ w1, hts _ w2⟩
    have h2 : (parseMethodDescriptor yLed.desc).map (fun d => d.parameters.length) = some 3 := by decide +kernel
    rw [h] at h2
    exact (Option.some.inj h2).symm
  have hrun := vx_runSW (e := e) (below := below) (meth := meth) (locs := locs) (g := F0 m pc ls ((Value.ref 85 :: .int v :: .ref 0 :: rest).map (ren a))) (As := [.ref (a 0), .int v, .ref (a 85)]) (rest := rest.map (ren a)) (n := 3) (cells := cells) (slots := slots) ⟨hexec, hb, hml, hown, hts⟩ (hE htr H.size) hcw
    ⟨pevX_blind, fun U hU hW => ⟨rfl, by rw [hU], ⟨by rw [hU]; exact hE9.to hW hS.2.1 (Aw_sub hS.1), by rw [hU]; exact hled.to hW hS.2.1 (Aw_sub hS.1)⟩, by rw [hU]; exact hP⟩⟩ rfl rfl (hl.1.trans hml) rfl (lv_room hst2) hd ⟨hc1, hs1⟩
  intro T hT X
  obtain ⟨v', st₀, t, T', L, h0, X', hL, e1, e2, ⟨⟨r, σ', hv, hp, hP1⟩, hz, hk⟩, st⟩ := hrun T hT X
  cases hv
  rw [h0] at hz hk
  have hsub := Aw_sub (a := a) hS.1
  have hS1 : va_S (Aw a s.heap.size) s.heap T'.heap (locs ++ L) := by
    refine ⟨Nat.le_trans hS.1 (by rw [e1]; exact hz), fun q h1 h2 => ?_, fun q hq => ?_⟩
    · rw [e1, hk q (Nat.lt_of_lt_of_le h1 hS.1) (fun z => h2 (hsub q z))]
      exact hS.2.1 q h1 h2
    · rcases List.mem_append.mp hq with h | h
      · exact hS.2.2 q h
      · exact hsub _ (hL q h)
  obtain ⟨t2, a1, b1⟩ := k r σ' hp T'.heap (locs ++ L) ls (by rw [e1]; exact hP1) hS1 hl T' rfl X'
  exact ⟨t2, st t2 a1, b1⟩
