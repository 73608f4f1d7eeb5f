theorem g_lout {x : CX} {own : Nat} {cc : ByteArray} (hx : Cx own cc x) {pc tgt len : Nat} {dflt : Int} {ps : Array (Int × Int)} {ls : List (Option Value)} {st : List Value} {σ : Sg} {y : Int32} (hd : decode cc pc = .ok (.lookupswitch dflt ps, len)) (hp : (ps.toList.zip (ps.toList.drop 1)).all (fun (a, next) => a.1 < next.1) = true) (ho : Op.lookupswitch.offset ps.toList dflt y.toInt = dflt) (ht : (pc : Int) + dflt = (tgt : Int)) (k : G x tgt ls st σ) : G x pc ls (.int y :: st) σ := by
  obtain ⟨⟨p, l, e, R, s, m, args, below, meth, c⟩, ⟨a, cA, D, ⟨cells, slots⟩, Q⟩⟩ := x
  obtain ⟨hexec, hb, hown, hts, hK, hinj⟩ := hx
  exact fun H locs ls hP hS hl => lv_lookup hexec hb hd hp ho ht (k H locs ls hP hS hl)
