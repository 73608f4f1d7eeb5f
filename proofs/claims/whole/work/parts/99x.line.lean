section ZLK
variable {N : Nat} {σ : Sg} {T R S B nf nt sl : Nat → Nat} {L : Nat}
theorem zm_bj (hN : 200000 ≤ N) (hL : L ≤ 900) (hT : ∀ i, T i < 256) {p j : Nat} {c : Prop} {D : Decidable c} (hp : p ≤ L) (hj1 : 1 ≤ j) (hj : j < 7) (ej : zso T L p = (j : Int)) (h : zMS T L none p σ) (hR : AR σ 70 189 R) (h4 : R 4 < 1000) (h8 : R 8 < 1000) (hc : c ↔ ¬ zrm j ≤ zto R j) : ok (f_m_begins N j (b2i (@decide c D)) σ) (fun z => z.1 = true ∧ zMS T L (bgE T L p (zhN R j)) (zee T L p) z.2 ∧ Fr tkf σ z.2) := by
  obtain ⟨y1, y2⟩ := zso_yes ej
  refine zm_beg hN hL hT hp (by omega) h hR h4 h8 y1 ?_
  unfold zhN
  by_cases c1 : zrm j ≤ zto R j
  · rw [if_pos c1, if_neg (by omega), if_pos (decide_eq_false (fun q => (hc.mp q) c1))]
  · have dc : @decide c D = true := decide_eq_true (hc.mpr c1)
    rw [if_neg c1, dc, if_neg (show ¬ true = false by decide)]
    by_cases c2 : R 8 = 0
    · rw [if_pos (show j ≠ 0 ∧ R 8 = 0 from ⟨by omega, c2⟩), if_pos c2]
    · rw [if_neg (show ¬ (j ≠ 0 ∧ R 8 = 0) from fun q => c2 q.2), if_neg c2]
      by_cases c3 : j = 1
      · by_cases c4 : 0 < R 4
        · rw [if_pos (show j = 1 ∧ 0 < R 4 from ⟨c3, c4⟩), if_pos (show zis T L p 1 = true ∧ 0 < R 4 from ⟨by rw [← c3]; exact y1, c4⟩)]
        · rw [if_neg (show ¬ (j = 1 ∧ 0 < R 4) from fun q => c4 q.2), if_neg (show ¬ (zis T L p 1 = true ∧ 0 < R 4) from fun q => c4 q.2)]
      · rw [if_neg (show ¬ (j = 1 ∧ 0 < R 4) from fun q => c3 q.1), if_neg (show ¬ (zis T L p 1 = true ∧ 0 < R 4) from fun q => by rw [y2 1 (by omega)] at q; exact absurd q.1 (by decide))]
theorem zm_line (hN : 200000 ≤ N) (hL : L ≤ 900) (hT : ∀ i, T i < 256) {p : Nat} (hp : p ≤ L) (hI : zIV T L R S B nf nt sl) (h : zM T L p R S B σ) : ok (f_m_readLine N σ) (fun y => zMO (zlF T L p R S nf nt sl) (zMq T L (zlQ T L p R S B nf nt sl)) y.2) := by
  have hb := hI.1
  have h81 := hI.2.1
  have hIw := hI.2.2.2.1
  have hn := hI.2.2.2.2
  obtain ⟨b0, b2, b3, b4, b5, b6, b7⟩ := hI.1
  have hz := z_le (T := T) hp
  have hm := h.1
  have hR := h.2.1
  have g := hm.2.1 rfl
  unfold f_m_readLine zlF zlQ
  by_cases c : zso T L p < 0
  · have no := zso_no c
    rw [if_pos c, zm_is hN hL hT hp (by omega) g, Option.bind_some, no 0 (by omega)]
    dsimp only
    rw [if_neg Bool.false_ne_true, zm_beg0 hN hL hT hp (by omega) g (no 1 (by omega)), Option.bind_some]
    dsimp only
    rw [if_neg Bool.false_ne_true, zm_beg0 hN hL hT hp (by omega) g (no 2 (by omega)), Option.bind_some]
    dsimp only
    rw [if_neg Bool.false_ne_true, zm_beg0 hN hL hT hp (by omega) g (no 3 (by omega)), Option.bind_some]
    dsimp only
    rw [if_neg Bool.false_ne_true, zm_beg0 hN hL hT hp (by omega) g (no 4 (by omega)), Option.bind_some]
    dsimp only
    rw [if_neg Bool.false_ne_true, zm_beg0 hN hL hT hp (by omega) g (no 5 (by omega)), Option.bind_some]
    dsimp only
    rw [if_neg Bool.false_ne_true, zm_beg0 hN hL hT hp (by omega) g (no 6 (by omega)), Option.bind_some]
    dsimp only
    rw [if_neg Bool.false_ne_true, zm_wrong (v := 1) (n := 1) g.1 rfl g.2.2.1, Option.bind_some]
    exact okS.mpr (zMO.bad (x := (1, zbb T L p)) rfl wrg_f)
  · obtain ⟨j, hj, ej⟩ := zso_j c
    obtain ⟨y1, y2⟩ := zso_yes ej
    rw [if_neg c, show (zso T L p).toNat = j by omega, zm_is hN hL hT hp (by omega) g, Option.bind_some]
    dsimp only
    have h7 : j = 0 ∨ j = 1 ∨ j = 2 ∨ j = 3 ∨ j = 4 ∨ j = 5 ∨ j = 6 := by omega
    rcases h7 with rfl | rfl | rfl | rfl | rfl | rfl | rfl
    · rw [if_pos y1, okB]
      by_cases c0 : zhN R 0 = 0
      · rw [if_pos c0]
        have h8 : R 8 = 0 := by have : R 8 < 1 := (zhN_0 c0).1; omega
        exact (zm_land hN hL hT hp h h8).imp (fun z hz => okS.mpr hz)
      · rw [if_neg c0]
        have h8 : R 8 ≠ 0 := fun q => c0 (by unfold zhN zto zrm; rw [if_pos rfl, if_pos rfl, if_neg (by omega), if_neg (by omega), if_neg (by omega)])
        have e3 : zhN R 0 = 3 := by unfold zhN zto zrm; rw [if_pos rfl, if_pos rfl, if_pos (by omega), if_pos rfl]
        have hf := wrg_f (σ := σ) (n := 3) (a := zbb T L p)
        unfold f_m_landLine
        rw [show gA σ 70 8 = iI (R 8 : Int) from hR.A (z := 8) 8 rfl (by omega) (by omega), if_neg (show ¬ iI (R 8 : Int) ≤ 0 by rw [show (0 : Int32) = iI 0 from rfl, iI_le (by omega) (by omega) (by omega) (by omega)]; omega), zm_wrong (v := 3) (n := 3) g.1 rfl g.2.2.1, Option.bind_some, if_neg (ne10 hf.1), e3]
        exact okS.mpr (okS.mpr (zMO.bad (x := (3, zbb T L p)) rfl hf))
    · rw [y2 0 (by omega), if_neg Bool.false_ne_true, okB]
      have ec : (¬ (6 : Int32) ≤ gA σ 70 7) ↔ ¬ zrm 1 ≤ zto R 1 := by
        rw [show gA σ 70 7 = iI (R 7 : Int) from hR.A (z := 7) 7 rfl (by omega) (by omega), show (6 : Int32) = iI 6 from rfl, iI_le (by omega) (by omega) (by omega) (by omega)]
        show ¬ ((6 : Int) ≤ (R 7 : Int)) ↔ ¬ 6 ≤ R 7
        omega
      refine (zm_bj hN hL hT hp (by omega) hj ej hm hR (by omega) (by omega) ec).imp (fun z hz1 => ?_)
      rw [if_pos hz1.1, okB]
      have m1 := hz1.2.1
      by_cases c0 : zhN R 1 = 0
      · obtain ⟨k1, k2, k3⟩ := zhN_0 c0
        rw [show bgE T L p (zhN R 1) = none by unfold bgE; rw [if_pos c0]] at m1
        rw [if_pos c0]
        exact (zm_gnd hN hL hT hz.2.2 hb ⟨m1, hR.fr hz1.2.2 rfl, h.2.2.1.fr hz1.2.2 rfl, fun q => (h.2.2.2 q).fr hz1.2.2 rfl⟩).imp (fun y hy => okS.mpr hy)
      · rw [show bgE T L p (zhN R 1) = some (zhN R 1, zbb T L p) by unfold bgE; rw [if_neg c0]] at m1
        rw [if_neg c0]
        have hf := m1.2.2 _ rfl
        unfold f_m_groundLine
        rw [if_neg (ne10 hf.1)]
        exact okS.mpr (okS.mpr (zMO.bad rfl hf))
    · rw [y2 0 (by omega), if_neg Bool.false_ne_true, zm_beg0 hN hL hT hp (by omega) g (y2 1 (by omega)), Option.bind_some]
      dsimp only
      rw [if_neg Bool.false_ne_true, okB]
      have ec : (¬ (3 : Int32) ≤ gA σ 70 2) ↔ ¬ zrm 2 ≤ zto R 2 := by
        rw [show gA σ 70 2 = iI (R 2 : Int) from hR.A (z := 2) 2 rfl (by omega) (by omega), show (3 : Int32) = iI 3 from rfl, iI_le (by omega) (by omega) (by omega) (by omega)]
        show ¬ ((3 : Int) ≤ (R 2 : Int)) ↔ ¬ 3 ≤ R 2
        omega
      refine (zm_bj hN hL hT hp (by omega) hj ej hm hR (by omega) (by omega) ec).imp (fun z hz1 => ?_)
      rw [if_pos hz1.1, okB]
      have m1 := hz1.2.1
      by_cases c0 : zhN R 2 = 0
      · obtain ⟨k1, k2, k3⟩ := zhN_0 c0
        rw [show bgE T L p (zhN R 2) = none by unfold bgE; rw [if_pos c0]] at m1
        rw [if_pos c0]
        exact (zm_boots hN hL hT hz.2.2 hb k1 hn ⟨m1, hR.fr hz1.2.2 rfl, h.2.2.1.fr hz1.2.2 rfl, fun q => (h.2.2.2 q).fr hz1.2.2 rfl⟩).imp (fun y hy => okS.mpr hy)
      · rw [show bgE T L p (zhN R 2) = some (zhN R 2, zbb T L p) by unfold bgE; rw [if_neg c0]] at m1
        rw [if_neg c0]
        have hf := m1.2.2 _ rfl
        unfold f_m_bootsLine
        rw [if_neg (ne10 hf.1)]
        exact okS.mpr (okS.mpr (zMO.bad rfl hf))
    · rw [y2 0 (by omega), if_neg Bool.false_ne_true, zm_beg0 hN hL hT hp (by omega) g (y2 1 (by omega)), Option.bind_some]
      dsimp only
      rw [if_neg Bool.false_ne_true, zm_beg0 hN hL hT hp (by omega) g (y2 2 (by omega)), Option.bind_some]
      dsimp only
      rw [if_neg Bool.false_ne_true, okB]
      have ec : (¬ (6 : Int32) ≤ gA σ 70 3) ↔ ¬ zrm 3 ≤ zto R 3 := by
        rw [show gA σ 70 3 = iI (R 3 : Int) from hR.A (z := 3) 3 rfl (by omega) (by omega), show (6 : Int32) = iI 6 from rfl, iI_le (by omega) (by omega) (by omega) (by omega)]
        show ¬ ((6 : Int) ≤ (R 3 : Int)) ↔ ¬ 6 ≤ R 3
        omega
      refine (zm_bj hN hL hT hp (by omega) hj ej hm hR (by omega) (by omega) ec).imp (fun z hz1 => ?_)
      rw [if_pos hz1.1, okB]
      have m1 := hz1.2.1
      by_cases c0 : zhN R 3 = 0
      · obtain ⟨k1, k2, k3⟩ := zhN_0 c0
        rw [show bgE T L p (zhN R 3) = none by unfold bgE; rw [if_pos c0]] at m1
        rw [if_pos c0]
        exact (zm_place hN hL hT hz.2.2 hb k1 (fun i hi => by have := ((hIw (k2 (by omega))).1.2.2.2.1 i hi).1; omega) hn ⟨m1, hR.fr hz1.2.2 rfl, h.2.2.1.fr hz1.2.2 rfl, fun q => (h.2.2.2 q).fr hz1.2.2 rfl⟩).imp (fun y hy => okS.mpr hy)
      · rw [show bgE T L p (zhN R 3) = some (zhN R 3, zbb T L p) by unfold bgE; rw [if_neg c0]] at m1
        rw [if_neg c0]
        have hf := m1.2.2 _ rfl
        unfold f_m_placeLine
        rw [if_neg (ne10 hf.1)]
        exact okS.mpr (okS.mpr (zMO.bad rfl hf))
    · rw [y2 0 (by omega), if_neg Bool.false_ne_true, zm_beg0 hN hL hT hp (by omega) g (y2 1 (by omega)), Option.bind_some]
      dsimp only
      rw [if_neg Bool.false_ne_true, zm_beg0 hN hL hT hp (by omega) g (y2 2 (by omega)), Option.bind_some]
      dsimp only
      rw [if_neg Bool.false_ne_true, zm_beg0 hN hL hT hp (by omega) g (y2 3 (by omega)), Option.bind_some]
      dsimp only
      rw [if_neg Bool.false_ne_true, okB]
      have ec : (¬ (8 : Int32) ≤ gA σ 70 4) ↔ ¬ zrm 4 ≤ zto R 4 := by
        rw [show gA σ 70 4 = iI (R 4 : Int) from hR.A (z := 4) 4 rfl (by omega) (by omega), show (8 : Int32) = iI 8 from rfl, iI_le (by omega) (by omega) (by omega) (by omega)]
        show ¬ ((8 : Int) ≤ (R 4 : Int)) ↔ ¬ 8 ≤ R 4
        omega
      refine (zm_bj hN hL hT hp (by omega) hj ej hm hR (by omega) (by omega) ec).imp (fun z hz1 => ?_)
      rw [if_pos hz1.1, okB]
      have m1 := hz1.2.1
      by_cases c0 : zhN R 4 = 0
      · obtain ⟨k1, k2, k3⟩ := zhN_0 c0
        rw [show bgE T L p (zhN R 4) = none by unfold bgE; rw [if_pos c0]] at m1
        rw [if_pos c0]
        exact (zm_strd hN hL hT hz.2.2 hb k1 (fun b hb => ((hIw (k2 (by omega))).1.2.2.1 b hb).2) (hIw (k2 (by omega))).2.1.2.2.1 (hIw (k2 (by omega))).2.1.1 hn ⟨m1, hR.fr hz1.2.2 rfl, h.2.2.1.fr hz1.2.2 rfl, fun q => (h.2.2.2 q).fr hz1.2.2 rfl⟩).imp (fun y hy => okS.mpr hy)
      · rw [show bgE T L p (zhN R 4) = some (zhN R 4, zbb T L p) by unfold bgE; rw [if_neg c0]] at m1
        rw [if_neg c0]
        have hf := m1.2.2 _ rfl
        unfold f_m_strideLine
        rw [if_neg (ne10 hf.1)]
        exact okS.mpr (okS.mpr (zMO.bad rfl hf))
    · rw [y2 0 (by omega), if_neg Bool.false_ne_true, zm_beg0 hN hL hT hp (by omega) g (y2 1 (by omega)), Option.bind_some]
      dsimp only
      rw [if_neg Bool.false_ne_true, zm_beg0 hN hL hT hp (by omega) g (y2 2 (by omega)), Option.bind_some]
      dsimp only
      rw [if_neg Bool.false_ne_true, zm_beg0 hN hL hT hp (by omega) g (y2 3 (by omega)), Option.bind_some]
      dsimp only
      rw [if_neg Bool.false_ne_true, zm_beg0 hN hL hT hp (by omega) g (y2 4 (by omega)), Option.bind_some]
      dsimp only
      rw [if_neg Bool.false_ne_true, okB]
      have ec : (¬ (4 : Int32) ≤ gA σ 70 5) ↔ ¬ zrm 5 ≤ zto R 5 := by
        rw [show gA σ 70 5 = iI (R 5 : Int) from hR.A (z := 5) 5 rfl (by omega) (by omega), show (4 : Int32) = iI 4 from rfl, iI_le (by omega) (by omega) (by omega) (by omega)]
        show ¬ ((4 : Int) ≤ (R 5 : Int)) ↔ ¬ 4 ≤ R 5
        omega
      refine (zm_bj hN hL hT hp (by omega) hj ej hm hR (by omega) (by omega) ec).imp (fun z hz1 => ?_)
      rw [if_pos hz1.1, okB]
      have m1 := hz1.2.1
      by_cases c0 : zhN R 5 = 0
      · obtain ⟨k1, k2, k3⟩ := zhN_0 c0
        rw [show bgE T L p (zhN R 5) = none by unfold bgE; rw [if_pos c0]] at m1
        rw [if_pos c0]
        exact (zm_uns hN hL hz.2.2 hb k1 (fun i hi => by have := ((hIw (k2 (by omega))).1.2.2.2.2.2.1 i hi).2; omega) ⟨m1, hR.fr hz1.2.2 rfl, h.2.2.1.fr hz1.2.2 rfl, fun q => (h.2.2.2 q).fr hz1.2.2 rfl⟩).imp (fun y hy => okS.mpr hy)
      · rw [show bgE T L p (zhN R 5) = some (zhN R 5, zbb T L p) by unfold bgE; rw [if_neg c0]] at m1
        rw [if_neg c0]
        have hf := m1.2.2 _ rfl
        unfold f_m_unsureLine
        rw [if_neg (ne10 hf.1)]
        exact okS.mpr (okS.mpr (zMO.bad rfl hf))
    · rw [y2 0 (by omega), if_neg Bool.false_ne_true, zm_beg0 hN hL hT hp (by omega) g (y2 1 (by omega)), Option.bind_some]
      dsimp only
      rw [if_neg Bool.false_ne_true, zm_beg0 hN hL hT hp (by omega) g (y2 2 (by omega)), Option.bind_some]
      dsimp only
      rw [if_neg Bool.false_ne_true, zm_beg0 hN hL hT hp (by omega) g (y2 3 (by omega)), Option.bind_some]
      dsimp only
      rw [if_neg Bool.false_ne_true, zm_beg0 hN hL hT hp (by omega) g (y2 4 (by omega)), Option.bind_some]
      dsimp only
      rw [if_neg Bool.false_ne_true, zm_beg0 hN hL hT hp (by omega) g (y2 5 (by omega)), Option.bind_some]
      dsimp only
      rw [if_neg Bool.false_ne_true, okB]
      have ec : (¬ (6 : Int32) ≤ gA σ 70 6) ↔ ¬ zrm 6 ≤ zto R 6 := by
        rw [show gA σ 70 6 = iI (R 6 : Int) from hR.A (z := 6) 6 rfl (by omega) (by omega), show (6 : Int32) = iI 6 from rfl, iI_le (by omega) (by omega) (by omega) (by omega)]
        show ¬ ((6 : Int) ≤ (R 6 : Int)) ↔ ¬ 6 ≤ R 6
        omega
      refine (zm_bj hN hL hT hp (by omega) hj ej hm hR (by omega) (by omega) ec).imp (fun z hz1 => ?_)
      rw [if_pos hz1.1, okB]
      have m1 := hz1.2.1
      by_cases c0 : zhN R 6 = 0
      · obtain ⟨k1, k2, k3⟩ := zhN_0 c0
        rw [show bgE T L p (zhN R 6) = none by unfold bgE; rw [if_pos c0]] at m1
        rw [if_pos c0]
        exact (zm_seen hN hL hT hz.2.2 hb k1 (fun i hi => by have := ((hIw (k2 (by omega))).1.2.2.2.2.2.2.2.1 i hi).1; omega) ⟨m1, hR.fr hz1.2.2 rfl, h.2.2.1.fr hz1.2.2 rfl, fun q => (h.2.2.2 q).fr hz1.2.2 rfl⟩).imp (fun y hy => okS.mpr hy)
      · rw [show bgE T L p (zhN R 6) = some (zhN R 6, zbb T L p) by unfold bgE; rw [if_neg c0]] at m1
        rw [if_neg c0]
        have hf := m1.2.2 _ rfl
        unfold f_m_seenLine
        rw [if_neg (ne10 hf.1)]
        exact okS.mpr (okS.mpr (zMO.bad rfl hf))
end ZLK
