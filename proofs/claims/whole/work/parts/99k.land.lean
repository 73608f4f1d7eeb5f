section ZLA
variable {N : Nat} {σ : Sg} {T R S B nf nt sl : Nat → Nat} {L : Nat}
def zlW : WL := [(1, some 3), (1, some 4), (1, some 5), (1, some 6), (25, some 0), (25, some 1), (25, some 2), (25, some 3), (25, some 13)]
theorem ldR_ne {p k : Nat} (h0 : k ≠ 0) (h1 : k ≠ 1) (h8 : k ≠ 8) : ldR T L p R k = R k := by
  unfold ldR
  rw [zup_ne h8, zup_ne h1, zup_ne h0]
theorem zx_land (hN : 200000 ≤ N) (hL : L ≤ 900) {p : Nat} (hp : p ≤ L) (h : zX T L p R S B nf nt sl σ) : ok (f_reader_readLand N σ) (zXO (ld4 T L p) (zX T L (ldp T L (ldp T L (ldp T L (ldp T L p)))) (ldR T L p R) (ldS1 T L p S) (ldS1 T L p S) nf nt sl)) := by
  have p1 := ldp_le (T := T) hp
  have p2 := ldp_le (T := T) p1
  have p3 := ldp_le (T := T) p2
  have hv := z_vv (T := T) (L := L) (p := zee T L p)
  unfold f_reader_readLand
  refine zx_expect hN hL hp (by omega) h.1 h.2.1 (fun τ1 e1 f1 t1 g1 => ?_) (fun τ x ex hx => ?_)
  · dsimp only
    rw [if_pos rfl]
    refine zx_whole (lo := 8) (hi := 60) hN hL (z_le hp).2.2 rfl rfl (by omega) (by omega) t1 g1 (fun τ2 e2 b2 f2 t2 g2 w2 _ => ?_) (fun τ x ex hx => ?_)
    · dsimp only
      rw [if_pos rfl, w2]
      have l1 : ld1 T L p = none := by unfold ld1 afE; rw [e1]; exact e2
      have F2 : Fr zlW σ (sI τ2 25 0 (iI (ldv T L p : Int))) := Fr.wI ((f1.mono rfl).tr (f2.mono rfl)) (by simp [zlW])
      have t3 : TxX T L (sI τ2 25 0 (iI (ldv T L p : Int))) := h.1.co F2 rfl
      have g3 : gI (sI τ2 25 0 (iI (ldv T L p : Int))) 1 5 = iI (ldp T L p : Int) := by rw [gI_ne (by omega)]; exact g2
      have c0 : gI (sI τ2 25 0 (iI (ldv T L p : Int))) 25 0 = iI (ldv T L p : Int) := gI_eq
      change ok ((f_reader_expect N 8 (sI τ2 25 0 (iI (ldv T L p : Int)))).bind _) _
      generalize sI τ2 25 0 (iI (ldv T L p : Int)) = υ2 at F2 t3 g3 c0 ⊢
      refine zx_expect hN hL p1 (by omega) t3 g3 (fun τ3 e3 f3 t4 g4 => ?_) (fun τ x ex hx => ?_)
      · dsimp only
        rw [if_pos rfl, zx_cellE]
        have c0' : gI τ3 25 0 - 1 = iI ((ldv T L p : Int) - 1) := by rw [f3.I 25 0 rfl, c0]; exact iI_sub _ 1
        refine zx_whole (lo := 0) (hi := (ldv T L p : Int) - 1) hN hL (z_le p1).2.2 rfl c0' (by omega) (by unfold ldv; omega) t4 g4 (fun τ4 e4 b4 f4 t5 g5 w5 _ => ?_) (fun τ x ex hx => ?_)
        · dsimp only
          rw [if_pos rfl, w5]
          have l2 : ld2 T L p = none := by unfold ld2 afE; rw [l1, e3]; exact e4
          have d6 : gI (sI τ4 25 2 (iI (zvv T L (zee T L (ldp T L p)) : Int))) 1 6 = iI (ldv T L (ldp T L p) : Int) := by rw [gI_ne (by omega)]; exact w5
          rw [d6]
          have F4 : Fr zlW σ (sI (sI τ4 25 2 (iI (ldv T L (ldp T L p) : Int))) 25 13 (iI (ldv T L (ldp T L p) : Int))) := Fr.wI (Fr.wI (F2.tr ((f3.mono rfl).tr (f4.mono rfl))) (by simp [zlW])) (by simp [zlW])
          have t6 : TxX T L (sI (sI τ4 25 2 (iI (ldv T L (ldp T L p) : Int))) 25 13 (iI (ldv T L (ldp T L p) : Int))) := h.1.co F4 rfl
          have g6 : gI (sI (sI τ4 25 2 (iI (ldv T L (ldp T L p) : Int))) 25 13 (iI (ldv T L (ldp T L p) : Int))) 1 5 = iI (ldp T L (ldp T L p) : Int) := by rw [gI_ne (by omega), gI_ne (by omega)]; exact g5
          have c0b : gI (sI (sI τ4 25 2 (iI (ldv T L (ldp T L p) : Int))) 25 13 (iI (ldv T L (ldp T L p) : Int))) 25 0 = iI (ldv T L p : Int) := by rw [gI_ne (by omega), gI_ne (by omega), f4.I 25 0 rfl, f3.I 25 0 rfl]; exact c0
          have c2b : gI (sI (sI τ4 25 2 (iI (ldv T L (ldp T L p) : Int))) 25 13 (iI (ldv T L (ldp T L p) : Int))) 25 2 = iI (ldv T L (ldp T L p) : Int) := by rw [gI_ne (by omega), gI_eq]
          have c13b : gI (sI (sI τ4 25 2 (iI (ldv T L (ldp T L p) : Int))) 25 13 (iI (ldv T L (ldp T L p) : Int))) 25 13 = iI (ldv T L (ldp T L p) : Int) := gI_eq
          change ok ((f_reader_expect N 9 (sI (sI τ4 25 2 (iI (ldv T L (ldp T L p) : Int))) 25 13 (iI (ldv T L (ldp T L p) : Int)))).bind _) _
          generalize sI (sI τ4 25 2 (iI (ldv T L (ldp T L p) : Int))) 25 13 (iI (ldv T L (ldp T L p) : Int)) = υ4 at F4 t6 g6 c0b c2b c13b ⊢
          refine zx_expect hN hL p2 (by omega) t6 g6 (fun τ5 e5 f5 t7 g7 => ?_) (fun τ x ex hx => ?_)
          · dsimp only
            rw [if_pos rfl, zx_cellE]
            have c0c : gI τ5 25 0 - 1 = iI ((ldv T L p : Int) - 1) := by rw [f5.I 25 0 rfl, c0b]; exact iI_sub _ 1
            refine zx_whole (lo := 0) (hi := (ldv T L p : Int) - 1) hN hL (z_le p2).2.2 rfl c0c (by omega) (by unfold ldv; omega) t7 g7 (fun τ6 e6 b6 f6 t8 g8 w8 _ => ?_) (fun τ x ex hx => ?_)
            · dsimp only
              rw [if_pos rfl, w8]
              have l3 : ld3 T L p = none := by unfold ld3 afE; rw [l2, e5]; exact e6
              have F6 : Fr zlW σ (sI τ6 25 3 (iI (ldv T L (ldp T L (ldp T L p)) : Int))) := Fr.wI (F4.tr ((f5.mono rfl).tr (f6.mono rfl))) (by simp [zlW])
              have t9 : TxX T L (sI τ6 25 3 (iI (ldv T L (ldp T L (ldp T L p)) : Int))) := h.1.co F6 rfl
              have g9 : gI (sI τ6 25 3 (iI (ldv T L (ldp T L (ldp T L p)) : Int))) 1 5 = iI (ldp T L (ldp T L (ldp T L p)) : Int) := by rw [gI_ne (by omega)]; exact g8
              have c0d : gI (sI τ6 25 3 (iI (ldv T L (ldp T L (ldp T L p)) : Int))) 25 0 = iI (ldv T L p : Int) := by rw [gI_ne (by omega), f6.I 25 0 rfl, f5.I 25 0 rfl]; exact c0b
              have c2d : gI (sI τ6 25 3 (iI (ldv T L (ldp T L (ldp T L p)) : Int))) 25 2 = iI (ldv T L (ldp T L p) : Int) := by rw [gI_ne (by omega), f6.I 25 2 rfl, f5.I 25 2 rfl]; exact c2b
              have c13d : gI (sI τ6 25 3 (iI (ldv T L (ldp T L (ldp T L p)) : Int))) 25 13 = iI (ldv T L (ldp T L p) : Int) := by rw [gI_ne (by omega), f6.I 25 13 rfl, f5.I 25 13 rfl]; exact c13b
              have c3d : gI (sI τ6 25 3 (iI (ldv T L (ldp T L (ldp T L p)) : Int))) 25 3 = iI (ldv T L (ldp T L (ldp T L p)) : Int) := gI_eq
              change ok ((f_reader_expect N 10 (sI τ6 25 3 (iI (ldv T L (ldp T L (ldp T L p)) : Int)))).bind _) _
              generalize sI τ6 25 3 (iI (ldv T L (ldp T L (ldp T L p)) : Int)) = υ6 at F6 t9 g9 c0d c2d c13d c3d ⊢
              refine zx_expect hN hL p3 (by omega) t9 g9 (fun τ7 e7 f7 t10 g10 => ?_) (fun τ x ex hx => ?_)
              · dsimp only
                rw [if_pos rfl]
                refine zx_whole (lo := 0) (hi := 100) hN hL (z_le p3).2.2 rfl rfl (by omega) (by omega) t10 g10 (fun τ8 e8 b8 f8 t11 g11 w11 _ => ?_) (fun τ x ex hx => ?_)
                · dsimp only
                  rw [if_pos rfl, w11]
                  have l4 : ld4 T L p = none := by unfold ld4 afE; rw [l3, e7]; exact e8
                  have F8 : Fr zlW σ (sI τ8 25 1 (iI (zvv T L (zee T L (ldp T L (ldp T L (ldp T L p)))) : Int))) := Fr.wI (F6.tr ((f7.mono rfl).tr (f8.mono rfl))) (by simp [zlW])
                  obtain ⟨-, -, y1, y2, y3, y4⟩ := h
                  obtain ⟨d1, d2, d3, d4, d5, d6', d7, d8, d9, d10, d11⟩ := y2
                  refine okS.mpr (zXO.good l4 ⟨t9.co (Fr.wI ((f7.mono (W' := zlW) rfl).tr (f8.mono rfl)) (by simp [zlW])) rfl, ?_, ?_, ⟨?_, ?_, (d3.fr F8 rfl).cg (ldR_ne (by omega) (by omega) (by omega)) (fun i hi => by rw [ldR_ne (by omega) (by omega) (by omega)]), (d4.fr F8 rfl).cg (ldR_ne (by omega) (by omega) (by omega)) (fun i hi => by rw [ldR_ne (by omega) (by omega) (by omega)]), (d5.fr F8 rfl).cg (ldR_ne (by omega) (by omega) (by omega)) (fun i hi => by rw [ldR_ne (by omega) (by omega) (by omega)]), (d6'.fr F8 rfl).cg (ldR_ne (by omega) (by omega) (by omega)) (fun i hi => by rw [ldR_ne (by omega) (by omega) (by omega)]), (d7.fr F8 rfl).cg (ldR_ne (by omega) (by omega) (by omega)) (fun i hi => by rw [ldR_ne (by omega) (by omega) (by omega)]), (d8.fr F8 rfl).cg (ldR_ne (by omega) (by omega) (by omega)) (fun i hi => by rw [ldR_ne (by omega) (by omega) (by omega)]), (d9.fr F8 rfl).cg (ldR_ne (by omega) (by omega) (by omega)) (fun i hi => by rw [ldR_ne (by omega) (by omega) (by omega)]), fun k => ?_, fun k => ?_⟩, ⟨?_, ?_, ?_, ?_⟩, y4.fr F8 rfl⟩)
                  · rw [gI_ne (by omega)]; exact g11
                  · rw [F8.I 1 12 rfl]; exact y1
                  · rw [gI_ne (by omega), f8.I 25 0 rfl, f7.I 25 0 rfl]; exact c0d
                  · exact gI_eq
                  · rw [F8.L 25 4 rfl]
                    exact (d10 k).trans (decide_eq_decide.mpr (by unfold ldR; rw [zup_ne (by omega), zup_ne (by omega), zup_ne (by omega)]))
                  · rw [F8.L 25 5 rfl]
                    exact (d11 k).trans (decide_eq_decide.mpr (by unfold ldR; rw [zup_ne (by omega), zup_ne (by omega), zup_ne (by omega)]))
                  · rw [gI_ne (by omega), f8.I 25 2 rfl, f7.I 25 2 rfl]; exact c2d
                  · rw [gI_ne (by omega), f8.I 25 3 rfl, f7.I 25 3 rfl]; exact c3d
                  · rw [gI_ne (by omega), f8.I 25 13 rfl, f7.I 25 13 rfl]; exact c13d
                  · rw [F8.L 25 14 rfl, y3.2.2.2]
                    funext k
                    unfold gon ldS1
                    refine decide_eq_decide.mpr ?_
                    by_cases ck : k < 60
                    · rw [zup_ne (by omega), zup_ne (by omega)]
                    · omega
                · dsimp only
                  rw [if_neg Bool.false_ne_true]
                  exact okS.mpr (zXO.bad (by unfold ld4 afE; rw [l3, e7, ex]) hx)
              · dsimp only
                rw [if_neg Bool.false_ne_true]
                exact okS.mpr (zXO.bad (by unfold ld4 afE; rw [l3, ex]; rfl) hx)
            · dsimp only
              rw [if_neg Bool.false_ne_true]
              exact okS.mpr (zXO.bad (by unfold ld4 ld3 afE; rw [l2, e5, ex]; rfl) hx)
          · dsimp only
            rw [if_neg Bool.false_ne_true]
            exact okS.mpr (zXO.bad (by unfold ld4 ld3 afE; rw [l2, ex]; rfl) hx)
        · dsimp only
          rw [if_neg Bool.false_ne_true]
          exact okS.mpr (zXO.bad (by unfold ld4 ld3 ld2 afE; rw [l1, e3, ex]; rfl) hx)
      · dsimp only
        rw [if_neg Bool.false_ne_true]
        exact okS.mpr (zXO.bad (by unfold ld4 ld3 ld2 afE; rw [l1, ex]; rfl) hx)
    · dsimp only
      rw [if_neg Bool.false_ne_true]
      exact okS.mpr (zXO.bad (by unfold ld4 ld3 ld2 ld1 afE; rw [e1, ex]; rfl) hx)
  · dsimp only
    rw [if_neg Bool.false_ne_true]
    exact okS.mpr (zXO.bad (by unfold ld4 ld3 ld2 ld1 afE; rw [ex]; rfl) hx)
theorem zm_land (hN : 200000 ≤ N) (hL : L ≤ 900) (hT : ∀ i, T i < 256) {p : Nat} (hp : p ≤ L) (h : zM T L p R S B σ) (h8 : R 8 = 0) : ok (f_m_landLine N σ) (fun y => zMO (ld4 T L (zee T L p)) (zM T L (ldp T L (ldp T L (ldp T L (ldp T L (zee T L p))))) (ldR T L (zee T L p) R) (ldS1 T L (zee T L p) S) (ldS1 T L (zee T L p) S)) y.2) := by
  obtain ⟨hm, hR, hS, -⟩ := h
  have p0 := (z_le (T := T) hp).2.2
  have p1 := ldp_le (T := T) p0
  have p2 := ldp_le (T := T) p1
  have p3 := ldp_le (T := T) p2
  unfold f_m_landLine
  rw [show gA σ 70 8 = iI (R 8 : Int) from hR.A (z := 8) 8 rfl (by omega) (by omega), h8, if_pos (show iI ((0 : Nat) : Int) ≤ 0 by decide), if_pos (hm.2.1 rfl).1, okB]
  refine (zm_nextG hN hL hp hm.1 (hm.2.1 rfl)).imp (fun q1 h1 => ?_)
  generalize zee T L p = p at p0 p1 p2 p3 h1
  have hv := z_vv (T := T) (L := L) (p := zee T L p)
  rw [okB]
  refine (zm_aft (lo := 8) (hi := 60) hN hL hT p0 (by omega) (fun _ => ⟨rfl, rfl⟩) (by omega) (by omega) h1.1).imp (fun q2 h2 => ?_)
  have F2 : Fr tkf σ q2.2 := (h1.2.mono rfl).tr h2.2.2
  have R2 := hR.fr F2 rfl
  have w2 : Fr [(70, none)] q2.2 (sA q2.2 70 0 q2.1) := Fr.wA Fr.rf (by simp)
  have m2 := h2.1.fr w2 rfl
  have S2 := (hS.fr F2 rfl).fr w2 rfl
  have A2 : ld1 T L p = none → AR (sA q2.2 70 0 q2.1) 70 189 (zup R 0 (ldv T L p)) := fun e => R2.up (by omega) rfl (h2.2.1 e)
  have B2 : ld1 T L p = none → gA (sA q2.2 70 0 q2.1) 70 0 - 1 = iI ((ldv T L p : Int) - 1) := fun e => by
    rw [show gA (sA q2.2 70 0 q2.1) 70 0 = iI (zup R 0 (ldv T L p) 0 : Int) from (A2 e).A (z := 0) 0 rfl (by omega) (by omega), zup_eq]; exact iI_sub _ 1
  generalize sA q2.2 70 0 q2.1 = υ2 at m2 S2 A2 B2 ⊢
  change zMS T L (ld1 T L p) (ldp T L p) υ2 at m2
  rw [okB]
  refine (zm_aft (lo := 0) (hi := (ldv T L p : Int) - 1) hN hL hT p1 (by omega) (fun e => ⟨rfl, B2 e⟩) (by omega) (by unfold ldv; omega) m2).imp (fun q3 h3 => ?_)
  have w3 : Fr [(73, none)] q3.2 (sA q3.2 73 60 q3.1) := Fr.wA Fr.rf (by simp)
  have m3 := h3.1.fr w3 rfl
  have l21 : ld2 T L p = none → ld1 T L p = none := fun e => by
    cases hc : ld1 T L p with
    | none => rfl
    | some x => unfold ld2 afE at e; rw [hc] at e; cases e
  have A3 : ld2 T L p = none → AR (sA q3.2 73 60 q3.1) 70 189 (zup R 0 (ldv T L p)) := fun e => ((A2 (l21 e)).fr h3.2.2 rfl).fr w3 rfl
  have S3 : ld2 T L p = none → AR (sA q3.2 73 60 q3.1) 73 63 (zup S 60 (ldv T L (ldp T L p))) := fun e => (S2.fr h3.2.2 rfl).up (by omega) rfl (h3.2.1 e)
  have B3 : ld2 T L p = none → gA (sA q3.2 73 60 q3.1) 70 0 - 1 = iI ((ldv T L p : Int) - 1) := fun e => by
    rw [show gA (sA q3.2 73 60 q3.1) 70 0 = iI (zup R 0 (ldv T L p) 0 : Int) from (A3 e).A (z := 0) 0 rfl (by omega) (by omega), zup_eq]; exact iI_sub _ 1
  generalize sA q3.2 73 60 q3.1 = υ3 at m3 A3 S3 B3 ⊢
  change zMS T L (ld2 T L p) (ldp T L (ldp T L p)) υ3 at m3
  rw [okB]
  refine (zm_aft (lo := 0) (hi := (ldv T L p : Int) - 1) hN hL hT p2 (by omega) (fun e => ⟨rfl, B3 e⟩) (by omega) (by unfold ldv; omega) m3).imp (fun q4 h4 => ?_)
  have w4 : Fr [(73, none)] q4.2 (sA q4.2 73 61 q4.1) := Fr.wA Fr.rf (by simp)
  have m4 := h4.1.fr w4 rfl
  have l32 : ld3 T L p = none → ld2 T L p = none := fun e => by
    cases hc : ld2 T L p with
    | none => rfl
    | some x => unfold ld3 afE at e; rw [hc] at e; cases e
  have A4 : ld3 T L p = none → AR (sA q4.2 73 61 q4.1) 70 189 (zup R 0 (ldv T L p)) := fun e => ((A3 (l32 e)).fr h4.2.2 rfl).fr w4 rfl
  have S4 : ld3 T L p = none → AR (sA q4.2 73 61 q4.1) 73 63 (ldS1 T L p S) := fun e => ((S3 (l32 e)).fr h4.2.2 rfl).up (by omega) rfl (h4.2.1 e)
  generalize sA q4.2 73 61 q4.1 = υ4 at m4 A4 S4 ⊢
  change zMS T L (ld3 T L p) (ldp T L (ldp T L (ldp T L p))) υ4 at m4
  rw [okB]
  refine (zm_aft (lo := 0) (hi := 100) hN hL hT p3 (by omega) (fun e => ⟨rfl, rfl⟩) (by omega) (by omega) m4).imp (fun q5 h5 => ?_)
  have w5 : Fr [(70, none)] q5.2 (sA q5.2 70 1 q5.1) := Fr.wA Fr.rf (by simp)
  have m5 := h5.1.fr w5 rfl
  have l43 : ld4 T L p = none → ld3 T L p = none := fun e => by
    cases hc : ld3 T L p with
    | none => rfl
    | some x => unfold ld4 afE at e; rw [hc] at e; cases e
  have A5 : ld4 T L p = none → AR (sA q5.2 70 1 q5.1) 70 189 (zup (zup R 0 (ldv T L p)) 1 (ldv T L (ldp T L (ldp T L (ldp T L p))))) := fun e => ((A4 (l43 e)).fr h5.2.2 rfl).up (by omega) rfl (h5.2.1 e)
  have S5 : ld4 T L p = none → AR (sA q5.2 70 1 q5.1) 73 63 (ldS1 T L p S) := fun e => ((S4 (l43 e)).fr h5.2.2 rfl).fr w5 rfl
  generalize sA q5.2 70 1 q5.1 = υ5 at m5 A5 S5 ⊢
  change zMS T L (ld4 T L p) (ldp T L (ldp T L (ldp T L (ldp T L p)))) υ5 at m5
  cases e : ld4 T L p with
  | some x =>
    have hf := m5.2.2 x e
    rw [if_neg (ne10 hf.1)]
    exact okS.mpr (zMO.bad rfl hf)
  | none =>
    have hg := m5.2.1 e
    rw [if_pos hg.1, okB]
    have w6 : Fr [(70, none)] υ5 (sA υ5 70 8 1) := Fr.wA Fr.rf (by simp)
    have A6 : AR (sA υ5 70 8 1) 70 189 (ldR T L p R) := (A5 e).up (v := 1) (by omega) rfl rfl
    have S6 := (S5 e).fr w6 rfl
    rw [e] at m5
    have m6 := m5.fr w6 rfl
    refine ((pm_copy (N := N) (a0 := 63) (a1 := 63) (a2 := 72) (a3 := 73) (p := 0) (q := 0) (m := 63) (σ := sA υ5 70 8 1) hN (by decide) (by decide) (by decide) (by decide) (by decide)).and (fun z => w_f_m_copy)).imp (fun z hz => okS.mpr (zMO.good rfl ⟨m6.fr hz.2 rfl, A6.fr hz.2 rfl, S6.fr hz.2 rfl, fun _ k hk => ?_⟩))
    rw [hz.1 k, if_pos (by omega), show 0 + (k - 0) = k by omega]
    exact S6 k hk
end ZLA
