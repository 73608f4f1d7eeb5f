section ZPL
variable {N : Nat} {σ : Sg} {T R S B nf nt sl : Nat → Nat} {L p0 : Nat}
/-! the place line -/
def zplI (R : Nat → Nat) (v : Nat) : Int := ixF (fun i => (R (12 + 2 * i) : Int)) (v : Int) (R 3) 0
def zpl2 (T : Nat → Nat) (L p : Nat) (R nf nt : Nat → Nat) : zE := wrE T L (neE T L p (R 2 + R 3) nf nt) (zee T L p) 14
def zpq (T : Nat → Nat) (L p : Nat) : Nat := zee T L (zee T L p)
def zpl3 (T : Nat → Nat) (L p : Nat) (R nf nt : Nat → Nat) : zE := nuE T L (zpl2 T L p R nf nt) (zpq T L p) 0 ((R 0 : Int) - 1)
def zpl4 (T : Nat → Nat) (L p : Nat) (R nf nt : Nat → Nat) : zE := dpE T L (zpl3 T L p R nf nt) (zpq T L p) (zplI R (zvv T L (zpq T L p)))
def zpl5 (T : Nat → Nat) (L p : Nat) (R nf nt : Nat → Nat) : zE := afE T L (zpl4 T L p R nf nt) (zee T L (zpq T L p)) 15 1 99
def zplR (T : Nat → Nat) (L p : Nat) (R : Nat → Nat) : Nat → Nat := zup (zup (zup (nmR T R (zbb T L p) (zee T L p) (3 + R 3)) (12 + 2 * R 3) (zvv T L (zpq T L p))) (12 + 2 * R 3 + 1) (zvv T L (zee T L (zee T L (zpq T L p))))) 3 (R 3 + 1)
theorem zx_place (hN : 200000 ≤ N) (hL : L ≤ 900) {p : Nat} (hp : p ≤ L) (hb : zB R) (h3 : R 3 < 6) (hd : ∀ i, i < R 3 → R (12 + 2 * i) ≤ 60) (hw : ∀ i, i < R 2 + R 3 → nf i ≤ nt i ∧ nt i ≤ L) (h : zX T L p R S B nf nt sl σ) : ok (f_reader_readPlace N σ) (zXO (zpl5 T L p R nf nt) (zX T L (ldp T L (zee T L (zpq T L p))) (zplR T L p R) S B (zup nf (R 2 + R 3) (zbb T L p)) (zup nt (R 2 + R 3) (zee T L p)) (zup sl (R 2 + R 3) (3 + R 3)))) := by
  have hz := z_le (T := T) hp
  have hz2 := z_le (T := T) hz.2.2
  have hz3 := z_le (T := T) hz2.2.2
  have hz4 := z_le (T := T) hz3.2.2
  have hv := z_vv (T := T) (L := L) (p := zee T L (zee T L p))
  obtain ⟨b0, b2, b3, b4, b5, b6, b7⟩ := hb
  obtain ⟨t0, g0, y1, ⟨d1, d2, d3, d4, d5, d6, d7, d8, d9, d10, d11⟩, y3, y4⟩ := h
  unfold f_reader_readPlace
  refine zx_newName (s := 3 + R 3) (sl := sl) hN hL hp (by unfold zbn; rw [if_neg (by omega)]; rfl) t0 g0 (by omega) y4 hw (fun τ1 e1 f1 t1 g1 n1 => ?_) (fun τ x ex hx => ?_)
  · dsimp only
    rw [if_pos rfl]
    have hle : zkk T L p = 1 := by
      apply zso_w
      unfold neE at e1
      by_cases c : zso T L p = -1
      · exact c
      · rw [if_neg c] at e1; cases e1
    have hw1 := z_w (T := T) hp hle
    refine zx_expect hN hL hz.2.2 (by omega) t1 g1 (fun τ2 e2 f2 t2 g2 => ?_) (fun τ x ex hx => ?_)
    · dsimp only
      have F2 : Fr znW σ τ2 := f1.tr (f2.mono rfl)
      have l2 : zpl2 T L p R nf nt = none := by unfold zpl2; rw [e1]; exact e2
      rw [if_pos rfl, zx_cellE]
      refine zx_whole (p := zpq T L p) (lo := 0) (hi := (R 0 : Int) - 1) hN hL hz2.2.2 rfl (by rw [F2.I 25 0 rfl, d1]; exact iI_sub _ 1) (by omega) (by omega) t2 g2 (fun τ3 e3 c3 f3 t3 g3 w3 h4 => ?_) (fun τ x ex hx => ?_)
      · dsimp only
        have F3 : Fr znW σ τ3 := F2.tr (f3.mono rfl)
        have l3 : zpl3 T L p R nf nt = none := by unfold zpl3; rw [l2]; exact e3
        have D4 := d4.fr F3 rfl
        rw [if_pos rfl, w3, show f_country_placeAt N 28 6 29 (iI (zvv T L (zpq T L p) : Int)) τ3 = f_numbers_indexOf N 28 6 29 (iI (zvv T L (zpq T L p) : Int)) τ3 from bind_eta, px_indexOf (g := fun i => (R (12 + 2 * i) : Int)) hN D4.1 (by omega) (by omega) (fun i hi => ⟨D4.2 i hi, by have := hd i hi; omega, by have := hd i hi; omega⟩) (by omega) (by unfold zpq; omega), Option.bind_some]
        dsimp only
        by_cases c : zplI R (zvv T L (zpq T L p)) = -2
        · have l4 : zpl4 T L p R nf nt = none := by unfold zpl4; rw [l3]; unfold dpE; dsimp only; rw [if_pos c]
          rw [if_pos ((ixF_m2 (by omega)).mpr c), w3, okB]
          refine (D4.add (m := 6) (g := fun i => (zplR T L p R (12 + 2 * i) : Int)) h3 (by omega) (fun i hi => ?_) ?_).imp (fun z hz1 => ?_)
          · unfold zplR
            rw [zup_ne (by omega), zup_ne (by omega), zup_ne (by omega), nmR_lo (by omega)]
          · unfold zplR
            rw [zup_ne (by omega), zup_ne (by omega), zup_eq]
          · have F4 : Fr [(1, some 3), (1, some 4), (1, some 5), (1, some 6), (4, some 1), (5, none), (6, some 1), (7, none), (8, some 1), (9, none), (28, some 1), (29, none)] σ z.2 := (F3.mono rfl).tr (hz1.2.mono rfl)
            refine zx_expect (p := zee T L (zpq T L p)) hN hL hz3.2.2 (by omega) (t3.co hz1.2 rfl) ((hz1.2.I 1 5 rfl).trans g3) (fun τ5 e5 f5 t5 g5 => ?_) (fun τ x ex hx => ?_)
            · dsimp only
              rw [if_pos rfl]
              refine zx_whole (p := zee T L (zee T L (zpq T L p))) (lo := 1) (hi := 99) hN hL hz4.2.2 rfl rfl (by omega) (by omega) t5 g5 (fun τ6 e6 c6 f6 t6 g6 w6 _ => ?_) (fun τ x ex hx => ?_)
              · dsimp only
                have f56 := f5.tr f6
                have F6 : Fr [(1, some 3), (1, some 4), (1, some 5), (1, some 6), (4, some 1), (5, none), (6, some 1), (7, none), (8, some 1), (9, none), (28, some 1), (29, none)] σ τ6 := F4.tr (f56.mono rfl)
                rw [if_pos rfl, w6, okB]
                refine ((d5.fr F6 rfl).add (m := 6) (g := fun i => (zplR T L p R (13 + 2 * i) : Int)) h3 (by omega) (fun i hi => ?_) ?_).imp (fun y hy => ?_)
                · unfold zplR
                  rw [zup_ne (by omega), zup_ne (by omega), zup_ne (by omega), nmR_lo (by omega)]
                · unfold zplR
                  rw [zup_ne (by omega), show 13 + 2 * R 3 = 12 + 2 * R 3 + 1 by omega, zup_eq]
                · have G : Fr [(1, some 3), (1, some 4), (1, some 5), (1, some 6), (4, some 1), (5, none), (6, some 1), (7, none), (8, some 1), (9, none), (28, some 1), (29, none), (30, some 1), (31, none)] σ y.2 := (F6.mono rfl).tr (hy.2.mono rfl)
                  unfold zplR at hz1 hy ⊢
                  refine okS.mpr (zXO.good (by unfold zpl5 afE; rw [l4, e5]; exact e6) ⟨t6.co hy.2 rfl, ?_, ?_, ⟨?_, ?_, (d3.fr G rfl).cg (by simp (disch := omega) only [zup_ne, zup_eq, nmR_lo]) (fun i hi => by simp (disch := omega) only [zup_ne, zup_eq, nmR_lo]), ((hz1.1.fr f56 rfl).fr hy.2 rfl).cg (by simp (disch := omega) only [zup_ne, zup_eq, nmR_lo]) (fun i hi => rfl), hy.1.cg (by simp (disch := omega) only [zup_ne, zup_eq, nmR_lo]) (fun i hi => rfl), (d6.fr G rfl).cg (by simp (disch := omega) only [zup_ne, zup_eq, nmR_lo]) (fun i hi => by simp (disch := omega) only [zup_ne, zup_eq, nmR_lo]), (d7.fr G rfl).cg (by simp (disch := omega) only [zup_ne, zup_eq, nmR_lo]) (fun i hi => by simp (disch := omega) only [zup_ne, zup_eq, nmR_lo]), (d8.fr G rfl).cg (by simp (disch := omega) only [zup_ne, zup_eq, nmR_lo]) (fun i hi => by simp (disch := omega) only [zup_ne, zup_eq, nmR_lo]), (d9.fr G rfl).cg (by simp (disch := omega) only [zup_ne, zup_eq, nmR_lo]) (fun i hi => by simp (disch := omega) only [zup_ne, zup_eq, nmR_lo]), fun k => ?_, fun k => ?_⟩, y3.fr G rfl, ?_⟩)
                  · rw [hy.2.I 1 5 rfl]; exact g6
                  · rw [G.I 1 12 rfl]; exact y1
                  · rw [G.I 25 0 rfl]; simp (disch := omega) only [zup_ne, nmR_lo]; exact d1
                  · rw [G.I 25 1 rfl]; simp (disch := omega) only [zup_ne, nmR_lo]; exact d2
                  · rw [G.L 25 4 rfl, d10 k]; simp (disch := omega) only [zup_ne, nmR_hi]
                  · rw [G.L 25 5 rfl, d11 k]; simp (disch := omega) only [zup_ne, nmR_hi]
                  · simp (disch := omega) only [zup_ne, zup_eq, nmR_lo]
                    have := ((((n1.fr f2 rfl).fr f3 rfl).fr hz1.2 rfl).fr f56 rfl).fr hy.2 rfl
                    rw [show R 2 + (R 3 + 1) = R 2 + R 3 + 1 by omega]
                    exact this
              · dsimp only
                rw [if_neg Bool.false_ne_true]
                exact okS.mpr (zXO.bad (by unfold zpl5 afE; rw [l4, e5, ex]) hx)
            · dsimp only
              rw [if_neg Bool.false_ne_true]
              exact okS.mpr (zXO.bad (by unfold zpl5 afE; rw [l4, ex]; rfl) hx)
        · rw [if_neg (fun q => c ((ixF_m2 (by omega)).mp q)), zx_fail (v := 3) (n := 3) rfl h4, Option.bind_some]
          exact okS.mpr (zXO.bad (x := (3, zbb T L (zpq T L p))) (by unfold zpl5 zpl4 afE; rw [l3]; unfold dpE; dsimp only; rw [if_neg c]; rfl) zx_ff)
      · dsimp only
        rw [if_neg Bool.false_ne_true]
        exact okS.mpr (zXO.bad (by unfold zpl5 zpl4 zpl3 afE; rw [l2, ex]; rfl) hx)
    · dsimp only
      rw [if_neg Bool.false_ne_true]
      exact okS.mpr (zXO.bad (by unfold zpl5 zpl4 zpl3 zpl2 afE; rw [e1, ex]; rfl) hx)
  · dsimp only
    rw [if_neg Bool.false_ne_true]
    exact okS.mpr (zXO.bad (by unfold zpl5 zpl4 zpl3 zpl2 afE; rw [ex]; rfl) hx)
theorem zm_plL {c v : Nat} {u w : Int32} {k : Int32 → Int32 → Sg → Option (Unit × Sg)} {P : Unit × Sg → Prop} (hc : R 3 = c) (hc4 : c ≤ 6) (hd : ∀ i, i < c → R (12 + 2 * i) ≤ 1000) (hv : v < 1000) : ∀ (n i : Nat) (e : zE) (τ : Sg), i ≤ c → c - i < n → (e = none → w = iI (v : Int)) → zMS T L e p0 τ → AR τ 70 189 R → (∀ υ, zMS T L (dpE T L e p0 (ixF (fun i => (R (12 + 2 * i) : Int)) (v : Int) (c - i) i)) p0 υ → Fr wrW τ υ → ok (k u w υ) P) → ok (f_m_placeLine_L45 N n u w (iI (i : Int)) τ k) P := by
  intro n
  induction n with
  | zero => intro i e τ _ h; omega
  | succ n ih =>
    intro i e τ hi hn hw hm hR hk
    unfold f_m_placeLine_L45
    rw [show gA τ 70 3 = iI (c : Int) by rw [← hc]; exact hR.A (z := 3) 3 rfl (by omega) (by omega)]
    by_cases h : i = c
    · rw [if_pos (show iI (c : Int) ≤ iI (i : Int) by rw [iI_le (by omega) (by omega) (by omega) (by omega)]; omega)]
      refine hk τ ?_ Fr.rf
      rw [show c - i = 0 by omega]
      cases e with
      | none => exact hm
      | some x => exact hm
    · rw [if_neg (show ¬ iI (c : Int) ≤ iI (i : Int) by rw [iI_le (by omega) (by omega) (by omega) (by omega)]; omega), show iI (i : Int) + 1 = iI ((i + 1 : Nat) : Int) from iI_add _ 1]
      cases e with
      | some x =>
        rw [if_neg (ne10 (hm.2.2 x rfl).1)]
        exact ih (i + 1) (some x) τ (by omega) (by omega) (fun q => by cases q) hm hR (fun υ h1 h2 => hk υ h1 h2)
      | none =>
        have g := hm.2.1 rfl
        have hdi := hd i (by omega)
        rw [if_pos g.1, show (12 : Int32) + 2 * iI (i : Int) = iI ((12 + 2 * i : Nat) : Int) by rw [show (2 : Int32) = iI 2 from rfl, show (12 : Int32) = iI 12 from rfl, iI_mul, iI_add]; rfl, if_pos (show vin (iI ((12 + 2 * i : Nat) : Int)) 189 by rw [vin_iI (by omega) (by omega)]; omega), hR.A (12 + 2 * i) rfl (by omega) (by omega), hw rfl]
        rw [hw rfl] at ih hk
        have ex : ixF (fun i => (R (12 + 2 * i) : Int)) (v : Int) (c - i) i = if (R (12 + 2 * i) : Int) = (v : Int) then (i : Int) else ixF (fun i => (R (12 + 2 * i) : Int)) (v : Int) (c - (i + 1)) (i + 1) := by
          rw [show c - i = (c - (i + 1)) + 1 by omega]; rfl
        rw [ex] at hk
        by_cases cc : (R (12 + 2 * i) : Int) = (v : Int)
        · rw [if_pos cc] at hk
          rw [if_pos (show iI (R (12 + 2 * i) : Int) = iI (v : Int) by rw [cc]), zm_wrong (v := 3) (n := 3) g.1 rfl g.2.2.1, Option.bind_some]
          have f := wrg_fr (σ := τ) (n := 3) (a := zbb T L p0)
          refine ih (i + 1) (some (3, zbb T L p0)) _ (by omega) (by omega) (fun q => by cases q) (zMS.bad (hm.1.co f rfl) wrg_f) (hR.fr f rfl) (fun υ h1 h2 => hk υ ?_ (f.tr h2))
          rw [show dpE T L none p0 (i : Int) = some (3, zbb T L p0) by unfold dpE; dsimp only; rw [if_neg (by omega)]]
          exact h1
        · rw [if_neg cc] at hk
          rw [if_neg (show ¬ iI (R (12 + 2 * i) : Int) = iI (v : Int) by rw [iI_eq (by omega) (by omega) (by omega) (by omega)]; exact cc)]
          exact ih (i + 1) none τ (by omega) (by omega) (fun _ => rfl) hm hR hk
theorem ixF_cg {g f : Nat → Int} {v : Int} : ∀ (n i : Nat), (∀ k, i ≤ k → k < i + n → g k = f k) → ixF g v n i = ixF f v n i := by
  intro n
  induction n with
  | zero => intro i _; rfl
  | succ n ih =>
    intro i h
    unfold ixF
    rw [h i (by omega) (by omega), ih (i + 1) (fun k h1 h2 => h k (by omega) (by omega))]
theorem zm_place (hN : 200000 ≤ N) (hL : L ≤ 900) (hT : ∀ i, T i < 256) {p : Nat} (hp : p ≤ L) (hb : zB R) (h3 : R 3 < 6) (hd : ∀ i, i < R 3 → R (12 + 2 * i) ≤ 60) (hn : zNI T L R nf nt sl) (h : zM T L p R S B σ) : ok (f_m_placeLine N σ) (fun y => zMO (zpl5 T L p R nf nt) (zM T L (ldp T L (zee T L (zpq T L p))) (zplR T L p R) S B) y.2) := by
  have hz := z_le (T := T) hp
  have hz2 := z_le (T := T) hz.2.2
  have hz3 := z_le (T := T) hz2.2.2
  have hz4 := z_le (T := T) hz3.2.2
  have hv := z_vv (T := T) (L := L) (p := zpq T L p)
  obtain ⟨b0, b2, b3, b4, b5, b6, b7⟩ := hb
  obtain ⟨hm, hR, hS, hB⟩ := h
  unfold f_m_placeLine
  rw [if_pos (hm.2.1 rfl).1, show gA σ 70 3 = iI (R 3 : Int) from hR.A (z := 3) 3 rfl (by omega) (by omega), show (12 : Int32) + 2 * iI (R 3 : Int) = iI ((12 + 2 * R 3 : Nat) : Int) by rw [show (2 : Int32) = iI 2 from rfl, show (12 : Int32) = iI 12 from rfl, iI_mul, iI_add]; rfl, okB]
  refine (zm_newName (s := 3 + R 3) hN hL hT (iI_add 3 _) hp (by omega) hm hR hn).imp (fun q1 h1 => ?_)
  rw [okB]
  refine (zm_must hN hL hT hz.2.2 (by omega) h1.1.1).imp (fun q2 h2 => ?_)
  change zMS T L (zpl2 T L p R nf nt) (zpq T L p) q2.2 ∧ _ at h2
  have A2 := h1.1.2.fr h2.2 rfl
  rw [okB, zm_cellE]
  have c2 : gA q2.2 70 0 = iI (R 0 : Int) := by
    rw [show gA q2.2 70 0 = iI (zcr (neE T L p (R 2 + R 3) nf nt) (nmR T R (zbb T L p) (zee T L p) (3 + R 3)) R 0 : Int) from A2.A (z := 0) 0 rfl (by omega) (by omega), zcr_lo (by omega)]
  rw [c2]
  refine (zm_numH (p := zpq T L p) (lo := 0) (hi := (R 0 : Int) - 1) hN hL hz2.2.2 (fun _ => ⟨rfl, iI_sub _ 1⟩) (by omega) (by omega) h2.1).imp (fun q3 hq3 => ?_)
  have A3 := A2.fr hq3.2.2 rfl
  change zMS T L (zpl3 T L p R nf nt) (zpq T L p) q3.2 ∧ (zpl3 T L p R nf nt = none → _) ∧ _ at hq3
  refine zm_plL (N := N) (c := R 3) (v := zvv T L (zpq T L p)) (R := zcr (neE T L p (R 2 + R 3) nf nt) (nmR T R (zbb T L p) (zee T L p) (3 + R 3)) R) (zcr_lo (by omega)) (by omega) (fun i hi => by rw [zcr_lo (by omega)]; have := hd i hi; omega) hv N 0 _ q3.2 (by omega) (by omega) hq3.2.1 hq3.1 A3 (fun υ m4 f4 => ?_)
  rw [show ixF (fun i => (zcr (neE T L p (R 2 + R 3) nf nt) (nmR T R (zbb T L p) (zee T L p) (3 + R 3)) R (12 + 2 * i) : Int)) (zvv T L (zpq T L p) : Int) (R 3 - 0) 0 = zplI R (zvv T L (zpq T L p)) from ixF_cg _ _ (fun k h1 h2 => by rw [zcr_lo (by omega)])] at m4
  change zMS T L (zpl4 T L p R nf nt) (zpq T L p) υ at m4
  have A4 := A3.fr f4 rfl
  rw [okB]
  refine (zm_pass (p := zpq T L p) hN hL hz2.2.2 m4).imp (fun q5 h5 => ?_)
  have A5 := A4.fr h5.2 rfl
  rw [okB]
  refine (zm_aft (p := zee T L (zpq T L p)) (lo := 1) (hi := 99) hN hL hT hz3.2.2 (by omega) (fun _ => ⟨rfl, rfl⟩) (by omega) (by omega) h5.1).imp (fun q6 h6 => ?_)
  have A6 := A5.fr h6.2.2 rfl
  have F6 : Fr zmW σ q6.2 := (((((h1.2).tr (h2.2.mono rfl)).tr (hq3.2.2.mono rfl)).tr (f4.mono rfl)).tr (h5.2.mono rfl)).tr (h6.2.2.mono rfl)
  change zMS T L (zpl5 T L p R nf nt) (ldp T L (zee T L (zpq T L p))) q6.2 ∧ (zpl5 T L p R nf nt = none → _) ∧ _ at h6
  have m6 := h6.1
  cases e : zpl5 T L p R nf nt with
  | some x =>
    rw [e] at m6
    have hf := m6.2.2 x rfl
    rw [if_neg (ne10 hf.1)]
    exact okS.mpr (zMO.bad rfl hf)
  | none =>
    have e4 : zpl4 T L p R nf nt = none := (wrE_none (nuE_none (show nuE T L (wrE T L (zpl4 T L p R nf nt) (zee T L (zpq T L p)) 15) (zee T L (zee T L (zpq T L p))) 1 99 = none from e)).1).1
    have e3 : zpl3 T L p R nf nt = none := (dpE_none (show dpE T L (zpl3 T L p R nf nt) (zpq T L p) (zplI R (zvv T L (zpq T L p))) = none from e4)).1
    have e2 : zpl2 T L p R nf nt = none := (nuE_none (show nuE T L (zpl2 T L p R nf nt) (zpq T L p) 0 ((R 0 : Int) - 1) = none from e3)).1
    have e1 : neE T L p (R 2 + R 3) nf nt = none := (wrE_none (show wrE T L (neE T L p (R 2 + R 3) nf nt) (zee T L p) 14 = none from e2)).1
    rw [e] at m6
    rw [e1] at A6
    rw [if_pos (m6.2.1 rfl).1, show iI ((12 + 2 * R 3 : Nat) : Int) + 1 = iI ((12 + 2 * R 3 + 1 : Nat) : Int) from iI_add _ 1, if_pos (show vin (iI ((12 + 2 * R 3 : Nat) : Int)) 189 by rw [vin_iI (by omega) (by omega)]; omega), if_pos (show vin (iI ((12 + 2 * R 3 + 1 : Nat) : Int)) 189 by rw [vin_iI (by omega) (by omega)]; omega), hq3.2.1 e3, h6.2.1 e]
    have B1 : AR (sA q6.2 70 (iI ((12 + 2 * R 3 : Nat) : Int)) (iI (zvv T L (zpq T L p) : Int))) 70 189 (zup (nmR T R (zbb T L p) (zee T L p) (3 + R 3)) (12 + 2 * R 3) (zvv T L (zpq T L p))) := A6.up (by omega) rfl rfl
    have B2 : AR (sA (sA q6.2 70 (iI ((12 + 2 * R 3 : Nat) : Int)) (iI (zvv T L (zpq T L p) : Int))) 70 (iI ((12 + 2 * R 3 + 1 : Nat) : Int)) (iI (zvv T L (zee T L (zee T L (zpq T L p))) : Int))) 70 189 (zup (zup (nmR T R (zbb T L p) (zee T L p) (3 + R 3)) (12 + 2 * R 3) (zvv T L (zpq T L p))) (12 + 2 * R 3 + 1) (zvv T L (zee T L (zee T L (zpq T L p))))) := B1.up (by omega) rfl rfl
    have f7 : Fr [(70, none)] q6.2 (sA (sA q6.2 70 (iI ((12 + 2 * R 3 : Nat) : Int)) (iI (zvv T L (zpq T L p) : Int))) 70 (iI ((12 + 2 * R 3 + 1 : Nat) : Int)) (iI (zvv T L (zee T L (zee T L (zpq T L p))) : Int))) := Fr.wA (Fr.wA Fr.rf (by simp)) (by simp)
    generalize sA (sA q6.2 70 (iI ((12 + 2 * R 3 : Nat) : Int)) (iI (zvv T L (zpq T L p) : Int))) 70 (iI ((12 + 2 * R 3 + 1 : Nat) : Int)) (iI (zvv T L (zee T L (zee T L (zpq T L p))) : Int)) = ω at B2 f7 ⊢
    have e5 : gA ω 70 3 = iI (R 3 : Int) := by
      rw [show gA ω 70 3 = iI (zup (zup (nmR T R (zbb T L p) (zee T L p) (3 + R 3)) (12 + 2 * R 3) (zvv T L (zpq T L p))) (12 + 2 * R 3 + 1) (zvv T L (zee T L (zee T L (zpq T L p)))) 3 : Int) from B2.A (z := 3) 3 rfl (by omega) (by omega), zup_ne (by omega), zup_ne (by omega), nmR_lo (by omega)]
    rw [e5]
    have f8 : Fr [(70, none)] q6.2 (sA ω 70 3 (iI (R 3 : Int) + 1)) := Fr.wA f7 (by simp)
    refine okS.mpr (zMO.good rfl ⟨m6.fr f8 rfl, B2.up (i := 3) (v := R 3 + 1) (by omega) rfl (iI_add _ 1), (hS.fr F6 rfl).fr f8 rfl, fun h8 => ((hB ?_).fr F6 rfl).fr f8 rfl⟩)
    unfold zplR at h8
    rw [zup_ne (by omega), zup_ne (by omega), zup_ne (by omega), nmR_lo (by omega)] at h8
    exact h8
end ZPL
