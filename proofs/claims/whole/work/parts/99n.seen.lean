section ZSE
variable {N : Nat} {σ : Sg} {T R S B nf nt sl : Nat → Nat} {L p0 : Nat}
/-! the seen line -/
def zseI (R : Nat → Nat) (v : Nat) : Int := ixF (fun i => (R (36 + 2 * i) : Int)) (v : Int) (R 6) 0
def zse1 (T : Nat → Nat) (L p : Nat) (R : Nat → Nat) : zE := dpE T L (nuE T L none p 0 ((R 0 : Int) - 1)) p (zseI R (zvv T L p))
def zse2 (T : Nat → Nat) (L p : Nat) (R : Nat → Nat) : zE := w2E T L (zse1 T L p R) (zee T L p) 18 19
def zsev (T : Nat → Nat) (L p : Nat) : Nat := if zis T L (zee T L p) 18 = true then 1 else 0
def zseR (R : Nat → Nat) (v g : Nat) : Nat → Nat := zup (zup (zup R (36 + 2 * R 6) v) (36 + 2 * R 6 + 1) g) 6 (R 6 + 1)
theorem zx_setail (hb : zB R) (h6 : R 6 < 6) {p v g : Nat} {w : Int32} {τ : Sg} (hw : w = iI (g : Int)) (ht : TxX T L τ) (h5 : gI τ 1 5 = iI (p : Int)) (F : Fr [(1, some 3), (1, some 4), (1, some 5), (1, some 6), (36, some 1), (37, none)] σ τ) (h36 : zL 36 (R 6 + 1) (fun i => (zup R (36 + 2 * R 6) v (36 + 2 * i) : Int)) τ) (h : zY R S B nf nt sl σ) : ok ((f_numbers_add N 38 6 39 w τ).bind fun q9 => some (true, q9.2)) (fun z => z.1 = true ∧ zX T L p (zseR R v g) S B nf nt sl z.2) := by
  obtain ⟨b0, b2, b3, b4, b5, b6, b7⟩ := hb
  obtain ⟨y1, ⟨d1, d2, d3, d4, d5, d6, d7, d8, d9, d10, d11⟩, y3, y4⟩ := h
  rw [okB]
  refine ((d9.fr F rfl).add (m := 6) (g := fun i => (zseR R v g (37 + 2 * i) : Int)) h6 (by omega) (fun i hi => ?_) ?_).imp (fun z hz => ?_)
  · unfold zseR; simp (disch := omega) only [zup_ne, zup_eq, gdR_lo]
  · unfold zseR
    rw [zup_ne (by omega), show 37 + 2 * R 6 = 36 + 2 * R 6 + 1 by omega, zup_eq]; exact hw
  · have G : Fr [(1, some 3), (1, some 4), (1, some 5), (1, some 6), (36, some 1), (37, none), (38, some 1), (39, none)] σ z.2 := (F.mono rfl).tr (hz.2.mono rfl)
    unfold zseR at hz ⊢
    refine okS.mpr ⟨rfl, ht.co hz.2 rfl, ?_, ?_, ⟨?_, ?_, (d3.fr G rfl).cg (by simp (disch := omega) only [zup_ne, zup_eq, gdR_lo]) (fun i hi => by simp (disch := omega) only [zup_ne, zup_eq, gdR_lo]), (d4.fr G rfl).cg (by simp (disch := omega) only [zup_ne, zup_eq, gdR_lo]) (fun i hi => by simp (disch := omega) only [zup_ne, zup_eq, gdR_lo]), (d5.fr G rfl).cg (by simp (disch := omega) only [zup_ne, zup_eq, gdR_lo]) (fun i hi => by simp (disch := omega) only [zup_ne, zup_eq, gdR_lo]), (d6.fr G rfl).cg (by simp (disch := omega) only [zup_ne, zup_eq, gdR_lo]) (fun i hi => by simp (disch := omega) only [zup_ne, zup_eq, gdR_lo]), (d7.fr G rfl).cg (by simp (disch := omega) only [zup_ne, zup_eq, gdR_lo]) (fun i hi => by simp (disch := omega) only [zup_ne, zup_eq, gdR_lo]), (h36.fr hz.2 rfl).cg (by simp (disch := omega) only [zup_ne, zup_eq, gdR_lo]) (fun i hi => by simp (disch := omega) only [zup_ne, zup_eq, gdR_lo]), hz.1.cg (by simp (disch := omega) only [zup_ne, zup_eq, gdR_lo]) (fun i hi => rfl), fun k => ?_, fun k => ?_⟩, y3.fr G rfl, ?_⟩
    · rw [hz.2.I 1 5 rfl]; exact h5
    · rw [G.I 1 12 rfl]; exact y1
    · rw [G.I 25 0 rfl]; simp (disch := omega) only [zup_ne]; exact d1
    · rw [G.I 25 1 rfl]; simp (disch := omega) only [zup_ne]; exact d2
    · rw [G.L 25 4 rfl, d10 k]; simp (disch := omega) only [zup_ne, zup_eq, gdR_lo]
    · rw [G.L 25 5 rfl, d11 k]; simp (disch := omega) only [zup_ne, zup_eq, gdR_lo]
    · simp (disch := omega) only [zup_ne]; exact y4.fr G rfl
theorem zx_seen (hN : 200000 ≤ N) (hL : L ≤ 900) {p : Nat} (hp : p ≤ L) (hb : zB R) (h6 : R 6 < 6) (hd : ∀ i, i < R 6 → R (36 + 2 * i) ≤ 60) (h : zX T L p R S B nf nt sl σ) : ok (f_reader_readSeen N σ) (zXO (zse2 T L p R) (zX T L (zee T L (zee T L p)) (zseR R (zvv T L p) (zsev T L p)) S B nf nt sl)) := by
  have hz := z_le (T := T) hp
  have hv := z_vv (T := T) (L := L) (p := p)
  have hb' := hb
  obtain ⟨b0, b2, b3, b4, b5, b6, b7⟩ := hb
  unfold f_reader_readSeen
  have hy := h.2.2
  obtain ⟨t0, g0, y1, ⟨d1, d2, d3, d4, d5, d6, d7, d8, d9, d10, d11⟩, y3, y4⟩ := h
  rw [zx_cellE]
  refine zx_whole (lo := 0) (hi := (R 0 : Int) - 1) hN hL hp rfl (by rw [d1]; exact iI_sub _ 1) (by omega) (by omega) t0 g0 (fun τ1 e1 c1 f1 t1 g1 w1 h4 => ?_) (fun τ x ex hx => ?_)
  · dsimp only
    rw [if_pos rfl, w1]
    have D8 := d8.fr f1 rfl
    rw [px_indexOf (g := fun i => (R (36 + 2 * i) : Int)) hN D8.1 (by omega) (by omega) (fun i hi => ⟨D8.2 i hi, by have := hd i hi; omega, by have := hd i hi; omega⟩) (by omega) (by omega), Option.bind_some]
    dsimp only
    by_cases c : zseI R (zvv T L p) = -2
    · have es1 : zse1 T L p R = none := by unfold zse1; rw [e1]; unfold dpE; dsimp only; rw [if_pos c]
      rw [if_pos ((ixF_m2 (by omega)).mpr c), w1, okB]
      refine (D8.add (m := 6) (g := fun i => (zup R (36 + 2 * R 6) (zvv T L p) (36 + 2 * i) : Int)) h6 (by omega) (fun i hi => ?_) ?_).imp (fun z hz1 => ?_)
      · simp (disch := omega) only [zup_ne, zup_eq, gdR_lo]
      · rw [zup_eq]
      · rw [okB]
        have F1 : Fr [(1, some 3), (1, some 4), (1, some 5), (1, some 6), (36, some 1), (37, none)] σ z.2 := (f1.mono rfl).tr (hz1.2.mono rfl)
        refine (zx_next hN hL hz.2.2 (t1.co hz1.2 rfl) ((hz1.2.I 1 5 rfl).trans g1)).imp (fun q hq => ?_)
        have F2 : Fr [(1, some 3), (1, some 4), (1, some 5), (1, some 6), (36, some 1), (37, none)] σ q.2 := F1.tr (hq.2.2.mono rfl)
        have L36 := hz1.1.fr hq.2.2 rfl
        rw [zx_is hN hL hz.2.2 (by omega) hq.2.1 hq.1, Option.bind_some]
        dsimp only
        by_cases a1 : zis T L (zee T L p) 18 = true
        · rw [if_pos a1]
          refine (zx_setail (g := zsev T L p) hb' h6 (by unfold zsev; rw [if_pos a1]; rfl) hq.2.1 hq.1.2.2.1 F2 L36 hy).imp (fun y hy2 => ⟨fun _ => hy2, fun x hx => ?_⟩)
          unfold zse2 at hx
          rw [es1] at hx
          unfold w2E at hx
          dsimp only at hx
          rw [if_pos a1] at hx
          cases hx
        · rw [if_neg a1, zx_is hN hL hz.2.2 (by omega) hq.2.1 hq.1, Option.bind_some]
          dsimp only
          by_cases a2 : zis T L (zee T L p) 19 = true
          · rw [if_pos a2]
            refine (zx_setail (g := zsev T L p) hb' h6 (by unfold zsev; rw [if_neg a1]; rfl) hq.2.1 hq.1.2.2.1 F2 L36 hy).imp (fun y hy2 => ⟨fun _ => hy2, fun x hx => ?_⟩)
            unfold zse2 at hx
            rw [es1] at hx
            unfold w2E at hx
            dsimp only at hx
            rw [if_neg a1, if_pos a2] at hx
            cases hx
          · rw [if_neg a2, zx_fail (v := 1) (n := 1) rfl hq.1.1, Option.bind_some]
            exact okS.mpr (zXO.bad (x := (1, zbb T L (zee T L p))) (by unfold zse2; rw [es1]; unfold w2E; dsimp only; rw [if_neg a1, if_neg a2]) zx_ff)
    · rw [if_neg (fun q => c ((ixF_m2 (by omega)).mp q)), zx_fail (v := 3) (n := 3) rfl h4, Option.bind_some]
      exact okS.mpr (zXO.bad (x := (3, zbb T L p)) (by unfold zse2 zse1; rw [e1]; unfold dpE; dsimp only; rw [if_neg c]; rfl) zx_ff)
  · dsimp only
    rw [if_neg Bool.false_ne_true]
    exact okS.mpr (zXO.bad (by unfold zse2 zse1; rw [ex]; rfl) hx)
theorem zm_seL {c v : Nat} {u w : Int32} {k : Int32 → Int32 → Sg → Option (Unit × Sg)} {P : Unit × Sg → Prop} (hc : R 6 = c) (hc4 : c ≤ 6) (hd : ∀ i, i < c → R (36 + 2 * i) ≤ 1000) (hv : v < 1000) : ∀ (n i : Nat) (e : zE) (τ : Sg), i ≤ c → c - i < n → (e = none → w = iI (v : Int)) → zMS T L e p0 τ → AR τ 70 189 R → (∀ υ, zMS T L (dpE T L e p0 (ixF (fun i => (R (36 + 2 * i) : Int)) (v : Int) (c - i) i)) p0 υ → Fr wrW τ υ → ok (k u w υ) P) → ok (f_m_seenLine_L28 N n u w (iI (i : Int)) τ k) P := by
  intro n
  induction n with
  | zero => intro i e τ _ h; omega
  | succ n ih =>
    intro i e τ hi hn hw hm hR hk
    unfold f_m_seenLine_L28
    rw [show gA τ 70 6 = iI (c : Int) by rw [← hc]; exact hR.A (z := 6) 6 rfl (by omega) (by omega)]
    by_cases h : i = c
    · rw [if_pos (show iI (c : Int) ≤ iI (i : Int) by rw [iI_le (by omega) (by omega) (by omega) (by omega)]; omega)]
      refine hk τ ?_ Fr.rf
      rw [show c - i = 0 by omega]
      cases e with
      | none => exact hm
      | some x => exact hm
    · rw [if_neg (show ¬ iI (c : Int) ≤ iI (i : Int) by rw [iI_le (by omega) (by omega) (by omega) (by omega)]; omega), show iI (i : Int) + 1 = iI ((i + 1 : Nat) : Int) from iI_add _ 1]
      cases e with
      | some x =>
        rw [if_neg (ne10 (hm.2.2 x rfl).1)]
        exact ih (i + 1) (some x) τ (by omega) (by omega) (fun q => by cases q) hm hR (fun υ h1 h2 => hk υ h1 h2)
      | none =>
        have g := hm.2.1 rfl
        have hdi := hd i (by omega)
        rw [if_pos g.1, show (36 : Int32) + 2 * iI (i : Int) = iI ((36 + 2 * i : Nat) : Int) by rw [show (2 : Int32) = iI 2 from rfl, show (36 : Int32) = iI 36 from rfl, iI_mul, iI_add]; rfl, if_pos (show vin (iI ((36 + 2 * i : Nat) : Int)) 189 by rw [vin_iI (by omega) (by omega)]; omega), hR.A (36 + 2 * i) rfl (by omega) (by omega), hw rfl]
        rw [hw rfl] at ih hk
        have ex : ixF (fun i => (R (36 + 2 * i) : Int)) (v : Int) (c - i) i = if (R (36 + 2 * i) : Int) = (v : Int) then (i : Int) else ixF (fun i => (R (36 + 2 * i) : Int)) (v : Int) (c - (i + 1)) (i + 1) := by
          rw [show c - i = (c - (i + 1)) + 1 by omega]; rfl
        rw [ex] at hk
        by_cases cc : (R (36 + 2 * i) : Int) = (v : Int)
        · rw [if_pos cc] at hk
          rw [if_pos (show iI (R (36 + 2 * i) : Int) = iI (v : Int) by rw [cc]), zm_wrong (v := 3) (n := 3) g.1 rfl g.2.2.1, Option.bind_some]
          have f := wrg_fr (σ := τ) (n := 3) (a := zbb T L p0)
          refine ih (i + 1) (some (3, zbb T L p0)) _ (by omega) (by omega) (fun q => by cases q) (zMS.bad (hm.1.co f rfl) wrg_f) (hR.fr f rfl) (fun υ h1 h2 => hk υ ?_ (f.tr h2))
          rw [show dpE T L none p0 (i : Int) = some (3, zbb T L p0) by unfold dpE; dsimp only; rw [if_neg (by omega)]]
          exact h1
        · rw [if_neg cc] at hk
          rw [if_neg (show ¬ iI (R (36 + 2 * i) : Int) = iI (v : Int) by rw [iI_eq (by omega) (by omega) (by omega) (by omega)]; exact cc)]
          exact ih (i + 1) none τ (by omega) (by omega) (fun _ => rfl) hm hR hk
theorem zm_setail (hN : 200000 ≤ N) (hL : L ≤ 900) (hb : zB R) (h6 : R 6 < 6) {p v g : Nat} {e : zE} {u w y : Int32} (hp : p ≤ L) (hu : u = iI ((36 + 2 * R 6 : Nat) : Int)) (hw : e = none → w = iI (v : Int)) (hy : e = none → y = iI (g : Int)) (hm : zMS T L e p σ) (hR : AR σ 70 189 R) (hS : AR σ 73 63 S) (hB : R 8 ≠ 0 → AR σ 72 63 B) :
    ok ((f_m_pass N σ).bind fun q10 => if (gI q10.2 66 13) = 0 then if vin u 189 then if vin (u + 1) 189 then some ((), sA (sA (sA q10.2 70 u w) 70 (u + 1) y) 70 6 ((gA (sA (sA q10.2 70 u w) 70 (u + 1) y) 70 6) + 1)) else none else none else some ((), q10.2))
      (fun y => zMO e (zM T L (zee T L p) (zseR R v g) S B) y.2) := by
  rw [okB]
  refine (zm_pass hN hL hp hm).imp (fun q3 h3 => ?_)
  have R3 := hR.fr h3.2 rfl
  cases e with
  | some x =>
    have hf := h3.1.2.2 x rfl
    rw [if_neg (ne10 hf.1)]
    exact okS.mpr (zMO.bad rfl hf)
  | none =>
    have m3 := h3.1
    rw [if_pos (m3.2.1 rfl).1, hu, show iI ((36 + 2 * R 6 : Nat) : Int) + 1 = iI ((36 + 2 * R 6 + 1 : Nat) : Int) from iI_add _ 1, if_pos (show vin (iI ((36 + 2 * R 6 : Nat) : Int)) 189 by rw [vin_iI (by omega) (by omega)]; omega), if_pos (show vin (iI ((36 + 2 * R 6 + 1 : Nat) : Int)) 189 by rw [vin_iI (by omega) (by omega)]; omega), hw rfl, hy rfl]
    have A1 := R3.up (i := 36 + 2 * R 6) (v := v) (by omega) rfl rfl
    have A2 := A1.up (i := 36 + 2 * R 6 + 1) (v := g) (by omega) rfl rfl
    have f4 : Fr [(70, none)] q3.2 (sA (sA q3.2 70 (iI ((36 + 2 * R 6 : Nat) : Int)) (iI (v : Int))) 70 (iI ((36 + 2 * R 6 + 1 : Nat) : Int)) (iI (g : Int))) := Fr.wA (Fr.wA Fr.rf (by simp)) (by simp)
    generalize sA (sA q3.2 70 (iI ((36 + 2 * R 6 : Nat) : Int)) (iI (v : Int))) 70 (iI ((36 + 2 * R 6 + 1 : Nat) : Int)) (iI (g : Int)) = υ at A2 f4 ⊢
    have e5 : gA υ 70 6 = iI (R 6 : Int) := by
      rw [show gA υ 70 6 = iI (zup (zup R (36 + 2 * R 6) v) (36 + 2 * R 6 + 1) g 6 : Int) from A2.A (z := 6) 6 rfl (by omega) (by omega), zup_ne (by omega), zup_ne (by omega)]
    rw [e5]
    have A3 := A2.up (i := 6) (v := R 6 + 1) (x := 6) (w := iI (R 6 : Int) + 1) (by omega) rfl (iI_add _ 1)
    have f5 : Fr [(70, none)] q3.2 (sA υ 70 6 (iI (R 6 : Int) + 1)) := Fr.wA f4 (by simp)
    refine okS.mpr (zMO.good rfl ⟨m3.fr f5 rfl, A3, (hS.fr h3.2 rfl).fr f5 rfl, fun h8 => ((hB ?_).fr h3.2 rfl).fr f5 rfl⟩)
    unfold zseR at h8
    rw [zup_ne (by omega), zup_ne (by omega), zup_ne (by omega)] at h8
    exact h8
theorem zm_seen (hN : 200000 ≤ N) (hL : L ≤ 900) (hT : ∀ i, T i < 256) {p : Nat} (hp : p ≤ L) (hb : zB R) (h6 : R 6 < 6) (hd : ∀ i, i < R 6 → R (36 + 2 * i) ≤ 60) (h : zM T L p R S B σ) : ok (f_m_seenLine N σ) (fun y => zMO (zse2 T L p R) (zM T L (zee T L (zee T L p)) (zseR R (zvv T L p) (zsev T L p)) S B) y.2) := by
  have hz := z_le (T := T) hp
  have hv := z_vv (T := T) (L := L) (p := p)
  have hb' := hb
  obtain ⟨b0, b2, b3, b4, b5, b6, b7⟩ := hb
  obtain ⟨hm, hR, hS, hB⟩ := h
  have g := hm.2.1 rfl
  unfold f_m_seenLine
  rw [if_pos g.1, zm_cellE, show gA σ 70 0 = iI (R 0 : Int) from hR.A (z := 0) 0 rfl (by omega) (by omega), show gA σ 70 6 = iI (R 6 : Int) from hR.A (z := 6) 6 rfl (by omega) (by omega), show (36 : Int32) + 2 * iI (R 6 : Int) = iI ((36 + 2 * R 6 : Nat) : Int) by rw [show (2 : Int32) = iI 2 from rfl, show (36 : Int32) = iI 36 from rfl, iI_mul, iI_add]; rfl, okB]
  refine (zm_numH (lo := 0) (hi := (R 0 : Int) - 1) hN hL hp (fun _ => ⟨rfl, iI_sub _ 1⟩) (by omega) (by omega) hm).imp (fun q1 h1 => ?_)
  refine zm_seL (N := N) (c := R 6) (v := zvv T L p) rfl (by omega) (fun i hi => by have := hd i hi; omega) hv N 0 _ q1.2 (by omega) (by omega) h1.2.1 h1.1 (hR.fr h1.2.2 rfl) (fun υ m2 f2 => ?_)
  change zMS T L (zse1 T L p R) p υ at m2
  have F2 : Fr wrW σ υ := h1.2.2.tr f2
  rw [okB]
  refine (zm_pass hN hL hp m2).imp (fun q3 h3 => ?_)
  have F3 : Fr tkf σ q3.2 := (F2.mono rfl).tr (h3.2.mono rfl)
  have R3 := hR.fr F3 rfl
  have S3 := hS.fr F3 rfl
  have B3 : R 8 ≠ 0 → AR q3.2 72 63 B := fun h8 => (hB h8).fr F3 rfl
  have m3 := h3.1
  have hw : zse1 T L p R = none → q1.1 = iI (zvv T L p : Int) := fun e => h1.2.1 (dpE_none (show dpE T L (nuE T L none p 0 ((R 0 : Int) - 1)) p (zseI R (zvv T L p)) = none from e)).1
  cases e : zse1 T L p R with
  | some x =>
    rw [e] at m3
    have hf := m3.2.2 x rfl
    rw [show zse2 T L p R = some x by unfold zse2; rw [e]; rfl, zF_is hf.1, Option.bind_some]
    dsimp only
    rw [if_neg Bool.false_ne_true, zF_is hf.1, Option.bind_some]
    dsimp only
    rw [if_neg Bool.false_ne_true, zF_wrong hf.1, Option.bind_some]
    exact zm_setail hN hL hb' h6 hz.2.2 rfl (fun q => by cases q) (fun q => by cases q) m3 R3 S3 B3
  | none =>
    rw [e] at m3
    have g3 := m3.2.1 rfl
    rw [zm_is hN hL hT hz.2.2 (by omega) g3, Option.bind_some]
    dsimp only
    by_cases a1 : zis T L (zee T L p) 18 = true
    · rw [if_pos a1, show zse2 T L p R = none by unfold zse2; rw [e]; unfold w2E; dsimp only; rw [if_pos a1]]
      exact zm_setail hN hL hb' h6 hz.2.2 rfl (fun _ => hw e) (fun _ => by unfold zsev; rw [if_pos a1]; rfl) m3 R3 S3 B3
    · rw [if_neg a1, zm_is hN hL hT hz.2.2 (by omega) g3, Option.bind_some]
      dsimp only
      by_cases a2 : zis T L (zee T L p) 19 = true
      · rw [if_pos a2, show zse2 T L p R = none by unfold zse2; rw [e]; unfold w2E; dsimp only; rw [if_neg a1, if_pos a2]]
        exact zm_setail hN hL hb' h6 hz.2.2 rfl (fun _ => hw e) (fun _ => by unfold zsev; rw [if_neg a1]; rfl) m3 R3 S3 B3
      · rw [if_neg a2, zm_wrong (v := 1) (n := 1) g3.1 rfl g3.2.2.1, Option.bind_some, show zse2 T L p R = some (1, zbb T L (zee T L p)) by unfold zse2; rw [e]; unfold w2E; dsimp only; rw [if_neg a1, if_neg a2]]
        have f := wrg_fr (σ := q3.2) (n := 1) (a := zbb T L (zee T L p))
        exact zm_setail hN hL hb' h6 hz.2.2 rfl (fun q => by cases q) (fun q => by cases q) (zMS.bad (m3.1.co f rfl) wrg_f) (R3.fr f rfl) (S3.fr f rfl) (fun h8 => (B3 h8).fr f rfl)
end ZSE
