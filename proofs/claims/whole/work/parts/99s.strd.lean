section ZSR
variable {N : Nat} {σ : Sg} {T R S B nf nt sl : Nat → Nat} {L : Nat}
/-! the stride line -/
def zbt (sl : Nat → Nat) (o : Option Nat) : Int := match o with
  | none => -1
  | some i => zbn (sl i)
def zstb (sl : Nat → Nat) (o : Option Nat) : Nat := match o with
  | none => 0
  | some i => sl i
def zst1 (T : Nat → Nat) (L p c : Nat) (nf nt sl : Nat → Nat) : zE := if zso T L p = -1 then (if zbt sl (zfd T L p c nf nt) = -1 then some (2, zbb T L p) else none) else some (1, zbb T L p)
def zst2 (T : Nat → Nat) (L p c : Nat) (nf nt sl : Nat → Nat) : zE := w2E T L (zst1 T L p c nf nt sl) (zee T L p) 16 17
def zstw (T : Nat → Nat) (L p : Nat) : Nat := if zis T L (zee T L p) 16 = true then 0 else 1
def cnE (T : Nat → Nat) (L : Nat) (e : zE) (p : Nat) (b : Bool) : zE := match e with
  | some x => some x
  | none => if b = true then none else some (7, zbb T L p)
def zst3 (T : Nat → Nat) (L p : Nat) (R S nf nt sl : Nat → Nat) : zE := cnE T L (zst2 T L p (R 2 + R 3) nf nt sl) (zee T L p) (can R S (2 * zstb sl (zfd T L p (R 2 + R 3) nf nt) + 1 + zstw T L p))
def zstR (R : Nat → Nat) (d : Nat) : Nat → Nat := zup (zup R (24 + R 4) d) 4 (R 4 + 1)
theorem zx_stail (hb : zB R) (h4 : R 4 < 8) (hb9 : ∀ b, b < R 2 → R (9 + b) ≤ 9) (hs : S 60 < R 0) {p b w : Nat} {u v : Int32} (hp : p ≤ L) (hbR : b < R 2) (hw : w ≤ 1) (hu : u = iI (b : Int)) (hv : v = iI (w : Int)) (ht : TxX T L σ) (hc : zCT T L p σ) (h : zY R S B nf nt sl σ) :
    ok ((f_x_digitFor N u v σ).bind fun q14 => (f_country_target N 26 3 27 25 (gL q14.2 25 14) (gI q14.2 25 13) q14.1 q14.2).bind fun q15 => if q15.1 = (-2) then (f_reader_fail N 7 q15.2).bind fun q18 => some (q18.1, q18.2) else (f_x_inside N (gI q15.2 25 13) q15.1 q15.2).bind fun q16 => (f_numbers_add N 32 8 33 q14.1 (sI (sL q16.2 25 14 ((gL q15.2 25 14) ||| q16.1)) 25 13 q15.1)).bind fun q17 => some (true, q17.2))
      (zXO (cnE T L none p (can R S (2 * b + 1 + w))) (zX T L (zee T L p) (zstR R (2 * b + w)) (go R S (2 * b + 1 + w)) B nf nt sl)) := by
  obtain ⟨b0, b2, b3, b4, b5, b6, b7⟩ := hb
  obtain ⟨y1, ⟨d1, d2, d3, d4, d5, d6, d7, d8, d9, d10, d11⟩, ⟨s1, s2, s3, s4⟩, y4⟩ := h
  unfold f_x_digitFor
  rw [Option.bind_some]
  dsimp only
  rw [hu, hv, show (2 : Int32) * iI (b : Int) + 1 + iI (w : Int) = iI ((2 * b + 1 + w : Nat) : Int) by rw [show (2 : Int32) = iI 2 from rfl, show (1 : Int32) = iI 1 from rfl, iI_mul, iI_add, iI_add]; rfl, s3, px_target d1 d3.1 d3.2 b0 b2 hb9 _ hs (by omega) (by omega), s4, Option.bind_some]
  dsimp only
  cases hd : lead R (gon S) (S 60) (2 * b + 1 + w) with
  | none =>
    rw [tg_none, if_pos (show iI (-2) = -2 from rfl), zx_fail (v := 7) (n := 7) rfl hc.1, Option.bind_some]
    refine okS.mpr (zXO.bad (x := (7, zbb T L p)) ?_ zx_ff)
    unfold cnE can
    dsimp only
    rw [hd]
    rfl
  | some t =>
    have htl := lead_lt hs hd
    rw [tg_some, if_neg (iI_m2 (by omega)), s3, px_inside N (by omega) (by omega), Option.bind_some]
    dsimp only
    have f1 : Fr [(25, some 13), (25, some 14)] σ (sI (sL σ 25 14 (gL σ 25 14 ||| insN (S 60) t)) 25 13 (iI (t : Int))) := Fr.wI (Fr.wL Fr.rf (by simp)) (by simp)
    have v13 : gI (sI (sL σ 25 14 (gL σ 25 14 ||| insN (S 60) t)) 25 13 (iI (t : Int))) 25 13 = iI (t : Int) := gI_eq
    have v14 : tb (gL (sI (sL σ 25 14 (gL σ 25 14 ||| insN (S 60) t)) 25 13 (iI (t : Int))) 25 14) = gon (mv R S t) := by
      rw [gL_sIx, gL_eq, gon_mv (by omega) (by omega)]
      funext k
      rw [tb_or, s4, tb_ins (by omega) (by omega)]
      rfl
    generalize sI (sL σ 25 14 (gL σ 25 14 ||| insN (S 60) t)) 25 13 (iI (t : Int)) = υ at f1 v13 v14 ⊢
    rw [okB]
    refine ((d6.fr f1 rfl).add (m := 8) (g := fun i => (zstR R (2 * b + w) (24 + i) : Int) + 1) h4 (by omega) (fun i hi => ?_) ?_).imp (fun z hz => ?_)
    · unfold zstR; simp (disch := omega) only [zup_ne, zup_eq, gdR_lo]
    · unfold zstR
      rw [zup_ne (by omega), zup_eq]
      congr 1
      omega
    · have G : Fr [(25, some 13), (25, some 14), (32, some 1), (33, none)] σ z.2 := (f1.mono rfl).tr (hz.2.mono rfl)
      unfold zstR at hz ⊢
      rw [go_some hd]
      refine okS.mpr (zXO.good ?_ ⟨ht.co G rfl, ?_, ?_, ⟨?_, ?_, (d3.fr G rfl).cg (by simp (disch := omega) only [zup_ne, zup_eq, gdR_lo]) (fun i hi => by simp (disch := omega) only [zup_ne, zup_eq, gdR_lo]), (d4.fr G rfl).cg (by simp (disch := omega) only [zup_ne, zup_eq, gdR_lo]) (fun i hi => by simp (disch := omega) only [zup_ne, zup_eq, gdR_lo]), (d5.fr G rfl).cg (by simp (disch := omega) only [zup_ne, zup_eq, gdR_lo]) (fun i hi => by simp (disch := omega) only [zup_ne, zup_eq, gdR_lo]), hz.1.cg (by simp (disch := omega) only [zup_ne, zup_eq, gdR_lo]) (fun i hi => rfl), (d7.fr G rfl).cg (by simp (disch := omega) only [zup_ne, zup_eq, gdR_lo]) (fun i hi => by simp (disch := omega) only [zup_ne, zup_eq, gdR_lo]), (d8.fr G rfl).cg (by simp (disch := omega) only [zup_ne, zup_eq, gdR_lo]) (fun i hi => by simp (disch := omega) only [zup_ne, zup_eq, gdR_lo]), (d9.fr G rfl).cg (by simp (disch := omega) only [zup_ne, zup_eq, gdR_lo]) (fun i hi => by simp (disch := omega) only [zup_ne, zup_eq, gdR_lo]), fun k => ?_, fun k => ?_⟩, ⟨?_, ?_, ?_, ?_⟩, ?_⟩)
      · unfold cnE can
        dsimp only
        rw [hd]
        rfl
      · rw [G.I 1 5 rfl]; exact hc.2.2.1
      · rw [G.I 1 12 rfl]; exact y1
      · rw [G.I 25 0 rfl]; simp (disch := omega) only [zup_ne]; exact d1
      · rw [G.I 25 1 rfl]; simp (disch := omega) only [zup_ne]; exact d2
      · rw [G.L 25 4 rfl, d10 k]; simp (disch := omega) only [zup_ne, zup_eq, gdR_lo]
      · rw [G.L 25 5 rfl, d11 k]; simp (disch := omega) only [zup_ne, zup_eq, gdR_lo]
      · rw [G.I 25 2 rfl]; exact s1
      · rw [G.I 25 3 rfl, mv61 (by omega) (by omega)]; exact s2
      · rw [hz.2.I 25 13 rfl]; exact v13
      · rw [hz.2.L 25 14 rfl]; exact v14
      · simp (disch := omega) only [zup_ne]; exact y4.fr G rfl
theorem zx_strd (hN : 200000 ≤ N) (hL : L ≤ 900) {p : Nat} (hp : p ≤ L) (hb : zB R) (h4 : R 4 < 8) (hb9 : ∀ b, b < R 2 → R (9 + b) ≤ 9) (hs : S 60 < R 0) (hn : zNI T L R nf nt sl) (h : zX T L p R S B nf nt sl σ) : ok (f_reader_readStride N σ) (zXO (zst3 T L p R S nf nt sl) (zX T L (zee T L (zee T L p)) (zstR R (2 * zstb sl (zfd T L p (R 2 + R 3) nf nt) + zstw T L p)) (go R S (2 * zstb sl (zfd T L p (R 2 + R 3) nf nt) + 1 + zstw T L p)) B nf nt sl)) := by
  have hz := z_le (T := T) hp
  have hb' := hb
  obtain ⟨b0, b2, b3, b4, b5, b6, b7⟩ := hb
  have hw : ∀ i, i < R 2 + R 3 → nf i ≤ nt i ∧ nt i ≤ L := fun i hi => by have := (hn.1 i hi).1; omega
  unfold f_reader_readStride
  rw [okB]
  refine (zx_next hN hL hp h.1 h.2.1).imp (fun q hq => ?_)
  have hy := h.2.2.fr hq.2.2 rfl
  rw [zx_sort hN hL hp hq.2.1 hq.1, Option.bind_some]
  dsimp only
  by_cases c1 : zso T L p = -1
  · rw [if_pos (zso_m1.mpr c1), zx_name hN hL hp hq.2.1 hq.1 (by omega) hy.2.2.2 hw, Option.bind_some]
    dsimp only
    have hat : f_numbers_at N 8 9 9 (iI (zfi (zfd T L p (R 2 + R 3) nf nt))) q.2 = some (iI (zbt sl (zfd T L p (R 2 + R 3) nf nt)), q.2) := by
      unfold zfd
      rcases zff_cases (fun i => zlk T (nf i) (nt i) (zbb T L p) (zee T L p)) (R 2 + R 3) 0 with ⟨h1, -⟩ | ⟨j, -, h2, h3, -⟩
      · rw [h1]
        exact px_at_out (i := -1) hy.2.2.2.2.2.1 (by omega) (by omega) (by omega) (by omega) (by omega)
      · rw [h3]
        show f_numbers_at N 8 9 9 (iI (j : Int)) q.2 = some (iI (zbn (sl j)), q.2)
        rw [px_at hy.2.2.2.2.2.1 (by omega) (by omega) (by omega), hy.2.2.2.2.2.2 j (by omega)]
    have hbt : zbt sl (zfd T L p (R 2 + R 3) nf nt) = -1 ∨ (zstb sl (zfd T L p (R 2 + R 3) nf nt) < R 2 ∧ zbt sl (zfd T L p (R 2 + R 3) nf nt) = (zstb sl (zfd T L p (R 2 + R 3) nf nt) : Int)) := by
      unfold zfd
      rcases zff_cases (fun i => zlk T (nf i) (nt i) (zbb T L p) (zee T L p)) (R 2 + R 3) 0 with ⟨h1, -⟩ | ⟨j, -, h2, h3, -⟩
      · rw [h1]; exact Or.inl rfl
      · rw [h3]
        have := (hn.1 j (by omega)).1
        unfold zbt zstb zbn
        dsimp only
        by_cases cj : sl j < 3
        · rw [if_pos cj]; right; omega
        · rw [if_neg cj]; left; rfl
    rw [hat, Option.bind_some]
    dsimp only
    generalize hob : zfd T L p (R 2 + R 3) nf nt = o at hbt ⊢
    by_cases c2 : zbt sl o = -1
    · rw [if_pos (show iI (zbt sl o) = -1 by rw [c2]; rfl), zx_fail (v := 2) (n := 2) rfl hq.1.1, Option.bind_some]
      exact okS.mpr (zXO.bad (x := (2, zbb T L p)) (by unfold zst3 zst2 zst1; rw [hob, if_pos c1, if_pos c2]; rfl) zx_ff)
    · have hbt2 := hbt.resolve_left c2
      have es1 : zst1 T L p (R 2 + R 3) nf nt sl = none := by unfold zst1; rw [hob, if_pos c1, if_neg c2]
      rw [if_neg (show ¬ iI (zbt sl o) = -1 by rw [show (-1 : Int32) = iI (-1) from rfl, iI_eq (by omega) (by omega) (by omega) (by omega)]; exact c2), okB, hbt2.2]
      refine (zx_next hN hL hz.2.2 hq.2.1 hq.1.2.2.1).imp (fun q5 hq5 => ?_)
      have hy5 := hy.fr hq5.2.2 rfl
      rw [zx_is hN hL hz.2.2 (by omega) hq5.2.1 hq5.1, Option.bind_some]
      dsimp only
      unfold zst3
      rw [hob]
      by_cases a1 : zis T L (zee T L p) 16 = true
      · rw [if_pos a1, show zst2 T L p (R 2 + R 3) nf nt sl = none by unfold zst2; rw [es1]; unfold w2E; dsimp only; rw [if_pos a1], show zstw T L p = 0 by unfold zstw; rw [if_pos a1]]
        exact zx_stail hb' h4 hb9 hs hz.2.2 hbt2.1 (by omega) rfl rfl hq5.2.1 hq5.1 hy5
      · rw [if_neg a1, zx_is hN hL hz.2.2 (by omega) hq5.2.1 hq5.1, Option.bind_some]
        dsimp only
        by_cases a2 : zis T L (zee T L p) 17 = true
        · rw [if_pos a2, show zst2 T L p (R 2 + R 3) nf nt sl = none by unfold zst2; rw [es1]; unfold w2E; dsimp only; rw [if_neg a1, if_pos a2], show zstw T L p = 1 by unfold zstw; rw [if_neg a1]]
          exact zx_stail hb' h4 hb9 hs hz.2.2 hbt2.1 (by omega) rfl rfl hq5.2.1 hq5.1 hy5
        · rw [if_neg a2, zx_fail (v := 1) (n := 1) rfl hq5.1.1, Option.bind_some]
          exact okS.mpr (zXO.bad (x := (1, zbb T L (zee T L p))) (by unfold zst2; rw [es1]; unfold w2E; dsimp only; rw [if_neg a1, if_neg a2]; rfl) zx_ff)
  · rw [if_neg (fun w => c1 (zso_m1.mp w)), zx_fail (v := 1) (n := 1) rfl hq.1.1, Option.bind_some]
    exact okS.mpr (zXO.bad (x := (1, zbb T L p)) (by unfold zst3 zst2 zst1; rw [if_neg c1]; rfl) zx_ff)
theorem zm_stend (hN : 200000 ≤ N) (hL : L ≤ 900) (hb : zB R) (h4 : R 4 < 8) {p d : Nat} {e : zE} {v : Int32} (hp : p ≤ L) (hv : e = none → v = iI (d : Int)) (hm : zMS T L e p σ) (hR : AR σ 70 189 R) (hS : e = none → AR σ 73 63 S) (hB : R 8 ≠ 0 → AR σ 72 63 B) :
    ok ((f_m_pass N σ).bind fun q20 => if (gI q20.2 66 13) = 0 then if vin (24 + (gA q20.2 70 4)) 189 then some ((), sA (sA q20.2 70 (24 + (gA q20.2 70 4)) v) 70 4 ((gA (sA q20.2 70 (24 + (gA q20.2 70 4)) v) 70 4) + 1)) else none else some ((), q20.2))
      (fun y => zMO e (zM T L (zee T L p) (zstR R d) S B) y.2) := by
  rw [okB]
  refine (zm_pass hN hL hp hm).imp (fun q3 h3 => ?_)
  have R3 := hR.fr h3.2 rfl
  cases e with
  | some x =>
    have hf := h3.1.2.2 x rfl
    rw [if_neg (ne10 hf.1)]
    exact okS.mpr (zMO.bad rfl hf)
  | none =>
    have m3 := h3.1
    rw [if_pos (m3.2.1 rfl).1, show gA q3.2 70 4 = iI (R 4 : Int) from R3.A (z := 4) 4 rfl (by omega) (by omega), show (24 : Int32) + iI (R 4 : Int) = iI ((24 + R 4 : Nat) : Int) from iI_add 24 _, if_pos (show vin (iI ((24 + R 4 : Nat) : Int)) 189 by rw [vin_iI (by omega) (by omega)]; omega), hv rfl]
    have A1 := R3.up (i := 24 + R 4) (v := d) (by omega) rfl rfl
    have f4 : Fr [(70, none)] q3.2 (sA q3.2 70 (iI ((24 + R 4 : Nat) : Int)) (iI (d : Int))) := Fr.wA Fr.rf (by simp)
    generalize sA q3.2 70 (iI ((24 + R 4 : Nat) : Int)) (iI (d : Int)) = υ at A1 f4 ⊢
    have e5 : gA υ 70 4 = iI (R 4 : Int) := by
      rw [show gA υ 70 4 = iI (zup R (24 + R 4) d 4 : Int) from A1.A (z := 4) 4 rfl (by omega) (by omega), zup_ne (by omega)]
    rw [e5]
    have A3 := A1.up (i := 4) (v := R 4 + 1) (x := 4) (w := iI (R 4 : Int) + 1) (by omega) rfl (iI_add _ 1)
    have f5 : Fr [(70, none)] q3.2 (sA υ 70 4 (iI (R 4 : Int) + 1)) := Fr.wA f4 (by simp)
    refine okS.mpr (zMO.good rfl ⟨m3.fr f5 rfl, A3, ((hS rfl).fr h3.2 rfl).fr f5 rfl, fun h8 => ((hB ?_).fr h3.2 rfl).fr f5 rfl⟩)
    unfold zstR at h8
    rw [zup_ne (by omega), zup_ne (by omega)] at h8
    exact h8
theorem zm_stw (hN : 200000 ≤ N) (hL : L ≤ 900) (hb : zB R) (h4 : R 4 < 8) (hb9 : ∀ b, b < R 2 → R (9 + b) ≤ 9) (hs : S 60 < R 0) (hS3 : ∀ k, k < 60 → S k ≤ 3) {p b w : Nat} {u v : Int32} (hp : p ≤ L) (hbR : b < R 2) (hw : w ≤ 1) (hu : u = iI (b : Int)) (hv : v = iI (w : Int)) (hm : zMS T L none p σ) (hR : AR σ 70 189 R) (hS : AR σ 73 63 S) (hB : R 8 ≠ 0 → AR σ 72 63 B) :
    ok ((f_m_strideOn N 73 63 189 70 u v σ).bind fun q19 => if q19.1 = true then (f_m_pass N q19.2).bind fun q20 => if (gI q20.2 66 13) = 0 then if vin (24 + (gA q20.2 70 4)) 189 then some ((), sA (sA q20.2 70 (24 + (gA q20.2 70 4)) ((2 * u) + v)) 70 4 ((gA (sA q20.2 70 (24 + (gA q20.2 70 4)) ((2 * u) + v)) 70 4) + 1)) else none else some ((), q20.2) else (f_m_wrong N 7 (gI q19.2 66 4) q19.2).bind fun q21 => (f_m_pass N q21.2).bind fun q22 => if (gI q22.2 66 13) = 0 then if vin (24 + (gA q22.2 70 4)) 189 then some ((), sA (sA q22.2 70 (24 + (gA q22.2 70 4)) ((2 * u) + v)) 70 4 ((gA (sA q22.2 70 (24 + (gA q22.2 70 4)) ((2 * u) + v)) 70 4) + 1)) else none else some ((), q22.2))
      (fun y => zMO (cnE T L none p (can R S (2 * b + 1 + w))) (zM T L (zee T L p) (zstR R (2 * b + w)) (go R S (2 * b + 1 + w)) B) y.2) := by
  have hb' := hb
  obtain ⟨b0, b2, b3, b4, b5, b6, b7⟩ := hb
  have huv : (2 : Int32) * u + v = iI ((2 * b + w : Nat) : Int) := by rw [hu, hv, show (2 : Int32) = iI 2 from rfl, iI_mul, iI_add]; rfl
  rw [huv, hu, hv, okB]
  refine ((pm_strideOn (N := N) hN hR hS (by decide) b0 (by omega) (hb9 b hbR) hs (fun k hk => by have := hS3 k hk; omega) hw).and (fun z => w_f_m_strideOn)).imp (fun z hz => ?_)
  have f := hz.2
  have m1 := hm.fr f rfl
  have R1 := hR.fr f rfl
  have B1 : R 8 ≠ 0 → AR z.2 72 63 B := fun h8 => (hB h8).fr f rfl
  rw [hz.1.1]
  by_cases c : can R S (2 * b + 1 + w) = true
  · rw [if_pos c, show cnE T L none p (can R S (2 * b + 1 + w)) = none by unfold cnE; dsimp only; rw [if_pos c]]
    exact zm_stend hN hL hb' h4 hp (fun _ => rfl) m1 R1 (fun _ => hz.1.2) B1
  · have g := m1.2.1 rfl
    have f2 := wrg_fr (σ := z.2) (n := 7) (a := zbb T L p)
    rw [if_neg c, show cnE T L none p (can R S (2 * b + 1 + w)) = some (7, zbb T L p) by unfold cnE; dsimp only; rw [if_neg c], zm_wrong (v := 7) (n := 7) g.1 rfl g.2.2.1, Option.bind_some]
    exact zm_stend hN hL hb' h4 hp (fun q => by cases q) (zMS.bad (m1.1.co f2 rfl) wrg_f) (R1.fr f2 rfl) (fun q => by cases q) (fun h8 => (B1 h8).fr f2 rfl)
theorem zm_strd (hN : 200000 ≤ N) (hL : L ≤ 900) (hT : ∀ i, T i < 256) {p : Nat} (hp : p ≤ L) (hb : zB R) (h4 : R 4 < 8) (hb9 : ∀ b, b < R 2 → R (9 + b) ≤ 9) (hs : S 60 < R 0) (hS3 : ∀ k, k < 60 → S k ≤ 3) (hn : zNI T L R nf nt sl) (h : zM T L p R S B σ) : ok (f_m_strideLine N σ) (fun y => zMO (zst3 T L p R S nf nt sl) (zM T L (zee T L (zee T L p)) (zstR R (2 * zstb sl (zfd T L p (R 2 + R 3) nf nt) + zstw T L p)) (go R S (2 * zstb sl (zfd T L p (R 2 + R 3) nf nt) + 1 + zstw T L p)) B) y.2) := by
  have hz := z_le (T := T) hp
  have hb' := hb
  obtain ⟨b0, b2, b3, b4, b5, b6, b7⟩ := hb
  obtain ⟨hm, hR, hS, hB⟩ := h
  have g := hm.2.1 rfl
  unfold f_m_strideLine
  rw [if_pos g.1, zm_mName hN hL hT hp g, Option.bind_some]
  dsimp only
  by_cases c1 : zso T L p = -1
  · rw [if_pos c1, if_pos g.1, zm_find hN hT hp (zso_w c1) g hR hn, Option.bind_some]
    dsimp only
    have hbt : (zbt sl (zfd T L p (R 2 + R 3) nf nt) = -1 ∧ ¬ (0 ≤ zfs sl (zfd T L p (R 2 + R 3) nf nt) ∧ zfs sl (zfd T L p (R 2 + R 3) nf nt) ≤ 2)) ∨ (zstb sl (zfd T L p (R 2 + R 3) nf nt) < R 2 ∧ zbt sl (zfd T L p (R 2 + R 3) nf nt) = (zstb sl (zfd T L p (R 2 + R 3) nf nt) : Int) ∧ zfs sl (zfd T L p (R 2 + R 3) nf nt) = (zstb sl (zfd T L p (R 2 + R 3) nf nt) : Int)) := by
      unfold zfd
      rcases zff_cases (fun i => zlk T (nf i) (nt i) (zbb T L p) (zee T L p)) (R 2 + R 3) 0 with ⟨h1, -⟩ | ⟨j, -, h2, h3, -⟩
      · rw [h1]; unfold zbt zfs; left; exact ⟨rfl, by dsimp only; omega⟩
      · rw [h3]
        have := (hn.1 j (by omega)).1
        unfold zbt zstb zbn zfs
        dsimp only
        by_cases cj : sl j < 3
        · rw [if_pos cj]; right; omega
        · rw [if_neg cj]; left; omega
    have hbd : -1 ≤ zfs sl (zfd T L p (R 2 + R 3) nf nt) ∧ zfs sl (zfd T L p (R 2 + R 3) nf nt) ≤ 9 := by
      unfold zfd
      rcases zff_cases (fun i => zlk T (nf i) (nt i) (zbb T L p) (zee T L p)) (R 2 + R 3) 0 with ⟨h1, -⟩ | ⟨j, -, h2, h3, -⟩
      · rw [h1]; unfold zfs; dsimp only; omega
      · rw [h3]
        have := (hn.1 j (by omega)).1
        unfold zfs
        dsimp only
        omega
    unfold zst3
    have hz1 : zst1 T L p (R 2 + R 3) nf nt sl = if zbt sl (zfd T L p (R 2 + R 3) nf nt) = -1 then some (2, zbb T L p) else none := by unfold zst1; rw [if_pos c1]
    generalize zfd T L p (R 2 + R 3) nf nt = o at hbt hbd hz1 ⊢
    rw [show f_m_in N (iI (zfs sl o)) 0 2 σ = some (decide (0 ≤ zfs sl o ∧ zfs sl o ≤ 2), σ) from pm_in (b := 0) (c := 2) (by omega) (by omega) (by omega) (by omega) (by omega) (by omega), Option.bind_some]
    dsimp only
    rcases hbt with ⟨k1, k2⟩ | ⟨k1, k2, k3⟩
    · rw [if_pos k1] at hz1
      have e2 : zst2 T L p (R 2 + R 3) nf nt sl = some (2, zbb T L p) := by unfold zst2; rw [hz1]; rfl
      rw [if_neg (show ¬ decide (0 ≤ zfs sl o ∧ zfs sl o ≤ 2) = true by rw [decide_eq_true_eq]; exact k2), zm_wrong (v := 2) (n := 2) g.1 rfl g.2.2.1, Option.bind_some, e2]
      have f := wrg_fr (σ := σ) (n := 2) (a := zbb T L p)
      have hf := wrg_f (σ := σ) (n := 2) (a := zbb T L p)
      dsimp only
      rw [zF_pass hf.1, Option.bind_some]
      dsimp only
      rw [zF_is hf.1, Option.bind_some]
      dsimp only
      rw [if_neg Bool.false_ne_true, zF_is hf.1, Option.bind_some]
      dsimp only
      rw [if_neg Bool.false_ne_true, zF_wrong hf.1, Option.bind_some]
      dsimp only
      rw [if_neg (ne10 hf.1)]
      exact zm_stend hN hL hb' h4 hz.2.2 (fun q => by cases q) (zMS.bad (hm.1.co f rfl) hf) (hR.fr f rfl) (fun q => by cases q) (fun h8 => (hB h8).fr f rfl)
    · rw [if_neg (by omega)] at hz1
      rw [if_pos (show decide (0 ≤ zfs sl o ∧ zfs sl o ≤ 2) = true by rw [decide_eq_true_eq]; omega), k3, okB]
      refine (zm_pass hN hL hp hm).imp (fun q4 h4' => ?_)
      have R4 := hR.fr h4'.2 rfl
      have S4 := hS.fr h4'.2 rfl
      have B4 : R 8 ≠ 0 → AR q4.2 72 63 B := fun h8 => (hB h8).fr h4'.2 rfl
      have m4 := h4'.1
      have g4 := m4.2.1 rfl
      rw [zm_is hN hL hT hz.2.2 (by omega) g4, Option.bind_some]
      dsimp only
      by_cases a1 : zis T L (zee T L p) 16 = true
      · rw [if_pos a1, if_pos g4.1, show zst2 T L p (R 2 + R 3) nf nt sl = none by unfold zst2; rw [hz1]; unfold w2E; dsimp only; rw [if_pos a1], show zstw T L p = 0 by unfold zstw; rw [if_pos a1]]
        exact zm_stw hN hL hb' h4 hb9 hs hS3 hz.2.2 k1 (by omega) rfl rfl m4 R4 S4 B4
      · rw [if_neg a1, zm_is hN hL hT hz.2.2 (by omega) g4, Option.bind_some]
        dsimp only
        by_cases a2 : zis T L (zee T L p) 17 = true
        · rw [if_pos a2, if_pos g4.1, show zst2 T L p (R 2 + R 3) nf nt sl = none by unfold zst2; rw [hz1]; unfold w2E; dsimp only; rw [if_neg a1, if_pos a2], show zstw T L p = 1 by unfold zstw; rw [if_neg a1]]
          exact zm_stw hN hL hb' h4 hb9 hs hS3 hz.2.2 k1 (by omega) rfl rfl m4 R4 S4 B4
        · have f := wrg_fr (σ := q4.2) (n := 1) (a := zbb T L (zee T L p))
          have hf := wrg_f (σ := q4.2) (n := 1) (a := zbb T L (zee T L p))
          rw [if_neg a2, zm_wrong (v := 1) (n := 1) g4.1 rfl g4.2.2.1, Option.bind_some, show zst2 T L p (R 2 + R 3) nf nt sl = some (1, zbb T L (zee T L p)) by unfold zst2; rw [hz1]; unfold w2E; dsimp only; rw [if_neg a1, if_neg a2]]
          dsimp only
          rw [if_neg (ne10 hf.1)]
          exact zm_stend hN hL hb' h4 hz.2.2 (fun q => by cases q) (zMS.bad (m4.1.co f rfl) hf) (R4.fr f rfl) (fun q => by cases q) (fun h8 => (B4 h8).fr f rfl)
  · have hf := wrg_f (σ := σ) (n := 1) (a := zbb T L p)
    rw [if_neg c1, if_neg (ne10 hf.1)]
    exact okS.mpr (zMO.bad (x := (1, zbb T L p)) (by unfold zst3 zst2 zst1; rw [if_neg c1]; rfl) hf)
end ZSR
