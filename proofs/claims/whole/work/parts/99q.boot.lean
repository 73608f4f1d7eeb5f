section ZBO
variable {N : Nat} {σ : Sg} {T R S B nf nt sl : Nat → Nat} {L : Nat}
theorem zm_mName (hN : 200000 ≤ N) (hL : L ≤ 900) (hT : ∀ i, T i < 256) {p : Nat} (hp : p ≤ L) (h : zMG T L p σ) : f_m_mustName N σ = some ((), if zso T L p = -1 then σ else wrg σ 1 (zbb T L p)) := by
  have is : ∀ w, w < 20 → f_m_isWord N w σ = some (zis T L p w, σ) := fun w hw => zm_is hN hL hT hp hw h
  have wr : f_m_wrong N 1 (gI σ 66 4) σ = some ((), wrg σ 1 (zbb T L p)) := zm_wrong (v := 1) (n := 1) h.1 rfl h.2.2.1
  unfold f_m_mustName zso
  rw [h.2.2.2.1]
  by_cases c : zkk T L p = 1
  · rw [if_pos ((tkM1 z_kk).mpr c), if_pos c, is 0 (by omega), Option.bind_some]
    dsimp only
    by_cases c0 : zis T L p 0 = true
    · rw [if_pos c0, if_pos c0, wr, Option.bind_some, if_neg (by decide)]
    rw [if_neg c0, if_neg c0, is 1 (by omega), Option.bind_some]
    dsimp only
    by_cases c1 : zis T L p 1 = true
    · rw [if_pos c1, if_pos c1, wr, Option.bind_some, if_neg (by decide)]
    rw [if_neg c1, if_neg c1, is 2 (by omega), Option.bind_some]
    dsimp only
    by_cases c2 : zis T L p 2 = true
    · rw [if_pos c2, if_pos c2, wr, Option.bind_some, if_neg (by decide)]
    rw [if_neg c2, if_neg c2, is 3 (by omega), Option.bind_some]
    dsimp only
    by_cases c3 : zis T L p 3 = true
    · rw [if_pos c3, if_pos c3, wr, Option.bind_some, if_neg (by decide)]
    rw [if_neg c3, if_neg c3, is 4 (by omega), Option.bind_some]
    dsimp only
    by_cases c4 : zis T L p 4 = true
    · rw [if_pos c4, if_pos c4, wr, Option.bind_some, if_neg (by decide)]
    rw [if_neg c4, if_neg c4, is 5 (by omega), Option.bind_some]
    dsimp only
    by_cases c5 : zis T L p 5 = true
    · rw [if_pos c5, if_pos c5, wr, Option.bind_some, if_neg (by decide)]
    rw [if_neg c5, if_neg c5, is 6 (by omega), Option.bind_some]
    dsimp only
    by_cases c6 : zis T L p 6 = true
    · rw [if_pos c6, if_pos c6, wr, Option.bind_some, if_neg (by decide)]
    rw [if_neg c6, if_neg c6, if_pos rfl]
  · rw [if_neg (fun q => c ((tkM1 z_kk).mp q)), if_neg c, wr, Option.bind_some, if_neg (by decide)]
/-- the row with the name in its place s -/
def nmL (T R : Nat → Nat) (b s n : Nat) : Nat → Nat := fun k => if 57 + 8 * s ≤ k ∧ k < 57 + 8 * s + n then T (b + (k - (57 + 8 * s))) else R k
def nmR (T R : Nat → Nat) (b e s : Nat) : Nat → Nat := zup (nmL T R b s (e - b)) (48 + s) (e - b)
theorem nmR_lo {b e s k : Nat} (hk : k < 48) : nmR T R b e s k = R k := by
  unfold nmR nmL
  rw [zup_ne (by omega), if_neg (by omega)]
theorem nmR_hi {b e s k : Nat} (hk : 129 ≤ k) (hs : s < 9) (he : e ≤ b + 8) : nmR T R b e s k = R k := by
  unfold nmR nmL
  rw [zup_ne (by omega), if_neg (by omega)]
def zmW : WL := [(66, some 4), (66, some 5), (66, some 6), (66, some 7), (66, some 8), (66, some 9), (66, some 10), (66, some 13), (68, none), (70, none)]
theorem zm_nloop (hN : 200000 ≤ N) (hL : L ≤ 900) {p s : Nat} (hp : p ≤ L) (hs : s < 9) (hk : zkk T L p = 1) : ∀ (m j : Nat) (τ : Sg), j ≤ zee T L p - zbb T L p → zee T L p - zbb T L p - j < m → TxM T L τ → zMG T L p τ → AR τ 70 189 (nmL T R (zbb T L p) s j) → ok (f_m_newName_L45 N m (iI (s : Int)) (iI (j : Int)) τ) (fun z => zMS T L none (zee T L p) z.2 ∧ AR z.2 70 189 (nmR T R (zbb T L p) (zee T L p) s)) := by
  have hw := z_w (T := T) hp hk
  intro m
  induction m with
  | zero => intro j τ _ h; omega
  | succ m ih =>
    intro j τ hj hm ht hg hA
    obtain ⟨h8, h68⟩ := hg.2.2.2.2.2.2 hk
    unfold f_m_newName_L45
    rw [h8]
    by_cases c : j = zee T L p - zbb T L p
    · rw [if_pos (show iI ((zee T L p - zbb T L p : Nat) : Int) ≤ iI (j : Int) by rw [iI_le (by omega) (by omega) (by omega) (by omega)]; omega), show (48 : Int32) + iI (s : Int) = iI ((48 + s : Nat) : Int) from iI_add 48 _, if_pos (show vin (iI ((48 + s : Nat) : Int)) 189 by rw [vin_iI (by omega) (by omega)]; omega), okB]
      have f : Fr [(70, none)] τ (sA τ 70 (iI ((48 + s : Nat) : Int)) (iI ((zee T L p - zbb T L p : Nat) : Int))) := Fr.wA Fr.rf (by simp)
      have A2 := hA.up (i := 48 + s) (v := zee T L p - zbb T L p) (by omega) rfl rfl
      rw [c] at A2
      have ms := (zMS.ok ht hg).fr f rfl
      exact (zm_nextG hN hL hp ms.1 (ms.2.1 rfl)).imp (fun z hz => okS.mpr ⟨hz.1, A2.fr hz.2 rfl⟩)
    · rw [if_neg (show ¬ iI ((zee T L p - zbb T L p : Nat) : Int) ≤ iI (j : Int) by rw [iI_le (by omega) (by omega) (by omega) (by omega)]; omega), if_pos (show vin (iI (j : Int)) 8 by rw [vin_iI (by omega) (by omega)]; omega), show (57 : Int32) + 8 * iI (s : Int) + iI (j : Int) = iI ((57 + 8 * s + j : Nat) : Int) by rw [show (57 : Int32) = iI 57 from rfl, show (8 : Int32) = iI 8 from rfl, iI_mul, iI_add, iI_add]; rfl, if_pos (show vin (iI ((57 + 8 * s + j : Nat) : Int)) 189 by rw [vin_iI (by omega) (by omega)]; omega), gA_iI (by omega) (by omega), Int.toNat_natCast, h68 j (by omega), show iI (j : Int) + 1 = iI ((j + 1 : Nat) : Int) from iI_add _ 1]
      have f : Fr [(70, none)] τ (sA τ 70 (iI ((57 + 8 * s + j : Nat) : Int)) (iI (T (zbb T L p + j) : Int))) := Fr.wA Fr.rf (by simp)
      have ms := (zMS.ok ht hg).fr f rfl
      refine ih (j + 1) _ (by omega) (by omega) ms.1 (ms.2.1 rfl) (fun k hk => ?_)
      rw [hA.up (i := 57 + 8 * s + j) (v := T (zbb T L p + j)) (by omega) rfl rfl k hk]
      unfold zup nmL
      by_cases d : k = 57 + 8 * s + j
      · rw [if_pos d, if_pos (by omega), d, show 57 + 8 * s + j - (57 + 8 * s) = j by omega]
      · rw [if_neg d]
        by_cases d2 : 57 + 8 * s ≤ k ∧ k < 57 + 8 * s + j
        · rw [if_pos d2, if_pos (by omega)]
        · rw [if_neg d2, if_neg (by omega)]
def zcr (e : zE) (R' R : Nat → Nat) : Nat → Nat := match e with
  | none => R'
  | some _ => R
theorem zm_newName (hN : 200000 ≤ N) (hL : L ≤ 900) (hT : ∀ i, T i < 256) {p s : Nat} {v : Int32} (hv : v = iI (s : Int)) (hp : p ≤ L) (hs : s < 9) (h : zMS T L none p σ) (hR : AR σ 70 189 R) (hn : zNI T L R nf nt sl) : ok (f_m_newName N v σ) (fun z => (zMS T L (neE T L p (R 2 + R 3) nf nt) (zee T L p) z.2 ∧ AR z.2 70 189 (zcr (neE T L p (R 2 + R 3) nf nt) (nmR T R (zbb T L p) (zee T L p) s) R)) ∧ Fr zmW σ z.2) := by
  refine ok.and ?_ (fun z => w_f_m_newName)
  have g := h.2.1 rfl
  unfold f_m_newName neE
  rw [hv, if_pos g.1, zm_mName hN hL hT hp g, Option.bind_some]
  dsimp only
  by_cases c : zso T L p = -1
  · rw [if_pos c, if_pos c, if_pos g.1, zm_find hN hT hp (zso_w c) g hR hn, Option.bind_some]
    dsimp only
    unfold zfd
    rcases zff_cases (fun i => zlk T (nf i) (nt i) (zbb T L p) (zee T L p)) (R 2 + R 3) 0 with ⟨hz, -⟩ | ⟨j, -, hj, hz, -⟩
    · rw [hz]
      dsimp only
      have hw := z_w (T := T) hp (zso_w c)
      rw [if_pos (show iI (zfs sl none) < 0 from (by decide : iI (-1) < 0)), if_pos g.1]
      exact zm_nloop hN hL hp hs (zso_w c) N 0 σ (by omega) (by omega) h.1 g (fun k hk => by unfold nmL; rw [if_neg (by omega)]; exact hR k hk)
    · rw [hz]
      dsimp only
      have hsj := (hn.1 j (by omega)).1
      have f := wrg_fr (σ := σ) (n := 3) (a := zbb T L p)
      rw [if_neg (show ¬ iI (zfs sl (some j)) < 0 by unfold zfs; dsimp only; rw [show (0 : Int32) = iI 0 from rfl, iI_lt (by omega) (by omega) (by omega) (by omega)]; omega), zm_wrong (v := 3) (n := 3) g.1 rfl g.2.2.1, Option.bind_some, if_neg (ne10 wrg_f.1)]
      exact okS.mpr ⟨zMS.bad (h.1.co f rfl) wrg_f, hR.fr f rfl⟩
  · have f := wrg_fr (σ := σ) (n := 1) (a := zbb T L p)
    rw [if_neg c, if_neg c, if_neg (ne10 wrg_f.1), if_neg (ne10 wrg_f.1)]
    exact okS.mpr ⟨zMS.bad (h.1.co f rfl) wrg_f, hR.fr f rfl⟩
theorem zcr_lo {e : zE} {b f s k : Nat} (hk : k < 48) : zcr e (nmR T R b f s) R k = R k := by
  cases e with
  | none => exact nmR_lo hk
  | some x => rfl
/-! the boots line -/
def zbo2 (T : Nat → Nat) (L p : Nat) (R nf nt : Nat → Nat) : zE := nuE T L (neE T L p (R 2 + R 3) nf nt) (zee T L p) 2 9
def zboR (T : Nat → Nat) (L p : Nat) (R : Nat → Nat) : Nat → Nat := zup (zup (nmR T R (zbb T L p) (zee T L p) (R 2)) (9 + R 2) (zvv T L (zee T L p))) 2 (R 2 + 1)
theorem zx_boots (hN : 200000 ≤ N) (hL : L ≤ 900) {p : Nat} (hp : p ≤ L) (hb : zB R) (h2 : R 2 < 3) (hw : ∀ i, i < R 2 + R 3 → nf i ≤ nt i ∧ nt i ≤ L) (h : zX T L p R S B nf nt sl σ) : ok (f_reader_readBoots N σ) (zXO (zbo2 T L p R nf nt) (zX T L (zee T L (zee T L p)) (zboR T L p R) S B (zup nf (R 2 + R 3) (zbb T L p)) (zup nt (R 2 + R 3) (zee T L p)) (zup sl (R 2 + R 3) (R 2)))) := by
  have hz := z_le (T := T) hp
  obtain ⟨b0, b2, b3, b4, b5, b6, b7⟩ := hb
  obtain ⟨t0, g0, y1, ⟨d1, d2, d3, d4, d5, d6, d7, d8, d9, d10, d11⟩, y3, y4⟩ := h
  unfold f_reader_readBoots
  refine zx_newName (s := R 2) (sl := sl) hN hL hp (by unfold zbn; rw [if_pos h2]; exact d3.1) t0 g0 (by omega) y4 hw (fun τ1 e1 f1 t1 g1 n1 => ?_) (fun τ x ex hx => ?_)
  · dsimp only
    rw [if_pos rfl]
    refine zx_whole (lo := 2) (hi := 9) hN hL hz.2.2 rfl rfl (by omega) (by omega) t1 g1 (fun τ2 e2 c2 f2 t2 g2 w2 _ => ?_) (fun τ x ex hx => ?_)
    · dsimp only
      have F2 : Fr znW σ τ2 := f1.tr (f2.mono rfl)
      rw [if_pos rfl, w2, okB]
      have hle : zkk T L p = 1 := by
        apply zso_w
        unfold neE at e1
        by_cases c : zso T L p = -1
        · exact c
        · rw [if_neg c] at e1; cases e1
      have hw1 := z_w (T := T) hp hle
      refine ((d3.fr F2 rfl).add (m := 3) (g := fun b => (zboR T L p R (9 + b) : Int)) h2 (by omega) (fun i hi => ?_) ?_).imp (fun z hz1 => ?_)
      · unfold zboR
        rw [zup_ne (by omega), zup_ne (by omega), nmR_lo (by omega)]
      · unfold zboR
        rw [zup_ne (by omega), zup_eq]
      · have G : Fr [(1, some 3), (1, some 4), (1, some 5), (1, some 6), (4, some 1), (5, none), (6, some 1), (7, none), (8, some 1), (9, none), (26, some 1), (27, none)] σ z.2 := (F2.mono rfl).tr (hz1.2.mono rfl)
        unfold zboR at hz1 ⊢
        refine okS.mpr (zXO.good (by unfold zbo2; rw [e1]; exact e2) ⟨t2.co hz1.2 rfl, ?_, ?_, ⟨?_, ?_, hz1.1.cg (by simp (disch := omega) only [zup_ne, zup_eq, nmR_lo]) (fun i hi => rfl), (d4.fr G rfl).cg (by simp (disch := omega) only [zup_ne, zup_eq, nmR_lo]) (fun i hi => by simp (disch := omega) only [zup_ne, zup_eq, nmR_lo]), (d5.fr G rfl).cg (by simp (disch := omega) only [zup_ne, zup_eq, nmR_lo]) (fun i hi => by simp (disch := omega) only [zup_ne, zup_eq, nmR_lo]), (d6.fr G rfl).cg (by simp (disch := omega) only [zup_ne, zup_eq, nmR_lo]) (fun i hi => by simp (disch := omega) only [zup_ne, zup_eq, nmR_lo]), (d7.fr G rfl).cg (by simp (disch := omega) only [zup_ne, zup_eq, nmR_lo]) (fun i hi => by simp (disch := omega) only [zup_ne, zup_eq, nmR_lo]), (d8.fr G rfl).cg (by simp (disch := omega) only [zup_ne, zup_eq, nmR_lo]) (fun i hi => by simp (disch := omega) only [zup_ne, zup_eq, nmR_lo]), (d9.fr G rfl).cg (by simp (disch := omega) only [zup_ne, zup_eq, nmR_lo]) (fun i hi => by simp (disch := omega) only [zup_ne, zup_eq, nmR_lo]), fun k => ?_, fun k => ?_⟩, y3.fr G rfl, ?_⟩)
        · rw [hz1.2.I 1 5 rfl]; exact g2
        · rw [G.I 1 12 rfl]; exact y1
        · rw [G.I 25 0 rfl]; simp (disch := omega) only [zup_ne, nmR_lo]; exact d1
        · rw [G.I 25 1 rfl]; simp (disch := omega) only [zup_ne, nmR_lo]; exact d2
        · rw [G.L 25 4 rfl, d10 k]; simp (disch := omega) only [zup_ne, nmR_hi]
        · rw [G.L 25 5 rfl, d11 k]; simp (disch := omega) only [zup_ne, nmR_hi]
        · simp (disch := omega) only [zup_ne, zup_eq, nmR_lo]
          have := (n1.fr f2 rfl).fr hz1.2 rfl
          rw [show R 2 + 1 + R 3 = R 2 + R 3 + 1 by omega]
          exact this
    · dsimp only
      rw [if_neg Bool.false_ne_true]
      exact okS.mpr (zXO.bad (by unfold zbo2; rw [e1, ex]) hx)
  · dsimp only
    rw [if_neg Bool.false_ne_true]
    exact okS.mpr (zXO.bad (by unfold zbo2; rw [ex]; rfl) hx)
theorem zm_boots (hN : 200000 ≤ N) (hL : L ≤ 900) (hT : ∀ i, T i < 256) {p : Nat} (hp : p ≤ L) (hb : zB R) (h2 : R 2 < 3) (hn : zNI T L R nf nt sl) (h : zM T L p R S B σ) : ok (f_m_bootsLine N σ) (fun y => zMO (zbo2 T L p R nf nt) (zM T L (zee T L (zee T L p)) (zboR T L p R) S B) y.2) := by
  have hz := z_le (T := T) hp
  obtain ⟨b0, b2, b3, b4, b5, b6, b7⟩ := hb
  obtain ⟨hm, hR, hS, hB⟩ := h
  unfold f_m_bootsLine
  rw [if_pos (hm.2.1 rfl).1, show gA σ 70 2 = iI (R 2 : Int) from hR.A (z := 2) 2 rfl (by omega) (by omega), okB]
  refine (zm_newName (s := R 2) hN hL hT rfl hp (by omega) hm hR hn).imp (fun q1 h1 => ?_)
  rw [okB]
  refine (zm_num (lo := 2) (hi := 9) hN hL hz.2.2 (fun _ => ⟨rfl, rfl⟩) (by omega) (by omega) h1.1.1).imp (fun q2 hq2 => ?_)
  have e2 : gA q1.2 70 2 = iI (R 2 : Int) := by
    rw [show gA q1.2 70 2 = iI (zcr (neE T L p (R 2 + R 3) nf nt) (nmR T R (zbb T L p) (zee T L p) (R 2)) R 2 : Int) from h1.1.2.A (z := 2) 2 rfl (by omega) (by omega), zcr_lo (by omega)]
  rw [e2, show (9 : Int32) + iI (R 2 : Int) = iI ((9 + R 2 : Nat) : Int) from iI_add 9 _, if_pos (show vin (iI ((9 + R 2 : Nat) : Int)) 189 by rw [vin_iI (by omega) (by omega)]; omega)]
  have m2 : zMS T L (zbo2 T L p R nf nt) (zee T L (zee T L p)) q2.2 := hq2.1
  have f3 : Fr [(70, none)] q2.2 (sA q2.2 70 (iI ((9 + R 2 : Nat) : Int)) q2.1) := Fr.wA Fr.rf (by simp)
  have m3 := m2.fr f3 rfl
  have F3 : Fr zmW σ (sA q2.2 70 (iI ((9 + R 2 : Nat) : Int)) q2.1) := (h1.2.tr (hq2.2.2.mono rfl)).tr (f3.mono rfl)
  cases e : zbo2 T L p R nf nt with
  | some x =>
    rw [e] at m3
    have hf := m3.2.2 x rfl
    rw [if_neg (ne10 hf.1)]
    exact okS.mpr (zMO.bad rfl hf)
  | none =>
    have e1 := (nuE_none (show nuE T L (neE T L p (R 2 + R 3) nf nt) (zee T L p) 2 9 = none from e)).1
    rw [e] at m3
    have A0 := h1.1.2.fr hq2.2.2 rfl
    rw [e1] at A0
    have A1 : AR (sA q2.2 70 (iI ((9 + R 2 : Nat) : Int)) q2.1) 70 189 (zup (nmR T R (zbb T L p) (zee T L p) (R 2)) (9 + R 2) (zvv T L (zee T L p))) := A0.up (by omega) rfl (hq2.2.1 e)
    rw [if_pos (m3.2.1 rfl).1]
    generalize sA q2.2 70 (iI ((9 + R 2 : Nat) : Int)) q2.1 = υ at m3 F3 A1 ⊢
    have e5 : gA υ 70 2 = iI (R 2 : Int) := by
      rw [show gA υ 70 2 = iI (zup (nmR T R (zbb T L p) (zee T L p) (R 2)) (9 + R 2) (zvv T L (zee T L p)) 2 : Int) from A1.A (z := 2) 2 rfl (by omega) (by omega), zup_ne (by omega), nmR_lo (by omega)]
    rw [e5]
    have f5 : Fr [(70, none)] υ (sA υ 70 2 (iI (R 2 : Int) + 1)) := Fr.wA Fr.rf (by simp)
    refine okS.mpr (zMO.good rfl ⟨m3.fr f5 rfl, A1.up (i := 2) (v := R 2 + 1) (by omega) rfl (iI_add _ 1), (hS.fr F3 rfl).fr f5 rfl, fun h8 => ((hB ?_).fr F3 rfl).fr f5 rfl⟩)
    unfold zboR at h8
    rw [zup_ne (by omega), zup_ne (by omega), nmR_lo (by omega)] at h8
    exact h8
end ZBO
