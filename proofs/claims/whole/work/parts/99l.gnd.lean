section ZGR
variable {N : Nat} {σ : Sg} {T R S B nf nt sl : Nat → Nat} {L : Nat}
/-! the ground line -/
def zgs (T : Nat → Nat) (L p : Nat) : Nat := if zis T L p 11 = true then 0 else if zis T L p 12 = true then 1 else 2
def zg1 (T : Nat → Nat) (L p : Nat) : zE := if zis T L p 11 = true then none else if zis T L p 12 = true then none else if zis T L p 13 = true then none else some (1, zbb T L p)
def zg2 (T : Nat → Nat) (L p c : Nat) (e : zE) : zE := nuE T L e p 0 ((c : Int) - 1)
def zg3 (T : Nat → Nat) (L p c : Nat) (e : zE) : zE := nuE T L (zg2 T L p c e) (zee T L p) (zvv T L p) ((c : Int) - 1)
def gdG (R : Nat → Nat) (a b s : Nat) : Nat → Nat := fun k => if 129 + a ≤ k ∧ k ≤ 129 + b then s else R k
def gdR (R : Nat → Nat) (a b s : Nat) : Nat → Nat := zup (gdG R a b s) 7 (R 7 + 1)
theorem gdR_lo {a b s k : Nat} (hk : k < 129) (h7 : k ≠ 7) : gdR R a b s k = R k := by
  unfold gdR gdG
  rw [zup_ne h7, if_neg (by omega)]
theorem zx_setG {a b s : Nat} {v : Int32} {w : Int64} (hs : s < 3) (hv : v = iI (s : Int)) (hb : b < 60) (hw : ∀ k, tb w k = decide (a ≤ k ∧ k ≤ b)) (h4 : ∀ k, tb (gL σ 25 4) k = decide (k < 60 ∧ R (129 + k) = 1)) (h5 : ∀ k, tb (gL σ 25 5) k = decide (k < 60 ∧ R (129 + k) = 2)) : ok (f_country_setGround N v w σ) (fun z => ((∀ k, tb (gL z.2 25 4) k = decide (k < 60 ∧ gdR R a b s (129 + k) = 1)) ∧ ∀ k, tb (gL z.2 25 5) k = decide (k < 60 ∧ gdR R a b s (129 + k) = 2)) ∧ Fr [(25, some 4), (25, some 5)] σ z.2) := by
  refine ok.and ?_ (fun z => w_f_country_setGround)
  have hg : ∀ k, gdR R a b s (129 + k) = if a ≤ k ∧ k ≤ b then s else R (129 + k) := fun k => by
    unfold gdR gdG
    rw [zup_ne (by omega)]
    by_cases c : a ≤ k ∧ k ≤ b
    · rw [if_pos c, if_pos (by omega)]
    · rw [if_neg c, if_neg (by omega)]
  have hor : ∀ (x : Int64) (d : Nat), d = s → (∀ k, tb x k = decide (k < 60 ∧ R (129 + k) = d)) → ∀ k, tb (x ||| w) k = decide (k < 60 ∧ gdR R a b s (129 + k) = d) := fun x d hd hx k => by
    rw [tb_or, hx k, hw k, hg k, Bool.eq_iff_iff]
    simp only [Bool.or_eq_true, decide_eq_true_eq]
    split <;> omega
  have han : ∀ (x : Int64) (d : Nat), d ≠ s → (∀ k, tb x k = decide (k < 60 ∧ R (129 + k) = d)) → ∀ k, tb (x &&& (w ^^^ (-1))) k = decide (k < 60 ∧ gdR R a b s (129 + k) = d) := fun x d hd hx k => by
    rw [tb_and, tb_nt, hx k, hw k, hg k, Bool.eq_iff_iff]
    simp only [Bool.and_eq_true, Bool.not_eq_true', decide_eq_true_eq, decide_eq_false_iff_not]
    split <;> omega
  unfold f_country_setGround
  have hs3 : s = 0 ∨ s = 1 ∨ s = 2 := by omega
  rcases hs3 with rfl | rfl | rfl
  · rw [hv, if_neg (by decide), if_neg (by decide)]
    refine okS.mpr ⟨?_, ?_⟩
    · rw [gL_ne (by omega), gL_eq]; exact han _ 1 (by omega) h4
    · rw [gL_eq, gL_ne (by omega)]; exact han _ 2 (by omega) h5
  · rw [hv, if_pos (by decide), if_neg (by decide)]
    refine okS.mpr ⟨?_, ?_⟩
    · rw [gL_ne (by omega), gL_eq]; exact hor _ 1 rfl h4
    · rw [gL_eq, gL_ne (by omega)]; exact han _ 2 (by omega) h5
  · rw [hv, if_neg (by decide), if_pos (by decide)]
    refine okS.mpr ⟨?_, ?_⟩
    · rw [gL_ne (by omega), gL_eq]; exact han _ 1 (by omega) h4
    · rw [gL_eq, gL_ne (by omega)]; exact hor _ 2 rfl h5
theorem zx_gtail (hN : 200000 ≤ N) (hL : L ≤ 900) {p s : Nat} {v : Int32} (hp : p ≤ L) (hs : s < 3) (hv : v = iI (s : Int)) (hb : zB R) (h : zX T L p R S B nf nt sl σ) :
    ok ((f_reader_expectCell N 0 σ).bind fun q14 => if q14.1 = true then (f_reader_expectCell N (gI q14.2 1 6) q14.2).bind fun q15 => if q15.1 = true then (f_x_span N (gI q14.2 1 6) (gI q15.2 1 6) q15.2).bind fun q16 => (f_country_setGround N v q16.1 q16.2).bind fun q17 => some (true, q17.2) else some (false, q15.2) else some (false, q14.2))
      (zXO (zg3 T L p (R 0) none) (zX T L (zee T L (zee T L p)) (gdR R (zvv T L p) (zvv T L (zee T L p)) s) S B nf nt sl)) := by
  have hz := z_le (T := T) hp
  obtain ⟨b0, b2, b3, b4, b5, b6, b7⟩ := hb
  have c0 : gI σ 25 0 - 1 = iI ((R 0 : Int) - 1) := by rw [h.2.2.2.1.1]; exact iI_sub _ 1
  rw [zx_cellE]
  refine zx_whole (lo := 0) (hi := (R 0 : Int) - 1) hN hL hp rfl c0 (by omega) (by omega) h.1 h.2.1 (fun τ1 e1 b1 f1 t1 g1 w1 _ => ?_) (fun τ x ex hx => ?_)
  · dsimp only
    have c1 : gI τ1 25 0 - 1 = iI ((R 0 : Int) - 1) := by rw [f1.I 25 0 rfl]; exact c0
    rw [if_pos rfl, zx_cellE, w1]
    have e1' : zg2 T L p (R 0) none = none := e1
    refine zx_whole (lo := (zvv T L p : Int)) (hi := (R 0 : Int) - 1) hN hL hz.2.2 rfl c1 (by omega) (by omega) t1 g1 (fun τ2 e2 b2 f2 t2 g2 w2 _ => ?_) (fun τ x ex hx => ?_)
    · dsimp only
      have F : Fr tkx σ τ2 := f1.tr f2
      obtain ⟨-, -, y1, y2, y3, y4⟩ := h
      obtain ⟨d1, d2, d3, d4, d5, d6, d7, d8, d9, d10, d11⟩ := y2
      rw [if_pos rfl, w2, px_span N (by omega) (by omega), Option.bind_some]
      dsimp only
      rw [okB]
      refine (zx_setG (R := R) (a := zvv T L p) (b := zvv T L (zee T L p)) hs hv (by omega) (fun k => ?_) (fun k => ?_) (fun k => ?_)).imp (fun z hz2 => ?_)
      · rw [tb_spn (by omega) (by omega)]
        exact decide_eq_decide.mpr (by omega)
      · rw [F.L 25 4 rfl]; exact d10 k
      · rw [F.L 25 5 rfl]; exact d11 k
      · have G : Fr [(1, some 3), (1, some 4), (1, some 5), (1, some 6), (25, some 4), (25, some 5)] σ z.2 := (F.mono rfl).tr (hz2.2.mono rfl)
        refine okS.mpr (zXO.good (by unfold zg3; rw [e1']; exact e2) ⟨t2.co hz2.2 rfl, ?_, ?_, ⟨?_, ?_, (d3.fr G rfl).cg (by simp (disch := omega) only [zup_ne, zup_eq, gdR_lo]) (fun i hi => by simp (disch := omega) only [zup_ne, zup_eq, gdR_lo]), (d4.fr G rfl).cg (by simp (disch := omega) only [zup_ne, zup_eq, gdR_lo]) (fun i hi => by simp (disch := omega) only [zup_ne, zup_eq, gdR_lo]), (d5.fr G rfl).cg (by simp (disch := omega) only [zup_ne, zup_eq, gdR_lo]) (fun i hi => by simp (disch := omega) only [zup_ne, zup_eq, gdR_lo]), (d6.fr G rfl).cg (by simp (disch := omega) only [zup_ne, zup_eq, gdR_lo]) (fun i hi => by simp (disch := omega) only [zup_ne, zup_eq, gdR_lo]), (d7.fr G rfl).cg (by simp (disch := omega) only [zup_ne, zup_eq, gdR_lo]) (fun i hi => by simp (disch := omega) only [zup_ne, zup_eq, gdR_lo]), (d8.fr G rfl).cg (by simp (disch := omega) only [zup_ne, zup_eq, gdR_lo]) (fun i hi => by simp (disch := omega) only [zup_ne, zup_eq, gdR_lo]), (d9.fr G rfl).cg (by simp (disch := omega) only [zup_ne, zup_eq, gdR_lo]) (fun i hi => by simp (disch := omega) only [zup_ne, zup_eq, gdR_lo]), hz2.1.1, hz2.1.2⟩, y3.fr G rfl, ?_⟩)
        · rw [hz2.2.I 1 5 rfl]; exact g2
        · rw [G.I 1 12 rfl]; exact y1
        · rw [G.I 25 0 rfl, gdR_lo (by omega) (by omega)]; exact d1
        · rw [G.I 25 1 rfl, gdR_lo (by omega) (by omega)]; exact d2
        · rw [gdR_lo (by omega) (by omega), gdR_lo (by omega) (by omega)]; exact y4.fr G rfl
    · dsimp only
      rw [if_neg Bool.false_ne_true]
      exact okS.mpr (zXO.bad (by unfold zg3; rw [e1', ex]) hx)
  · dsimp only
    rw [if_neg Bool.false_ne_true]
    exact okS.mpr (zXO.bad (by unfold zg3 zg2; rw [ex]; rfl) hx)
/-- the class's ground line -/
theorem zx_gnd (hN : 200000 ≤ N) (hL : L ≤ 900) {p : Nat} (hp : p ≤ L) (hb : zB R) (h : zX T L p R S B nf nt sl σ) : ok (f_reader_readGround N σ) (zXO (zg3 T L (zee T L p) (R 0) (zg1 T L p)) (zX T L (zee T L (zee T L (zee T L p))) (gdR R (zvv T L (zee T L p)) (zvv T L (zee T L (zee T L p))) (zgs T L p)) S B nf nt sl)) := by
  have hz := z_le (T := T) hp
  unfold f_reader_readGround
  rw [okB]
  refine (zx_next hN hL hp h.1 h.2.1).imp (fun q hq => ?_)
  have hx : zX T L (zee T L p) R S B nf nt sl q.2 := ⟨hq.2.1, hq.1.2.2.1, h.2.2.fr hq.2.2 rfl⟩
  rw [zx_is hN hL hp (by omega) hq.2.1 hq.1, Option.bind_some]
  dsimp only
  by_cases c1 : zis T L p 11 = true
  · rw [if_pos c1, show zg1 T L p = none by unfold zg1; rw [if_pos c1], show zgs T L p = 0 by unfold zgs; rw [if_pos c1]]
    exact zx_gtail hN hL hz.2.2 (by omega) rfl hb hx
  · rw [if_neg c1, zx_is hN hL hp (by omega) hq.2.1 hq.1, Option.bind_some]
    dsimp only
    by_cases c2 : zis T L p 12 = true
    · rw [if_pos c2, show zg1 T L p = none by unfold zg1; rw [if_neg c1, if_pos c2], show zgs T L p = 1 by unfold zgs; rw [if_neg c1, if_pos c2]]
      exact zx_gtail hN hL hz.2.2 (by omega) rfl hb hx
    · rw [if_neg c2, zx_is hN hL hp (by omega) hq.2.1 hq.1, Option.bind_some]
      dsimp only
      by_cases c3 : zis T L p 13 = true
      · rw [if_pos c3, show zg1 T L p = none by unfold zg1; rw [if_neg c1, if_neg c2, if_pos c3], show zgs T L p = 2 by unfold zgs; rw [if_neg c1, if_neg c2]]
        exact zx_gtail hN hL hz.2.2 (by omega) rfl hb hx
      · rw [if_neg c3, zx_fail (v := 1) (n := 1) rfl hq.1.1, Option.bind_some]
        exact okS.mpr (zXO.bad (x := (1, zbb T L p)) (by unfold zg3 zg2 zg1; rw [if_neg c1, if_neg c2, if_neg c3]; rfl) zx_ff)
/-! the reference's -/
theorem zm_gloop {a b s : Nat} {v : Int32} (hv : v = iI (s : Int)) (hb : b < 60) (hab : a ≤ b) (h7 : R 7 < 1000) : ∀ (n i : Nat) (τ : Sg), a ≤ i → i ≤ b + 1 → b + 1 - i < n → AR τ 70 189 (fun k => if 129 + a ≤ k ∧ k < 129 + i then s else R k) → ok (f_m_groundLine_L105 N n v (iI (b : Int)) (iI (i : Int)) τ) (fun z => AR z.2 70 189 (gdR R a b s) ∧ Fr [(70, none)] τ z.2) := by
  intro n
  induction n with
  | zero => intro i τ _ _ h; omega
  | succ n ih =>
    intro i τ h1 h2 hn hA
    unfold f_m_groundLine_L105
    by_cases c : i = b + 1
    · rw [if_pos (show iI (b : Int) < iI (i : Int) by rw [iI_lt (by omega) (by omega) (by omega) (by omega)]; omega)]
      have e7 : gA τ 70 7 = iI (R 7 : Int) := by
        rw [show gA τ 70 7 = iI ((if 129 + a ≤ 7 ∧ 7 < 129 + i then s else R 7 : Nat) : Int) from hA.A (z := 7) 7 rfl (by omega) (by omega), if_neg (by omega)]
      have hA2 : AR τ 70 189 (gdG R a b s) := fun k hk => by
        rw [hA k hk]
        unfold gdG
        dsimp only
        by_cases d : 129 + a ≤ k ∧ k < 129 + i
        · rw [if_pos d, if_pos (by omega)]
        · rw [if_neg d, if_neg (by omega)]
      exact okS.mpr ⟨hA2.up (i := 7) (v := R 7 + 1) (by omega) rfl (by rw [e7]; exact iI_add _ 1), Fr.wA Fr.rf (by simp)⟩
    · rw [if_neg (show ¬ iI (b : Int) < iI (i : Int) by rw [iI_lt (by omega) (by omega) (by omega) (by omega)]; omega), show (129 : Int32) + iI (i : Int) = iI ((129 + i : Nat) : Int) from iI_add 129 _, if_pos (show vin (iI ((129 + i : Nat) : Int)) 189 by rw [vin_iI (by omega) (by omega)]; omega), show iI (i : Int) + 1 = iI ((i + 1 : Nat) : Int) from iI_add _ 1]
      have w : Fr [(70, none)] τ (sA τ 70 (iI ((129 + i : Nat) : Int)) v) := Fr.wA Fr.rf (by simp)
      refine (ih (i + 1) _ (by omega) (by omega) (by omega) (fun k hk => ?_)).imp (fun z hz => ⟨hz.1, w.tr hz.2⟩)
      rw [hA.up (i := 129 + i) (v := s) (by omega) rfl hv k hk]
      unfold zup
      dsimp only
      by_cases d : k = 129 + i
      · rw [if_pos d, if_pos (by omega)]
      · rw [if_neg d]
        by_cases d2 : 129 + a ≤ k ∧ k < 129 + i
        · rw [if_pos d2, if_pos (by omega)]
        · rw [if_neg d2, if_neg (by omega)]
theorem zm_gtail (hN : 200000 ≤ N) (hL : L ≤ 900) {p s : Nat} {e : zE} {v : Int32} (hp : p ≤ L) (hv : e = none → v = iI (s : Int)) (hb : zB R) (hm : zMS T L e p σ) (hR : AR σ 70 189 R) (hS : AR σ 73 63 S) (hB : R 8 ≠ 0 → AR σ 72 63 B) :
    ok ((f_m_pass N σ).bind fun q14 => (f_m_number N 0 ((gA q14.2 70 0) - 1) q14.2).bind fun q15 => (f_m_number N q15.1 ((gA q15.2 70 0) - 1) q15.2).bind fun q16 => if (gI q16.2 66 13) = 0 then f_m_groundLine_L105 N N v q16.1 q15.1 q16.2 else some ((), q16.2))
      (fun y => zMO (zg3 T L (zee T L p) (R 0) e) (zM T L (zee T L (zee T L (zee T L p))) (gdR R (zvv T L (zee T L p)) (zvv T L (zee T L (zee T L p))) s) S B) y.2) := by
  have hz := z_le (T := T) hp
  have hz2 := z_le (T := T) hz.2.2
  obtain ⟨b0, b2, b3, b4, b5, b6, b7⟩ := hb
  have hv1 := z_vv (T := T) (L := L) (p := zee T L p)
  rw [okB]
  refine (zm_pass hN hL hp hm).imp (fun q1 h1 => ?_)
  have R1 := hR.fr h1.2 rfl
  rw [okB]
  have c1 : gA q1.2 70 0 - 1 = iI ((R 0 : Int) - 1) := by
    rw [show gA q1.2 70 0 = iI (R 0 : Int) from R1.A (z := 0) 0 rfl (by omega) (by omega)]; exact iI_sub _ 1
  refine (zm_num (lo := 0) (hi := (R 0 : Int) - 1) hN hL hz.2.2 (fun _ => ⟨rfl, c1⟩) (by omega) (by omega) h1.1).imp (fun q2 h2 => ?_)
  have R2 := R1.fr h2.2.2 rfl
  have c2 : gA q2.2 70 0 - 1 = iI ((R 0 : Int) - 1) := by
    rw [show gA q2.2 70 0 = iI (R 0 : Int) from R2.A (z := 0) 0 rfl (by omega) (by omega)]; exact iI_sub _ 1
  rw [okB]
  refine (zm_num (lo := (zvv T L (zee T L p) : Int)) (hi := (R 0 : Int) - 1) hN hL hz2.2.2 (fun q => ⟨h2.2.1 q, c2⟩) (by omega) (by omega) h2.1).imp (fun q3 h3 => ?_)
  have F3 : Fr tkf σ q3.2 := (h1.2.mono rfl).tr (h2.2.2.tr h3.2.2)
  have R3 := hR.fr F3 rfl
  have S3 := hS.fr F3 rfl
  have m3 : zMS T L (zg3 T L (zee T L p) (R 0) e) (zee T L (zee T L (zee T L p))) q3.2 := h3.1
  cases ee : zg3 T L (zee T L p) (R 0) e with
  | some x =>
    have hf := m3.2.2 x ee
    rw [if_neg (ne10 hf.1)]
    exact okS.mpr (zMO.bad rfl hf)
  | none =>
    have e2 : zg2 T L (zee T L p) (R 0) e = none := by
      cases hc : zg2 T L (zee T L p) (R 0) e with
      | none => rfl
      | some x => unfold zg3 at ee; rw [hc] at ee; cases ee
    have e0 : e = none := by
      cases e with
      | none => rfl
      | some x => cases e2
    have hbd : (zvv T L (zee T L p) : Int) ≤ (zvv T L (zee T L (zee T L p)) : Int) ∧ (zvv T L (zee T L (zee T L p)) : Int) ≤ (R 0 : Int) - 1 := by
      unfold zg3 at ee
      rw [e2] at ee
      unfold nuE at ee
      dsimp only at ee
      split at ee
      · split at ee
        · assumption
        · cases ee
      · cases ee
    rw [ee] at m3
    rw [if_pos (m3.2.1 rfl).1, h3.2.1 ee, h2.2.1 e2]
    refine (zm_gloop (R := R) (a := zvv T L (zee T L p)) (b := zvv T L (zee T L (zee T L p))) (s := s) (hv e0) (by omega) (by omega) (by omega) N _ q3.2 (by omega) (by omega) (by omega) (fun k hk => ?_)).imp (fun z hz3 => zMO.good rfl ⟨m3.fr hz3.2 rfl, hz3.1, S3.fr hz3.2 rfl, fun h8 => ((hB ?_).fr F3 rfl).fr hz3.2 rfl⟩)
    · dsimp only; rw [if_neg (by omega)]; exact R3 k hk
    · rw [gdR_lo (by omega) (by omega)] at h8; exact h8
theorem zm_gnd (hN : 200000 ≤ N) (hL : L ≤ 900) (hT : ∀ i, T i < 256) {p : Nat} (hp : p ≤ L) (hb : zB R) (h : zM T L p R S B σ) : ok (f_m_groundLine N σ) (fun y => zMO (zg3 T L (zee T L p) (R 0) (zg1 T L p)) (zM T L (zee T L (zee T L (zee T L p))) (gdR R (zvv T L (zee T L p)) (zvv T L (zee T L (zee T L p))) (zgs T L p)) S B) y.2) := by
  obtain ⟨hm, hR, hS, hB⟩ := h
  have g := hm.2.1 rfl
  unfold f_m_groundLine
  rw [if_pos g.1, zm_is hN hL hT hp (by omega) g, Option.bind_some]
  dsimp only
  by_cases c1 : zis T L p 11 = true
  · rw [if_pos c1, show zg1 T L p = none by unfold zg1; rw [if_pos c1], show zgs T L p = 0 by unfold zgs; rw [if_pos c1]]
    exact zm_gtail hN hL hp (fun _ => rfl) hb hm hR hS hB
  · rw [if_neg c1, zm_is hN hL hT hp (by omega) g, Option.bind_some]
    dsimp only
    by_cases c2 : zis T L p 12 = true
    · rw [if_pos c2, show zg1 T L p = none by unfold zg1; rw [if_neg c1, if_pos c2], show zgs T L p = 1 by unfold zgs; rw [if_neg c1, if_pos c2]]
      exact zm_gtail hN hL hp (fun _ => rfl) hb hm hR hS hB
    · rw [if_neg c2, zm_is hN hL hT hp (by omega) g, Option.bind_some]
      dsimp only
      by_cases c3 : zis T L p 13 = true
      · rw [if_pos c3, show zg1 T L p = none by unfold zg1; rw [if_neg c1, if_neg c2, if_pos c3], show zgs T L p = 2 by unfold zgs; rw [if_neg c1, if_neg c2]]
        exact zm_gtail hN hL hp (fun _ => rfl) hb hm hR hS hB
      · rw [if_neg c3, zm_wrong (v := 1) (n := 1) g.1 rfl g.2.2.1, Option.bind_some, show zg1 T L p = some (1, zbb T L p) by unfold zg1; rw [if_neg c1, if_neg c2, if_neg c3]]
        have f := wrg_fr (σ := σ) (n := 1) (a := zbb T L p)
        exact zm_gtail hN hL hp (fun q => by cases q) hb (zMS.bad (hm.1.co f rfl) wrg_f) (hR.fr f rfl) (hS.fr f rfl) (fun h8 => (hB h8).fr f rfl)
end ZGR
