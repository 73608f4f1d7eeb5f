section ZUN
variable {N : Nat} {σ : Sg} {T R S B nf nt sl : Nat → Nat} {L p0 : Nat}
/-! a number told twice; one of two words -/
def dpE (T : Nat → Nat) (L : Nat) (e : zE) (p : Nat) (x : Int) : zE := match e with
  | some y => some y
  | none => if x = -2 then none else some (3, zbb T L p)
def w2E (T : Nat → Nat) (L : Nat) (e : zE) (p a b : Nat) : zE := match e with
  | some y => some y
  | none => if zis T L p a = true then none else if zis T L p b = true then none else some (1, zbb T L p)
theorem nuE_none {e : zE} {p : Nat} {lo hi : Int} (h : nuE T L e p lo hi = none) : e = none ∧ zkk T L p = 2 ∧ lo ≤ (zvv T L p : Int) ∧ (zvv T L p : Int) ≤ hi := by
  cases e with
  | some x => cases h
  | none =>
    unfold nuE at h
    dsimp only at h
    split at h
    · split at h
      · exact ⟨rfl, ‹_›, ‹_›⟩
      · cases h
    · cases h
theorem wrE_none {e : zE} {p w : Nat} (h : wrE T L e p w = none) : e = none ∧ zis T L p w = true := by
  cases e with
  | some x => cases h
  | none =>
    unfold wrE at h
    dsimp only at h
    split at h
    · exact ⟨rfl, ‹_›⟩
    · cases h
theorem dpE_none {e : zE} {p : Nat} {x : Int} (h : dpE T L e p x = none) : e = none ∧ x = -2 := by
  cases e with
  | some y => cases h
  | none =>
    unfold dpE at h
    dsimp only at h
    split at h
    · exact ⟨rfl, ‹_›⟩
    · cases h
theorem w2E_none {e : zE} {p a b : Nat} (h : w2E T L e p a b = none) : e = none := by
  cases e with
  | some y => cases h
  | none => rfl
theorem ixF_sh {g : Nat → Int} {v d : Int} : ∀ n i, ixF (fun k => g k - d) (v - d) n i = ixF g v n i := by
  intro n
  induction n with
  | zero => intro i; rfl
  | succ n ih =>
    intro i
    unfold ixF
    by_cases c : g i = v
    · rw [if_pos c, if_pos (by omega)]
    · rw [if_neg c, if_neg (by omega)]
      exact ih (i + 1)
theorem ixF_m2 {g : Nat → Int} {v : Int} {c : Nat} (hc : c < 1000) : iI (ixF g v c 0) = -2 ↔ ixF g v c 0 = -2 := by
  have h : ixF g v c 0 = -2 ∨ (0 ≤ ixF g v c 0 ∧ ixF g v c 0 < 1000) := by
    rcases ixF_cases g v c 0 with ⟨h, -⟩ | ⟨i, -, h2, h3, -⟩
    · exact Or.inl h
    · right; omega
  rw [show (-2 : Int32) = iI (-2) from rfl, iI_eq (by omega) (by omega) (by omega) (by omega)]
/-! the unsure line -/
def zunI (R : Nat → Nat) (v : Nat) : Int := ixF (fun i => (R (32 + i) : Int)) (v : Int) (R 5) 0
def zunE (T : Nat → Nat) (L p : Nat) (R : Nat → Nat) : zE := dpE T L (nuE T L none p 1 (R 4 : Int)) p (zunI R (zvv T L p))
def zunR (R : Nat → Nat) (v : Nat) : Nat → Nat := zup (zup R (32 + R 5) v) 5 (R 5 + 1)
theorem zx_uns (hN : 200000 ≤ N) (hL : L ≤ 900) {p : Nat} (hp : p ≤ L) (hb : zB R) (h5 : R 5 < 4) (hd : ∀ i, i < R 5 → R (32 + i) ≤ 8) (h : zX T L p R S B nf nt sl σ) : ok (f_reader_readUnsure N σ) (zXO (zunE T L p R) (zX T L (zee T L p) (zunR R (zvv T L p)) S B nf nt sl)) := by
  obtain ⟨b0, b2, b3, b4, b5, b6, b7⟩ := hb
  have hv := z_vv (T := T) (L := L) (p := p)
  unfold f_reader_readUnsure
  obtain ⟨t0, g0, y1, ⟨d1, d2, d3, d4, d5, d6, d7, d8, d9, d10, d11⟩, y3, y4⟩ := h
  refine zx_whole (lo := 1) (hi := (R 4 : Int)) hN hL hp rfl d6.1 (by omega) (by omega) t0 g0 (fun τ1 e1 c1 f1 t1 g1 w1 h4 => ?_) (fun τ x ex hx => ?_)
  · dsimp only
    rw [if_pos rfl, w1, show iI (zvv T L p : Int) - 1 = iI ((zvv T L p : Int) - 1) from iI_sub _ 1]
    have D7 := d7.fr f1 rfl
    rw [px_indexOf (g := fun i => (R (32 + i) : Int) - 1) hN D7.1 (by omega) (by omega) (fun i hi => ⟨D7.2 i hi, by have := hd i hi; omega, by have := hd i hi; omega⟩) (by omega) (by omega), Option.bind_some, ixF_sh]
    dsimp only
    by_cases c : zunI R (zvv T L p) = -2
    · rw [if_pos ((ixF_m2 (by omega)).mpr c), w1, show iI (zvv T L p : Int) - 1 = iI ((zvv T L p : Int) - 1) from iI_sub _ 1, okB]
      refine (D7.add (m := 4) (g := fun i => (zunR R (zvv T L p) (32 + i) : Int) - 1) h5 (by omega) (fun i hi => ?_) ?_).imp (fun z hz => ?_)
      · unfold zunR; simp (disch := omega) only [zup_ne, zup_eq, gdR_lo]
      · unfold zunR; simp (disch := omega) only [zup_ne, zup_eq, gdR_lo]
      · have G : Fr [(1, some 3), (1, some 4), (1, some 5), (1, some 6), (34, some 1), (35, none)] σ z.2 := (f1.mono rfl).tr (hz.2.mono rfl)
        unfold zunR at hz ⊢
        refine okS.mpr (zXO.good (by unfold zunE; rw [e1]; unfold dpE; dsimp only; rw [if_pos c]) ⟨t1.co hz.2 rfl, ?_, ?_, ⟨?_, ?_, (d3.fr G rfl).cg (by simp (disch := omega) only [zup_ne, zup_eq, gdR_lo]) (fun i hi => by simp (disch := omega) only [zup_ne, zup_eq, gdR_lo]), (d4.fr G rfl).cg (by simp (disch := omega) only [zup_ne, zup_eq, gdR_lo]) (fun i hi => by simp (disch := omega) only [zup_ne, zup_eq, gdR_lo]), (d5.fr G rfl).cg (by simp (disch := omega) only [zup_ne, zup_eq, gdR_lo]) (fun i hi => by simp (disch := omega) only [zup_ne, zup_eq, gdR_lo]), (d6.fr G rfl).cg (by simp (disch := omega) only [zup_ne, zup_eq, gdR_lo]) (fun i hi => by simp (disch := omega) only [zup_ne, zup_eq, gdR_lo]), hz.1.cg (by simp (disch := omega) only [zup_ne, zup_eq, gdR_lo]) (fun i hi => rfl), (d8.fr G rfl).cg (by simp (disch := omega) only [zup_ne, zup_eq, gdR_lo]) (fun i hi => by simp (disch := omega) only [zup_ne, zup_eq, gdR_lo]), (d9.fr G rfl).cg (by simp (disch := omega) only [zup_ne, zup_eq, gdR_lo]) (fun i hi => by simp (disch := omega) only [zup_ne, zup_eq, gdR_lo]), fun k => ?_, fun k => ?_⟩, y3.fr G rfl, ?_⟩)
        · rw [hz.2.I 1 5 rfl]; exact g1
        · rw [G.I 1 12 rfl]; exact y1
        · rw [G.I 25 0 rfl]; simp (disch := omega) only [zup_ne]; exact d1
        · rw [G.I 25 1 rfl]; simp (disch := omega) only [zup_ne]; exact d2
        · rw [G.L 25 4 rfl, d10 k]; simp (disch := omega) only [zup_ne, zup_eq, gdR_lo]
        · rw [G.L 25 5 rfl, d11 k]; simp (disch := omega) only [zup_ne, zup_eq, gdR_lo]
        · simp (disch := omega) only [zup_ne]; exact y4.fr G rfl
    · rw [if_neg (fun q => c ((ixF_m2 (by omega)).mp q))]
      rw [zx_fail (v := 3) (n := 3) rfl h4, Option.bind_some]
      exact okS.mpr (zXO.bad (x := (3, zbb T L p)) (by unfold zunE; rw [e1]; unfold dpE; dsimp only; rw [if_neg c]) zx_ff)
  · dsimp only
    rw [if_neg Bool.false_ne_true]
    exact okS.mpr (zXO.bad (by unfold zunE; rw [ex]; rfl) hx)
theorem zm_unL (hp : p0 ≤ L) {c v : Nat} {w : Int32} {k : Int32 → Sg → Option (Unit × Sg)} {P : Unit × Sg → Prop} (hc : R 5 = c) (hc4 : c ≤ 4) (hd : ∀ i, i < c → R (32 + i) ≤ 1000) (hv : v < 1000) : ∀ (n i : Nat) (e : zE) (τ : Sg), i ≤ c → c - i < n → (e = none → w = iI (v : Int)) → zMS T L e p0 τ → AR τ 70 189 R → (∀ υ, zMS T L (dpE T L e p0 (ixF (fun i => (R (32 + i) : Int)) (v : Int) (c - i) i)) p0 υ → Fr wrW τ υ → ok (k w υ) P) → ok (f_m_unsureLine_L22 N n w (iI (i : Int)) τ k) P := by
  intro n
  induction n with
  | zero => intro i e τ _ h; omega
  | succ n ih =>
    intro i e τ hi hn hw hm hR hk
    unfold f_m_unsureLine_L22
    rw [show gA τ 70 5 = iI (c : Int) by rw [← hc]; exact hR.A (z := 5) 5 rfl (by omega) (by omega)]
    by_cases h : i = c
    · rw [if_pos (show iI (c : Int) ≤ iI (i : Int) by rw [iI_le (by omega) (by omega) (by omega) (by omega)]; omega)]
      refine hk τ ?_ Fr.rf
      rw [show c - i = 0 by omega]
      cases e with
      | none => exact hm
      | some x => exact hm
    · rw [if_neg (show ¬ iI (c : Int) ≤ iI (i : Int) by rw [iI_le (by omega) (by omega) (by omega) (by omega)]; omega), show iI (i : Int) + 1 = iI ((i + 1 : Nat) : Int) from iI_add _ 1]
      cases e with
      | some x =>
        rw [if_neg (ne10 (hm.2.2 x rfl).1)]
        exact ih (i + 1) (some x) τ (by omega) (by omega) (fun q => by cases q) hm hR (fun υ h1 h2 => hk υ h1 h2)
      | none =>
        have g := hm.2.1 rfl
        have hdi := hd i (by omega)
        rw [if_pos g.1, show (32 : Int32) + iI (i : Int) = iI ((32 + i : Nat) : Int) from iI_add 32 _, if_pos (show vin (iI ((32 + i : Nat) : Int)) 189 by rw [vin_iI (by omega) (by omega)]; omega), hR.A (32 + i) rfl (by omega) (by omega), hw rfl]
        rw [hw rfl] at ih hk
        have ex : ixF (fun i => (R (32 + i) : Int)) (v : Int) (c - i) i = if (R (32 + i) : Int) = (v : Int) then (i : Int) else ixF (fun i => (R (32 + i) : Int)) (v : Int) (c - (i + 1)) (i + 1) := by
          rw [show c - i = (c - (i + 1)) + 1 by omega]; rfl
        rw [ex] at hk
        by_cases cc : (R (32 + i) : Int) = (v : Int)
        · rw [if_pos cc] at hk
          rw [if_pos (show iI (R (32 + i) : Int) = iI (v : Int) by rw [cc]), zm_wrong (v := 3) (n := 3) g.1 rfl g.2.2.1, Option.bind_some]
          have f := wrg_fr (σ := τ) (n := 3) (a := zbb T L p0)
          refine ih (i + 1) (some (3, zbb T L p0)) _ (by omega) (by omega) (fun q => by cases q) (zMS.bad (hm.1.co f rfl) wrg_f) (hR.fr f rfl) (fun υ h1 h2 => hk υ ?_ (f.tr h2))
          rw [show dpE T L none p0 (i : Int) = some (3, zbb T L p0) by unfold dpE; dsimp only; rw [if_neg (by omega)]]
          exact h1
        · rw [if_neg cc] at hk
          rw [if_neg (show ¬ iI (R (32 + i) : Int) = iI (v : Int) by rw [iI_eq (by omega) (by omega) (by omega) (by omega)]; exact cc)]
          exact ih (i + 1) none τ (by omega) (by omega) (fun _ => rfl) hm hR hk
theorem zm_uns (hN : 200000 ≤ N) (hL : L ≤ 900) {p : Nat} (hp : p ≤ L) (hb : zB R) (h5 : R 5 < 4) (hd : ∀ i, i < R 5 → R (32 + i) ≤ 8) (h : zM T L p R S B σ) : ok (f_m_unsureLine N σ) (fun y => zMO (zunE T L p R) (zM T L (zee T L p) (zunR R (zvv T L p)) S B) y.2) := by
  obtain ⟨hm, hR, hS, hB⟩ := h
  obtain ⟨b0, b2, b3, b4, b5, b6, b7⟩ := hb
  have hv := z_vv (T := T) (L := L) (p := p)
  have g := hm.2.1 rfl
  unfold f_m_unsureLine
  rw [if_pos g.1, show gA σ 70 4 = iI (R 4 : Int) from hR.A (z := 4) 4 rfl (by omega) (by omega), okB]
  refine (zm_numH (lo := 1) (hi := (R 4 : Int)) hN hL hp (fun _ => ⟨rfl, rfl⟩) (by omega) (by omega) hm).imp (fun q1 h1 => ?_)
  refine zm_unL (N := N) (c := R 5) (v := zvv T L p) hp rfl (by omega) (fun i hi => by have := hd i hi; omega) hv N 0 _ q1.2 (by omega) (by omega) h1.2.1 h1.1 (hR.fr h1.2.2 rfl) (fun υ m2 f2 => ?_)
  change zMS T L (zunE T L p R) p υ at m2
  have F2 : Fr wrW σ υ := h1.2.2.tr f2
  rw [okB]
  refine (zm_pass hN hL hp m2).imp (fun q3 h3 => ?_)
  have F3 : Fr tkf σ q3.2 := (F2.mono rfl).tr (h3.2.mono rfl)
  have R3 := hR.fr F3 rfl
  cases e : zunE T L p R with
  | some x =>
    have hf := h3.1.2.2 x e
    rw [if_neg (ne10 hf.1)]
    exact okS.mpr (zMO.bad rfl hf)
  | none =>
    have m3 := h3.1
    rw [e] at m3
    have e1 := (dpE_none (show dpE T L (nuE T L none p 1 (R 4 : Int)) p (zunI R (zvv T L p)) = none from e)).1
    rw [if_pos (m3.2.1 rfl).1, show gA q3.2 70 5 = iI (R 5 : Int) from R3.A (z := 5) 5 rfl (by omega) (by omega), show (32 : Int32) + iI (R 5 : Int) = iI ((32 + R 5 : Nat) : Int) from iI_add 32 _, if_pos (show vin (iI ((32 + R 5 : Nat) : Int)) 189 by rw [vin_iI (by omega) (by omega)]; omega), h1.2.1 e1]
    have A1 := R3.up (i := 32 + R 5) (v := zvv T L p) (by omega) rfl rfl
    have f4 : Fr [(70, none)] q3.2 (sA q3.2 70 (iI ((32 + R 5 : Nat) : Int)) (iI (zvv T L p : Int))) := Fr.wA Fr.rf (by simp)
    have e5 : gA (sA q3.2 70 (iI ((32 + R 5 : Nat) : Int)) (iI (zvv T L p : Int))) 70 5 = iI (R 5 : Int) := by
      rw [show gA (sA q3.2 70 (iI ((32 + R 5 : Nat) : Int)) (iI (zvv T L p : Int))) 70 5 = iI (zup R (32 + R 5) (zvv T L p) 5 : Int) from A1.A (z := 5) 5 rfl (by omega) (by omega), zup_ne (by omega)]
    rw [e5]
    have A2 := A1.up (i := 5) (v := R 5 + 1) (x := 5) (w := iI (R 5 : Int) + 1) (by omega) rfl (iI_add _ 1)
    have f5 : Fr [(70, none)] q3.2 (sA (sA q3.2 70 (iI ((32 + R 5 : Nat) : Int)) (iI (zvv T L p : Int))) 70 5 (iI (R 5 : Int) + 1)) := Fr.wA f4 (by simp)
    refine okS.mpr (zMO.good rfl ⟨m3.fr f5 rfl, A2, (hS.fr F3 rfl).fr f5 rfl, fun h8 => ((hB ?_).fr F3 rfl).fr f5 rfl⟩)
    unfold zunR at h8
    rw [zup_ne (by omega), zup_ne (by omega)] at h8
    exact h8
end ZUN
