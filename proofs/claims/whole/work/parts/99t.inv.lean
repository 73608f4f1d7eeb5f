section ZIV
variable {N : Nat} {σ : Sg} {T R R' S B nf nt sl : Nat → Nat} {L : Nat}
/-! what holds of a land while it is read -/
def WfD (R : Nat → Nat) : Prop := 8 ≤ R 0 ∧ R 1 ≤ 100 ∧ (∀ b, b < R 2 → 2 ≤ R (9 + b) ∧ R (9 + b) ≤ 9) ∧ (∀ p, p < R 3 → R (12 + 2 * p) < R 0 ∧ R (13 + 2 * p) ≤ 99) ∧ (∀ i, i < R 4 → R (24 + i) < 2 * R 2) ∧ (∀ i, i < R 5 → 1 ≤ R (32 + i) ∧ R (32 + i) ≤ R 4) ∧ (∀ i j, i < j → j < R 5 → R (32 + i) ≠ R (32 + j)) ∧ (∀ i, i < R 6 → R (36 + 2 * i) < R 0 ∧ R (37 + 2 * i) ≤ 1) ∧ (∀ k, k < 60 → R (129 + k) ≤ 2)
theorem WfD.wfl (h : WfD R) (hb : zB R) (h2 : 1 ≤ R 2) : WfL R := ⟨⟨h.1, hb.1⟩, h.2.1, ⟨h2, hb.2.1⟩, hb.2.2.1, hb.2.2.2.1, hb.2.2.2.2.1, hb.2.2.2.2.2.1, h.2.2.1, h.2.2.2.1, h.2.2.2.2.1, h.2.2.2.2.2.1, h.2.2.2.2.2.2.1, h.2.2.2.2.2.2.2.1, h.2.2.2.2.2.2.2.2⟩
def zBG (R S B : Nat → Nat) : Prop := (∀ k, k < 60 ∨ k = 62 → B k = 0) ∧ B 60 < R 0 ∧ (∀ i, i < R 4 → can R (runS R B i) (R (24 + i) + 1) = true) ∧ S = runS R B (R 4)
def zIV (T : Nat → Nat) (L : Nat) (R S B nf nt sl : Nat → Nat) : Prop := zB R ∧ R 8 ≤ 1 ∧ (R 8 = 0 → (∀ k, R k = 0) ∧ ∀ k, S k = 0) ∧ (R 8 ≠ 0 → WfD R ∧ WfS R S ∧ zBG R S B) ∧ zNI T L R nf nt sl
theorem lead_cg {g : Nat → Bool} {s d : Nat} (h0 : R' 0 = R 0) (h9 : R' (9 + (d - 1) / 2) = R (9 + (d - 1) / 2)) : lead R' g s d = lead R g s d := by
  unfold lead
  rw [h0, h9]
theorem mv_cg {t : Nat} (hs : S 60 < 60) (ht : t < 60) (hg : ∀ k, k < 60 → R' (129 + k) = R (129 + k)) : mv R' S t = mv R S t := by
  funext k
  unfold mv
  by_cases c1 : k = 60
  · rw [if_pos c1, if_pos c1]
  · rw [if_neg c1, if_neg c1]
    by_cases c2 : (min (S 60) t < k ∧ k < max (S 60) t) ∧ S k = 0
    · rw [if_pos c2, if_pos c2, hg k (by omega)]
    · rw [if_neg c2, if_neg c2]
theorem go_cg {d : Nat} (h0 : R' 0 = R 0) (hc : R 0 ≤ 60) (h9 : R' (9 + (d - 1) / 2) = R (9 + (d - 1) / 2)) (hs : S 60 < R 0) (hg : ∀ k, k < 60 → R' (129 + k) = R (129 + k)) : go R' S d = go R S d ∧ can R' S d = can R S d ∧ (can R S d = true → go R S d 60 < R 0) := by
  have e := lead_cg (R := R) (R' := R') (g := gon S) (s := S 60) (d := d) h0 h9
  refine ⟨?_, ?_, fun h => ?_⟩
  · cases hd : lead R (gon S) (S 60) d with
    | none => rw [go_none hd, go_none (e.trans hd)]
    | some t =>
      have := lead_lt hs hd
      rw [go_some hd, go_some (e.trans hd), mv_cg (by omega) (by omega) hg]
  · unfold can; rw [e]
  · obtain ⟨t, ht⟩ := can_some.mp h
    rw [go_some ht]
    exact lead_lt hs ht
theorem runS_cg (h0 : R' 0 = R 0) (hc : R 0 ≤ 60) (hg : ∀ k, k < 60 → R' (129 + k) = R (129 + k)) (hbt : ∀ b, b < R 2 → R' (9 + b) = R (9 + b)) (hst : ∀ i, i < R 4 → R' (24 + i) = R (24 + i)) (hlt : ∀ i, i < R 4 → R (24 + i) < 2 * R 2) (hB : B 60 < R 0) (hcan : ∀ i, i < R 4 → can R (runS R B i) (R (24 + i) + 1) = true) : ∀ i, i ≤ R 4 → (runS R' B i = runS R B i ∧ runS R B i 60 < R 0) ∧ (i < R 4 → can R' (runS R' B i) (R' (24 + i) + 1) = true) := by
  intro i
  induction i with
  | zero =>
    intro _
    refine ⟨⟨rfl, hB⟩, fun h => ?_⟩
    have hl := hlt 0 h
    rw [hst 0 h]
    have g := go_cg (R := R) (R' := R') (S := B) (d := R (24 + 0) + 1) h0 hc (hbt _ (by omega)) hB hg
    exact g.2.1.trans (hcan 0 h)
  | succ i ih =>
    intro hi
    obtain ⟨⟨e1, e2⟩, -⟩ := ih (by omega)
    have hl := hlt i (by omega)
    have g := go_cg (R := R) (R' := R') (S := runS R B i) (d := R (24 + i) + 1) h0 hc (hbt _ (by omega)) e2 hg
    have e3 : runS R' B (i + 1) = runS R B (i + 1) := by
      show go R' (runS R' B i) (R' (24 + i) + 1) = go R (runS R B i) (R (24 + i) + 1)
      rw [e1, hst i (by omega)]
      exact g.1
    have e4 : runS R B (i + 1) 60 < R 0 := g.2.2 (hcan i (by omega))
    refine ⟨⟨e3, e4⟩, fun h => ?_⟩
    have hl2 := hlt (i + 1) h
    rw [e3, hst (i + 1) h]
    have g2 := go_cg (R := R) (R' := R') (S := runS R B (i + 1)) (d := R (24 + (i + 1)) + 1) h0 hc (hbt _ (by omega)) e4 hg
    exact g2.2.1.trans (hcan (i + 1) h)
theorem zBG.cg (h : zBG R S B) (hc : R 0 ≤ 60) (h0 : R' 0 = R 0) (h4 : R' 4 = R 4) (hg : ∀ k, k < 60 → R' (129 + k) = R (129 + k)) (hbt : ∀ b, b < R 2 → R' (9 + b) = R (9 + b)) (hst : ∀ i, i < R 4 → R' (24 + i) = R (24 + i)) (hlt : ∀ i, i < R 4 → R (24 + i) < 2 * R 2) : zBG R' S B := by
  have key := runS_cg (B := B) h0 hc hg hbt hst hlt h.2.1 h.2.2.1
  refine ⟨h.1, by rw [h0]; exact h.2.1, fun i hi => (key i (by omega)).2 (by omega), ?_⟩
  rw [h4, (key (R 4) (by omega)).1.1]
  exact h.2.2.2
theorem zNI.cg (h : zNI T L R nf nt sl) (h2 : R' 2 = R 2) (h3 : R' 3 = R 3) (hm : ∀ k, 48 ≤ k → k < 129 → R' k = R k) : zNI T L R' nf nt sl := by
  unfold zNI
  rw [h2, h3]
  refine ⟨fun i hi => ?_, fun s hs => ?_, h.2.2⟩
  · obtain ⟨g1, g2, g3⟩ := h.1 i hi
    refine ⟨g1, ?_, fun k hk => ?_⟩
    · rw [hm _ (by omega) (by omega)]; exact g2
    · rw [hm _ (by omega) (by omega)]; exact g3 k hk
  · rw [hm _ (by omega) (by omega)]; exact h.2.1 s hs
theorem zlk_sym {b1 e1 b2 e2 : Nat} (h : zlk T b1 e1 b2 e2 = true) : zlk T b2 e2 b1 e1 = true := by
  rw [zlk_iff] at h ⊢
  exact ⟨h.1.symm, fun i hi => (h.2 i (by omega)).symm⟩
theorem zNI.add {b e s : Nat} (h : zNI T L R nf nt sl) (hs : s < 9) (hns : ∀ i, i < R 2 + R 3 → sl i ≠ s) (hbe : b < e) (he : e ≤ b + 8) (heL : e ≤ L) (h2 : R 2 ≤ R' 2) (h3 : R 3 ≤ R' 3) (hc : R' 2 + R' 3 = R 2 + R 3 + 1) (hs2 : s < 3 → s < R' 2) (hs3 : 3 ≤ s → s < 3 + R' 3) (hm : ∀ k, 48 ≤ k → k < 129 → R' k = nmR T R b e s k) (hnew : ∀ i, i < R 2 + R 3 → zlk T (nf i) (nt i) b e = false) : zNI T L R' (zup nf (R 2 + R 3) b) (zup nt (R 2 + R 3) e) (zup sl (R 2 + R 3) s) := by
  have m48 : ∀ q, q < 9 → R' (48 + q) = if q = s then e - b else R (48 + q) := fun q hq => by
    rw [hm _ (by omega) (by omega)]
    unfold nmR zup nmL
    by_cases c : q = s
    · rw [if_pos (by omega), if_pos c]
    · rw [if_neg (by omega), if_neg (by omega), if_neg c]
  have mold : ∀ q k, q < 9 → q ≠ s → k < 8 → R' (57 + 8 * q + k) = R (57 + 8 * q + k) := fun q k hq hqs hk => by
    rw [hm _ (by omega) (by omega)]
    unfold nmR nmL
    rw [zup_ne (by omega), if_neg (by omega)]
  have mnew : ∀ k, k < e - b → R' (57 + 8 * s + k) = T (b + k) := fun k hk => by
    rw [hm _ (by omega) (by omega)]
    unfold nmR nmL
    rw [zup_ne (by omega), if_pos (by omega), show 57 + 8 * s + k - (57 + 8 * s) = k by omega]
  unfold zNI
  rw [hc]
  refine ⟨fun i hi => ?_, fun q hq => ?_, fun i j hi hj hl => ?_⟩
  · by_cases c : i = R 2 + R 3
    · rw [c, zup_eq, zup_eq, zup_eq]
      refine ⟨⟨hbe, he, heL, hs, hs2, hs3⟩, ?_, mnew⟩
      rw [m48 s hs, if_pos rfl]
    · rw [zup_ne c, zup_ne c, zup_ne c]
      obtain ⟨g1, g2, g3⟩ := h.1 i (by omega)
      have hne := hns i (by omega)
      refine ⟨⟨g1.1, g1.2.1, g1.2.2.1, g1.2.2.2.1, fun q => by have := g1.2.2.2.2.1 q; omega, fun q => by have := g1.2.2.2.2.2 q; omega⟩, ?_, fun k hk => ?_⟩
      · rw [m48 _ g1.2.2.2.1, if_neg hne]; exact g2
      · rw [mold _ _ g1.2.2.2.1 hne (by omega)]; exact g3 k hk
  · by_cases c : q = s
    · right
      exact ⟨R 2 + R 3, by omega, by rw [zup_eq]; exact c.symm⟩
    · rw [m48 q hq, if_neg c]
      rcases h.2.1 q hq with h0 | ⟨i, hi, e1⟩
      · exact Or.inl h0
      · exact Or.inr ⟨i, by omega, by rw [zup_ne (by omega)]; exact e1⟩
  · by_cases c1 : i = R 2 + R 3
    · by_cases c2 : j = R 2 + R 3
      · omega
      · rw [c1, zup_eq, zup_eq, zup_ne c2, zup_ne c2] at hl
        have := hnew j (by omega)
        rw [zlk_sym hl] at this
        cases this
    · by_cases c2 : j = R 2 + R 3
      · rw [c2, zup_eq, zup_eq, zup_ne c1, zup_ne c1] at hl
        have := hnew i (by omega)
        rw [hl] at this
        cases this
      · rw [zup_ne c1, zup_ne c1, zup_ne c2, zup_ne c2] at hl
        exact h.2.2 i j (by omega) (by omega) hl
end ZIV
