section ZSL
variable {N : Nat} {σ : Sg} {R S B : Nat → Nat}
theorem runS_dp (hB : ∀ k, k < 60 → B k = 0) : ∀ i k, k < 60 → runS R B i k = 0 ∨ runS R B i k = R (129 + k) + 1 := by
  intro i
  induction i with
  | zero => intro k hk; exact Or.inl (hB k hk)
  | succ i ih =>
    intro k hk
    show go R (runS R B i) (R (24 + i) + 1) k = 0 ∨ go R (runS R B i) (R (24 + i) + 1) k = R (129 + k) + 1
    cases hd : lead R (gon (runS R B i)) (runS R B i 60) (R (24 + i) + 1) with
    | none => rw [go_none hd]; exact ih k hk
    | some t =>
      rw [go_some hd]
      unfold mv
      rw [if_neg (by omega)]
      split
      · exact Or.inr rfl
      · exact ih k hk
theorem runS_62 (hc : R 0 ≤ 60) (hB : B 60 < R 0) (hcan : ∀ i, i < R 4 → can R (runS R B i) (R (24 + i) + 1) = true) : ∀ i, i ≤ R 4 → runS R B i 60 < R 0 ∧ runS R B i 62 = B 62 := by
  intro i
  induction i with
  | zero => intro _; exact ⟨hB, rfl⟩
  | succ i ih =>
    intro hi
    obtain ⟨h1, h2⟩ := ih (by omega)
    obtain ⟨t, ht⟩ := can_some.mp (hcan i (by omega))
    have htl := lead_lt h1 ht
    show go R (runS R B i) (R (24 + i) + 1) 60 < R 0 ∧ go R (runS R B i) (R (24 + i) + 1) 62 = B 62
    rw [go_some ht, mv62 (by omega) (by omega)]
    exact ⟨htl, h2⟩
theorem zx_stb (hL : LX 10 R σ) (hg : tb (gL σ 10 14) = gon S) (h13 : gI σ 10 13 = iI (S 60 : Int)) (h3 : gI σ 10 3 = iI (S 61 : Int)) (h62 : S 62 = 0) (hd : ∀ k, k < 60 → S k = 0 ∨ S k = R (129 + k) + 1) (hr : ∀ k, k < 60 → R (129 + k) ≤ 2) : ok (f_state_begin N σ) (fun z => SX 40 S z.2 ∧ Fr [(40, none)] σ z.2) := by
  unfold f_state_begin f_country_lowDepth f_country_highDepth
  rw [Option.bind_some]
  dsimp only
  rw [Option.bind_some]
  dsimp only
  refine okS.mpr ⟨⟨fun k => ?_, fun k => ?_, ?_, ?_, ?_⟩, Fr.wIc (Fr.wIc (Fr.wIc (Fr.wLc (Fr.wLc Fr.rf (by simp)) (by simp)) (by simp)) (by simp)) (by simp)⟩
  · rw [gL_sIx, gL_sIx, gL_sIx, gL_ne (by omega), gL_eq, tb_and, tb_nt, hg, hL.bog, gon, Bool.eq_iff_iff]
    simp only [Bool.and_eq_true, Bool.not_eq_true', decide_eq_true_eq, decide_eq_false_iff_not]
    by_cases ck : k < 60
    · have h1 := hd k ck
      have h2 := hr k ck
      omega
    · omega
  · rw [gL_sIx, gL_sIx, gL_sIx, gL_eq, gL_ne (by omega), gL_ne (by omega), gL_ne (by omega), tb_and, tb_or, hg, hL.bog, hL.wood, gon, Bool.eq_iff_iff]
    simp only [Bool.and_eq_true, Bool.or_eq_true, decide_eq_true_eq]
    by_cases ck : k < 60
    · have h1 := hd k ck
      have h2 := hr k ck
      omega
    · omega
  · rw [gI_ne (by omega), gI_ne (by omega), gI_eq, gI_sLx, gI_sLx]; exact h13
  · rw [gI_ne (by omega), gI_eq, gI_ne (by omega), gI_sLx, gI_sLx]; exact h3
  · rw [gI_eq, h62]; rfl
theorem zx_sw (h : zDR R σ) : LX 10 R (sw σ) := by
  obtain ⟨d1, d2, d3, d4, d5, d6, d7, d8, d9, d10, d11⟩ := h
  exact ⟨d1, d2, d3.1, d4.1, d5.1, d6.1, d7.1, d8.1, d9.1, fun b hb => d3.2 b hb, fun p hp => ⟨d4.2 p hp, d5.2 p hp⟩, fun i hi => d6.2 i hi, fun i hi => d7.2 i hi, fun i hi => ⟨d8.2 i hi, d9.2 i hi⟩, fun k => d10 k, fun k => d11 k⟩
def zfW : WL := [(0, some 6), (10, none), (11, none), (12, none), (13, none), (14, none), (15, none), (16, none), (17, none), (18, none), (19, none), (20, none), (21, none), (22, none), (23, none), (24, none), (25, none), (26, none), (27, none), (28, none), (29, none), (30, none), (31, none), (32, none), (33, none), (34, none), (35, none), (36, none), (37, none), (38, none), (39, none), (40, none), (42, some 2), (55, some 7)]
theorem zx_fin {T : Nat → Nat} {L : Nat} {nf nt sl : Nat → Nat} (hI : zIV T L R S B nf nt sl) (h2 : R 2 ≠ 0) (hY : zY R S B nf nt sl σ) : ok ((f_state_begin N (sw σ)).bind fun q14 => (f_history_forget N q14.2).bind fun q15 => (f_paths_forget N (sI q15.2 0 6 0)).bind fun q16 => some ((gI q16.2 10 0), q16.2)) (fun y => (y.1 = iI (R 0 : Int) ∧ LX 10 R y.2 ∧ SX 40 S y.2 ∧ gI y.2 10 2 = iI (B 60 : Int) ∧ tb (gL y.2 10 14) = gon S ∧ gI y.2 42 2 = 0 ∧ gI y.2 0 6 = 0 ∧ gI y.2 55 7 = 0) ∧ Fr zfW σ y.2) := by
  have h8 : R 8 ≠ 0 := fun q => h2 ((hI.2.2.1 q).1 2)
  obtain ⟨wd, ws, bg⟩ := hI.2.2.2.1 h8
  have hb := hI.1
  have hL := zx_sw hY.2.1
  have e14 : tb (gL (sw σ) 10 14) = gon S := hY.2.2.1.2.2.2
  have e2 : gI (sw σ) 10 2 = iI (B 60 : Int) := hY.2.2.1.1
  have hS62 : S 62 = 0 := by
    rw [bg.2.2.2, (runS_62 hb.1 bg.2.1 bg.2.2.1 (R 4) (Nat.le_refl _)).2]
    exact bg.1 62 (Or.inr rfl)
  have hdp : ∀ k, k < 60 → S k = 0 ∨ S k = R (129 + k) + 1 := fun k hk => by
    have := runS_dp (R := R) (B := B) (fun k hk => bg.1 k (Or.inl hk)) (R 4) k hk
    rwa [← bg.2.2.2] at this
  rw [okB]
  refine (zx_stb hL e14 hY.2.2.1.2.2.1 hY.2.2.1.2.1 hS62 hdp wd.2.2.2.2.2.2.2.2).imp (fun q hq => ?_)
  unfold f_history_forget f_paths_forget
  rw [Option.bind_some]
  dsimp only
  rw [Option.bind_some]
  dsimp only
  have f0 : Fr zfW σ (sw σ) := Fr.wsw Fr.rf rfl
  have f1 : Fr [(0, some 6), (40, none), (42, some 2), (55, some 7)] (sw σ) (sI (sI (sI q.2 42 2 0) 0 6 0) 55 7 0) := Fr.wI (Fr.wI (Fr.wI (hq.2.mono rfl) (by simp)) (by simp)) (by simp)
  have f2 : Fr [(0, some 6), (42, some 2), (55, some 7)] q.2 (sI (sI (sI q.2 42 2 0) 0 6 0) 55 7 0) := Fr.wI (Fr.wI (Fr.wI Fr.rf (by simp)) (by simp)) (by simp)
  refine okS.mpr ⟨⟨(hL.fr f1 rfl).c, hL.fr f1 rfl, hq.1.fr f2 rfl, ?_, ?_, ?_, ?_, ?_⟩, f0.tr (f1.mono rfl)⟩
  · rw [f1.I 10 2 rfl]; exact e2
  · rw [f1.L 10 14 rfl]; exact e14
  · rw [gI_ne (by omega), gI_ne (by omega), gI_eq]
  · rw [gI_ne (by omega), gI_eq]
  · rw [gI_eq]
end ZSL
