section ZSM
variable {N : Nat} {σ : Sg}
def zgW : WL := [(0, some 10), (1, some 1), (1, some 2), (1, some 3), (1, some 4), (1, some 5), (1, some 6), (1, some 12), (1, some 13), (3, none), (4, none), (5, none), (6, none), (7, none), (8, none), (9, none), (25, none), (26, none), (27, none), (28, none), (29, none), (30, none), (31, none), (32, none), (33, none), (34, none), (35, none), (36, none), (37, none), (38, none), (39, none), (66, some 0), (66, some 2), (66, some 3), (66, some 4), (66, some 5), (66, some 6), (66, some 7), (66, some 8), (66, some 9), (66, some 10), (66, some 11), (66, some 13), (68, none), (70, none), (72, none), (73, none)]
theorem sim_land (hN : 200000 ≤ N) (v : Int32) (h : Sim σ) : Both (f_x_land N v σ) (f_m_land N v) := by
  obtain ⟨R, S, B, h, hr⟩ := h
  obtain ⟨h0, h1, h2, h3, h4, h5, h6, ⟨n, T, hn, t1, t2, t3⟩, h8⟩ := h
  obtain ⟨z, rfl, z1, z2⟩ := iI_of v
  unfold Both
  by_cases c : 0 ≤ z ∧ z ≤ n
  · obtain ⟨L, rfl⟩ : ∃ L : Nat, z = (L : Int) := ⟨z.toNat, by omega⟩
    have hLn : L ≤ n := by omega
    have hT : ∀ i, (if i < n then T i else 0) < 256 := fun i => by
      split
      · exact (t3 i ‹_›).1
      · omega
    have hTL : ∀ k, k < L → (if k < n then T k else 0) = T k := fun k hk => if_pos (by omega)
    have e0 : ∀ τ, f_x_granted N 0 τ = some (true, sI τ 0 10 (iI 0)) := fun τ => px_granted N (t := 0) (by omega) (by omega) τ
    have e4 : ∀ τ, f_x_granted N 4 τ = some (false, sI τ 0 10 (iI 4)) := fun τ => px_granted N (t := 4) (by omega) (by omega) τ
    unfold f_x_land
    rw [if_neg (show ¬ iI (L : Int) < 0 by rw [show (0 : Int32) = iI 0 from rfl, iI_lt (by omega) (by omega) (by omega) (by omega)]; omega), t1, if_pos (show iI (L : Int) ≤ iI (n : Int) by rw [iI_le (by omega) (by omega) (by omega) (by omega)]; omega), e0, Option.bind_some]
    dsimp only
    rw [if_pos rfl, okB]
    have f1 : Fr [(0, some 10)] σ (sI σ 0 10 (iI 0)) := Fr.wI Fr.rf (by simp)
    refine (zx_read (T := fun k => if k < n then T k else 0) hN hn hLn ((f1.I 1 1 rfl).trans t1) (fun k hk => ⟨hT k, ?_⟩)).imp (fun q hq => ?_)
    · rw [f1.I 2 k rfl, hTL k hk]
      exact (t3 k (by omega)).2.2
    obtain ⟨⟨hq1, hq11⟩, fq⟩ := hq
    have hb := zrd_b (T := fun k => if k < n then T k else 0) (L := L) (L + 1) zq0 zq0_i (show L - 0 < L + 1 by omega)
    have land : ∀ υ, Fr ((0, some 6) :: (0, some 10) :: (10, none) :: (11, none) :: (12, none) :: (13, none) :: (14, none) :: (15, none) :: (16, none) :: (17, none) :: (18, none) :: (19, none) :: (20, none) :: (21, none) :: (22, none) :: (23, none) :: (24, none) :: (40, none) :: (42, some 2) :: (55, some 7) :: zrW) σ υ → ok (f_m_land N (iI (L : Int)) υ) (fun z => ∃ σ0, (zME (zrd (fun k => if k < n then T k else 0) L (L + 1) zq0) σ0 z ∧ gI σ0 66 11 = 0 ∧ gI σ0 66 2 = 0) ∧ Fr [(66, some 0), (66, some 2), (66, some 3), (66, some 4), (66, some 5), (66, some 6), (66, some 7), (66, some 8), (66, some 9), (66, some 11), (66, some 13), (68, none), (70, none), (73, none)] υ σ0) := fun υ f => by
      refine zm_landB hN hT hn hLn ((f.I 66 2 rfl).trans t2) (fun k hk => ?_)
      rw [f.I 67 k rfl, hTL k hk]
      exact (t3 k (by omega)).2.1
    cases er : zrd (fun k => if k < n then T k else 0) L (L + 1) zq0 with
    | inl x =>
      rw [er] at hq1 land
      have hx := hb.1 x er
      have hq1 : zFX x.1 x.2 q.2 := hq1
      rw [hq1.1, if_neg (show ¬ iI (x.1 : Int) = 0 by rw [show (0 : Int32) = iI 0 from rfl, iI_eq (by omega) (by omega) (by omega) (by omega)]; omega), e4, Option.bind_some]
      dsimp only
      rw [if_neg Bool.false_ne_true]
      refine okS.mpr ?_
      have F1 : Fr ((0, some 10) :: zrW) σ (sI q.2 0 10 (iI 4)) := Fr.wI ((f1.mono rfl).tr (fq.mono rfl)) (by simp)
      have F0 : Fr [(0, some 10)] q.2 (sI q.2 0 10 (iI 4)) := Fr.wI Fr.rf (by simp)
      refine (land _ (F1.mono rfl)).imp (fun y hy => ?_)
      obtain ⟨σ0, ⟨hME, a11, a2⟩, f0⟩ := hy
      obtain ⟨m1, m2, m3, m4, fm⟩ : y.1 = iI (-1) ∧ gI y.2 66 11 = iI 4 ∧ gI y.2 66 9 = iI (x.1 : Int) ∧ gI y.2 66 10 = iI (x.2 : Int) ∧ Fr ((66, some 11) :: rlW) σ0 y.2 := hME
      have G : Fr zgW σ y.2 := ((F1.mono rfl).tr (f0.mono rfl)).tr (fm.mono rfl)
      refine ⟨m1.symm, R, S, B, ⟨h0, h1.fr G rfl, h2.fr G rfl, h3.fr G rfl, h4.fr G rfl, h5.fr G rfl, h6.fr G rfl, ⟨0, z00, by omega, ?_, ?_, fun k hk => absurd hk (Nat.not_lt_zero _)⟩, h8.fr G rfl⟩, ?_, ?_, fun _ => ?_⟩
      · rw [fm.I 1 1 rfl, f0.I 1 1 rfl, F0.I 1 1 rfl]; exact hq11
      · rw [fm.I 66 2 rfl]; exact a2
      · rw [fm.I 0 10 rfl, f0.I 0 10 rfl, gI_eq]; exact m2.symm
      · rw [fm.I 1 12 rfl, f0.I 1 12 rfl, F0.I 1 12 rfl, hq1.1]; exact m3.symm
      · rw [fm.I 1 13 rfl, f0.I 1 13 rfl, F0.I 1 13 rfl, hq1.2]; exact m4.symm
    | inr q' =>
      rw [er] at hq1 land
      obtain ⟨hI, hR2⟩ := hb.2 q' er
      obtain ⟨p', R', S', B', nf', nt', sl'⟩ := q'
      have hI : zIV (fun k => if k < n then T k else 0) L R' S' B' nf' nt' sl' := hI.2
      have hR2 : R' 2 ≠ 0 := hR2
      have hY : zY R' S' B' nf' nt' sl' q.2 := hq1
      have F1 : Fr ((0, some 10) :: zrW) σ (sI q.2 0 10 (iI 0)) := Fr.wI ((f1.mono rfl).tr (fq.mono rfl)) (by simp)
      have F0 : Fr [(0, some 10)] q.2 (sI q.2 0 10 (iI 0)) := Fr.wI Fr.rf (by simp)
      have hY1 := hY.fr F0 rfl
      have h55 : gI (sI q.2 0 10 (iI 0)) 55 7 = 0 ∨ gI (sI q.2 0 10 (iI 0)) 55 7 = 10 := by
        rw [F1.I 55 7 rfl]
        rcases h8 with h8 | h8
        · exact Or.inl h8
        · exact Or.inr h8.1
      rw [hY.1, if_pos rfl, e0, Option.bind_some]
      dsimp only
      rw [if_pos rfl, if_pos h55]
      have v10 : gI (sI q.2 0 10 (iI 0)) 0 10 = iI 0 := gI_eq
      have v11 : gI (sI q.2 0 10 (iI 0)) 1 1 = 0 := (F0.I 1 1 rfl).trans hq11
      generalize sI q.2 0 10 (iI 0) = ω at F1 hY1 v10 v11 ⊢
      refine (zx_fin hI hR2 hY1).imp (fun x hx => ?_)
      obtain ⟨⟨x1, x2, x3, x4, x5, x6, x7, x8⟩, fx⟩ := hx
      refine ((land x.2 ((F1.mono rfl).tr (fx.mono rfl))).and (fun y => w_f_m_land)).imp (fun y hy => ?_)
      obtain ⟨⟨σ0, ⟨hME, a11, a2⟩, f0⟩, fy⟩ := hy
      obtain ⟨m1, m2, m3, m69, m74, m71, m14, m24, m25, m2x⟩ : y.1 = iI (R' 0 : Int) ∧ gI y.2 66 11 = gI σ0 66 11 ∧ gI y.2 66 9 = 0 ∧ AR y.2 69 189 R' ∧ AR y.2 74 63 S' ∧ AR y.2 71 63 B' ∧ gI y.2 66 14 = 1 ∧ gI y.2 66 24 = 0 ∧ gI y.2 66 25 = 0 ∧ gI y.2 66 2 = gI σ0 66 2 := hME
      have h88 : R' 8 ≠ 0 := fun w => hR2 ((hI.2.2.1 w).1 2)
      obtain ⟨wd, ws, bg⟩ := hI.2.2.2.1 h88
      have hc8 := wd.1
      obtain ⟨U, n5, x5', u1, u2, u3, u4, u5, u6⟩ := h5
      refine ⟨x1.trans m1.symm, R', S', B', ⟨Or.inl ⟨wd.wfl hI.1 (by omega), ws⟩, x2.fr fy rfl, x3.fr fy rfl, ⟨m69, m74, ?_⟩, ⟨?_, m71, fun k hk => bg.1 k (Or.inl hk), fun _ => bg.2.1, bg.2.2.1, ?_⟩, ⟨fun _ => z00, 0, x5', by omega, u2, ?_, ?_, m24, fun i hi => absurd hi (Nat.not_lt_zero _)⟩, ⟨fun _ => z00, 0, by omega, ?_, m25, fun i hi => absurd hi (Nat.not_lt_zero _)⟩, ⟨0, z00, by omega, ?_, ?_, fun k hk => absurd hk (Nat.not_lt_zero _)⟩, Or.inl ?_⟩, ?_⟩
      · rw [m14, if_neg (by omega)]; rfl
      · rw [fy.I 10 2 rfl]; exact x4
      · rw [fy.L 10 14 rfl, x5, bg.2.2.2]
      · rw [fy.I 42 2 rfl]; exact x6
      · rw [fy.I 42 1 rfl, fx.I 42 1 rfl, F1.I 42 1 rfl]; exact u4
      · rw [fy.I 0 6 rfl]; exact x7
      · rw [fy.I 1 1 rfl, fx.I 1 1 rfl]; exact v11
      · rw [m2x]; exact a2
      · rw [fy.I 55 7 rfl]; exact x8
      · refine Trb.of (t := 0) ?_ ?_ (by omega) ?_
        · rw [fy.I 0 10 rfl, fx.I 0 10 rfl]; exact v10
        · rw [m2, a11]; rfl
        · rw [fy.I 1 12 rfl, fx.I 1 12 rfl, m3]; exact hY1.1
  · have hcx : f_x_land N (iI z) σ = some (iI (-1), sI σ 0 10 (iI 2)) := by
      have e2 : ∀ τ, f_x_granted N 2 τ = some (false, sI τ 0 10 (iI 2)) := fun τ => px_granted N (t := 2) (by omega) (by omega) τ
      unfold f_x_land
      by_cases c1 : z < 0
      · rw [if_pos (show iI z < 0 by rw [show (0 : Int32) = iI 0 from rfl, iI_lt (by omega) (by omega) (by omega) (by omega)]; omega), e2, Option.bind_some]
        dsimp only
        rw [if_neg Bool.false_ne_true]; rfl
      · rw [if_neg (show ¬ iI z < 0 by rw [show (0 : Int32) = iI 0 from rfl, iI_lt (by omega) (by omega) (by omega) (by omega)]; omega), t1, if_neg (show ¬ iI z ≤ iI (n : Int) by rw [iI_le (by omega) (by omega) (by omega) (by omega)]; omega), e2, Option.bind_some]
        dsimp only
        rw [if_neg Bool.false_ne_true]; rfl
    rw [hcx]
    refine okS.mpr ?_
    have f1 : Fr [(0, some 10)] σ (sI σ 0 10 (iI 2)) := Fr.wI Fr.rf (by simp)
    have v10 : gI (sI σ 0 10 (iI 2)) 0 10 = iI 2 := gI_eq
    dsimp only
    generalize sI σ 0 10 (iI 2) = τ at f1 v10 ⊢
    unfold f_m_land
    rw [pm_anew]
    dsimp only
    have fa := an_fr (σ := τ)
    rw [show gI (an τ) 66 2 = iI (n : Int) from ((fa.I 66 2 rfl).trans (f1.I 66 2 rfl)).trans t2, show f_m_in N (iI z) 0 (iI (n : Int)) (an τ) = some (decide (0 ≤ z ∧ z ≤ (n : Int)), an τ) from pm_in (b := 0) (by omega) (by omega) (by omega) (by omega) (by omega) (by omega), Option.bind_some]
    dsimp only
    rw [if_neg (show ¬ decide (0 ≤ z ∧ z ≤ (n : Int)) = true by rw [decide_eq_true_eq]; exact c), show ((f_m_no N 2 (an τ)).bind fun q => some (q.1, q.2)) = some (iI (-1), sI (an τ) 66 11 (iI 2)) from rfl]
    have fe : Fr [(0, some 10), (66, some 0), (66, some 11)] σ (sI (an τ) 66 11 (iI 2)) := Fr.wI ((f1.mono rfl).tr (fa.mono rfl)) (by simp)
    refine okS.mpr ⟨rfl, R, S, B, Sim0.fr ⟨h0, h1, h2, h3, h4, h5, h6, ⟨n, T, hn, t1, t2, t3⟩, h8⟩ fe rfl, Trb.of (t := 2) ?_ gI_eq (by omega) ?_⟩
    · rw [gI_ne (by omega), fa.I 0 10 rfl]; exact v10
    · rw [fe.I 1 12 rfl, fe.I 66 9 rfl]; exact hr.2.1
end ZSM
