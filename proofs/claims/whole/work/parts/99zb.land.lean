section ZMB
variable {N : Nat} {σ : Sg} {T : Nat → Nat} {L : Nat}
/-! the reference reads the text -/
theorem zm_z70 {k : Int32 → Sg → Option (Int32 × Sg)} {P : Int32 × Sg → Prop} {v : Int32} : ∀ (n i : Nat) (τ : Sg), i ≤ 189 → 189 - i < n → (∀ j, j < i → gI τ 70 j = 0) → (∀ υ, (∀ j, j < 189 → gI υ 70 j = 0) → Fr [(70, none)] τ υ → ok (k v υ) P) → ok (f_m_land_L39 N n v (iI (i : Int)) τ k) P := by
  intro n
  induction n with
  | zero => intro i τ _ h; omega
  | succ n ih =>
    intro i τ hi hn h0 hk
    unfold f_m_land_L39
    by_cases c : i = 189
    · rw [if_pos (show (189 : Int32) ≤ iI (i : Int) by rw [show (189 : Int32) = iI 189 from rfl, iI_le (by omega) (by omega) (by omega) (by omega)]; omega)]
      exact hk τ (fun j hj => h0 j (by omega)) Fr.rf
    · rw [if_neg (show ¬ (189 : Int32) ≤ iI (i : Int) by rw [show (189 : Int32) = iI 189 from rfl, iI_le (by omega) (by omega) (by omega) (by omega)]; omega), if_pos (show vin (iI (i : Int)) 189 by rw [vin_iI (by omega) (by omega)]; omega), sA_iI (by omega) (by omega), Int.toNat_natCast, show iI (i : Int) + 1 = iI ((i + 1 : Nat) : Int) from iI_add _ 1]
      have f : Fr [(70, none)] τ (sI τ 70 i 0) := Fr.wIc Fr.rf (by simp)
      refine ih (i + 1) _ (by omega) (by omega) (fun j hj => ?_) (fun υ h1 f1 => hk υ h1 (f.tr f1))
      by_cases e : j = i
      · rw [e, gI_eq]
      · rw [gI_ne (by omega)]; exact h0 j (by omega)
theorem zm_z73 {k : Int32 → Sg → Option (Int32 × Sg)} {P : Int32 × Sg → Prop} {v : Int32} : ∀ (n i : Nat) (τ : Sg), i ≤ 63 → 63 - i < n → (∀ j, j < i → gI τ 73 j = 0) → (∀ υ, (∀ j, j < 63 → gI υ 73 j = 0) → Fr [(73, none)] τ υ → ok (k v υ) P) → ok (f_m_land_L61 N n v (iI (i : Int)) τ k) P := by
  intro n
  induction n with
  | zero => intro i τ _ h; omega
  | succ n ih =>
    intro i τ hi hn h0 hk
    unfold f_m_land_L61
    by_cases c : i = 63
    · rw [if_pos (show (63 : Int32) ≤ iI (i : Int) by rw [show (63 : Int32) = iI 63 from rfl, iI_le (by omega) (by omega) (by omega) (by omega)]; omega)]
      exact hk τ (fun j hj => h0 j (by omega)) Fr.rf
    · rw [if_neg (show ¬ (63 : Int32) ≤ iI (i : Int) by rw [show (63 : Int32) = iI 63 from rfl, iI_le (by omega) (by omega) (by omega) (by omega)]; omega), if_pos (show vin (iI (i : Int)) 63 by rw [vin_iI (by omega) (by omega)]; omega), sA_iI (by omega) (by omega), Int.toNat_natCast, show iI (i : Int) + 1 = iI ((i + 1 : Nat) : Int) from iI_add _ 1]
      have f : Fr [(73, none)] τ (sI τ 73 i 0) := Fr.wIc Fr.rf (by simp)
      refine ih (i + 1) _ (by omega) (by omega) (fun j hj => ?_) (fun υ h1 f1 => hk υ h1 (f.tr f1))
      by_cases e : j = i
      · rw [e, gI_eq]
      · rw [gI_ne (by omega)]; exact h0 j (by omega)
/-- what a text that is read leaves, and a fault -/
def zME (r : (Nat × Nat) ⊕ zPS) (σ0 : Sg) (z : Int32 × Sg) : Prop := match r with
  | .inl x => z.1 = iI (-1) ∧ gI z.2 66 11 = iI 4 ∧ gI z.2 66 9 = iI (x.1 : Int) ∧ gI z.2 66 10 = iI (x.2 : Int) ∧ Fr ((66, some 11) :: rlW) σ0 z.2
  | .inr q => z.1 = iI (q.2.1 0 : Int) ∧ gI z.2 66 11 = gI σ0 66 11 ∧ gI z.2 66 9 = 0 ∧ AR z.2 69 189 q.2.1 ∧ AR z.2 74 63 q.2.2.1 ∧ AR z.2 71 63 q.2.2.2.1 ∧ gI z.2 66 14 = 1 ∧ gI z.2 66 24 = 0 ∧ gI z.2 66 25 = 0 ∧ gI z.2 66 2 = gI σ0 66 2
theorem zm_no {t : Sg} {r : (Nat × Nat) ⊕ zPS} {x : Nat × Nat} (hr : r = .inl x) (hf : zMF x.1 x.2 t) (f : Fr rlW σ t) : ok ((f_m_no N 4 t).bind fun q => some (q.1, q.2)) (zME r σ) := by
  rw [show ((f_m_no N 4 t).bind fun q => some (q.1, q.2)) = some (iI (-1), sI t 66 11 (iI 4)) from rfl, hr]
  refine okS.mpr ⟨rfl, gI_eq, ?_, ?_, Fr.wI (f.monoP (fun e he => List.mem_cons_of_mem _ he)) List.mem_cons_self⟩
  · rw [gI_ne (by omega)]; exact hf.2.1
  · rw [gI_ne (by omega)]; exact hf.2.2
theorem zm_done (hN : 200000 ≤ N) {q : zPS} {t : Sg} {r : (Nat × Nat) ⊕ zPS} (hr : r = .inr q) (hM : zMq T L q t) (h8 : q.2.1 8 ≠ 0) (f : Fr rlW σ t) : ok ((f_m_copy N 189 189 69 70 0 0 189 t).bind fun q37 => (f_m_copy N 63 63 71 72 0 0 63 q37.2).bind fun q38 => (f_m_copy N 63 63 74 73 0 0 63 q38.2).bind fun q39 => some ((gA (sI (sI (sI q39.2 66 14 1) 66 24 0) 66 25 0) 69 0), sI (sI (sI q39.2 66 14 1) 66 24 0) 66 25 0)) (zME r σ) := by
  obtain ⟨m, A70, A73, A72⟩ := hM
  have A72 := A72 h8
  rw [okB]
  refine ((pm_copy (N := N) (a0 := 189) (a1 := 189) (a2 := 69) (a3 := 70) (p := 0) (q := 0) (m := 189) (σ := t) hN (by decide) (by decide) (by decide) (by decide) (by decide)).and (fun z => w_f_m_copy)).imp (fun q1 h1 => ?_)
  rw [okB]
  refine ((pm_copy (N := N) (a0 := 63) (a1 := 63) (a2 := 71) (a3 := 72) (p := 0) (q := 0) (m := 63) (σ := q1.2) hN (by decide) (by decide) (by decide) (by decide) (by decide)).and (fun z => w_f_m_copy)).imp (fun q2 h2 => ?_)
  rw [okB]
  refine ((pm_copy (N := N) (a0 := 63) (a1 := 63) (a2 := 74) (a3 := 73) (p := 0) (q := 0) (m := 63) (σ := q2.2) hN (by decide) (by decide) (by decide) (by decide) (by decide)).and (fun z => w_f_m_copy)).imp (fun q3 h3 => ?_)
  have B69 : AR q1.2 69 189 q.2.1 := fun k hk => by
    rw [h1.1 k, if_pos (by omega), show 0 + (k - 0) = k by omega]; exact A70 k hk
  have B71 : AR q2.2 71 63 q.2.2.2.1 := fun k hk => by
    rw [h2.1 k, if_pos (by omega), show 0 + (k - 0) = k by omega]; exact (A72.fr h1.2 rfl) k hk
  have B74 : AR q3.2 74 63 q.2.2.1 := fun k hk => by
    rw [h3.1 k, if_pos (by omega), show 0 + (k - 0) = k by omega]; exact ((A73.fr h1.2 rfl).fr h2.2 rfl) k hk
  have f3 : Fr [(69, none), (71, none), (74, none)] t q3.2 := ((h1.2.mono rfl).tr (h2.2.mono rfl)).tr (h3.2.mono rfl)
  have f4 : Fr [(66, some 14), (66, some 24), (66, some 25)] q3.2 (sI (sI (sI q3.2 66 14 1) 66 24 0) 66 25 0) := Fr.wI (Fr.wI (Fr.wI Fr.rf (by simp)) (by simp)) (by simp)
  have C69 := ((B69.fr h2.2 rfl).fr h3.2 rfl).fr f4 rfl
  have g := m.2.1 rfl
  rw [hr]
  refine okS.mpr ⟨C69.A (z := 0) 0 rfl (by omega) (by omega), ?_, ?_, C69, B74.fr f4 rfl, (B71.fr h3.2 rfl).fr f4 rfl, ?_, ?_, ?_, ?_⟩
  · rw [f4.I 66 11 rfl, f3.I 66 11 rfl]; exact f.I 66 11 rfl
  · rw [f4.I 66 9 rfl, f3.I 66 9 rfl]; exact g.2.1
  · rw [gI_ne (by omega), gI_ne (by omega), gI_eq]
  · rw [gI_ne (by omega), gI_eq]
  · rw [gI_eq]
  · rw [f4.I 66 2 rfl, f3.I 66 2 rfl]; exact f.I 66 2 rfl
theorem zm_landB (hN : 200000 ≤ N) (hT : ∀ i, T i < 256) {n : Nat} (hn : n ≤ 900) (hLn : L ≤ n) (h2 : gI σ 66 2 = iI (n : Int)) (ht : ∀ k, k < L → gI σ 67 k = iI (T k : Int)) : ok (f_m_land N (iI (L : Int)) σ) (fun z => ∃ σ0, (zME (zrd T L (L + 1) zq0) σ0 z ∧ gI σ0 66 11 = 0 ∧ gI σ0 66 2 = 0) ∧ Fr [(66, some 0), (66, some 2), (66, some 3), (66, some 4), (66, some 5), (66, some 6), (66, some 7), (66, some 8), (66, some 9), (66, some 11), (66, some 13), (68, none), (70, none), (73, none)] σ σ0) := by
  have hL : L ≤ 900 := by omega
  unfold f_m_land
  rw [pm_anew]
  dsimp only
  have f0 := an_fr (σ := σ)
  have e2 : gI (an σ) 66 2 = iI (n : Int) := (f0.I 66 2 rfl).trans h2
  rw [e2, show f_m_in N (iI (L : Int)) 0 (iI (n : Int)) (an σ) = some (decide (0 ≤ (L : Int) ∧ (L : Int) ≤ (n : Int)), an σ) from pm_in (b := 0) (by omega) (by omega) (by omega) (by omega) (by omega) (by omega), Option.bind_some]
  dsimp only
  rw [if_pos (show decide (0 ≤ (L : Int) ∧ (L : Int) ≤ (n : Int)) = true by rw [decide_eq_true_eq]; omega)]
  have f1 : Fr [(66, some 0), (66, some 2), (66, some 9), (66, some 11), (66, some 13)] σ (sI (sI (sI (an σ) 66 2 0) 66 9 0) 66 13 0) := Fr.wI (Fr.wI (Fr.wI (f0.mono rfl) (by simp)) (by simp)) (by simp)
  have d2 : gI (sI (sI (sI (an σ) 66 2 0) 66 9 0) 66 13 0) 66 2 = 0 := by rw [gI_ne (by omega), gI_ne (by omega), gI_eq]
  have d9 : gI (sI (sI (sI (an σ) 66 2 0) 66 9 0) 66 13 0) 66 9 = 0 := by rw [gI_ne (by omega), gI_eq]
  have d13 : gI (sI (sI (sI (an σ) 66 2 0) 66 9 0) 66 13 0) 66 13 = 0 := gI_eq
  have d11 : gI (sI (sI (sI (an σ) 66 2 0) 66 9 0) 66 13 0) 66 11 = 0 := by rw [gI_ne (by omega), gI_ne (by omega), gI_ne (by omega)]; exact an_t
  generalize sI (sI (sI (an σ) 66 2 0) 66 9 0) 66 13 0 = τ1 at f1 d2 d9 d13 d11 ⊢
  refine zm_z70 N 0 τ1 (by omega) (by omega) (fun j hj => by omega) (fun τ2 z70 f2 => ?_)
  refine zm_z73 N 0 τ2 (by omega) (by omega) (fun j hj => by omega) (fun τ3 z73 f3 => ?_)
  have f4 : Fr [(66, some 3), (66, some 5)] τ3 (sI (sI τ3 66 3 (iI (L : Int))) 66 5 0) := Fr.wI (Fr.wI Fr.rf (by simp)) (by simp)
  have f14 : Fr [(66, some 3), (66, some 5), (70, none), (73, none)] τ1 (sI (sI τ3 66 3 (iI (L : Int))) 66 5 0) := ((f2.mono rfl).tr (f3.mono rfl)).tr (f4.mono rfl)
  have d3 : gI (sI (sI τ3 66 3 (iI (L : Int))) 66 5 0) 66 3 = iI (L : Int) := by rw [gI_ne (by omega), gI_eq]
  have d5 : gI (sI (sI τ3 66 3 (iI (L : Int))) 66 5 0) 66 5 = iI ((0 : Nat) : Int) := by rw [gI_eq]; rfl
  have a70 : AR (sI (sI τ3 66 3 (iI (L : Int))) 66 5 0) 70 189 z00 := fun k hk => by rw [f4.I 70 k rfl, f3.I 70 k rfl]; exact z70 k hk
  have a73 : AR (sI (sI τ3 66 3 (iI (L : Int))) 66 5 0) 73 63 z00 := fun k hk => by rw [f4.I 73 k rfl]; exact z73 k hk
  generalize sI (sI τ3 66 3 (iI (L : Int))) 66 5 0 = τ4 at f14 d3 d5 a70 a73 ⊢
  have t4 : TxM T L τ4 := ⟨d3, fun k hk => ⟨hT k, by rw [f14.I 67 k rfl, f1.I 67 k rfl]; exact ht k hk⟩⟩
  rw [okB]
  refine (zm_next hN hL (Nat.zero_le L) t4 d5).imp (fun q5 h5 => ?_)
  have g5 : zMS T L none 0 q5.2 := zMS.ok h5.2.1 ⟨by rw [h5.2.2.I 66 13 rfl, f14.I 66 13 rfl]; exact d13, by rw [h5.2.2.I 66 9 rfl, f14.I 66 9 rfl]; exact d9, h5.1⟩
  have hM : zMq T L zq0 q5.2 := ⟨g5, a70.fr h5.2.2 rfl, a73.fr h5.2.2 rfl, fun h => absurd rfl h⟩
  refine zm_rd hN hL hT N (L + 1) zq0 q5.2 zq0_i (show L - 0 < L + 1 by omega) (show L - 0 < N by omega) hM (fun t9 hlo f9 => ?_)
  have hb := zrd_b (T := T) (L := L) (L + 1) zq0 zq0_i (show L - 0 < L + 1 by omega)
  have F5 : Fr [(66, some 0), (66, some 2), (66, some 3), (66, some 4), (66, some 5), (66, some 6), (66, some 7), (66, some 8), (66, some 9), (66, some 11), (66, some 13), (68, none), (70, none), (73, none)] σ q5.2 := ((f1.mono rfl).tr (f14.mono rfl)).tr (h5.2.2.mono rfl)
  have k11 : gI q5.2 66 11 = 0 := by rw [h5.2.2.I 66 11 rfl, f14.I 66 11 rfl]; exact d11
  have k2 : gI q5.2 66 2 = 0 := by rw [h5.2.2.I 66 2 rfl, f14.I 66 2 rfl]; exact d2
  suffices hs : ok _ (zME (zrd T L (L + 1) zq0) q5.2) from hs.imp (fun z hz => ⟨q5.2, ⟨hz, k11, k2⟩, F5⟩)
  rcases hlo with ⟨x, hr, hf⟩ | ⟨q, hI, hM9, c3, hr⟩
  · rw [if_neg (ne10 hf.1), if_neg (ne10 hf.1), if_neg (ne10 hf.1)]
    exact zm_no hr hf f9
  · have g := hM9.1.2.1 rfl
    have hb9 := hI.2.1
    have e8 : gA t9 70 8 = iI (q.2.1 8 : Int) := hM9.2.1.A (z := 8) 8 rfl (by omega) (by omega)
    have e2' : gA t9 70 2 = iI (q.2.1 2 : Int) := hM9.2.1.A (z := 2) 2 rfl (by omega) (by omega)
    rw [if_pos g.1, g.2.2.2.1]
    unfold zen at hr
    by_cases c0 : zkk T L q.1 = 0
    · rw [if_pos c0] at hr
      rw [if_pos ((tkM0 z_kk).mpr c0), if_pos g.1, e8]
      have f6 := wrg_fr (σ := t9) (n := 6) (a := zbb T L q.1)
      have hf6 := wrg_f (σ := t9) (n := 6) (a := zbb T L q.1)
      have F6 : Fr rlW q5.2 (wrg t9 6 (zbb T L q.1)) := f9.tr (f6.mono rfl)
      have l8 := hI.2.2.1
      by_cases c8 : q.2.1 8 = 0
      · have c2 : q.2.1 2 = 0 := (hI.2.2.2.1 c8).1 2
        rw [if_pos c2] at hr
        rw [if_pos (show iI (q.2.1 8 : Int) = 0 by rw [c8]; rfl), zm_wrong (v := 6) (n := 6) g.1 rfl g.2.2.1, Option.bind_some]
        dsimp only
        rw [if_neg (ne10 hf6.1)]
        exact zm_no hr hf6 F6
      · rw [if_neg (show ¬ iI (q.2.1 8 : Int) = 0 by rw [show (0 : Int32) = iI 0 from rfl, iI_eq (by omega) (by omega) (by omega) (by omega)]; omega), e2']
        by_cases c2 : q.2.1 2 = 0
        · rw [if_pos c2] at hr
          rw [if_pos (show iI (q.2.1 2 : Int) = 0 by rw [c2]; rfl), zm_wrong (v := 6) (n := 6) g.1 rfl g.2.2.1, Option.bind_some]
          dsimp only
          rw [if_neg (ne10 hf6.1)]
          exact zm_no hr hf6 F6
        · rw [if_neg c2] at hr
          rw [if_neg (show ¬ iI (q.2.1 2 : Int) = 0 by have := hb9.2.1; rw [show (0 : Int32) = iI 0 from rfl, iI_eq (by omega) (by omega) (by omega) (by omega)]; omega), if_pos g.1]
          exact zm_done hN hr hM9 c8 f9
    · rw [if_neg c0] at hr
      have f1' := wrg_fr (σ := t9) (n := 1) (a := zbb T L q.1)
      have hf1 := wrg_f (σ := t9) (n := 1) (a := zbb T L q.1)
      rw [if_neg (fun w => c0 ((tkM0 z_kk).mp w)), zm_wrong (v := 1) (n := 1) g.1 rfl g.2.2.1, Option.bind_some]
      dsimp only
      rw [if_neg (ne10 hf1.1), if_neg (ne10 hf1.1)]
      exact zm_no hr hf1 (f9.tr (f1'.mono rfl))
end ZMB
