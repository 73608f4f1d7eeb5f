/-! ===== the class knows the ways ahead ===== -/
section KNOW
variable {N : Nat} {R S : Nat → Nat} {σ : Sg}
def KN (R : Nat → Nat) (g : Nat → Bool) (s : Nat) (σ : Sg) : Prop := Known R g s σ ∧ gI σ 55 7 = 10 ∧ gI σ 55 9 = iI (s : Int) ∧ tb (gL σ 55 8) = g
theorem KN.ca {g : Nat → Bool} {s : Nat} (h : KN R g s σ) (hs : s < R 0) : Cache R σ := Or.inr ⟨h.2.1, s, hs, h.2.2.1, by rw [h.2.2.2]; exact h.1⟩
theorem px_know72 (hW : WfL R) : ∀ (m p : Nat) (τ : Sg) (K : Sg → Option (Unit × Sg)) (P : Unit × Sg → Prop), p ≤ R 3 → R 3 - p < m → LX 10 R τ → tb (gL τ 55 11) = plcM R p → (∀ τ', Fr [(55, some 11)] τ τ' → tb (gL τ' 55 11) = plcM R (R 3) → ok (K τ') P) → ok (f_paths_know_L72 N m (iI (p : Int)) τ K) P := by
  have hnp := hW.np
  have hc := hW.c
  intro m
  induction m with
  | zero => intro p τ K P _ h; omega
  | succ m ih =>
    intro p τ K P hp hm hL h11 hK
    unfold f_paths_know_L72
    rw [hL.np]
    by_cases c : p = R 3
    · rw [if_pos (show iI (R 3 : Int) ≤ iI (p : Int) by rw [iI_le (by omega) (by omega) (by omega) (by omega)]; omega)]
      subst c
      exact hK τ Fr.rf h11
    · have hpl := hW.pl (p := p) (by omega)
      rw [if_neg (show ¬ iI (R 3 : Int) ≤ iI (p : Int) by rw [iI_le (by omega) (by omega) (by omega) (by omega)]; omega), px_at hL.np (by omega) (by omega) (by omega), Option.bind_some, hL.pl (by omega)]
      dsimp only
      rw [px_span N (by omega) (by omega), Option.bind_some, show iI (p : Int) + 1 = iI ((p + 1 : Nat) : Int) from iI_add _ 1]
      dsimp only
      have fr : Fr [(55, some 11)] τ (sL τ 55 11 (gL τ 55 11 ||| spnN (R (12 + 2 * p)) (R (12 + 2 * p)))) := Fr.wL Fr.rf (by simp)
      refine ih (p + 1) _ K P (by omega) (by omega) (hL.fr fr rfl) ?_ (fun τ' hf h => hK τ' (fr.tr hf) h)
      rw [gL_eq]
      funext k
      rw [tb_or, h11, tb_spn (by omega) (by omega)]
      show (plcM R p k || _) = (plcM R p k || _)
      congr 1
      rw [decide_eq_decide]
      omega
theorem px_know117 : ∀ (m i : Nat) (τ : Sg) (K : Sg → Option (Unit × Sg)) (P : Unit × Sg → Prop), i ≤ 60 → 60 - i < m → (∀ k, k < i → gI τ 56 k = iI (-2) ∧ gI τ 58 k = iI (-2) ∧ gI τ 60 k = iI (-2)) → (∀ τ', Fr [(56, none), (58, none), (60, none)] τ τ' → (∀ k, k < 60 → gI τ' 56 k = iI (-2) ∧ gI τ' 58 k = iI (-2) ∧ gI τ' 60 k = iI (-2)) → ok (K τ') P) → ok (f_paths_know_L117 N m (iI (i : Int)) τ K) P := by
  intro m
  induction m with
  | zero => intro i τ K P _ h; omega
  | succ m ih =>
    intro i τ K P hi hm h hK
    unfold f_paths_know_L117
    by_cases c : i = 60
    · subst c
      rw [if_pos (show (60 : Int32) ≤ iI ((60 : Nat) : Int) by decide)]
      exact hK τ Fr.rf h
    · rw [if_neg (show ¬ (60 : Int32) ≤ iI (i : Int) by rw [show (60 : Int32) = iI 60 from rfl, iI_le (by omega) (by omega) (by omega) (by omega)]; omega), px_put (by omega) (by omega), Option.bind_some, px_put (by omega) (by omega), Option.bind_some, px_put (by omega) (by omega), Option.bind_some, show iI (i : Int) + 1 = iI ((i + 1 : Nat) : Int) from iI_add _ 1]
      have fr : Fr [(56, none), (58, none), (60, none)] τ (sI (sI (sI τ 56 i (-2)) 58 i (-2)) 60 i (-2)) := Fr.wIc (Fr.wIc (Fr.wIc Fr.rf (by simp)) (by simp)) (by simp)
      refine ih (i + 1) _ K P (by omega) (by omega) (fun k hk => ?_) (fun τ' hf h => hK τ' (fr.tr hf) h)
      by_cases d : k = i
      · subst d
        refine ⟨?_, ?_, ?_⟩
        · rw [gI_ne (by omega), gI_ne (by omega), gI_eq]; rfl
        · rw [gI_ne (by omega), gI_eq]; rfl
        · rw [gI_eq]; rfl
      · have := h k (by omega)
        refine ⟨?_, ?_, ?_⟩
        · rw [gI_ne (by omega), gI_ne (by omega), gI_ne (by omega)]; exact this.1
        · rw [gI_ne (by omega), gI_ne (by omega), gI_ne (by omega)]; exact this.2.1
        · rw [gI_ne (by omega), gI_ne (by omega), gI_ne (by omega)]; exact this.2.2
theorem px_know161 (hN : 200000 ≤ N) (hW : WfL R) {g : Nat → Bool} {s : Nat} (hs : s < R 0) : ∀ (m i : Nat) (τ : Sg), i ≤ 6 → 6 - i < m → LX 10 R τ → gI τ 55 7 = 10 → tb (gL τ 55 8) = g → gI τ 55 9 = iI (s : Int) → gI τ 55 10 = iI (lost R g : Int) → tb (gL τ 55 11) = plcM R (R 3) → (∀ k, k < 60 → gI τ 56 k = iI (-2) ∧ gI τ 58 k = iI (-2) ∧ gI τ 60 k = iI (-2)) → (∀ k, k < i → gL τ 61 k = 0) → ok (f_paths_know_L161 N m (iI (i : Int)) τ) (fun z => KN R g s z.2) := by
  intro m
  induction m with
  | zero => intro i τ _ h; omega
  | succ m ih =>
    intro i τ hi hm hL h7 h8 h9 h10 h11 h56 h61
    unfold f_paths_know_L161
    by_cases c : i = 6
    · subst c
      rw [if_pos (show nI 6 ≤ iI ((6 : Nat) : Int) by decide), h9, h10, okB]
      refine ((px_explore hN hW 5 12 0 g s 0 (gL τ 55 8) τ (fun _ => none) (fun _ => none) (fun _ _ => false) (by omega) (by omega) h8 hs hL h10 h11 (Nat.le_refl _) ⟨TbA.mk (fun k hk => (h56 k hk).1) (fun k hk => (h56 k hk).2) (fun m hm => ?_), (by intro k a h; cases h), (by intro k a h; cases h)⟩).and (fun z => w_f_paths_explore _ _ _ _ _ _ _ _)).imp (fun q hq => okS.mpr ⟨hq.1.1, (hq.2.I 55 7 rfl).trans h7, (hq.2.I 55 9 rfl).trans h9, by rw [hq.2.L 55 8 rfl]; exact h8⟩)
      rw [h61 m hm]
      funext k
      exact tb_0 k
    · rw [if_neg (show ¬ nI 6 ≤ iI (i : Int) by rw [show nI 6 = iI 6 from rfl, iI_le (by omega) (by omega) (by omega) (by omega)]; omega), if_pos (show vin (iI (i : Int)) 6 by rw [vin_iI (by omega) (by omega)]; omega), sM_iI (by omega) (by omega), Int.toNat_natCast, show iI (i : Int) + 1 = iI ((i + 1 : Nat) : Int) from iI_add _ 1]
      have fr : Fr [(61, none)] τ (sL τ 61 i 0) := Fr.wLc Fr.rf (by simp)
      refine ih (i + 1) _ (by omega) (by omega) (hL.fr fr rfl) h7 ?_ h9 h10 ?_ h56 (fun k hk => ?_)
      · rw [fr.L 55 8 rfl]; exact h8
      · rw [fr.L 55 11 rfl]; exact h11
      · by_cases d : k = i
        · rw [d, gL_eq]
        · rw [gL_ne (by omega)]
          exact h61 k (by omega)
theorem px_redo (hN : 200000 ≤ N) (hL : LX 10 R σ) (hX : SX 40 S σ) (hW : WfL R) (hS : WfS R S) : ok ((f_state_goneCells N 40 (sI σ 55 7 10)).bind fun q2 =>
      (f_country_lostFolk N (gL (sI (sL q2.2 55 8 q2.1) 55 9 (gI (sL q2.2 55 8 q2.1) 40 2)) 55 8) (sI (sL q2.2 55 8 q2.1) 55 9 (gI (sL q2.2 55 8 q2.1) 40 2))).bind fun q3 =>
      f_paths_know_L72 N N 0 (sL (sI q3.2 55 10 q3.1) 55 11 0)
        (fun (t6 : Sg) =>
          f_paths_know_L117 N N 0 t6
            (fun (t10 : Sg) =>
              f_paths_know_L161 N N 0 t10))) (fun z => KN R (gon S) (S 60) z.2) := by
  have hnp := hW.np
  have hg : tb (gL (sI σ 55 7 10) 40 0 ||| gL (sI σ 55 7 10) 40 1) = gon S := hX.b.gone hS.1
  rw [px_goneCells, Option.bind_some]
  dsimp only
  generalize gL (sI σ 55 7 10) 40 0 ||| gL (sI σ 55 7 10) 40 1 = w at hg ⊢
  have e2 : gI (sL (sI σ 55 7 10) 55 8 w) 40 2 = iI (S 60 : Int) := by rw [gI_sLx, gI_ne (by omega)]; exact hX.2.2.1
  rw [e2]
  have f1 : Fr [(55, none)] σ (sI (sL (sI σ 55 7 10) 55 8 w) 55 9 (iI (S 60 : Int))) := Fr.wIc (Fr.wLc (Fr.wIc Fr.rf (by simp)) (by simp)) (by simp)
  rw [show gL (sI (sL (sI σ 55 7 10) 55 8 w) 55 9 (iI (S 60 : Int))) 55 8 = w by rw [gL_sIx, gL_eq], px_lost hN (hL.fr f1 rfl) hW, Option.bind_some, hg]
  dsimp only
  have f2 : Fr [(55, none)] σ (sL (sI (sI (sL (sI σ 55 7 10) 55 8 w) 55 9 (iI (S 60 : Int))) 55 10 (iI (lost R (gon S) : Int))) 55 11 0) := Fr.wLc (Fr.wIc f1 (by simp)) (by simp)
  refine px_know72 hW N 0 _ _ _ (by omega) (by omega) (hL.fr f2 rfl) ?_ (fun τ' f3 h11 => ?_)
  · rw [gL_eq]
    funext k
    exact tb_0 k
  · refine px_know117 N 0 τ' _ _ (by omega) (by omega) (fun k hk => by omega) (fun τ2 f4 h56 => ?_)
    have f5 := (f2.mono (W' := [(55, none), (55, some 11), (56, none), (58, none), (60, none)]) rfl).tr ((f3.mono rfl).tr (f4.mono rfl))
    refine px_know161 hN hW hS.2.2.1 N 0 τ2 (by omega) (by omega) (hL.fr f5 rfl) ?_ ?_ ?_ ?_ ?_ h56 (fun k hk => by omega)
    · rw [f4.I 55 7 rfl, f3.I 55 7 rfl, gI_sLx, gI_ne (by omega), gI_ne (by omega), gI_sLx, gI_eq]
    · rw [f4.L 55 8 rfl, f3.L 55 8 rfl, gL_ne (by omega), gL_sIx, gL_sIx, gL_eq]
      exact hg
    · rw [f4.I 55 9 rfl, f3.I 55 9 rfl, gI_sLx, gI_ne (by omega), gI_eq]
    · rw [f4.I 55 10 rfl, f3.I 55 10 rfl, gI_sLx, gI_eq]
    · rw [f4.L 55 11 rfl]
      exact h11
theorem px_know (hN : 200000 ≤ N) (hL : LX 10 R σ) (hX : SX 40 S σ) (hW : WfL R) (hS : WfS R S) (hca : Cache R σ) : ok (f_paths_know N σ) (fun z => KN R (gon S) (S 60) z.2) := by
  have hc := hW.c
  have h60 := hS.2.2.1
  have e40 := hX.2.2.1
  unfold f_paths_know
  rcases hca with h7 | ⟨h7, s, hs, h9, hk⟩
  · rw [h7, if_neg (by decide), if_pos rfl]
    exact px_redo hN hL hX hW hS
  · have hg : tb (gL σ 40 0 ||| gL σ 40 1) = gon S := hX.b.gone hS.1
    rw [h7, if_pos rfl, px_goneCells, Option.bind_some]
    dsimp only
    by_cases c1 : lg_cmp (gL σ 55 8) (gL σ 40 0 ||| gL σ 40 1) = 0
    · rw [if_pos c1, h9, e40]
      rw [lg_cmp_0] at c1
      by_cases c2 : s = S 60
      · rw [if_pos (show iI (s : Int) = iI (S 60 : Int) by rw [c2])]
        refine okS.mpr ?_
        rw [c1, hg, c2] at hk
        exact ⟨hk, h7, h9.trans (by rw [c2]), by rw [c1]; exact hg⟩
      · rw [if_neg (show ¬ iI (s : Int) = iI (S 60 : Int) by rw [iI_eq (by omega) (by omega) (by omega) (by omega)]; omega)]
        exact px_redo hN hL hX hW hS
    · rw [if_neg c1]
      exact px_redo hN hL hX hW hS
end KNOW
