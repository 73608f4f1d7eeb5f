/-! ===== the rows that lead to a cell, and the first of them ===== -/
section FIRST
variable {N : Nat} {R S B : Nat → Nat} {σ : Sg}
theorem rowOk_lt (hnb : R 2 ≤ 3) : ∀ {n row : Nat}, rowOk R n row = true → row < 10 ^ n := by
  intro n
  induction n with
  | zero =>
    intro row h
    unfold rowOk at h
    rw [decide_eq_true_eq] at h
    rw [h]
    decide
  | succ n ih =>
    intro row h
    unfold rowOk at h
    rw [Bool.and_eq_true] at h
    have := ih h.2
    rw [Nat.pow_succ]
    omega
theorem rgo_co {ds ds' : Nat → Nat} : ∀ n, (∀ i, i < n → ds i = ds' i) → rgo R S ds n = rgo R S ds' n ∧ rcan R S ds n = rcan R S ds' n := by
  intro n
  induction n with
  | zero => intro _; exact ⟨rfl, rfl⟩
  | succ n ih =>
    intro h
    have h1 := ih (fun i hi => h i (by omega))
    unfold rgo rcan
    rw [h1.1, h1.2, h n (by omega)]
    exact ⟨rfl, rfl⟩
theorem dg_pre {row d n i : Nat} (hd : d ≤ 9) (hi : i < n) : dg (10 * row + d) (n + 1) i = dg row n i := by
  unfold dg
  rw [show n + 1 - 1 - i = (n - 1 - i) + 1 by omega, Nat.pow_succ, Nat.mul_comm (10 ^ (n - 1 - i)) 10, ← Nat.div_div_eq_div_mul, show (10 * row + d) / 10 = row by omega]
theorem dg_last {row d n : Nat} (hd : d ≤ 9) : dg (10 * row + d) (n + 1) n = d := by
  unfold dg
  rw [show n + 1 - 1 - n = 0 by omega, Nat.pow_zero, Nat.div_one]
  omega
def gd3 (R S : Nat → Nat) (n row k : Nat) : Prop := rowOk R n row = true ∧ rcan R S (dg row n) n = true ∧ rgo R S (dg row n) n 60 = k
theorem vis_sound (hW : WfL R) : ∀ (f made : Nat) (T : Nat → Nat) (row : Nat) (v : Vs), WfC R S → S 60 < R 0 → rowOk R made row = true → rcan R S (dg row made) made = true → T = rgo R S (dg row made) made → v ∈ vis R f made (gon T) (T 60) row → gd3 R S v.1 v.2.2.1 v.2.1 := by
  have hc := hW.c
  have hnb := hW.nb
  intro f
  induction f with
  | zero =>
    intro made T row v hC hs h1 h2 h3 h
    rw [show v = (made, T 60, row, lost R (gon T)) from List.mem_singleton.mp h]
    exact ⟨h1, h2, by rw [h3]⟩
  | succ f ih =>
    intro made T row v hC hs h1 h2 h3 h
    rw [vis_s] at h
    rcases List.mem_cons.mp h with h | h
    · rw [h]
      exact ⟨h1, h2, by rw [h3]⟩
    · obtain ⟨i, hi, h⟩ := List.mem_flatMap.mp h
      rw [List.mem_range] at hi
      obtain ⟨t, hl, h⟩ := nxv_mem h
      have hw := rgo_wf (ds := dg row made) hW hC hs made
      rw [← h3] at hw
      have ht := lead_lt hw.2 hl
      have eg : go R T (i + 1) = mv R T t := go_some hl
      have ec : can R T (i + 1) = true := by unfold can; rw [hl]; rfl
      have ep := rgo_co (R := R) (S := S) (ds := dg (10 * row + (i + 1)) (made + 1)) (ds' := dg row made) made (fun j hj => dg_pre (by omega) hj)
      have el : dg (10 * row + (i + 1)) (made + 1) made = i + 1 := dg_last (by omega)
      have e60 : mv R T t 60 = t := rfl
      refine ih (made + 1) (mv R T t) (10 * row + (i + 1)) v hC hs ?_ ?_ ?_ ?_
      · unfold rowOk
        rw [show (10 * row + (i + 1)) / 10 = row by omega, h1, decide_eq_true (show 1 ≤ (10 * row + (i + 1)) % 10 by omega), decide_eq_true (show (10 * row + (i + 1)) % 10 ≤ 2 * R 2 by omega)]
        rfl
      · unfold rcan
        rw [ep.1, ep.2, h2, el, ← h3, ec]
        rfl
      · show mv R T t = go R (rgo R S (dg (10 * row + (i + 1)) (made + 1)) made) (dg (10 * row + (i + 1)) (made + 1) made)
        rw [ep.1, el, ← h3, eg]
      · rw [gon_mv (by omega) (by omega), e60]
        exact h
theorem vis_comp (hW : WfL R) {n row : Nat} (hC : WfC R S) (hs : S 60 < R 0) (h1 : rowOk R n row = true) (h2 : rcan R S (dg row n) n = true) : ∀ (f j : Nat), j ≤ n → n ≤ j + f → (n, rgo R S (dg row n) n 60, row, lost R (gon (rgo R S (dg row n) n))) ∈ vis R f j (gon (rgo R S (dg row n) j)) (rgo R S (dg row n) j 60) (row / 10 ^ (n - j)) := by
  have hc := hW.c
  intro f
  induction f with
  | zero =>
    intro j h3 h4
    have : j = n := by omega
    subst this
    rw [Nat.sub_self, Nat.pow_zero, Nat.div_one]
    exact vis_hd
  | succ f ih =>
    intro j h3 h4
    by_cases c : j = n
    · subst c
      rw [Nat.sub_self, Nat.pow_zero, Nat.div_one]
      exact vis_hd
    · have hd := rowOk_dg h1 j (by omega)
      obtain ⟨t, hl⟩ := can_some.mp (rcan_lt h2 (i := j) (by omega))
      have hw := rgo_wf (ds := dg row n) hW hC hs j
      have ht := lead_lt hw.2 hl
      have eg : rgo R S (dg row n) (j + 1) = mv R (rgo R S (dg row n) j) t := go_some hl
      have e60 : mv R (rgo R S (dg row n) j) t 60 = t := rfl
      have hi := ih (j + 1) (by omega) (by omega)
      rw [eg, gon_mv (by omega) (by omega), e60] at hi
      have er : row / 10 ^ (n - (j + 1)) = 10 * (row / 10 ^ (n - j)) + dg row n j := by
        unfold dg
        rw [show n - j = (n - (j + 1)) + 1 by omega, Nat.pow_succ, ← Nat.div_div_eq_div_mul, show n - 1 - j = n - (j + 1) by omega]
        omega
      rw [er] at hi
      rw [vis_s]
      refine List.mem_cons_of_mem _ (List.mem_flatMap.mpr ⟨dg row n j - 1, List.mem_range.mpr (by omega), nxv_iff.mpr ⟨t, ?_, ?_⟩⟩)
      · rw [show dg row n j - 1 + 1 = dg row n j by omega]
        exact hl
      · rw [show dg row n j - 1 + 1 = dg row n j by omega]
        exact hi
theorem gd3_vis (hW : WfL R) {n row k : Nat} (hC : WfC R S) (hs : S 60 < R 0) (hn : n ≤ 5) (h : gd3 R S n row k) : ∃ l, (n, k, row, l) ∈ vis R 5 0 (gon S) (S 60) 0 := by
  have hl := rowOk_lt (by have := hW.nb; omega) h.1
  have := vis_comp hW hC hs h.1 h.2.1 5 0 (by omega) (by omega)
  rw [h.2.2, Nat.sub_zero, Nat.div_eq_of_lt hl] at this
  exact ⟨_, this⟩
theorem cm_first (k : Nat) : ∀ (l : List Vs) (o : Option (Nat × Nat)) (b : Nat × Nat), l.Pairwise rso → (∀ a, o = some a → ∀ v, v ∈ l → v.1 = a.1 → a.2 < v.2.2.1) → l.foldl (cmS k) o = some b → (o = some b ∨ ∃ v, v ∈ l ∧ v.2.1 = k ∧ v.1 = b.1 ∧ v.2.2.1 = b.2) ∧ (∀ a, o = some a → b.1 ≤ a.1 ∧ (a.1 = b.1 → b.2 ≤ a.2)) ∧ ∀ u, u ∈ l → u.2.1 = k → b.1 ≤ u.1 ∧ (u.1 = b.1 → b.2 ≤ u.2.2.1) := by
  intro l
  induction l with
  | nil =>
    intro o b _ _ h
    have h : o = some b := h
    refine ⟨Or.inl h, fun a ha => ?_, fun u hu => absurd hu List.not_mem_nil⟩
    rw [h] at ha
    cases ha
    exact ⟨Nat.le_refl _, fun _ => Nat.le_refl _⟩
  | cons v l ih =>
    intro o b hp ho h
    rw [List.pairwise_cons] at hp
    rw [List.foldl_cons] at h
    by_cases c : v.2.1 = k
    · have put : cmS k o v = some (v.1, v.2.2.1) → (∀ a, o = some a → v.1 < a.1) → (o = some b ∨ ∃ v', v' ∈ v :: l ∧ v'.2.1 = k ∧ v'.1 = b.1 ∧ v'.2.2.1 = b.2) ∧ (∀ a, o = some a → b.1 ≤ a.1 ∧ (a.1 = b.1 → b.2 ≤ a.2)) ∧ ∀ u, u ∈ v :: l → u.2.1 = k → b.1 ≤ u.1 ∧ (u.1 = b.1 → b.2 ≤ u.2.2.1) := by
        intro e hlt
        rw [e] at h
        obtain ⟨g1, g2, g3⟩ := ih _ b hp.2 (fun a ha u hu hua => by cases ha; exact hp.1 u hu hua.symm) h
        have g4 := g2 _ rfl
        dsimp only at g4
        refine ⟨Or.inr ?_, fun a ha => ?_, fun u hu huk => ?_⟩
        · rcases g1 with g1 | ⟨u, hu, g1⟩
          · cases g1; exact ⟨v, List.mem_cons_self, c, rfl, rfl⟩
          · exact ⟨u, List.mem_cons_of_mem _ hu, g1⟩
        · have := hlt a ha
          omega
        · rcases List.mem_cons.mp hu with hu | hu
          · subst hu; exact g4
          · exact g3 u hu huk
      cases o with
      | none => exact put (by unfold cmS; rw [if_pos c]) (by intro a ha; cases ha)
      | some a =>
        by_cases c2 : v.1 < a.1
        · exact put (by unfold cmS; rw [if_pos c]; dsimp only; rw [if_pos c2]) (fun a' ha' => by cases ha'; exact c2)
        · have e : cmS k (some a) v = some a := by unfold cmS; rw [if_pos c]; dsimp only; rw [if_neg c2]
          rw [e] at h
          obtain ⟨g1, g2, g3⟩ := ih _ b hp.2 (fun a ha u hu hua => ho a ha u (List.mem_cons_of_mem _ hu) hua) h
          have g4 := g2 a rfl
          refine ⟨?_, g2, fun u hu huk => ?_⟩
          · rcases g1 with g1 | ⟨u, hu, g1⟩
            · exact Or.inl g1
            · exact Or.inr ⟨u, List.mem_cons_of_mem _ hu, g1⟩
          · rcases List.mem_cons.mp hu with hu | hu
            · subst hu
              refine ⟨by omega, fun he => ?_⟩
              have h5 := ho a rfl u List.mem_cons_self (by omega)
              have := g4.2 (by omega)
              omega
            · exact g3 u hu huk
    · have e : cmS k o v = o := by unfold cmS; rw [if_neg c]
      rw [e] at h
      obtain ⟨g1, g2, g3⟩ := ih _ b hp.2 (fun a ha u hu hua => ho a ha u (List.mem_cons_of_mem _ hu) hua) h
      refine ⟨?_, g2, fun u hu huk => ?_⟩
      · rcases g1 with g1 | ⟨u, hu, g1⟩
        · exact Or.inl g1
        · exact Or.inr ⟨u, List.mem_cons_of_mem _ hu, g1⟩
      · rcases List.mem_cons.mp hu with hu | hu
        · subst hu; exact absurd huk c
        · exact g3 u hu huk
theorem come_first (hW : WfL R) (hC : WfC R S) (hs : S 60 < R 0) {k : Nat} {b : Nat × Nat} (h : (vis R 5 0 (gon S) (S 60) 0).foldl (cmS k) none = some b) : b.1 ≤ 5 ∧ gd3 R S b.1 b.2 k ∧ ∀ r, r < b.2 → ¬ gd3 R S b.1 r k := by
  have hnb := hW.nb
  obtain ⟨g1, _, g3⟩ := cm_first k _ none b (vis_pw (by omega) _ _ _ _ _) (by intro a ha; cases ha) h
  rcases g1 with g1 | ⟨v, hv, hk, h1, h2⟩
  · cases g1
  · obtain ⟨e, k1, k2, _⟩ := vis_row (by omega) _ _ _ _ _ _ hv
    have hg := vis_sound hW 5 0 S 0 v hC hs rfl rfl rfl hv
    rw [hk, h1, h2] at hg
    refine ⟨by omega, hg, fun r hr hgr => ?_⟩
    obtain ⟨l, hm⟩ := gd3_vis hW hC hs (by omega) hgr
    have := (g3 _ hm rfl).2 rfl
    dsimp only at this
    omega
end FIRST
