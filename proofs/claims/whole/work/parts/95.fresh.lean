/-! ===== class and reference, newly made ===== -/
theorem sim_fresh {σ : Sg} (hI : ∀ i k, ¬ (i = 66 ∧ k = 10) → gI σ i k = 0) (hL : ∀ i k, ¬ (i = 65 ∧ k = 2) → gL σ i k = 0) : Sim σ := by
  have z : iI ((0 : Nat) : Int) = 0 := rfl
  have i0 : ∀ i k, ¬ (i = 66 ∧ k = 10) → gI σ i k = iI ((0 : Nat) : Int) := fun i k h => hI i k h
  have t0 : ∀ i k j, ¬ (i = 65 ∧ k = 2) → tb (gL σ i k) j = false := fun i k j h => by rw [hL i k h]; exact tb_0 j
  refine ⟨fun _ => 0, fun _ => 0, fun _ => 0, ⟨Or.inr ⟨fun _ => rfl, fun _ => rfl⟩, ?_, ?_, ?_, ?_, ?_, ?_, ?_, Or.inl (hI 55 7 (by omega))⟩, ?_⟩
  · refine ⟨i0 _ _ (by omega), i0 _ _ (by omega), i0 _ _ (by omega), i0 _ _ (by omega), i0 _ _ (by omega), i0 _ _ (by omega), i0 _ _ (by omega), i0 _ _ (by omega), i0 _ _ (by omega), fun b hb => absurd hb (Nat.not_lt_zero _), fun b hb => absurd hb (Nat.not_lt_zero _), fun b hb => absurd hb (Nat.not_lt_zero _), fun b hb => absurd hb (Nat.not_lt_zero _), fun b hb => absurd hb (Nat.not_lt_zero _), fun k => ?_, fun k => ?_⟩
    · rw [t0 _ _ _ (by omega), decide_eq_false (fun h => absurd h.2 (show ¬ (0 : Nat) = 1 by decide))]
    · rw [t0 _ _ _ (by omega), decide_eq_false (fun h => absurd h.2 (show ¬ (0 : Nat) = 2 by decide))]
  · refine ⟨fun k => ?_, fun k => ?_, i0 _ _ (by omega), i0 _ _ (by omega), i0 _ _ (by omega)⟩
    · rw [t0 _ _ _ (by omega), decide_eq_false (fun h => absurd h.2 (show ¬ (0 : Nat) % 2 = 1 by decide))]
    · rw [t0 _ _ _ (by omega), decide_eq_false (fun h => absurd h.2 (show ¬ 2 ≤ (0 : Nat) by decide))]
  · exact ⟨fun k _ => i0 _ _ (by omega), fun k _ => i0 _ _ (by omega), i0 _ _ (by omega)⟩
  · refine ⟨i0 _ _ (by omega), fun k _ => i0 _ _ (by omega), fun _ _ => rfl, fun h => absurd rfl h, fun i hi => absurd hi (Nat.not_lt_zero _), ?_⟩
    funext k
    rw [t0 _ _ _ (by omega)]
    exact (decide_eq_false (fun h => absurd h.2 (Nat.lt_irrefl 0))).symm
  · exact ⟨fun _ _ => 0, 0, 0, by omega, by omega, i0 _ _ (by omega), i0 _ _ (by omega), i0 _ _ (by omega), fun i hi => absurd hi (Nat.not_lt_zero _)⟩
  · exact ⟨fun _ _ => 0, 0, by omega, i0 _ _ (by omega), i0 _ _ (by omega), fun i hi => absurd hi (Nat.not_lt_zero _)⟩
  · exact ⟨0, fun _ => 0, by omega, i0 _ _ (by omega), i0 _ _ (by omega), fun i hi => absurd hi (Nat.not_lt_zero _)⟩
  · refine ⟨?_, ?_, fun h => ?_⟩
    · rw [hI _ _ (by omega), hI _ _ (by omega)]
    · rw [hI _ _ (by omega), hI _ _ (by omega)]
    · rw [hI _ _ (by omega)] at h
      exact absurd h (by decide)
