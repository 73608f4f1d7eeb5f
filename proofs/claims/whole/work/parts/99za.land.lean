section ZBE
variable {N : Nat} {σ : Sg} {T : Nat → Nat} {L : Nat}
/-! a text is begun -/
def z00 : Nat → Nat := fun _ => 0
def zq0 : zPS := (0, z00, z00, z00, z00, z00, z00)
theorem zq0_i : zIq T L zq0 := by
  refine ⟨Nat.zero_le _, ⟨Nat.zero_le _, Nat.zero_le _, Nat.zero_le _, Nat.zero_le _, Nat.zero_le _, Nat.zero_le _, Nat.zero_le _⟩, Nat.zero_le _, fun _ => ⟨fun _ => rfl, fun _ => rfl⟩, fun h => absurd rfl h, fun i hi => absurd hi (Nat.not_lt_zero _), fun s _ => Or.inl rfl, fun i j hi => absurd hi (Nat.not_lt_zero _)⟩
theorem zx_begL : ∀ (n i : Nat) (τ : Sg), i ≤ 7 → 7 - i < n → (∀ k, k < i → gI τ 3 k = 0) → ok (f_reader_begin_L41 N n (iI (i : Int)) τ) (fun z => (∀ k, k < 7 → gI z.2 3 k = 0) ∧ gI z.2 4 1 = 0 ∧ gI z.2 6 1 = 0 ∧ gI z.2 8 1 = 0) := by
  intro n
  induction n with
  | zero => intro i τ _ h; omega
  | succ n ih =>
    intro i τ hi hn h0
    unfold f_reader_begin_L41
    by_cases c : i = 7
    · rw [if_pos (show nI 7 ≤ iI (i : Int) by rw [show nI 7 = iI 7 from rfl, iI_le (by omega) (by omega) (by omega) (by omega)]; omega)]
      refine okS.mpr ⟨fun k hk => ?_, ?_, ?_, ?_⟩
      · rw [gI_ne (by omega), gI_ne (by omega), gI_ne (by omega)]; exact h0 k (by omega)
      · rw [gI_ne (by omega), gI_ne (by omega), gI_eq]
      · rw [gI_ne (by omega), gI_eq]
      · rw [gI_eq]
    · rw [if_neg (show ¬ nI 7 ≤ iI (i : Int) by rw [show nI 7 = iI 7 from rfl, iI_le (by omega) (by omega) (by omega) (by omega)]; omega), if_pos (show vin (iI (i : Int)) 7 by rw [vin_iI (by omega) (by omega)]; omega), sA_iI (by omega) (by omega), Int.toNat_natCast, show iI (i : Int) + 1 = iI ((i + 1 : Nat) : Int) from iI_add _ 1]
      refine ih (i + 1) _ (by omega) (by omega) (fun k hk => ?_)
      by_cases e : k = i
      · rw [e, gI_eq]
      · rw [gI_ne (by omega)]; exact h0 k (by omega)
theorem zx_begin (hN : 200000 ≤ N) {n : Nat} (hn : n ≤ 900) (hLn : L ≤ n) (h1 : gI σ 1 1 = iI (n : Int)) (ht : ∀ k, k < L → T k < 256 ∧ gI σ 2 k = iI (sgn (T k))) : ok (f_reader_begin N (iI (L : Int)) σ) (fun z => (zXq T L zq0 z.2 ∧ zTX z00 z.2) ∧ gI z.2 1 1 = 0) := by
  have z : iI ((0 : Nat) : Int) = 0 := rfl
  unfold f_reader_begin f_country_clear
  rw [Option.bind_some, h1, jmin_iI (by omega) (by omega) (by omega) (by omega), show min (L : Int) (n : Int) = (L : Int) by omega]
  dsimp only
  have f0 : Fr [(1, some 1), (1, some 2), (1, some 5), (1, some 12), (1, some 13), (25, none), (26, none), (28, none), (30, none), (32, none), (34, none), (36, none), (38, none)] σ (sL (sI (sI (sI (sI (sI (sI (sI (sI (sL (sL (sI (sI (sI (sI (sI (sI (sI (sI (sI σ 1 2 (iI (L : Int))) 1 1 0) 1 5 0) 1 12 0) 1 13 0) 25 0 0) 25 1 0) 25 2 0) 25 3 0) 25 4 0) 25 5 0) 26 1 0) 28 1 0) 30 1 0) 32 1 0) 34 1 0) 36 1 0) 38 1 0) 25 13 0) 25 14 0) := by
    refine Fr.wLc (Fr.wIc (Fr.wIc (Fr.wIc (Fr.wIc (Fr.wIc (Fr.wIc (Fr.wIc (Fr.wIc (Fr.wLc (Fr.wLc (Fr.wIc (Fr.wIc (Fr.wIc (Fr.wIc (Fr.wI (Fr.wI (Fr.wI (Fr.wI (Fr.wI Fr.rf ?_) ?_) ?_) ?_) ?_) ?_) ?_) ?_) ?_) ?_) ?_) ?_) ?_) ?_) ?_) ?_) ?_) ?_) ?_) ?_
    all_goals simp
  have g : ∀ τ, τ = (sL (sI (sI (sI (sI (sI (sI (sI (sI (sL (sL (sI (sI (sI (sI (sI (sI (sI (sI (sI σ 1 2 (iI (L : Int))) 1 1 0) 1 5 0) 1 12 0) 1 13 0) 25 0 0) 25 1 0) 25 2 0) 25 3 0) 25 4 0) 25 5 0) 26 1 0) 28 1 0) 30 1 0) 32 1 0) 34 1 0) 36 1 0) 38 1 0) 25 13 0) 25 14 0) → (gI τ 1 2 = iI (L : Int) ∧ gI τ 1 1 = 0 ∧ gI τ 1 5 = 0 ∧ gI τ 1 12 = 0) ∧ (gI τ 25 0 = 0 ∧ gI τ 25 1 = 0 ∧ gI τ 25 2 = 0 ∧ gI τ 25 3 = 0 ∧ gI τ 25 13 = 0) ∧ (gI τ 26 1 = 0 ∧ gI τ 28 1 = 0 ∧ gI τ 30 1 = 0 ∧ gI τ 32 1 = 0 ∧ gI τ 34 1 = 0 ∧ gI τ 36 1 = 0 ∧ gI τ 38 1 = 0) ∧ gL τ 25 4 = 0 ∧ gL τ 25 5 = 0 ∧ gL τ 25 14 = 0 := by
    intro τ e
    subst e
    refine ⟨⟨?_, ?_, ?_, ?_⟩, ⟨?_, ?_, ?_, ?_, ?_⟩, ⟨?_, ?_, ?_, ?_, ?_, ?_, ?_⟩, ?_, ?_, ?_⟩
    all_goals (repeat (first | rw [gI_sLx] | rw [gL_sIx] | rw [gI_eq] | rw [gL_eq] | rw [gI_ne (by omega)] | rw [gL_ne (by omega)]))
  generalize hτ : (sL (sI (sI (sI (sI (sI (sI (sI (sI (sL (sL (sI (sI (sI (sI (sI (sI (sI (sI (sI σ 1 2 (iI (L : Int))) 1 1 0) 1 5 0) 1 12 0) 1 13 0) 25 0 0) 25 1 0) 25 2 0) 25 3 0) 25 4 0) 25 5 0) 26 1 0) 28 1 0) 30 1 0) 32 1 0) 34 1 0) 36 1 0) 38 1 0) 25 13 0) 25 14 0) = τ at f0 ⊢
  obtain ⟨⟨a1, a2, a3, a4⟩, ⟨c0, c1, c2, c3, c13⟩, ⟨l1, l2, l3, l4, l5, l6, l7⟩, k4, k5, k14⟩ := g τ hτ.symm
  refine ((zx_begL N 0 τ (by omega) (by omega) (fun k hk => by omega)).and (fun z => w_f_reader_begin_L41 _ _ _ _)).imp (fun z hz => ?_)
  obtain ⟨⟨u3, u4, u6, u8⟩, f1⟩ := hz
  have nil : ∀ a, gI z.2 a 1 = 0 → ∀ f : Nat → Int, zL a 0 f z.2 := fun a h f => ⟨h, fun i hi => by omega⟩
  refine ⟨⟨⟨⟨?_, fun k hk => ⟨(ht k hk).1, ?_⟩⟩, ?_, ?_, ⟨?_, ?_, nil 26 ?_ _, nil 28 ?_ _, nil 30 ?_ _, nil 32 ?_ _, nil 34 ?_ _, nil 36 ?_ _, nil 38 ?_ _, fun k => ?_, fun k => ?_⟩, ⟨?_, ?_, ?_, ?_⟩, nil 4 u4 _, nil 6 u6 _, nil 8 u8 _⟩, fun k hk => ?_⟩, ?_⟩
  · rw [f1.I 1 2 rfl]; exact a1
  · rw [f1.I 2 k rfl, f0.I 2 k rfl]; exact (ht k hk).2
  · rw [f1.I 1 5 rfl]; exact a3
  · rw [f1.I 1 12 rfl]; exact a4
  · rw [f1.I 25 0 rfl]; exact c0
  · rw [f1.I 25 1 rfl]; exact c1
  · rw [f1.I 26 1 rfl]; exact l1
  · rw [f1.I 28 1 rfl]; exact l2
  · rw [f1.I 30 1 rfl]; exact l3
  · rw [f1.I 32 1 rfl]; exact l4
  · rw [f1.I 34 1 rfl]; exact l5
  · rw [f1.I 36 1 rfl]; exact l6
  · rw [f1.I 38 1 rfl]; exact l7
  · rw [f1.L 25 4 rfl, k4, tb_0]
    exact (decide_eq_false (fun h => absurd h.2 (show ¬ (0 : Nat) = 1 by decide))).symm
  · rw [f1.L 25 5 rfl, k5, tb_0]
    exact (decide_eq_false (fun h => absurd h.2 (show ¬ (0 : Nat) = 2 by decide))).symm
  · rw [f1.I 25 2 rfl]; exact c2
  · rw [f1.I 25 3 rfl]; exact c3
  · rw [f1.I 25 13 rfl]; exact c13
  · rw [f1.L 25 14 rfl, k14]
    funext k
    rw [tb_0]
    exact (decide_eq_false (fun h => absurd h.2 (Nat.lt_irrefl 0))).symm
  · rw [u3 k hk]
    unfold zto z00
    split
    · rfl
    · split <;> rfl
  · rw [f1.I 1 1 rfl]; exact a2
def zrW : WL := [(1, some 1), (1, some 2), (1, some 3), (1, some 4), (1, some 5), (1, some 6), (1, some 12), (1, some 13), (3, none), (4, none), (5, none), (6, none), (7, none), (8, none), (9, none), (25, none), (26, none), (27, none), (28, none), (29, none), (30, none), (31, none), (32, none), (33, none), (34, none), (35, none), (36, none), (37, none), (38, none), (39, none)]
theorem zx_read (hN : 200000 ≤ N) {n : Nat} (hn : n ≤ 900) (hLn : L ≤ n) (h1 : gI σ 1 1 = iI (n : Int)) (ht : ∀ k, k < L → T k < 256 ∧ gI σ 2 k = iI (sgn (T k))) : ok (f_reader_read N (iI (L : Int)) σ) (fun z => (zXe (zrd T L (L + 1) zq0) z.2 ∧ gI z.2 1 1 = 0) ∧ Fr zrW σ z.2) := by
  refine ok.and ?_ (fun z h => (w_f_reader_read h).mono rfl)
  unfold f_reader_read
  rw [okB]
  refine (zx_begin hN hn hLn h1 ht).imp (fun q hq => ?_)
  refine ((zx_rd hN (by omega) N (L + 1) zq0 0 q.2 zq0_i (show L - 0 < L + 1 by omega) (show L - 0 < N by omega) (Nat.le_refl _) hq.1.1 hq.1.2).and (fun z => w_f_reader_read_L7 _ _ _ _)).imp (fun z hz => ⟨hz.1, ?_⟩)
  rw [hz.2.I 1 1 rfl]
  exact hq.2
end ZBE
