/-! ===== what is kept: acts, images ===== -/
def UX (R : Nat → Nat) (U : Nat → Nat → Nat) (n x : Nat) (σ : Sg) : Prop := n ≤ 16 ∧ x < 16 ∧ gI σ 42 2 = iI (n : Int) ∧ gI σ 42 1 = iI (x : Int) ∧ ∀ i, i < n → WfS R (U i) ∧ ShX 44 ((x + 16 - n + i) % 16) (U i) σ
def UM (U : Nat → Nat → Nat) (n : Nat) (σ : Sg) : Prop := gI σ 66 24 = iI (n : Int) ∧ ∀ i, i < n → ∀ k, k < 63 → gI σ 76 (63 * i + k) = iI (U i k : Int)
def ush (U : Nat → Nat → Nat) (n : Nat) (S : Nat → Nat) : Nat → Nat → Nat := fun i => if n < 16 then (if i = n then S else U i) else (if i = 15 then S else U (i + 1))
section KEEP
variable {N : Nat} {R S : Nat → Nat} {σ τ : Sg} {U : Nat → Nat → Nat} {n x : Nat}
theorem Und_of (h : Und R σ) : ∃ U n x, UX R U n x σ ∧ UM U n σ := by
  obtain ⟨U, n, x, h1, h2, h3, h4, h5, h6⟩ := h
  exact ⟨U, n, x, ⟨h1, h2, h3, h4, fun i hi => ⟨(h6 i hi).1, (h6 i hi).2.1⟩⟩, h5, fun i hi => (h6 i hi).2.2⟩
theorem Und_mk (h : UX R U n x σ) (h2 : UM U n σ) : Und R σ := ⟨U, n, x, h.1, h.2.1, h.2.2.1, h.2.2.2.1, h2.1, fun i hi => ⟨(h.2.2.2.2 i hi).1, (h.2.2.2.2 i hi).2, h2.2 i hi⟩⟩
theorem UX.fr {W : WL} (h : UX R U n x σ) (f : Fr W σ τ) (hw : dis W [(42, some 1), (42, some 2), (44, none), (45, none), (46, none), (47, none), (48, none)] = true) : UX R U n x τ := by
  refine ⟨h.1, h.2.1, ?_, ?_, fun i hi => ⟨(h.2.2.2.2 i hi).1, (h.2.2.2.2 i hi).2.fr f (dis_sub hw rfl)⟩⟩
  · rw [f.dI hw (by simp)]; exact h.2.2.1
  · rw [f.dI hw (by simp)]; exact h.2.2.2.1
theorem UM.fr {W : WL} (h : UM U n σ) (f : Fr W σ τ) (hw : dis W [(66, some 24), (76, none)] = true) : UM U n τ := by
  refine ⟨?_, fun i hi k hk => ?_⟩
  · rw [f.dI hw (by simp)]; exact h.1
  · rw [f.dI hw (by simp)]; exact h.2 i hi k hk
theorem px_shelfKeep {c cap j : Nat} (hc : c = 44 ∨ c = 50) (hj : j < cap) (hcap : cap ≤ 16) (hX : SX 40 S σ) : ok (f_shelf_keep N cap cap cap cap cap c 40 (c + 1) (c + 2) (c + 3) (c + 4) (iI (j : Int)) σ) (fun z => ShX c j S z.2 ∧ ∀ i T, i ≠ j → ShX c i T σ → ShX c i T z.2) := by
  unfold f_shelf_keep f_shelf_has
  simp (disch := omega) only [nI_iI, iI_lit, iI_lt, iI_le, vin_iI, sA_iI, sM_iI, Int.toNat_natCast]
  rw [if_neg (by omega), if_neg (by omega), if_neg (by omega), if_neg (by omega), if_neg (by omega), if_neg (by omega), Option.bind_some]
  dsimp only
  rw [if_pos rfl, if_pos (by omega), if_pos (by omega), if_pos (by omega), if_pos (by omega), if_pos (by omega)]
  refine okS.mpr ⟨⟨fun k => ?_, fun k => ?_, ?_, ?_, ?_⟩, fun i T hi hT => ⟨fun k => ?_, fun k => ?_, ?_, ?_, ?_⟩⟩
  · repeat (first | rw [gI_sLx] | rw [gL_sIx] | rw [gI_eq] | rw [gL_eq] | rw [gI_ne (by omega)] | rw [gL_ne (by omega)])
    exact hX.1 k
  · repeat (first | rw [gI_sLx] | rw [gL_sIx] | rw [gI_eq] | rw [gL_eq] | rw [gI_ne (by omega)] | rw [gL_ne (by omega)])
    exact hX.2.1 k
  · repeat (first | rw [gI_sLx] | rw [gL_sIx] | rw [gI_eq] | rw [gL_eq] | rw [gI_ne (by omega)] | rw [gL_ne (by omega)])
    exact hX.2.2.1
  · repeat (first | rw [gI_sLx] | rw [gL_sIx] | rw [gI_eq] | rw [gL_eq] | rw [gI_ne (by omega)] | rw [gL_ne (by omega)])
    exact hX.2.2.2.1
  · repeat (first | rw [gI_sLx] | rw [gL_sIx] | rw [gI_eq] | rw [gL_eq] | rw [gI_ne (by omega)] | rw [gL_ne (by omega)])
    exact hX.2.2.2.2
  · repeat (first | rw [gI_sLx] | rw [gL_sIx] | rw [gI_eq] | rw [gL_eq] | rw [gI_ne (by omega)] | rw [gL_ne (by omega)])
    exact hT.1 k
  · repeat (first | rw [gI_sLx] | rw [gL_sIx] | rw [gI_eq] | rw [gL_eq] | rw [gI_ne (by omega)] | rw [gL_ne (by omega)])
    exact hT.2.1 k
  · repeat (first | rw [gI_sLx] | rw [gL_sIx] | rw [gI_eq] | rw [gL_eq] | rw [gI_ne (by omega)] | rw [gL_ne (by omega)])
    exact hT.2.2.1
  · repeat (first | rw [gI_sLx] | rw [gL_sIx] | rw [gI_eq] | rw [gL_eq] | rw [gI_ne (by omega)] | rw [gL_ne (by omega)])
    exact hT.2.2.2.1
  · repeat (first | rw [gI_sLx] | rw [gL_sIx] | rw [gI_eq] | rw [gL_eq] | rw [gI_ne (by omega)] | rw [gL_ne (by omega)])
    exact hT.2.2.2.2
theorem px_shelfFetch {c cap j : Nat} (hc : c = 44 ∨ c = 50) (hj : j < cap) (hcap : cap ≤ 16) (hX : ShX c j S σ) : ok (f_shelf_fetch N cap cap cap cap cap 40 c (c + 1) (c + 2) (c + 3) (c + 4) (iI (j : Int)) σ) (fun z => SX 40 S z.2) := by
  unfold f_shelf_fetch f_shelf_has
  simp (disch := omega) only [nI_iI, iI_lit, iI_lt, iI_le, vin_iI, gA_iI, gM_iI, Int.toNat_natCast]
  rw [if_neg (by omega), if_neg (by omega), if_neg (by omega), if_neg (by omega), if_neg (by omega), if_neg (by omega), Option.bind_some]
  dsimp only
  rw [if_pos rfl, if_pos (by omega), if_pos (by omega), if_pos (by omega), if_pos (by omega), if_pos (by omega)]
  refine okS.mpr ⟨fun k => ?_, fun k => ?_, ?_, ?_, ?_⟩
  · repeat (first | rw [gI_sLx] | rw [gL_sIx] | rw [gI_eq] | rw [gL_eq] | rw [gI_ne (by omega)] | rw [gL_ne (by omega)])
    exact hX.1 k
  · repeat (first | rw [gI_sLx] | rw [gL_sIx] | rw [gI_eq] | rw [gL_eq] | rw [gI_ne (by omega)] | rw [gL_ne (by omega)])
    exact hX.2.1 k
  · repeat (first | rw [gI_sLx] | rw [gL_sIx] | rw [gI_eq] | rw [gL_eq] | rw [gI_ne (by omega)] | rw [gL_ne (by omega)])
    exact hX.2.2.1
  · repeat (first | rw [gI_sLx] | rw [gL_sIx] | rw [gI_eq] | rw [gL_eq] | rw [gI_ne (by omega)] | rw [gL_ne (by omega)])
    exact hX.2.2.2.1
  · repeat (first | rw [gI_sLx] | rw [gL_sIx] | rw [gI_eq] | rw [gL_eq] | rw [gI_ne (by omega)] | rw [gL_ne (by omega)])
    exact hX.2.2.2.2
theorem px_keep (h : UX R U n x σ) (hX : SX 40 S σ) (hs : WfS R S) : ok (f_history_keep N σ) (fun z => UX R (ush U n S) (min (n + 1) 16) ((x + 1) % 16) z.2) := by
  obtain ⟨h1, h2, h3, h4, h5⟩ := h
  unfold f_history_keep
  rw [h4, okB]
  refine ((px_shelfKeep (c := 44) (cap := 16) (j := x) (Or.inl rfl) h2 (by omega) hX).and (fun z => w_f_shelf_keep)).imp (fun q hq => ?_)
  have g1 : gI q.2 42 1 = iI (x : Int) := by rw [hq.2.I 42 1 rfl]; exact h4
  have g2 : gI q.2 42 2 = iI (n : Int) := by rw [hq.2.I 42 2 rfl]; exact h3
  have gx : (gI q.2 42 1 + 1) - (gI q.2 42 1 + 1) / 16 * 16 = iI (((x + 1) % 16 : Nat) : Int) := by
    rw [g1, show iI (x : Int) + 1 = iI ((x : Int) + 1) from iI_add _ 1]
    exact (iI_rem (b := 16) (by omega) (by omega) (by omega) (by omega)).trans (by congr 1)
  rw [gx]
  have gn : gI (sI q.2 42 1 (iI (((x + 1) % 16 : Nat) : Int))) 42 2 = iI (n : Int) := by rw [gI_ne (by omega)]; exact g2
  have gj : jmin (gI (sI q.2 42 1 (iI (((x + 1) % 16 : Nat) : Int))) 42 2 + 1) 16 = iI ((min (n + 1) 16 : Nat) : Int) := by
    rw [gn, show iI (n : Int) + 1 = iI ((n : Int) + 1) from iI_add _ 1, show (16 : Int32) = iI 16 from rfl, jmin_iI (by omega) (by omega) (by omega) (by omega)]
    congr 1; omega
  rw [gj]
  have hT : ∀ (c j : Nat) (T : Nat → Nat), c = 44 → ShX c j T q.2 → ShX c j T (sI (sI q.2 42 1 (iI (((x + 1) % 16 : Nat) : Int))) 42 2 (iI ((min (n + 1) 16 : Nat) : Int))) := by
    rintro c j T rfl hT
    refine ⟨hT.1, hT.2.1, ?_, ?_, ?_⟩
    · rw [gI_ne (by omega), gI_ne (by omega)]; exact hT.2.2.1
    · rw [gI_ne (by omega), gI_ne (by omega)]; exact hT.2.2.2.1
    · rw [gI_ne (by omega), gI_ne (by omega)]; exact hT.2.2.2.2
  refine okS.mpr ⟨by omega, by omega, gI_eq, ?_, fun i hi => ?_⟩
  · rw [gI_ne (by omega), gI_eq]
  · unfold ush
    by_cases c : n < 16
    · rw [if_pos c]
      by_cases c2 : i = n
      · rw [if_pos c2, show ((x + 1) % 16 + 16 - min (n + 1) 16 + i) % 16 = x by omega]
        exact ⟨hs, hT 44 _ _ rfl hq.1.1⟩
      · rw [if_neg c2, show ((x + 1) % 16 + 16 - min (n + 1) 16 + i) % 16 = (x + 16 - n + i) % 16 by omega]
        have h6 := h5 i (by omega)
        exact ⟨h6.1, hT 44 _ _ rfl (hq.1.2 _ _ (by omega) h6.2)⟩
    · rw [if_neg c]
      by_cases c2 : i = 15
      · rw [if_pos c2, show ((x + 1) % 16 + 16 - min (n + 1) 16 + i) % 16 = x by omega]
        exact ⟨hs, hT 44 _ _ rfl hq.1.1⟩
      · rw [if_neg c2, show ((x + 1) % 16 + 16 - min (n + 1) 16 + i) % 16 = (x + 16 - n + (i + 1)) % 16 by omega]
        have h6 := h5 (i + 1) (by omega)
        exact ⟨h6.1, hT 44 _ _ rfl (hq.1.2 _ _ (by omega) h6.2)⟩
theorem pm_note (hN : 200000 ≤ N) (h : UM U n σ) (h1 : n ≤ 16) (hS : AR σ 74 63 S) : ok (f_m_note N σ) (fun z => UM (ush U n S) (min (n + 1) 16) z.2) := by
  unfold f_m_note
  rw [h.1]
  by_cases c : n = 16
  · subst c
    rw [if_pos (show iI ((16 : Nat) : Int) = 16 from rfl)]
    have key : ∀ m i τ, i ≤ 945 → 945 - i < m → gI τ 66 24 = iI 16 → AR τ 74 63 S → (∀ k, k < 1008 → gI τ 76 k = if k < i then gI σ 76 (k + 63) else gI σ 76 k) → ok (f_m_note_L11 N m (iI (i : Int)) τ (fun (t2 : Sg) => (f_m_copy N 63 1008 76 74 0 (63 * (gI (sI t2 66 24 ((gI t2 66 24) - 1)) 66 24)) 63 (sI t2 66 24 ((gI t2 66 24) - 1))).bind fun q3 => some ((), sI q3.2 66 24 ((gI q3.2 66 24) + 1)))) (fun z => UM (ush U 16 S) (min (16 + 1) 16) z.2) := by
      intro m
      induction m with
      | zero => intro i τ _ h; omega
      | succ m ih =>
        intro i τ hi hm h24 hSt h76
        unfold f_m_note_L11
        by_cases c : i = 945
        · rw [if_pos (by rw [show (945 : Int32) = iI 945 from rfl, iI_le (by omega) (by omega) (by omega) (by omega)]; omega)]
          dsimp only
          rw [gI_eq, h24, show iI 16 - 1 = iI 15 from rfl, show (63 : Int32) * iI 15 = iI ((945 : Nat) : Int) from rfl, show (63 : Int32) = iI ((63 : Nat) : Int) from rfl, show (0 : Int32) = iI ((0 : Nat) : Int) from rfl, okB]
          refine ((pm_copy (N := N) (a0 := 63) (a1 := 1008) (a2 := 76) (a3 := 74) (p := 0) (q := 945) (m := 63) (σ := sI τ 66 24 (iI 15)) hN (by decide) (by decide) (by decide) (by decide) (by decide)).and (fun z => w_f_m_copy)).imp (fun q hq => okS.mpr ?_)
          have g24 : gI q.2 66 24 = iI 15 := by rw [hq.2.I 66 24 rfl]; exact gI_eq
          refine ⟨?_, fun j hj k hk => ?_⟩
          · rw [gI_eq, g24]; rfl
          · rw [gI_ne (by omega), hq.1]
            unfold ush
            rw [if_neg (show ¬ 16 < 16 by omega)]
            by_cases c2 : j = 15
            · rw [if_pos c2, if_pos (by omega), gI_ne (by omega), show 0 + (63 * j + k - 945) = k by omega]
              exact hSt k hk
            · rw [if_neg c2, if_neg (by omega), gI_ne (by omega), h76 _ (by omega), if_pos (by omega)]
              have := h.2 (j + 1) (by omega) k hk
              rw [show 63 * j + k + 63 = 63 * (j + 1) + k by omega]
              exact this
        · have ee : gA τ 76 (iI ((i : Int) + 63)) = gI σ 76 (i + 63) := by
            rw [gA_iI (by omega) (by omega), show ((i : Int) + 63).toNat = i + 63 by omega, h76 _ (by omega), if_neg (by omega)]
          simp (disch := omega) only [ee, nI_iI, iI_lit, iI_neg, iI_add, iI_sub, iI_mul, iI_lt, iI_le, iI_eq, vin_iI]
          rw [if_neg (by omega), if_pos (by omega), if_pos (by omega), sA_iI (by omega) (by omega), Int.toNat_natCast]
          refine ih (i + 1) _ (by omega) (by omega) ?_ (fun k hk => ?_) (fun k hk => ?_)
          · rw [gI_ne (by omega)]; exact h24
          · rw [gI_ne (by omega)]; exact hSt k hk
          · rw [gI_sI]
            by_cases c2 : k = i
            · rw [if_pos ⟨rfl, c2⟩, if_pos (by omega), c2]
            · rw [if_neg (fun q => c2 q.2), h76 k hk]
              by_cases c3 : k < i
              · rw [if_pos c3, if_pos (by omega)]
              · rw [if_neg c3, if_neg (by omega)]
    exact key N 0 σ (by omega) (by omega) h.1 hS (fun k hk => by rw [if_neg (by omega)])
  · rw [if_neg (by rw [show (16 : Int32) = iI 16 from rfl, iI_eq (by omega) (by omega) (by omega) (by omega)]; omega)]
    rw [show (63 : Int32) * iI (n : Int) = iI ((63 * n : Nat) : Int) from iI_mul 63 _, show (63 : Int32) = iI ((63 : Nat) : Int) from rfl, show (0 : Int32) = iI ((0 : Nat) : Int) from rfl, okB]
    refine ((pm_copy (N := N) (a0 := 63) (a1 := 1008) (a2 := 76) (a3 := 74) (p := 0) (q := 63 * n) (m := 63) (σ := σ) hN (by decide) (by decide) (by omega) (by decide) (by decide)).and (fun z => w_f_m_copy)).imp (fun q hq => okS.mpr ?_)
    have g24 : gI q.2 66 24 = iI (n : Int) := by rw [hq.2.I 66 24 rfl]; exact h.1
    refine ⟨?_, fun j hj k hk => ?_⟩
    · rw [gI_eq, g24, show iI (n : Int) + 1 = iI ((n : Int) + 1) from iI_add _ 1]; congr 1; omega
    · rw [gI_ne (by omega), hq.1]
      unfold ush
      rw [if_pos (show n < 16 by omega)]
      by_cases c2 : j = n
      · rw [if_pos c2, if_pos (by omega), show 0 + (63 * j + k - 63 * n) = k by omega]
        exact hS k hk
      · rw [if_neg c2, if_neg (by omega)]
        exact h.2 j (by omega) k hk
end KEEP
