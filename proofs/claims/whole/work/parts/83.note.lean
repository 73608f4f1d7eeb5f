/-! ===== what the class knows of the ways ahead: one way noted ===== -/
section NOTE
variable {N : Nat} {R : Nat → Nat} {σ : Sg}
def nt (N : Nat) (v1 v2 v3 v4 : Int32) (σ : Sg) : Option (Unit × Sg) :=
  (f_paths_get N 60 58 v2 σ).bind fun q42 =>
  if q42.1 = (-2) then
    (f_paths_put N 60 58 v2 v4 q42.2).bind fun q43 =>
    (f_paths_put N 60 59 v2 v1 q43.2).bind fun q44 =>
    (f_paths_put N 60 60 v2 v3 q44.2).bind fun q45 =>
    some ((), q45.2)
  else
    if v4 < q42.1 then
      (f_paths_put N 60 58 v2 v4 q42.2).bind fun q46 =>
      (f_paths_put N 60 59 v2 v1 q46.2).bind fun q47 =>
      (f_paths_put N 60 60 v2 v3 q47.2).bind fun q48 =>
      some ((), q48.2)
    else
      if v4 = q42.1 then
        (f_paths_get N 60 59 v2 q42.2).bind fun q49 =>
        if q49.1 ≤ v1 then
          some ((), q49.2)
        else
          (f_paths_put N 60 58 v2 v4 q49.2).bind fun q50 =>
          (f_paths_put N 60 59 v2 v1 q50.2).bind fun q51 =>
          (f_paths_put N 60 60 v2 v3 q51.2).bind fun q52 =>
          some ((), q52.2)
      else
        some ((), q42.2)
theorem px_getN {a1 k : Nat} (hk : k < 60) : f_paths_get N 60 a1 (iI (k : Int)) σ = some (gI σ a1 k, σ) := by
  rw [px_get (by omega) (by omega) (by omega), if_pos (by omega), Int.toNat_natCast]
def w3 (s : Nat) (v1 v3 v4 : Int32) (σ : Sg) : Sg := sI (sI (sI σ 58 s v4) 59 s v1) 60 s v3
def nt3 (s : Nat) (v1 v3 v4 : Int32) (σ : Sg) : Sg := if gI σ 58 s = -2 then w3 s v1 v3 v4 σ else if v4 < gI σ 58 s then w3 s v1 v3 v4 σ else if v4 = gI σ 58 s then (if gI σ 59 s ≤ v1 then σ else w3 s v1 v3 v4 σ) else σ
theorem nt_eq {s : Nat} (hs : s < 60) (v1 v3 v4 : Int32) : nt N v1 (iI (s : Int)) v3 v4 σ = some ((), nt3 s v1 v3 v4 σ) := by
  unfold nt nt3 w3
  rw [px_getN hs, Option.bind_some]
  dsimp only
  by_cases c1 : gI σ 58 s = -2
  · rw [if_pos c1, if_pos c1, px_put hs (by omega), Option.bind_some, px_put hs (by omega), Option.bind_some, px_put hs (by omega), Option.bind_some]
  · rw [if_neg c1, if_neg c1]
    by_cases c2 : v4 < gI σ 58 s
    · rw [if_pos c2, if_pos c2, px_put hs (by omega), Option.bind_some, px_put hs (by omega), Option.bind_some, px_put hs (by omega), Option.bind_some]
    · rw [if_neg c2, if_neg c2]
      by_cases c3 : v4 = gI σ 58 s
      · rw [if_pos c3, if_pos c3, px_getN hs, Option.bind_some]
        dsimp only
        by_cases c4 : gI σ 59 s ≤ v1
        · rw [if_pos c4, if_pos c4]
        · rw [if_neg c4, if_neg c4, px_put hs (by omega), Option.bind_some, px_put hs (by omega), Option.bind_some, px_put hs (by omega), Option.bind_some]
      · rw [if_neg c3, if_neg c3]
def w2 (s : Nat) (v1 v3 : Int32) (σ : Sg) : Sg := sI (sI σ 56 s v1) 57 s v3
def nt2 (s : Nat) (v1 v3 : Int32) (σ : Sg) : Sg := if gI σ 56 s = -2 then w2 s v1 v3 σ else if gI σ 56 s ≤ v1 then σ else w2 s v1 v3 σ
def nt1 (s made : Nat) (σ : Sg) : Sg := sL σ 61 made (gL σ 61 made ||| spnN s s)
theorem note_eq {s made : Nat} (hs : s < 60) (hm : made ≤ 5) (v3 v4 : Int32) : f_paths_note N (iI (made : Int)) (iI (s : Int)) v3 v4 σ = some ((), nt3 s (iI (made : Int)) v3 v4 (nt2 s (iI (made : Int)) v3 (nt1 s made σ))) := by
  unfold f_paths_note
  rw [if_neg (show ¬ iI (made : Int) < 0 by rw [show (0 : Int32) = iI 0 from rfl, iI_lt (by omega) (by omega) (by omega) (by omega)]; omega), if_neg (show ¬ nI 6 ≤ iI (made : Int) by rw [show nI 6 = iI 6 from rfl, iI_le (by omega) (by omega) (by omega) (by omega)]; omega), if_pos (show vin (iI (made : Int)) 6 by rw [vin_iI (by omega) (by omega)]; omega), px_span N (by omega) (by omega), Option.bind_some, if_pos (show vin (iI (made : Int)) 6 by rw [vin_iI (by omega) (by omega)]; omega)]
  dsimp only
  rw [gM_iI (by omega) (by omega), sM_iI (by omega) (by omega), Int.toNat_natCast]
  rw [show sL σ 61 made (gL σ 61 made ||| spnN s s) = nt1 s made σ from rfl, px_getN hs, Option.bind_some]
  dsimp only
  unfold nt2
  by_cases c1 : gI (nt1 s made σ) 56 s = -2
  · rw [if_pos c1, if_pos c1, px_put hs (by omega), Option.bind_some, px_put hs (by omega), Option.bind_some]
    exact nt_eq hs _ _ _
  · rw [if_neg c1, if_neg c1]
    by_cases c2 : gI (nt1 s made σ) 56 s ≤ iI (made : Int)
    · rw [if_pos c2, if_pos c2]
      exact nt_eq hs _ _ _
    · rw [if_neg c2, if_neg c2, px_put hs (by omega), Option.bind_some, px_put hs (by omega), Option.bind_some]
      exact nt_eq hs _ _ _
def CmK (o : Option (Nat × Nat)) (k : Nat) (σ : Sg) : Prop := match o with
  | none => gI σ 56 k = iI (-2)
  | some a => gI σ 56 k = iI (a.1 : Int) ∧ gI σ 57 k = iI (a.2 : Int)
def SpK (o : Option (Nat × Nat × Nat)) (l0 k : Nat) (σ : Sg) : Prop := match o with
  | none => gI σ 58 k = iI (-2) ∧ gI σ 60 k = iI (-2)
  | some a => gI σ 58 k = iI ((a.1 : Int) - (l0 : Int)) ∧ gI σ 59 k = iI (a.2.1 : Int) ∧ gI σ 60 k = iI (a.2.2 : Int)
theorem TbA.cm {ca : Nat → Option (Nat × Nat)} {sa : Nat → Option (Nat × Nat × Nat)} {ar : Nat → Nat → Bool} {l0 k : Nat} (h : TbA ca sa ar l0 σ) (hk : k < 60) : CmK (ca k) k σ := (h.1 k hk).1
theorem TbA.sp {ca : Nat → Option (Nat × Nat)} {sa : Nat → Option (Nat × Nat × Nat)} {ar : Nat → Nat → Bool} {l0 k : Nat} (h : TbA ca sa ar l0 σ) (hk : k < 60) : SpK (sa k) l0 k σ := (h.1 k hk).2
theorem TbA.mk {ca : Nat → Option (Nat × Nat)} {sa : Nat → Option (Nat × Nat × Nat)} {ar : Nat → Nat → Bool} {l0 : Nat} (h1 : ∀ k, k < 60 → CmK (ca k) k σ) (h2 : ∀ k, k < 60 → SpK (sa k) l0 k σ) (h3 : ∀ m, m < 6 → tb (gL σ 61 m) = ar m) : TbA ca sa ar l0 σ := ⟨fun k hk => ⟨h1 k hk, h2 k hk⟩, h3⟩
theorem CmK.co {o : Option (Nat × Nat)} {k : Nat} {τ : Sg} (h : CmK o k σ) (h1 : gI τ 56 k = gI σ 56 k) (h2 : gI τ 57 k = gI σ 57 k) : CmK o k τ := by
  unfold CmK at h ⊢
  rw [h1, h2]
  exact h
theorem SpK.co {o : Option (Nat × Nat × Nat)} {l0 k : Nat} {τ : Sg} (h : SpK o l0 k σ) (h1 : gI τ 58 k = gI σ 58 k) (h2 : gI τ 59 k = gI σ 59 k) (h3 : gI τ 60 k = gI σ 60 k) : SpK o l0 k τ := by
  unfold SpK at h ⊢
  rw [h1, h2, h3]
  exact h
theorem CmK_w2 {o : Option (Nat × Nat)} {k s made row : Nat} (h : k = s → o = some (made, row)) (h2 : k ≠ s → CmK o k σ) : CmK o k (w2 s (iI (made : Int)) (iI (row : Int)) σ) := by
  by_cases c : k = s
  · rw [h c]
    subst c
    unfold w2
    refine ⟨?_, ?_⟩
    · rw [gI_ne (by omega), gI_eq]
    · rw [gI_eq]
  · refine (h2 c).co ?_ ?_
    · unfold w2
      rw [gI_ne (by omega), gI_ne (by omega)]
    · unfold w2
      rw [gI_ne (by omega), gI_ne (by omega)]
theorem cm_step {ca : Nat → Option (Nat × Nat)} {s made row l : Nat} (hs : s < 60) (hm : made ≤ 5) (h : ∀ k, k < 60 → CmK (ca k) k σ) (hb : ∀ k a, ca k = some a → a.1 ≤ 5) (k : Nat) (hk : k < 60) : CmK (cmS k (ca k) (made, s, row, l)) k (nt2 s (iI (made : Int)) (iI (row : Int)) σ) := by
  have hs' := h s hs
  have hk' := h k hk
  unfold nt2 cmS
  cases e : ca s with
  | none =>
    rw [e] at hs'
    rw [show gI σ 56 s = iI (-2) from hs', if_pos (show iI (-2) = -2 from rfl)]
    refine CmK_w2 (fun c => ?_) (fun c => ?_)
    · subst c; rw [if_pos rfl, e]
    · rw [if_neg (show ¬ s = k from fun h => c h.symm)]; exact hk'
  | some a =>
    rw [e] at hs'
    have ha := hb s a e
    rw [show gI σ 56 s = iI (a.1 : Int) from hs'.1, if_neg (iI_m2 (by omega))]
    by_cases c1 : a.1 ≤ made
    · rw [if_pos (show iI (a.1 : Int) ≤ iI (made : Int) by rw [iI_le (by omega) (by omega) (by omega) (by omega)]; omega)]
      by_cases c : s = k
      · subst c
        rw [if_pos rfl, e]
        dsimp only
        rw [if_neg (by omega)]
        exact hs'
      · rw [if_neg (show ¬ s = k from c)]; exact hk'
    · rw [if_neg (show ¬ iI (a.1 : Int) ≤ iI (made : Int) by rw [iI_le (by omega) (by omega) (by omega) (by omega)]; omega)]
      refine CmK_w2 (fun c => ?_) (fun c => ?_)
      · subst c; rw [if_pos rfl, e]; dsimp only; rw [if_pos (by omega)]
      · rw [if_neg (show ¬ s = k from fun h => c h.symm)]; exact hk'
theorem SpK_w3 {o : Option (Nat × Nat × Nat)} {k s made row l l0 : Nat} (h : k = s → o = some (l, made, row)) (h2 : k ≠ s → SpK o l0 k σ) : SpK o l0 k (w3 s (iI (made : Int)) (iI (row : Int)) (iI ((l : Int) - (l0 : Int))) σ) := by
  by_cases c : k = s
  · rw [h c]
    subst c
    unfold w3
    refine ⟨?_, ?_, ?_⟩
    · rw [gI_ne (by omega), gI_ne (by omega), gI_eq]
    · rw [gI_ne (by omega), gI_eq]
    · rw [gI_eq]
  · refine (h2 c).co ?_ ?_ ?_
    · unfold w3
      rw [gI_ne (by omega), gI_ne (by omega), gI_ne (by omega)]
    · unfold w3
      rw [gI_ne (by omega), gI_ne (by omega), gI_ne (by omega)]
    · unfold w3
      rw [gI_ne (by omega), gI_ne (by omega), gI_ne (by omega)]
theorem sp_step {sa : Nat → Option (Nat × Nat × Nat)} {s made row l l0 : Nat} (hs : s < 60) (hm : made ≤ 5) (hl : l0 ≤ l) (hl2 : l ≤ 594) (h : ∀ k, k < 60 → SpK (sa k) l0 k σ) (hb : ∀ k a, sa k = some a → l0 ≤ a.1 ∧ a.1 ≤ 594 ∧ a.2.1 ≤ 5) (k : Nat) (hk : k < 60) : SpK (spS k (sa k) (made, s, row, l)) l0 k (nt3 s (iI (made : Int)) (iI (row : Int)) (iI ((l : Int) - (l0 : Int))) σ) := by
  have hs' := h s hs
  have hk' := h k hk
  unfold nt3 spS
  cases e : sa s with
  | none =>
    rw [e] at hs'
    rw [show gI σ 58 s = iI (-2) from hs'.1, if_pos (show iI (-2) = -2 from rfl)]
    refine SpK_w3 (fun c => ?_) (fun c => ?_)
    · subst c; rw [if_pos rfl, e]
    · rw [if_neg (show ¬ s = k from fun h => c h.symm)]; exact hk'
  | some a =>
    rw [e] at hs'
    have ha := hb s a e
    rw [show gI σ 58 s = iI ((a.1 : Int) - (l0 : Int)) from hs'.1, show gI σ 59 s = iI (a.2.1 : Int) from hs'.2.1, if_neg (show ¬ iI ((a.1 : Int) - (l0 : Int)) = -2 by rw [show (-2 : Int32) = iI (-2) from rfl, iI_eq (by omega) (by omega) (by omega) (by omega)]; omega)]
    have keep : ¬ (l < a.1 ∨ (l = a.1 ∧ made < a.2.1)) → SpK (if s = k then (match sa k with
        | none => some (l, made, row)
        | some a => if l < a.1 ∨ (l = a.1 ∧ made < a.2.1) then some (l, made, row) else some a) else sa k) l0 k σ := by
      intro hn
      by_cases c : s = k
      · subst c
        rw [if_pos rfl, e]
        dsimp only
        rw [if_neg hn]
        exact hs'
      · rw [if_neg (show ¬ s = k from c)]; exact hk'
    have put : (l < a.1 ∨ (l = a.1 ∧ made < a.2.1)) → SpK (if s = k then (match sa k with
        | none => some (l, made, row)
        | some a => if l < a.1 ∨ (l = a.1 ∧ made < a.2.1) then some (l, made, row) else some a) else sa k) l0 k (w3 s (iI (made : Int)) (iI (row : Int)) (iI ((l : Int) - (l0 : Int))) σ) := by
      intro hy
      refine SpK_w3 (fun c => ?_) (fun c => ?_)
      · subst c; rw [if_pos rfl, e]; dsimp only; rw [if_pos hy]
      · rw [if_neg (show ¬ s = k from fun h => c h.symm)]; exact hk'
    by_cases c1 : l < a.1
    · rw [if_pos (show iI ((l : Int) - (l0 : Int)) < iI ((a.1 : Int) - (l0 : Int)) by rw [iI_lt (by omega) (by omega) (by omega) (by omega)]; omega)]
      exact put (Or.inl c1)
    · rw [if_neg (show ¬ iI ((l : Int) - (l0 : Int)) < iI ((a.1 : Int) - (l0 : Int)) by rw [iI_lt (by omega) (by omega) (by omega) (by omega)]; omega)]
      by_cases c2 : l = a.1
      · rw [if_pos (show iI ((l : Int) - (l0 : Int)) = iI ((a.1 : Int) - (l0 : Int)) by rw [c2])]
        by_cases c3 : a.2.1 ≤ made
        · rw [if_pos (show iI (a.2.1 : Int) ≤ iI (made : Int) by rw [iI_le (by omega) (by omega) (by omega) (by omega)]; omega)]
          exact keep (by omega)
        · rw [if_neg (show ¬ iI (a.2.1 : Int) ≤ iI (made : Int) by rw [iI_le (by omega) (by omega) (by omega) (by omega)]; omega)]
          exact put (by omega)
      · rw [if_neg (show ¬ iI ((l : Int) - (l0 : Int)) = iI ((a.1 : Int) - (l0 : Int)) by rw [iI_eq (by omega) (by omega) (by omega) (by omega)]; omega)]
        exact keep (by omega)
def TT (ca : Nat → Option (Nat × Nat)) (sa : Nat → Option (Nat × Nat × Nat)) (ar : Nat → Nat → Bool) (l0 : Nat) (σ : Sg) : Prop := TbA ca sa ar l0 σ ∧ (∀ k a, ca k = some a → a.1 ≤ 5) ∧ (∀ k a, sa k = some a → l0 ≤ a.1 ∧ a.1 ≤ 594 ∧ a.2.1 ≤ 5)
theorem nt2_fr {s : Nat} {v1 v3 : Int32} : Fr [(56, none), (57, none)] σ (nt2 s v1 v3 σ) := by
  have h : Fr [(56, none), (57, none)] σ (w2 s v1 v3 σ) := by unfold w2; exact Fr.wIc (Fr.wIc Fr.rf (by simp)) (by simp)
  unfold nt2
  split
  · exact h
  · split
    · exact Fr.rf
    · exact h
theorem nt3_fr {s : Nat} {v1 v3 v4 : Int32} : Fr [(58, none), (59, none), (60, none)] σ (nt3 s v1 v3 v4 σ) := by
  have h : Fr [(58, none), (59, none), (60, none)] σ (w3 s v1 v3 v4 σ) := by unfold w3; exact Fr.wIc (Fr.wIc (Fr.wIc Fr.rf (by simp)) (by simp)) (by simp)
  unfold nt3
  split
  · exact h
  · split
    · exact h
    · split
      · split
        · exact Fr.rf
        · exact h
      · exact Fr.rf
theorem px_note {ca : Nat → Option (Nat × Nat)} {sa : Nat → Option (Nat × Nat × Nat)} {ar : Nat → Nat → Bool} {s made row l l0 : Nat} (hs : s < 60) (hm : made ≤ 5) (hl : l0 ≤ l) (hl2 : l ≤ 594) (h : TT ca sa ar l0 σ) : ok (f_paths_note N (iI (made : Int)) (iI (s : Int)) (iI (row : Int)) (iI ((l : Int) - (l0 : Int))) σ) (fun z => TT (fun k => cmS k (ca k) (made, s, row, l)) (fun k => spS k (sa k) (made, s, row, l)) (fun m k => rcS m k (ar m k) (made, s, row, l)) l0 z.2) := by
  rw [note_eq hs hm]
  refine okS.mpr ⟨TbA.mk (fun k hk => ?_) (fun k hk => ?_) (fun m hm => ?_), fun k a => ?_, fun k a => ?_⟩
  · refine (cm_step hs hm (fun k hk => ((h.1.cm hk).co (τ := nt1 s made σ) rfl rfl)) h.2.1 k hk).co ?_ ?_
    · exact nt3_fr.I 56 k rfl
    · exact nt3_fr.I 57 k rfl
  · refine sp_step hs hm hl hl2 (fun k hk => (h.1.sp hk).co ?_ ?_ ?_) h.2.2 k hk
    · exact nt2_fr.I 58 k rfl
    · exact nt2_fr.I 59 k rfl
    · exact nt2_fr.I 60 k rfl
  · dsimp only
    rw [nt3_fr.L 61 m rfl, nt2_fr.L 61 m rfl]
    unfold nt1 rcS
    funext k
    by_cases c : made = m
    · subst c
      rw [gL_eq, tb_or, h.1.2 made hm, tb_spn (by omega) (by omega)]
      congr 1
      rw [Bool.and_eq_right_iff_imp.mpr (by intro _; exact decide_eq_true rfl), decide_eq_decide]
      show min s s ≤ k ∧ k ≤ max s s ↔ s = k
      omega
    · rw [gL_ne (by omega), h.1.2 m hm, show decide (made = m) = false from decide_eq_false c, Bool.false_and, Bool.or_false]
  · dsimp only
    unfold cmS
    split
    · split
      · intro e; cases e; exact hm
      · split
        · intro e; cases e; exact hm
        · intro e
          rename_i e2 _
          exact h.2.1 k a (e2.trans e)
    · exact h.2.1 k a
  · dsimp only
    unfold spS
    split
    · split
      · intro e; cases e; exact ⟨hl, hl2, hm⟩
      · split
        · intro e; cases e; exact ⟨hl, hl2, hm⟩
        · intro e
          rename_i e2 _
          exact h.2.2 k a (e2.trans e)
    · exact h.2.2 k a
end NOTE
