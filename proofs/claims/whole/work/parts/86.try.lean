/-! ===== the reference tries every row ===== -/
section TRY
variable {N : Nat} {R S : Nat → Nat} {σ : Sg}
def mnS (k : Nat) (acc : Option Nat) (v : Vs) : Option Nat := if v.2.1 = k then (match acc with
  | none => some v.1
  | some a => if v.1 < a then some v.1 else some a) else acc
abbrev btr (made row l : Nat) (a : Nat × Nat × Nat) : Prop := l < a.1 ∨ (l = a.1 ∧ (made < a.2.1 ∨ (made = a.2.1 ∧ row < a.2.2)))
def msS (k : Nat) (acc : Option (Nat × Nat × Nat)) (v : Vs) : Option (Nat × Nat × Nat) := if v.2.1 = k then (match acc with
  | none => some (v.2.2.2, v.1, v.2.2.1)
  | some a => if btr v.1 v.2.2.1 v.2.2.2 a then some (v.2.2.2, v.1, v.2.2.1) else some a) else acc
def mnV (o : Option Nat) : Int := match o with
  | none => 100000000
  | some a => (a : Int)
def MsK (o : Option (Nat × Nat × Nat)) (σ : Sg) : Prop := match o with
  | none => gI σ 66 39 = iI (-1)
  | some a => gI σ 66 39 = iI (a.2.2 : Int) ∧ gI σ 66 37 = iI (a.2.1 : Int) ∧ gI σ 66 38 = iI (a.1 : Int)
def MT (mi : Nat → Option Nat) (sp : Option (Nat × Nat × Nat)) (σ : Sg) : Prop := (∀ k, k < 60 → gI σ 82 k = iI (mnV (mi k))) ∧ MsK sp σ ∧ (∀ k a, mi k = some a → a ≤ 5) ∧ ∀ a, sp = some a → a.1 ≤ 594 ∧ a.2.1 ≤ 5 ∧ a.2.2 < 1000000
theorem mnV_r {mi : Nat → Option Nat} (h : ∀ k a, mi k = some a → a ≤ 5) (k : Nat) : 0 ≤ mnV (mi k) ∧ mnV (mi k) ≤ 100000000 := by
  cases e : mi k with
  | none => exact ⟨by decide, by decide⟩
  | some a =>
    have := h k a e
    show 0 ≤ (a : Int) ∧ (a : Int) ≤ 100000000
    omega
def mt3 (made row : Nat) (l : Int32) (σ : Sg) : Sg := sI (sI (sI σ 66 39 (iI (row : Int))) 66 37 (iI (made : Int))) 66 38 l
theorem ms_put {made row l : Nat} : MsK (some (l, made, row)) (mt3 made row (iI (l : Int)) σ) := by
  unfold mt3
  refine ⟨?_, ?_, ?_⟩
  · rw [gI_ne (by omega), gI_ne (by omega), gI_eq]
  · rw [gI_ne (by omega), gI_eq]
  · rw [gI_eq]
/-- one row looked at, whatever follows -/
theorem pm_look {mi : Nat → Option Nat} {sp : Option (Nat × Nat × Nat)} {made row tgt : Nat} {tv : Int32} {K : Sg → Option (Unit × Sg)} {P : Unit × Sg → Prop} (hN : 200000 ≤ N) (hR : AR σ 69 189 R) (hT : AR σ 81 63 S) (hW : WfL R) (hC : WfC R S) (hm : made ≤ 5) (hrow : row < 1000000) (htv : gI σ 66 35 = tv) (hv : (iI (S 60 : Int) = tv) = (S 60 = tgt)) (h : MsK sp σ) (hb : ∀ a, sp = some a → a.1 ≤ 594 ∧ a.2.1 ≤ 5 ∧ a.2.2 < 1000000)
    (hK : ∀ τ, Fr [(66, some 37), (66, some 38), (66, some 39)] σ τ → MsK (msS tgt sp (made, S 60, row, lost R (gon S))) τ → ok (K τ) P) :
    ok (if iI (S 60 : Int) = gI σ 66 35 then
      (f_m_lostOn N 69 189 63 81 σ).bind fun q6 =>
      if (gI q6.2 66 39) < 0 then K (sI (sI (sI q6.2 66 39 (iI (row : Int))) 66 37 (iI (made : Int))) 66 38 q6.1)
      else
        if q6.1 < (gI q6.2 66 38) then K (sI (sI (sI q6.2 66 39 (iI (row : Int))) 66 37 (iI (made : Int))) 66 38 q6.1)
        else
          if q6.1 = (gI q6.2 66 38) then
            if iI (made : Int) < (gI q6.2 66 37) then K (sI (sI (sI q6.2 66 39 (iI (row : Int))) 66 37 (iI (made : Int))) 66 38 q6.1)
            else
              if iI (made : Int) = (gI q6.2 66 37) then
                if (gI q6.2 66 39) ≤ iI (row : Int) then K q6.2
                else K (sI (sI (sI q6.2 66 39 (iI (row : Int))) 66 37 (iI (made : Int))) 66 38 q6.1)
              else K q6.2
          else K q6.2
    else K σ) P := by
  have hl := lost_le hW (gon S)
  have f3 : Fr [(66, some 37), (66, some 38), (66, some 39)] σ (mt3 made row (iI (lost R (gon S) : Int)) σ) := by unfold mt3; exact Fr.wI (Fr.wI (Fr.wI Fr.rf (by simp)) (by simp)) (by simp)
  rw [htv]
  simp only [hv]
  by_cases c : S 60 = tgt
  · rw [if_pos c, pm_lostOn hN hR hT hW hC.r, Option.bind_some]
    dsimp only
    have put : ∀ (hy : ∀ a, sp = some a → btr made row (lost R (gon S)) a), ok (K (mt3 made row (iI (lost R (gon S) : Int)) σ)) P := by
      intro hy
      refine hK _ f3 ?_
      have : msS tgt sp (made, S 60, row, lost R (gon S)) = some (lost R (gon S), made, row) := by
        unfold msS
        rw [if_pos c]
        cases e : sp with
        | none => rfl
        | some a => dsimp only; rw [if_pos (hy a e)]
      rw [this]
      exact ms_put
    have keep : ∀ (a : Nat × Nat × Nat), sp = some a → ¬ btr made row (lost R (gon S)) a → ok (K σ) P := by
      intro a e hn
      refine hK σ Fr.rf ?_
      have : msS tgt sp (made, S 60, row, lost R (gon S)) = sp := by
        unfold msS
        rw [if_pos c, e]
        dsimp only
        rw [if_neg hn]
      rw [this]
      exact h
    cases e : sp with
    | none =>
      rw [e] at h
      rw [show gI σ 66 39 = iI (-1) from h, if_pos (show iI (-1) < 0 by decide)]
      exact put (fun a h => by rw [e] at h; cases h)
    | some a =>
      rw [e] at h
      have ha := hb a e
      have hp : ∀ b, sp = some b → b = a := fun b hb => by rw [e] at hb; cases hb; rfl
      rw [h.1, h.2.1, h.2.2, if_neg (show ¬ iI (a.2.2 : Int) < 0 by rw [show (0 : Int32) = iI 0 from rfl, iI_lt (by omega) (by omega) (by omega) (by omega)]; omega)]
      by_cases c1 : lost R (gon S) < a.1
      · rw [if_pos (show iI (lost R (gon S) : Int) < iI (a.1 : Int) by rw [iI_lt (by omega) (by omega) (by omega) (by omega)]; omega)]
        exact put (fun b hb => by rw [hp b hb]; exact Or.inl c1)
      · rw [if_neg (show ¬ iI (lost R (gon S) : Int) < iI (a.1 : Int) by rw [iI_lt (by omega) (by omega) (by omega) (by omega)]; omega)]
        by_cases c2 : lost R (gon S) = a.1
        · rw [if_pos (show iI (lost R (gon S) : Int) = iI (a.1 : Int) by rw [c2])]
          by_cases c3 : made < a.2.1
          · rw [if_pos (show iI (made : Int) < iI (a.2.1 : Int) by rw [iI_lt (by omega) (by omega) (by omega) (by omega)]; omega)]
            exact put (fun b hb => by rw [hp b hb]; exact Or.inr ⟨c2, Or.inl c3⟩)
          · rw [if_neg (show ¬ iI (made : Int) < iI (a.2.1 : Int) by rw [iI_lt (by omega) (by omega) (by omega) (by omega)]; omega)]
            by_cases c4 : made = a.2.1
            · rw [if_pos (show iI (made : Int) = iI (a.2.1 : Int) by rw [c4])]
              by_cases c5 : a.2.2 ≤ row
              · rw [if_pos (show iI (a.2.2 : Int) ≤ iI (row : Int) by rw [iI_le (by omega) (by omega) (by omega) (by omega)]; omega)]
                exact keep a e (by unfold btr; omega)
              · rw [if_neg (show ¬ iI (a.2.2 : Int) ≤ iI (row : Int) by rw [iI_le (by omega) (by omega) (by omega) (by omega)]; omega)]
                exact put (fun b hb => by rw [hp b hb]; unfold btr; omega)
            · rw [if_neg (show ¬ iI (made : Int) = iI (a.2.1 : Int) by rw [iI_eq (by omega) (by omega) (by omega) (by omega)]; omega)]
              exact keep a e (by unfold btr; omega)
        · rw [if_neg (show ¬ iI (lost R (gon S) : Int) = iI (a.1 : Int) by rw [iI_eq (by omega) (by omega) (by omega) (by omega)]; omega)]
          exact keep a e (by unfold btr; omega)
  · rw [if_neg c]
    refine hK σ Fr.rf ?_
    have : msS tgt sp (made, S 60, row, lost R (gon S)) = sp := by
      unfold msS
      rw [if_neg c]
    rw [this]
    exact h
end TRY
