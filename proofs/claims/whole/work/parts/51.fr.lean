/-! ===== frames: what each function may write (by program: wip/whole/gen/frame.py) ===== -/
abbrev WL : Type := List (Nat × Option Nat)
def nin1 (e : Nat × Option Nat) (j q : Nat) : Bool := !(Nat.beq e.1 j) || (match e.2 with | none => false | some k => !(Nat.beq k q))
def nin : WL → Nat → Nat → Bool
  | [], _, _ => true
  | e :: r, j, q => nin1 e j q && nin r j q
def Fr (W : WL) (σ τ : Sg) : Prop := ∀ j q, nin W j q = true → gI τ j q = gI σ j q ∧ gL τ j q = gL σ j q
theorem nin_of {W : WL} {j q : Nat} (h : nin W j q = true) : ∀ e ∈ W, nin1 e j q = true := by
  induction W with
  | nil => intro e he; cases he
  | cons a r ih =>
    intro e he
    simp only [nin, Bool.and_eq_true] at h
    rcases List.mem_cons.mp he with rfl | he
    · exact h.1
    · exact ih h.2 e he
theorem nin_mk {W : WL} {j q : Nat} (h : ∀ e ∈ W, nin1 e j q = true) : nin W j q = true := by
  induction W with
  | nil => rfl
  | cons a r ih =>
    simp only [nin, Bool.and_eq_true]
    exact ⟨h a List.mem_cons_self, ih (fun e he => h e (List.mem_cons_of_mem _ he))⟩
def cov (W : WL) (e : Nat × Option Nat) : Bool := W.any (fun f => Nat.beq f.1 e.1 && (match f.2 with | none => true | some k => match e.2 with | none => false | some k' => Nat.beq k k'))
def sub (W W' : WL) : Bool := W.all (cov W')
theorem cov_nin {W : WL} {e : Nat × Option Nat} {j q : Nat} (hc : cov W e = true) (h : nin W j q = true) : nin1 e j q = true := by
  obtain ⟨f, hf, h2⟩ := List.any_eq_true.mp hc
  simp only [Bool.and_eq_true, Nat.beq_eq] at h2
  have h3 := nin_of h f hf
  obtain ⟨c, k⟩ := f
  obtain ⟨c', k'⟩ := e
  obtain ⟨rfl, h4⟩ := h2
  cases k with
  | none =>
    simp only [nin1, Bool.or_false, Bool.not_eq_true'] at h3 ⊢
    simp [h3]
  | some k =>
    cases k' with
    | none => simp at h4
    | some k' =>
      have : k = k' := by simpa using h4
      subst this
      exact h3
theorem Fr.rf {W : WL} {σ : Sg} : Fr W σ σ := fun _ _ _ => ⟨rfl, rfl⟩
theorem Fr.tr {W : WL} {σ τ υ : Sg} (h : Fr W σ τ) (h2 : Fr W τ υ) : Fr W σ υ := fun j q hn => ⟨(h2 j q hn).1.trans (h j q hn).1, (h2 j q hn).2.trans (h j q hn).2⟩
theorem Fr.mono {W W' : WL} {σ τ : Sg} (h : Fr W σ τ) (hs : sub W W' = true) : Fr W' σ τ := fun j q hn => h j q (nin_mk fun e he => cov_nin (List.all_eq_true.mp hs e he) hn)
theorem Fr.monoP {W W' : WL} {σ τ : Sg} (h : Fr W σ τ) (hs : ∀ e ∈ W, e ∈ W') : Fr W' σ τ := fun j q hn => h j q (nin_mk fun e he => nin_of hn e (hs e he))
theorem nin1_some {i k j q : Nat} (h : nin1 (i, some k) j q = true) : ¬ (j = i ∧ q = k) := by
  rintro ⟨rfl, rfl⟩
  simp [nin1] at h
theorem nin1_none {i j q : Nat} (h : nin1 (i, none) j q = true) : ¬ j = i := by
  rintro rfl
  simp [nin1] at h
theorem Fr.wI {W : WL} {σ τ : Sg} {i k : Nat} {v : Int32} (h : Fr W σ τ) (hc : (i, some k) ∈ W) : Fr W σ (sI τ i k v) := fun j q hn => ⟨(gI_ne (nin1_some (nin_of hn _ hc))).trans (h j q hn).1, (h j q hn).2⟩
theorem Fr.wL {W : WL} {σ τ : Sg} {i k : Nat} {v : Int64} (h : Fr W σ τ) (hc : (i, some k) ∈ W) : Fr W σ (sL τ i k v) := fun j q hn => ⟨(h j q hn).1, (gL_ne (nin1_some (nin_of hn _ hc))).trans (h j q hn).2⟩
theorem Fr.wIc {W : WL} {σ τ : Sg} {i k : Nat} {v : Int32} (h : Fr W σ τ) (hc : (i, none) ∈ W) : Fr W σ (sI τ i k v) := fun j q hn => ⟨(gI_ne (fun z => nin1_none (nin_of hn _ hc) z.1)).trans (h j q hn).1, (h j q hn).2⟩
theorem Fr.wLc {W : WL} {σ τ : Sg} {i k : Nat} {v : Int64} (h : Fr W σ τ) (hc : (i, none) ∈ W) : Fr W σ (sL τ i k v) := fun j q hn => ⟨(h j q hn).1, (gL_ne (fun z => nin1_none (nin_of hn _ hc) z.1)).trans (h j q hn).2⟩
theorem Fr.wA {W : WL} {σ τ : Sg} {i : Nat} {k : Int32} {v : Int32} (h : Fr W σ τ) (hc : (i, none) ∈ W) : Fr W σ (sA τ i k v) := Fr.wIc h hc
theorem Fr.wM {W : WL} {σ τ : Sg} {i : Nat} {k : Int32} {v : Int64} (h : Fr W σ τ) (hc : (i, none) ∈ W) : Fr W σ (sM τ i k v) := Fr.wLc h hc
theorem Fr.eq {σ τ : Sg} (h : Fr [] σ τ) : τ = σ := Prod.ext (funext fun j => funext fun q => (h j q rfl).1) (funext fun j => funext fun q => (h j q rfl).2)
theorem Fr.I {W : WL} {σ τ : Sg} (h : Fr W σ τ) (j q : Nat) (hn : nin W j q = true) : gI τ j q = gI σ j q := (h j q hn).1
theorem Fr.L {W : WL} {σ τ : Sg} (h : Fr W σ τ) (j q : Nat) (hn : nin W j q = true) : gL τ j q = gL σ j q := (h j q hn).2
theorem bind_some_inv {α β : Type} {o : Option α} {g : α → Option β} {z : β} (h : o.bind g = some z) : ∃ y, o = some y ∧ g y = some z := Option.bind_eq_some_iff.mp h
theorem ite_some_inv {α : Type} {c : Prop} {D : Decidable c} {a b : Option α} {z : α} (h : @ite _ c D a b = some z) : a = some z ∨ b = some z := by
  by_cases hc : c
  · rw [if_pos hc] at h; exact Or.inl h
  · rw [if_neg hc] at h; exact Or.inr h
def swW : WL := (List.range 30).map (fun k => (k + 10, none)) ++ [(55, some 7)]
theorem nin_sw {j q : Nat} (h : nin swW j q = true) : pi j = j ∧ ¬ (j = 55 ∧ q = 7) := by
  refine ⟨?_, nin1_some (nin_of h (55, some 7) (by simp [swW]))⟩
  by_cases hj : 10 ≤ j ∧ j < 40
  · exact absurd rfl (nin1_none (nin_of h (j, none) (by
      refine List.mem_append.mpr (Or.inl (List.mem_map.mpr ⟨j - 10, List.mem_range.mpr (by omega), ?_⟩))
      simp only [Prod.mk.injEq, and_true]; omega)))
  · unfold pi
    split
    · omega
    · split
      · omega
      · rfl
theorem Fr.wsw {W : WL} {σ τ : Sg} (h : Fr W σ τ) (hs : sub swW W = true) : Fr W σ (sw τ) := fun j q hn => by
  obtain ⟨h1, h2⟩ := nin_sw (j := j) (q := q) (nin_mk fun e he => cov_nin (List.all_eq_true.mp hs e he) hn)
  refine ⟨?_, ?_⟩
  · rw [← (h j q hn).1]; simp [gI, sw, h1, h2]
  · rw [← (h j q hn).2]; simp [gL, sw, h1]
