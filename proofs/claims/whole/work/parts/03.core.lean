/-! ===== the machine's walk over the fixed cells: states by index, runs of instructions by evaluation ===== -/
abbrev Sg : Type := (Nat → Nat → Int32) × (Nat → Nat → Int64)
def gI (σ : Sg) (i k : Nat) : Int32 := σ.1 i k
def gL (σ : Sg) (i k : Nat) : Int64 := σ.2 i k
def sI (σ : Sg) (i k : Nat) (v : Int32) : Sg := (fun j q => if j = i ∧ q = k then v else σ.1 j q, σ.2)
def sL (σ : Sg) (i k : Nat) (v : Int64) : Sg := (σ.1, fun j q => if j = i ∧ q = k then v else σ.2 j q)
def gA (σ : Sg) (i : Nat) (x : Int32) : Int32 := gI σ i x.toNatClampNeg
def gM (σ : Sg) (i : Nat) (x : Int32) : Int64 := gL σ i x.toNatClampNeg
def sA (σ : Sg) (i : Nat) (x : Int32) (v : Int32) : Sg := sI σ i x.toNatClampNeg v
def sM (σ : Sg) (i : Nat) (x : Int32) (v : Int64) : Sg := sL σ i x.toNatClampNeg v
def b2i (b : Bool) : Int32 := if b = true then 1 else 0
def ren (a : Nat → Nat) (v : Value) : Value := match v with
  | .ref j => .ref (a j)
  | w => w
def crf (x : Int32) : Value := if x = 0 then .null else .ref x.toNatClampNeg
def fvl (σ : Sg) (i k : Nat) (f : Nat × Nat) : Value := match f.1 with
  | 1 => .long (gL σ i k)
  | 2 => .ref f.2
  | 3 => crf (gI σ i k)
  | _ => .int (gI σ i k)
def cel (a : Nat → Nat) (cA : Nat → ClassId) (σ : Sg) (i : Nat) (h : Shp) : Nat × va_E :=
  (a i, match h with
    | .inl o => .inr (o.1, o.2.mapIdx (fun k f => ren a (fvl σ i k f)))
    | .inr r => .inl (cA r.1, r.2, if r.1 = 2 then .inr (.inl (gL σ i)) else .inl (gI σ i)))
def wld (a : Nat → Nat) (cA : Nat → ClassId) (σ : Sg) : va_W := SH.mapIdx (fun i h => cel a cA σ i h)
theorem wld_at {a : Nat → Nat} {cA : Nat → ClassId} {σ : Sg} {i : Nat} {h : Shp} (hi : SH[i]? = some h) : (wld a cA σ)[i]? = some (cel a cA σ i h) := by
  simp [wld, List.getElem?_mapIdx, hi]
theorem wld_in {a : Nat → Nat} {cA : Nat → ClassId} {σ : Sg} {i : Nat} {q : Nat × va_E} (h : (wld a cA σ)[i]? = some q) : i < SH.length ∧ q.1 = a i := by
  simp only [wld, List.getElem?_mapIdx, Option.map_eq_some_iff] at h
  obtain ⟨z, hz, rfl⟩ := h
  exact ⟨(List.getElem?_eq_some_iff.mp hz).1, rfl⟩
theorem gI_ne {σ : Sg} {i k : Nat} {v : Int32} {j q : Nat} (h : ¬ (j = i ∧ q = k)) : gI (sI σ i k v) j q = gI σ j q := by simp [gI, sI, h]
theorem gI_eq {σ : Sg} {i k : Nat} {v : Int32} : gI (sI σ i k v) i k = v := by simp [gI, sI]
theorem gL_ne {σ : Sg} {i k : Nat} {v : Int64} {j q : Nat} (h : ¬ (j = i ∧ q = k)) : gL (sL σ i k v) j q = gL σ j q := by simp [gL, sL, h]
theorem gL_eq {σ : Sg} {i k : Nat} {v : Int64} : gL (sL σ i k v) i k = v := by simp [gL, sL]
theorem gL_sI {σ : Sg} {i k : Nat} {v : Int32} : gL (sI σ i k v) = gL σ := rfl
theorem gI_sL {σ : Sg} {i k : Nat} {v : Int64} : gI (sL σ i k v) = gI σ := rfl
theorem fvl_sI_ne {σ : Sg} {i k : Nat} {v : Int32} {j q : Nat} {f : Nat × Nat} (h : ¬ (j = i ∧ q = k)) : fvl (sI σ i k v) j q f = fvl σ j q f := by
  unfold fvl
  rw [gI_ne h, gL_sI]
theorem fvl_sL_ne {σ : Sg} {i k : Nat} {v : Int64} {j q : Nat} {f : Nat × Nat} (h : ¬ (j = i ∧ q = k)) : fvl (sL σ i k v) j q f = fvl σ j q f := by
  unfold fvl
  rw [gL_ne h, gI_sL]
theorem cel_sI_ne {a : Nat → Nat} {cA : Nat → ClassId} {σ : Sg} {i k : Nat} {v : Int32} {j : Nat} {h : Shp} (n : j ≠ i) : cel a cA (sI σ i k v) j h = cel a cA σ j h := by
  have e : gI (sI σ i k v) j = gI σ j := funext fun q => gI_ne (fun z => n z.1)
  unfold cel
  rcases h with ⟨c, fs⟩ | ⟨t, r⟩
  · have e2 : ∀ (q : Nat) (f : Nat × Nat), fvl (sI σ i k v) j q f = fvl σ j q f := fun q f => fvl_sI_ne (fun z => n z.1)
    simp only [e2]
  · simp only [e, gL_sI]
theorem cel_sL_ne {a : Nat → Nat} {cA : Nat → ClassId} {σ : Sg} {i k : Nat} {v : Int64} {j : Nat} {h : Shp} (n : j ≠ i) : cel a cA (sL σ i k v) j h = cel a cA σ j h := by
  have e : gL (sL σ i k v) j = gL σ j := funext fun q => gL_ne (fun z => n z.1)
  unfold cel
  rcases h with ⟨c, fs⟩ | ⟨t, r⟩
  · have e2 : ∀ (q : Nat) (f : Nat × Nat), fvl (sL σ i k v) j q f = fvl σ j q f := fun q f => fvl_sL_ne (fun z => n z.1)
    simp only [e2]
  · simp only [e, gI_sL]
theorem wld_set {a : Nat → Nat} {cA : Nat → ClassId} {σ σ' : Sg} {i : Nat} {h : Shp} (hi : SH[i]? = some h) (hne : ∀ (j : Nat) (z : Shp), j ≠ i → cel a cA σ' j z = cel a cA σ j z) : (wld a cA σ).set i (cel a cA σ' i h) = wld a cA σ' := by
  apply List.ext_getElem?
  intro j
  rw [List.getElem?_set]
  have hl : i < (wld a cA σ).length := by
    rw [show (wld a cA σ).length = SH.length by simp [wld]]
    exact (List.getElem?_eq_some_iff.mp hi).1
  by_cases e : i = j
  · subst e
    rw [if_pos rfl, if_pos hl, wld_at hi]
  · rw [if_neg e]
    simp only [wld, List.getElem?_mapIdx]
    cases hz : SH[j]? with
    | none => rfl
    | some z => simp only [Option.map_some]; rw [hne j z (fun q => e q.symm)]
theorem mapIdx_set {α β : Type} {l : List α} {f g : Nat → α → β} {k : Nat} {x : α} (hk : l[k]? = some x) (hne : ∀ (j : Nat) (z : α), j ≠ k → g j z = f j z) : (l.mapIdx f).set k (g k x) = l.mapIdx g := by
  apply List.ext_getElem?
  intro j
  rw [List.getElem?_set]
  have hl : k < (l.mapIdx f).length := by
    rw [List.length_mapIdx]
    exact (List.getElem?_eq_some_iff.mp hk).1
  by_cases e : k = j
  · subst e
    rw [if_pos rfl, if_pos hl, List.getElem?_mapIdx, hk]
    rfl
  · rw [if_neg e]
    simp only [List.getElem?_mapIdx]
    cases hz : l[j]? with
    | none => rfl
    | some z => simp only [Option.map_some]; rw [hne j z (fun q => e q.symm)]
theorem wld_put {a : Nat → Nat} {cA : Nat → ClassId} {σ σ' : Sg} {i ci k : Nat} {fs : List (Nat × Nat)} {f : Nat × Nat} (hi : SH[i]? = some (.inl (ci, fs))) (hk : fs[k]? = some f) (hc : ∀ (j : Nat) (z : Shp), j ≠ i → cel a cA σ' j z = cel a cA σ j z) (hf : ∀ (q : Nat) (z : Nat × Nat), q ≠ k → fvl σ' i q z = fvl σ i q z) :
    (wld a cA σ).set i (a i, .inr (ci, (fs.mapIdx (fun k f => ren a (fvl σ i k f))).set k (ren a (fvl σ' i k f)))) = wld a cA σ' := by
  have e : (fs.mapIdx (fun k f => ren a (fvl σ i k f))).set k (ren a (fvl σ' i k f)) = fs.mapIdx (fun k f => ren a (fvl σ' i k f)) := mapIdx_set (f := fun k f => ren a (fvl σ i k f)) (g := fun k f => ren a (fvl σ' i k f)) hk (fun j z n => congrArg (ren a) (hf j z n))
  rw [e]
  have e2 : ((a i, .inr (ci, fs.mapIdx (fun k f => ren a (fvl σ' i k f)))) : Nat × va_E) = cel a cA σ' i (.inl (ci, fs)) := rfl
  rw [e2]
  exact wld_set hi hc
def tyL (cA : Nat → ClassId) : List (ClassId × FieldType) := [(cA 0, .int), (cA 1, .byte), (cA 2, .long)]
def Aw (a : Nat → Nat) (sz : Nat) : Nat → Prop := fun q => (∃ i, i < SH.length ∧ q = a i) ∨ sz ≤ q
def Inj (a : Nat → Nat) : Prop := ∀ i j, i < SH.length → j < SH.length → a i = a j → i = j
theorem wld_D {a : Nat → Nat} {cA : Nat → ClassId} {σ : Sg} {sz : Nat} (h : Inj a) : va_D (Aw a sz) (wld a cA σ) := by
  refine ⟨fun i j p q hp hq e => ?_, fun k q hk => ?_⟩
  · obtain ⟨i1, i2⟩ := wld_in hp
    obtain ⟨j1, j2⟩ := wld_in hq
    exact h i j i1 j1 (by rw [← i2, ← j2, e])
  · obtain ⟨i1, i2⟩ := wld_in hk
    exact Or.inl ⟨k, i1, i2⟩
def lh (ls : Array Slot) (nL : Nat) (a : Nat → Nat) (lo : List (Option Value)) : Prop := ls.size = nL ∧ lo.length = nL ∧ lv_wf ls ∧ ∀ (i : Nat) (v : Value), lo[i]? = some (some v) → ls[i]? = some (.val (ren a v))
def lvl (a : Nat → Nat) (lo : List (Option Value)) : List (Nat × Value) := (lo.mapIdx (fun i o => o.map (fun v => (i, ren a v)))).filterMap id
theorem lvl_mem {a : Nat → Nat} {lo : List (Option Value)} {q : Nat × Value} : q ∈ lvl a lo ↔ ∃ v, lo[q.1]? = some (some v) ∧ q.2 = ren a v := by
  unfold lvl
  rw [List.mem_filterMap]
  constructor
  · rintro ⟨o, ho, h2⟩
    obtain ⟨i, hi, rfl⟩ := List.mem_mapIdx.mp ho
    simp only [id_eq, Option.map_eq_some_iff] at h2
    obtain ⟨v, hv, rfl⟩ := h2
    exact ⟨v, by rw [← hv]; exact List.getElem?_eq_getElem hi, rfl⟩
  · rintro ⟨v, hv, h2⟩
    obtain ⟨hi, hg⟩ := List.getElem?_eq_some_iff.mp hv
    refine ⟨some q, List.mem_mapIdx.mpr ⟨q.1, hi, ?_⟩, rfl⟩
    rw [hg, Option.map_some, ← h2]
theorem lh_has {ls : Array Slot} {nL : Nat} {a : Nat → Nat} {lo : List (Option Value)} (h : lh ls nL a lo) : lv_has ls nL (lvl a lo) := by
  refine ⟨h.1, h.2.2.1, fun q hq => ?_⟩
  obtain ⟨v, hv, e⟩ := lvl_mem.mp hq
  rw [e]
  exact h.2.2.2 _ _ hv
def nw (lo : List (Option Value)) (i : Nat) : Bool := match i with
  | 0 => true
  | j + 1 => match lo[j]? with
    | some (some (.long _)) => false
    | some (some (.double _)) => false
    | _ => true
theorem ren_cat (a : Nat → Nat) (v : Value) : (ren a v).category = v.category := by cases v <;> rfl
theorem nw_ok {lo : List (Option Value)} {i : Nat} (h : nw lo i = true) {j : Nat} {v : Value} (hj : j + 1 = i) (hv : lo[j]? = some (some v)) : v.category = 1 := by
  subst hj
  unfold nw at h
  simp only [hv] at h
  cases v <;> first | rfl | cases h
theorem lh_st1 {ls : Array Slot} {nL : Nat} {a : Nat → Nat} {lo : List (Option Value)} {i : Nat} {w : Value} {ls' : Array Slot} (h : lh ls nL a lo) (hw : nw lo i = true) (hi : i < lo.length)
    (h' : lv_has ls' nL ((i, ren a w) :: (lvl a lo).filter (fun q => !(q.1 == i) && !(q.1 + 1 == i && q.2.category == 2)))) : lh ls' nL a (lo.set i (some w)) := by
  refine ⟨h'.1, by rw [List.length_set]; exact h.2.1, h'.2.1, fun j v hj => ?_⟩
  rw [List.getElem?_set] at hj
  by_cases e : i = j
  · subst e
    rw [if_pos rfl, if_pos hi] at hj
    have e9 : w = v := by simpa using hj
    rw [← e9]
    exact h'.2.2 (i, ren a w) List.mem_cons_self
  · rw [if_neg e] at hj
    refine h'.2.2 (j, ren a v) (List.mem_cons_of_mem _ (List.mem_filter.mpr ⟨lvl_mem.mpr ⟨v, hj, rfl⟩, ?_⟩))
    simp only [Bool.and_eq_true, Bool.not_eq_true', beq_eq_false_iff_ne, Bool.and_eq_false_iff]
    refine ⟨fun z => e z.symm, ?_⟩
    by_cases e2 : j + 1 = i
    · right
      rw [ren_cat, nw_ok hw e2 hj]
      decide
    · exact Or.inl e2
theorem lh_st2 {ls : Array Slot} {nL : Nat} {a : Nat → Nat} {lo : List (Option Value)} {i : Nat} {w : Value} {ls' : Array Slot} (h : lh ls nL a lo) (hw : nw lo i = true) (hi : i + 1 < lo.length)
    (h' : lv_has ls' nL ((i, ren a w) :: (lvl a lo).filter (fun q => !(q.1 == i) && (!(q.1 == i + 1) && !(q.1 + 1 == i && q.2.category == 2))))) : lh ls' nL a ((lo.set i (some w)).set (i + 1) none) := by
  refine ⟨h'.1, by rw [List.length_set, List.length_set]; exact h.2.1, h'.2.1, fun j v hj => ?_⟩
  rw [List.getElem?_set] at hj
  by_cases e1 : i + 1 = j
  · subst e1
    rw [if_pos rfl] at hj
    split at hj <;> simp at hj
  · rw [if_neg e1, List.getElem?_set] at hj
    by_cases e : i = j
    · subst e
      rw [if_pos rfl, if_pos (Nat.lt_of_succ_lt hi)] at hj
      have e9 : w = v := by simpa using hj
      rw [← e9]
      exact h'.2.2 (i, ren a w) List.mem_cons_self
    · rw [if_neg e] at hj
      refine h'.2.2 (j, ren a v) (List.mem_cons_of_mem _ (List.mem_filter.mpr ⟨lvl_mem.mpr ⟨v, hj, rfl⟩, ?_⟩))
      simp only [Bool.and_eq_true, Bool.not_eq_true', beq_eq_false_iff_ne, Bool.and_eq_false_iff]
      refine ⟨fun z => e z.symm, fun z => e1 z.symm, ?_⟩
      by_cases e2 : j + 1 = i
      · right
        rw [ren_cat, nw_ok hw e2 hj]
        decide
      · exact Or.inl e2
theorem lh_weak {ls : Array Slot} {nL : Nat} {a : Nat → Nat} {lo lo' : List (Option Value)} (h : lh ls nL a lo) (hl : lo'.length = lo.length) (hs : ∀ (i : Nat) (v : Value), lo'[i]? = some (some v) → lo[i]? = some (some v)) : lh ls nL a lo' :=
  ⟨h.1, hl.trans h.2.1, h.2.2.1, fun i v hv => h.2.2.2 i v (hs i v hv)⟩
