/-! ===== class and reference in one state: the relation that every call keeps ===== -/
def ShX (c j : Nat) (S : Nat → Nat) (σ : Sg) : Prop := (∀ k, tb (gL σ c j) k = decide (k < 60 ∧ S k % 2 = 1)) ∧ (∀ k, tb (gL σ (c + 1) j) k = decide (k < 60 ∧ 2 ≤ S k)) ∧ gI σ (c + 2) j = iI (S 60 : Int) ∧ gI σ (c + 3) j = iI (S 61 : Int) ∧ gI σ (c + 4) j = iI (S 62 : Int)
def runS (R B : Nat → Nat) : Nat → (Nat → Nat)
  | 0 => B
  | i + 1 => go R (runS R B i) (R (24 + i) + 1)
def Und (R : Nat → Nat) (σ : Sg) : Prop := ∃ (U : Nat → Nat → Nat) (n x : Nat), n ≤ 16 ∧ x < 16 ∧ gI σ 42 2 = iI (n : Int) ∧ gI σ 42 1 = iI (x : Int) ∧ gI σ 66 24 = iI (n : Int) ∧ ∀ i, i < n → WfS R (U i) ∧ ShX 44 ((x + 16 - n + i) % 16) (U i) σ ∧ ∀ k, k < 63 → gI σ 76 (63 * i + k) = iI (U i k : Int)
def Img (R : Nat → Nat) (σ : Sg) : Prop := ∃ (K : Nat → Nat → Nat) (n : Nat), n ≤ 3 ∧ gI σ 0 6 = iI (n : Int) ∧ gI σ 66 25 = iI (n : Int) ∧ ∀ i, i < n → WfS R (K i) ∧ ShX 50 i (K i) σ ∧ ∀ k, k < 63 → gI σ 77 (63 * i + k) = iI (K i k : Int)
def sgn (b : Nat) : Int := if b < 128 then (b : Int) else (b : Int) - 256
def Tap (σ : Sg) : Prop := ∃ (n : Nat) (T : Nat → Nat), n ≤ 900 ∧ gI σ 1 1 = iI (n : Int) ∧ gI σ 66 2 = iI (n : Int) ∧ ∀ k, k < n → T k < 256 ∧ gI σ 67 k = iI (T k : Int) ∧ gI σ 2 k = iI (sgn (T k))
def Trb (σ : Sg) : Prop := gI σ 0 10 = gI σ 66 11 ∧ gI σ 1 12 = gI σ 66 9 ∧ (gI σ 0 10 = 4 → gI σ 1 13 = gI σ 66 10)
def nxg (g : Nat → Bool) (s t : Nat) : Nat → Bool := fun k => g k || decide (min s t < k ∧ k < max s t)
abbrev Vs : Type := Nat × Nat × Nat × Nat
/-- the rows that can be made, as they are gone through: how many strides, where, its digits, folk lost -/
def vis (R : Nat → Nat) : Nat → Nat → (Nat → Bool) → Nat → Nat → List Vs
  | 0, made, g, s, row => [(made, s, row, lost R g)]
  | f + 1, made, g, s, row => (made, s, row, lost R g) :: (List.range (2 * R 2)).flatMap (fun i => match lead R g s (i + 1) with
    | none => []
    | some t => vis R f (made + 1) (nxg g s t) t (10 * row + (i + 1)))
def cmS (k : Nat) (acc : Option (Nat × Nat)) (v : Vs) : Option (Nat × Nat) := if v.2.1 = k then (match acc with
  | none => some (v.1, v.2.2.1)
  | some a => if v.1 < a.1 then some (v.1, v.2.2.1) else some a) else acc
def spS (k : Nat) (acc : Option (Nat × Nat × Nat)) (v : Vs) : Option (Nat × Nat × Nat) := if v.2.1 = k then (match acc with
  | none => some (v.2.2.2, v.1, v.2.2.1)
  | some a => if v.2.2.2 < a.1 ∨ (v.2.2.2 = a.1 ∧ v.1 < a.2.1) then some (v.2.2.2, v.1, v.2.2.1) else some a) else acc
def rcS (m k : Nat) (acc : Bool) (v : Vs) : Bool := acc || (decide (v.1 = m) && decide (v.2.1 = k))
def TbA (ca : Nat → Option (Nat × Nat)) (sa : Nat → Option (Nat × Nat × Nat)) (ar : Nat → Nat → Bool) (l0 : Nat) (σ : Sg) : Prop := (∀ k, k < 60 → (match ca k with
    | none => gI σ 56 k = iI (-2)
    | some a => gI σ 56 k = iI (a.1 : Int) ∧ gI σ 57 k = iI (a.2 : Int)) ∧ (match sa k with
    | none => gI σ 58 k = iI (-2) ∧ gI σ 60 k = iI (-2)
    | some a => gI σ 58 k = iI ((a.1 : Int) - (l0 : Int)) ∧ gI σ 59 k = iI (a.2.1 : Int) ∧ gI σ 60 k = iI (a.2.2 : Int))) ∧ ∀ m, m < 6 → tb (gL σ 61 m) = ar m
def Known (R : Nat → Nat) (g : Nat → Bool) (s : Nat) (σ : Sg) : Prop := TbA (fun k => (vis R 5 0 g s 0).foldl (cmS k) none) (fun k => (vis R 5 0 g s 0).foldl (spS k) none) (fun m k => (vis R 5 0 g s 0).foldl (rcS m k) false) (lost R g) σ
def Cache (R : Nat → Nat) (σ : Sg) : Prop := gI σ 55 7 = 0 ∨ (gI σ 55 7 = 10 ∧ ∃ s, s < R 0 ∧ gI σ 55 9 = iI (s : Int) ∧ Known R (tb (gL σ 55 8)) s σ)
def LandM (R S : Nat → Nat) (σ : Sg) : Prop := AR σ 69 189 R ∧ AR σ 74 63 S ∧ gI σ 66 14 = iI (if R 0 = 0 then 0 else 1)
def Beg (R B : Nat → Nat) (σ : Sg) : Prop := gI σ 10 2 = iI (B 60 : Int) ∧ AR σ 71 63 B ∧ (∀ k, k < 60 → B k = 0) ∧ (R 0 ≠ 0 → B 60 < R 0) ∧ (∀ i, i < R 4 → can R (runS R B i) (R (24 + i) + 1) = true) ∧ tb (gL σ 10 14) = gon (runS R B (R 4))
def Gd (R S : Nat → Nat) : Prop := (WfL R ∧ WfS R S) ∨ ((∀ k, R k = 0) ∧ ∀ k, S k = 0)
def Sim0 (R S B : Nat → Nat) (σ : Sg) : Prop := Gd R S ∧ LX 10 R σ ∧ SX 40 S σ ∧ LandM R S σ ∧ Beg R B σ ∧ Und R σ ∧ Img R σ ∧ Tap σ ∧ Cache R σ
def Sim (σ : Sg) : Prop := ∃ R S B, Sim0 R S B σ ∧ Trb σ
def simW : WL := lxW ++ [(0, some 6), (1, some 1), (1, some 12), (1, some 13), (2, none), (10, some 2), (10, some 14), (40, none), (42, some 1), (42, some 2), (44, none), (45, none), (46, none), (47, none), (48, none), (50, none), (51, none), (52, none), (53, none), (54, none), (55, some 7), (55, some 8), (55, some 9), (56, none), (57, none), (58, none), (59, none), (60, none), (61, none), (66, some 2), (66, some 9), (66, some 10), (66, some 14), (66, some 24), (66, some 25), (67, none), (69, none), (71, none), (74, none), (76, none), (77, none)]
theorem dis_sub {W V V' : WL} (h : dis W V = true) (hs : V'.all (fun e => V.elem e) = true) : dis W V' = true := by
  unfold dis at h ⊢
  rw [List.all_eq_true] at h hs ⊢
  intro e he
  exact h e (List.elem_iff.mp (hs e he))
theorem ShX.fr {c j : Nat} {S : Nat → Nat} {σ τ : Sg} {W : WL} (h : ShX c j S σ) (f : Fr W σ τ) (hw : dis W [(c, none), (c + 1, none), (c + 2, none), (c + 3, none), (c + 4, none)] = true) : ShX c j S τ := by
  obtain ⟨h1, h2, h3, h4, h5⟩ := h
  refine ⟨fun k => ?_, fun k => ?_, ?_, ?_, ?_⟩
  · rw [f.dL hw (by simp)]; exact h1 k
  · rw [f.dL hw (by simp)]; exact h2 k
  · rw [f.dI hw (by simp)]; exact h3
  · rw [f.dI hw (by simp)]; exact h4
  · rw [f.dI hw (by simp)]; exact h5
section FRS
variable {R S B : Nat → Nat} {σ τ : Sg} {W : WL}
theorem LandM.fr (h : LandM R S σ) (f : Fr W σ τ) (hw : dis W [(69, none), (74, none), (66, some 14)] = true) : LandM R S τ := by
  refine ⟨h.1.fr f (dis_sub hw rfl), h.2.1.fr f (dis_sub hw rfl), ?_⟩
  rw [f.dI hw (by simp)]; exact h.2.2
theorem Beg.fr (h : Beg R B σ) (f : Fr W σ τ) (hw : dis W [(71, none), (10, some 2), (10, some 14)] = true) : Beg R B τ := by
  refine ⟨?_, h.2.1.fr f (dis_sub hw rfl), h.2.2.1, h.2.2.2.1, h.2.2.2.2.1, ?_⟩
  · rw [f.dI hw (by simp)]; exact h.1
  · rw [f.dL hw (by simp)]; exact h.2.2.2.2.2
theorem Und.fr (h : Und R σ) (f : Fr W σ τ) (hw : dis W [(42, some 1), (42, some 2), (66, some 24), (76, none), (44, none), (45, none), (46, none), (47, none), (48, none)] = true) : Und R τ := by
  obtain ⟨U, n, x, h1, h2, h3, h4, h5, h6⟩ := h
  refine ⟨U, n, x, h1, h2, ?_, ?_, ?_, fun i hi => ⟨(h6 i hi).1, (h6 i hi).2.1.fr f (dis_sub hw rfl), fun k hk => ?_⟩⟩
  · rw [f.dI hw (by simp)]; exact h3
  · rw [f.dI hw (by simp)]; exact h4
  · rw [f.dI hw (by simp)]; exact h5
  · rw [f.dI hw (by simp)]; exact (h6 i hi).2.2 k hk
theorem Img.fr (h : Img R σ) (f : Fr W σ τ) (hw : dis W [(0, some 6), (66, some 25), (77, none), (50, none), (51, none), (52, none), (53, none), (54, none)] = true) : Img R τ := by
  obtain ⟨U, n, h1, h3, h5, h6⟩ := h
  refine ⟨U, n, h1, ?_, ?_, fun i hi => ⟨(h6 i hi).1, (h6 i hi).2.1.fr f (dis_sub hw rfl), fun k hk => ?_⟩⟩
  · rw [f.dI hw (by simp)]; exact h3
  · rw [f.dI hw (by simp)]; exact h5
  · rw [f.dI hw (by simp)]; exact (h6 i hi).2.2 k hk
theorem Tap.fr (h : Tap σ) (f : Fr W σ τ) (hw : dis W [(1, some 1), (66, some 2), (67, none), (2, none)] = true) : Tap τ := by
  obtain ⟨n, T, h1, h2, h3, h4⟩ := h
  refine ⟨n, T, h1, ?_, ?_, fun k hk => ⟨(h4 k hk).1, ?_, ?_⟩⟩
  · rw [f.dI hw (by simp)]; exact h2
  · rw [f.dI hw (by simp)]; exact h3
  · rw [f.dI hw (by simp)]; exact (h4 k hk).2.1
  · rw [f.dI hw (by simp)]; exact (h4 k hk).2.2
theorem TbA.fr {ca : Nat → Option (Nat × Nat)} {sa : Nat → Option (Nat × Nat × Nat)} {ar : Nat → Nat → Bool} {l0 : Nat} (h : TbA ca sa ar l0 σ) (f : Fr W σ τ) (hw : dis W [(56, none), (57, none), (58, none), (59, none), (60, none), (61, none)] = true) : TbA ca sa ar l0 τ := by
  refine ⟨fun k hk => ⟨?_, ?_⟩, fun m hm => ?_⟩
  · have := (h.1 k hk).1
    rw [f.dI hw (i := 56) (by simp), f.dI hw (i := 57) (by simp)]
    exact this
  · have := (h.1 k hk).2
    rw [f.dI hw (i := 58) (by simp), f.dI hw (i := 59) (by simp), f.dI hw (i := 60) (by simp)]
    exact this
  · rw [f.dL hw (by simp)]; exact h.2 m hm
theorem Cache.fr (h : Cache R σ) (f : Fr W σ τ) (hw : dis W [(55, some 7), (55, some 8), (55, some 9), (56, none), (57, none), (58, none), (59, none), (60, none), (61, none)] = true) : Cache R τ := by
  unfold Cache
  rw [f.dI hw (i := 55) (k := 7) (by simp), f.dI hw (i := 55) (k := 9) (by simp), f.dL hw (i := 55) (k := 8) (by simp)]
  rcases h with h | ⟨h, s, h1, h2, h3⟩
  · exact Or.inl h
  · exact Or.inr ⟨h, s, h1, h2, TbA.fr h3 f (dis_sub hw rfl)⟩
theorem Sim0.fr (h : Sim0 R S B σ) (f : Fr W σ τ) (hw : dis W simW = true) : Sim0 R S B τ := by
  obtain ⟨h0, h1, h2, h3, h4, h5, h6, h7, h8⟩ := h
  exact ⟨h0, h1.fr f (dis_sub hw rfl), h2.fr f (dis_sub hw rfl), h3.fr f (dis_sub hw rfl), h4.fr f (dis_sub hw rfl), h5.fr f (dis_sub hw rfl), h6.fr f (dis_sub hw rfl), h7.fr f (dis_sub hw rfl), h8.fr f (dis_sub hw rfl)⟩
theorem Sim0.gd (h : Sim0 R S B σ) : Gd R S := h.1
theorem Sim0.lx (h : Sim0 R S B σ) : LX 10 R σ := h.2.1
theorem Sim0.sx (h : Sim0 R S B σ) : SX 40 S σ := h.2.2.1
theorem Sim0.lm (h : Sim0 R S B σ) : LandM R S σ := h.2.2.2.1
theorem Sim0.bg (h : Sim0 R S B σ) : Beg R B σ := h.2.2.2.2.1
theorem Sim0.un (h : Sim0 R S B σ) : Und R σ := h.2.2.2.2.2.1
theorem Sim0.im (h : Sim0 R S B σ) : Img R σ := h.2.2.2.2.2.2.1
theorem Sim0.tp (h : Sim0 R S B σ) : Tap σ := h.2.2.2.2.2.2.2.1
theorem Sim0.ca (h : Sim0 R S B σ) : Cache R σ := h.2.2.2.2.2.2.2.2
theorem Gd.c (h : Gd R S) : R 0 ≤ 60 := by
  rcases h with h | h
  · exact h.1.c.2
  · rw [h.1]; omega
theorem Gd.wl (h : Gd R S) (h0 : R 0 ≠ 0) : WfL R := by
  rcases h with h | h
  · exact h.1
  · exact absurd (h.1 0) h0
theorem Gd.ws (h : Gd R S) (h0 : R 0 ≠ 0) : WfS R S := by
  rcases h with h | h
  · exact h.2
  · exact absurd (h.1 0) h0
theorem Gd.nb (h : Gd R S) : R 2 ≤ 3 := by
  rcases h with h | h
  · exact h.1.nb.2
  · rw [h.1]; omega
theorem Gd.nb0 (h : Gd R S) (h2 : 0 < R 2) : R 0 ≠ 0 := by
  rcases h with h | h
  · have := h.1.c; omega
  · rw [h.1] at h2; omega
theorem Gd.np (h : Gd R S) : R 3 ≤ 6 := by
  rcases h with h | h
  · exact h.1.np
  · rw [h.1]; omega
theorem Gd.np0 (h : Gd R S) (h2 : 0 < R 3) : R 0 ≠ 0 := by
  rcases h with h | h
  · have := h.1.c; omega
  · rw [h.1] at h2; omega
end FRS
/-! answers -/
def An (a : Int × Int) (z : Int32 × Sg) : Prop := z.1 = iI a.1 ∧ gI z.2 0 10 = iI a.2
def Am (a : Int × Int) (z : Int32 × Sg) : Prop := z.1 = iI a.1 ∧ gI z.2 66 11 = iI a.2
def Bn (a : Bool × Int) (z : Bool × Sg) : Prop := z.1 = a.1 ∧ gI z.2 0 10 = iI a.2
def Bm (a : Bool × Int) (z : Bool × Sg) : Prop := z.1 = a.1 ∧ gI z.2 66 11 = iI a.2
def Ln (a : Int64 × Int) (z : Int64 × Sg) : Prop := z.1 = a.1 ∧ gI z.2 0 10 = iI a.2
def Lm (a : Int64 × Int) (z : Int64 × Sg) : Prop := z.1 = a.1 ∧ gI z.2 66 11 = iI a.2
/-- both answer alike, and the relation stands -/
def Both {α : Type} (fx : Option (α × Sg)) (fm : Sg → Option (α × Sg)) : Prop := ok fx (fun z => ok (fm z.2) (fun y => z.1 = y.1 ∧ Sim y.2))
theorem Trb.of {σ : Sg} {t : Int} (h1 : gI σ 0 10 = iI t) (h2 : gI σ 66 11 = iI t) (ht : 0 ≤ t ∧ t ≤ 6 ∧ t ≠ 4) (h3 : gI σ 1 12 = gI σ 66 9) : Trb σ := by
  refine ⟨h1.trans h2.symm, h3, fun h => ?_⟩
  rw [h1, show (4 : Int32) = iI 4 from rfl, iI_eq (by omega) (by omega) (by omega) (by omega)] at h
  omega
theorem both_ro {α : Type} {fx : Option (α × Sg)} {fm : Sg → Option (α × Sg)} {Wx Wm : WL} {R S B : Nat → Nat} {σ : Sg} {Q : α → Prop} {t : Int} (h : Sim0 R S B σ) (hr : Trb σ) (hq : ∀ u v, Q u → Q v → u = v) (ht : 0 ≤ t ∧ t ≤ 6 ∧ t ≠ 4)
    (hx : ok fx (fun z => Q z.1 ∧ gI z.2 0 10 = iI t)) (wx : ∀ z, fx = some z → Fr Wx σ z.2) (dx : dis Wx simW = true)
    (hm : ∀ τ, Sim0 R S B τ → ok (fm τ) (fun y => Q y.1 ∧ gI y.2 66 11 = iI t)) (wm : ∀ τ y, fm τ = some y → Fr Wm τ y.2) (dm : dis Wm simW = true) (d0 : nin Wm 0 10 = true) : Both fx fm := by
  refine (hx.and wx).imp (fun z hz => ?_)
  have hs := h.fr hz.2 dx
  refine ((hm _ hs).and (wm _)).imp (fun y hy => ⟨hq _ _ hz.1.1 hy.1.1, R, S, B, hs.fr hy.2 dm, ?_⟩)
  refine Trb.of (t := t) ((hy.2.I 0 10 d0).trans hz.1.2) hy.1.2 ht ?_
  rw [hy.2.dI dm (i := 1) (k := 12) (Or.inl (List.elem_iff.mp rfl)), hy.2.dI dm (i := 66) (k := 9) (Or.inl (List.elem_iff.mp rfl)), hz.2.dI dx (i := 1) (k := 12) (Or.inl (List.elem_iff.mp rfl)), hz.2.dI dx (i := 66) (k := 9) (Or.inl (List.elem_iff.mp rfl))]
  exact hr.2.1
theorem sim_ro {fx : Option (Int32 × Sg)} {fm : Sg → Option (Int32 × Sg)} {Wx Wm : WL} {R S B : Nat → Nat} {σ : Sg} {a : Int × Int} (h : Sim0 R S B σ) (hr : Trb σ) (ht : 0 ≤ a.2 ∧ a.2 ≤ 6 ∧ a.2 ≠ 4)
    (hx : ok fx (An a)) (wx : ∀ z, fx = some z → Fr Wx σ z.2) (dx : dis Wx simW = true)
    (hm : ∀ τ, Sim0 R S B τ → ok (fm τ) (Am a)) (wm : ∀ τ y, fm τ = some y → Fr Wm τ y.2) (dm : dis Wm simW = true) (d0 : nin Wm 0 10 = true) : Both fx fm :=
  both_ro (Q := fun v => v = iI a.1) (t := a.2) h hr (fun u v h1 h2 => h1.trans h2.symm) ht hx wx dx hm wm dm d0
theorem sim_roL {fx : Option (Int64 × Sg)} {fm : Sg → Option (Int64 × Sg)} {Wx Wm : WL} {R S B : Nat → Nat} {σ : Sg} {a : Int64 × Int} (h : Sim0 R S B σ) (hr : Trb σ) (ht : 0 ≤ a.2 ∧ a.2 ≤ 6 ∧ a.2 ≠ 4)
    (hx : ok fx (Ln a)) (wx : ∀ z, fx = some z → Fr Wx σ z.2) (dx : dis Wx simW = true)
    (hm : ∀ τ, Sim0 R S B τ → ok (fm τ) (Lm a)) (wm : ∀ τ y, fm τ = some y → Fr Wm τ y.2) (dm : dis Wm simW = true) (d0 : nin Wm 0 10 = true) : Both fx fm :=
  both_ro (Q := fun v => v = a.1) (t := a.2) h hr (fun u v h1 h2 => h1.trans h2.symm) ht hx wx dx hm wm dm d0
/-! what calls are refused for -/
section TRO
variable {N : Nat} {R S : Nat → Nat} {σ : Sg}
theorem px_granted (N : Nat) {t : Int} (h1 : 0 ≤ t) (h2 : t ≤ 9) (σ : Sg) : f_x_granted N (iI t) σ = some (decide (t = 0), sI σ 0 10 (iI t)) := by
  unfold f_x_granted
  simp (disch := omega) only [nI_iI, iI_lit, iI_neg, iI_add, iI_sub, iI_mul, iI_eq]
  by_cases h : t = 0
  · rw [if_pos h]; simp [h]
  · rw [if_neg h]; simp [h]
def tL (R : Nat → Nat) : Int := if R 0 = 0 then 1 else 0
def tC (R : Nat → Nat) (z : Int) : Int := if 0 ≤ z ∧ z < R 0 then 0 else 1
def tB (R : Nat → Nat) (z : Int) : Int := if 0 ≤ z ∧ z < R 2 then 0 else 1
def tP (R : Nat → Nat) (z y : Int) : Int := if 0 ≤ z ∧ z < R 0 then tC R y else 1
def tW (R : Nat → Nat) (z w : Int) : Int := if 0 ≤ z ∧ z < R 2 then (if 0 ≤ w ∧ w ≤ 1 then 0 else 2) else 1
def tN (R : Nat → Nat) (z m : Int) : Int := if R 0 = 0 then 1 else if 0 ≤ z ∧ z ≤ m then 0 else 2
theorem tx_land (hc : gI σ 10 0 = iI (R 0 : Int)) (hR : R 0 ≤ 60) : f_x_landTrouble N σ = some (iI (tL R), σ) := by
  unfold f_x_landTrouble tL
  simp (disch := omega) only [hc, nI_iI, iI_lit, iI_neg, iI_add, iI_sub, iI_mul, iI_eq]
  by_cases h : R 0 = 0
  · rw [if_pos (by omega), if_pos h]
  · rw [if_neg (by omega), if_neg h]
theorem tx_cell (hc : gI σ 10 0 = iI (R 0 : Int)) (hR : R 0 ≤ 60) {z : Int} (h1 : -2147483648 ≤ z) (h2 : z < 2147483648) : f_x_cellTrouble N (iI z) σ = some (iI (tC R z), σ) := by
  unfold f_x_cellTrouble tC
  simp (disch := omega) only [hc, nI_iI, iI_lit, iI_neg, iI_add, iI_sub, iI_mul, iI_lt, iI_le, iI_eq, vin_iI, gA_iI, sA_iI, gM_iI, sM_iI]
  by_cases h : 0 ≤ z ∧ z < R 0
  · rw [if_neg (by omega), if_pos h.2, if_pos h]
  · rw [if_neg h]
    by_cases h3 : z < 0
    · rw [if_pos h3]
    · rw [if_neg h3, if_neg (by omega)]
theorem tx_boots (hc : gI σ 11 1 = iI (R 2 : Int)) (hR : R 2 ≤ 3) {z : Int} (h1 : -2147483648 ≤ z) (h2 : z < 2147483648) : f_x_bootsTrouble N (iI z) σ = some (iI (tB R z), σ) := by
  unfold f_x_bootsTrouble tB
  simp (disch := omega) only [hc, nI_iI, iI_lit, iI_neg, iI_add, iI_sub, iI_mul, iI_lt, iI_le, iI_eq, vin_iI, gA_iI, sA_iI, gM_iI, sM_iI]
  by_cases h : 0 ≤ z ∧ z < R 2
  · rw [if_neg (by omega), if_pos h.2, if_pos h]
  · rw [if_neg h]
    by_cases h3 : z < 0
    · rw [if_pos h3]
    · rw [if_neg h3, if_neg (by omega)]
theorem tx_pair (hc : gI σ 10 0 = iI (R 0 : Int)) (hR : R 0 ≤ 60) {z y : Int} (h1 : -2147483648 ≤ z) (h2 : z < 2147483648) (h3 : -2147483648 ≤ y) (h4 : y < 2147483648) : f_x_pairTrouble N (iI z) (iI y) σ = some (iI (tP R z y), σ) := by
  unfold f_x_pairTrouble tP
  rw [tx_cell hc hR h1 h2, Option.bind_some]
  dsimp only
  by_cases h : 0 ≤ z ∧ z < R 0
  · rw [show tC R z = 0 by unfold tC; rw [if_pos h], if_pos h, if_pos (show iI 0 = 0 from rfl), tx_cell hc hR h3 h4]
    rfl
  · rw [show tC R z = 1 by unfold tC; rw [if_neg h], if_neg h, if_neg (by decide)]
    rfl
theorem tx_way (hc : gI σ 11 1 = iI (R 2 : Int)) (hR : R 2 ≤ 3) {z y : Int} (h1 : -2147483648 ≤ z) (h2 : z < 2147483648) (h3 : -2147483648 ≤ y) (h4 : y < 2147483648) : f_x_strideTrouble N (iI z) (iI y) σ = some (iI (tW R z y), σ) := by
  unfold f_x_strideTrouble tW
  rw [tx_boots hc hR h1 h2, Option.bind_some]
  dsimp only
  by_cases h : 0 ≤ z ∧ z < R 2
  · rw [show tB R z = 0 by unfold tB; rw [if_pos h], if_pos h, if_pos (show iI 0 = 0 from rfl)]
    unfold f_x_wayTrouble
    simp (disch := omega) only [nI_iI, iI_lit, iI_neg, iI_add, iI_sub, iI_mul, iI_lt, iI_le, iI_eq, vin_iI, gA_iI, sA_iI, gM_iI, sM_iI]
    by_cases h3 : y < 0
    · rw [if_pos h3, if_neg (by omega)]; rfl
    · rw [if_neg h3]
      by_cases h4 : y ≤ 1
      · rw [if_pos h4, if_pos (by omega)]; rfl
      · rw [if_neg h4, if_neg (by omega)]; rfl
  · rw [show tB R z = 1 by unfold tB; rw [if_neg h], if_neg h, if_neg (by decide)]
    rfl
theorem tx_num (hc : gI σ 10 0 = iI (R 0 : Int)) (hR : R 0 ≤ 60) {z m : Int} (h1 : -2147483648 ≤ z) (h2 : z < 2147483648) (h3 : -2147483648 ≤ m) (h4 : m < 2147483648) : f_x_numberTrouble N (iI z) (iI m) σ = some (iI (tN R z m), σ) := by
  unfold f_x_numberTrouble tN
  rw [tx_land hc hR, Option.bind_some]
  dsimp only
  by_cases h : R 0 = 0
  · rw [show tL R = 1 by unfold tL; rw [if_pos h], if_pos h, if_neg (by decide)]
    rfl
  · rw [show tL R = 0 by unfold tL; rw [if_neg h], if_neg h, if_pos (show iI 0 = 0 from rfl)]
    simp (disch := omega) only [nI_iI, iI_lit, iI_neg, iI_add, iI_sub, iI_mul, iI_lt, iI_le, iI_eq, vin_iI, gA_iI, sA_iI, gM_iI, sM_iI]
    by_cases h3 : z < 0
    · rw [if_pos h3, if_neg (by omega)]
    · rw [if_neg h3]
      by_cases h4 : z ≤ m
      · rw [if_pos h4, if_pos (by omega)]
      · rw [if_neg h4, if_neg (by omega)]
theorem LX.tr {v : Int32} (h : LX 10 R σ) : LX 10 R (sI σ 0 10 v) := h.fr (W := [(0, some 10)]) (Fr.wI Fr.rf (by simp)) rfl
theorem SX.tr {v : Int32} {o : Nat} (h : SX o S σ) (ho : o ≠ 0) : SX o S (sI σ 0 10 v) := by
  refine ⟨h.1, h.2.1, ?_, ?_, ?_⟩
  · rw [gI_ne (fun q => ho q.1)]; exact h.2.2.1
  · rw [gI_ne (fun q => ho q.1)]; exact h.2.2.2.1
  · rw [gI_ne (fun q => ho q.1)]; exact h.2.2.2.2
/-- the reference begins anew -/
def an (σ : Sg) : Sg := sI (sI σ 66 0 0) 66 11 0
theorem pm_anew {β : Type} (k : Unit × Sg → Option β) : (f_m_anew N σ).bind k = k ((), an σ) := rfl
theorem an_fr : Fr [(66, some 0), (66, some 11)] σ (an σ) := Fr.wI (Fr.wI Fr.rf (by simp)) (by simp)
theorem an_t : gI (an σ) 66 11 = iI 0 := gI_eq
theorem LandM.an (h : LandM R S σ) : LandM R S (an σ) := h.fr an_fr rfl
theorem Sim0.an {B : Nat → Nat} (h : Sim0 R S B σ) : Sim0 R S B (an σ) := h.fr an_fr rfl
theorem LandM.has (h : LandM R S σ) : (gI σ 66 14 = 0) = (R 0 = 0) := by
  rw [h.2.2]
  by_cases h0 : R 0 = 0
  · rw [if_pos h0]; simp [h0]; rfl
  · rw [if_neg h0]; simp [h0]; decide
theorem LandM.hasB (h : LandM R S σ) : gI σ 66 14 = b2i (decide (R 0 ≠ 0)) := by
  rw [h.2.2]
  by_cases h0 : R 0 = 0
  · rw [if_pos h0]; simp [h0, b2i]; rfl
  · rw [if_neg h0]; simp [h0, b2i]; rfl
theorem pm_no {t : Int} : ((f_m_no N (iI t) σ).bind fun q3 => some (q3.1, q3.2)) = some (iI (-1), sI σ 66 11 (iI t)) := rfl
theorem pm_isCell (h : LandM R S σ) (hR : R 0 ≤ 60) {z : Int} (h1 : -2147483648 ≤ z) (h2 : z < 2147483648) : f_m_isCell N (iI z) σ = some (decide (0 ≤ z ∧ z < R 0), σ) := by
  unfold f_m_isCell
  have e := h.1.A (z := 0) 0 rfl (by omega) (by omega)
  rw [show gA σ 69 0 = iI (R 0 : Int) from e, show iI (R 0 : Int) - 1 = iI ((R 0 : Int) - 1) from iI_sub _ 1, show (0 : Int32) = iI 0 from rfl]
  by_cases h0 : R 0 = 0
  · rw [if_pos (by rw [show iI 0 = (0 : Int32) from rfl, h.has]; exact h0)]
    simp only [Option.some.injEq, Prod.mk.injEq, and_true]
    symm
    rw [decide_eq_false_iff_not]; omega
  · rw [if_neg (by rw [show iI 0 = (0 : Int32) from rfl, h.has]; exact h0), pm_in h1 h2 (by omega) (by omega) (by omega) (by omega), Option.bind_some]
    by_cases h3 : 0 ≤ z ∧ z < R 0
    · simp only
      rw [if_pos (by simp; omega)]; simp [h3]
    · simp only
      rw [if_neg (by simp; omega)]; simp [h3]
theorem pm_isBoots (h : LandM R S σ) (hR : R 2 ≤ 3) (h20 : 0 < R 2 → R 0 ≠ 0) {z : Int} (h1 : -2147483648 ≤ z) (h2 : z < 2147483648) : f_m_isBoots N (iI z) σ = some (decide (0 ≤ z ∧ z < R 2), σ) := by
  unfold f_m_isBoots
  have e := h.1.A (z := 2) 2 rfl (by omega) (by omega)
  rw [show gA σ 69 2 = iI (R 2 : Int) from e, show iI (R 2 : Int) - 1 = iI ((R 2 : Int) - 1) from iI_sub _ 1, show (0 : Int32) = iI 0 from rfl]
  by_cases h0 : R 0 = 0
  · rw [if_pos (by rw [show iI 0 = (0 : Int32) from rfl, h.has]; exact h0)]
    simp only [Option.some.injEq, Prod.mk.injEq, and_true]
    symm
    rw [decide_eq_false_iff_not]; omega
  · rw [if_neg (by rw [show iI 0 = (0 : Int32) from rfl, h.has]; exact h0), pm_in h1 h2 (by omega) (by omega) (by omega) (by omega), Option.bind_some]
    by_cases h3 : 0 ≤ z ∧ z < R 2
    · simp only
      rw [if_pos (by simp; omega)]; simp [h3]
    · simp only
      rw [if_neg (by simp; omega)]; simp [h3]
theorem pm_isPlace (h : LandM R S σ) (hR : R 3 ≤ 6) (h20 : 0 < R 3 → R 0 ≠ 0) {z : Int} (h1 : -2147483648 ≤ z) (h2 : z < 2147483648) : f_m_isPlace N (iI z) σ = some (decide (0 ≤ z ∧ z < R 3), σ) := by
  unfold f_m_isPlace
  have e := h.1.A (z := 3) 3 rfl (by omega) (by omega)
  rw [show gA σ 69 3 = iI (R 3 : Int) from e, show iI (R 3 : Int) - 1 = iI ((R 3 : Int) - 1) from iI_sub _ 1, show (0 : Int32) = iI 0 from rfl]
  by_cases h0 : R 0 = 0
  · rw [if_pos (by rw [show iI 0 = (0 : Int32) from rfl, h.has]; exact h0)]
    simp only [Option.some.injEq, Prod.mk.injEq, and_true]
    symm
    rw [decide_eq_false_iff_not]; omega
  · rw [if_neg (by rw [show iI 0 = (0 : Int32) from rfl, h.has]; exact h0), pm_in h1 h2 (by omega) (by omega) (by omega) (by omega), Option.bind_some]
    by_cases h3 : 0 ≤ z ∧ z < R 3
    · simp only
      rw [if_pos (by simp; omega)]; simp [h3]
    · simp only
      rw [if_neg (by simp; omega)]; simp [h3]
theorem pm_why (a b : Bool) : f_m_why N (b2i a) (b2i b) σ = some (iI (if a = false then 1 else if b = false then 2 else 0), σ) := by
  cases a <;> cases b <;> rfl
theorem pm_wayWhy (h : LandM R S σ) (hR : R 2 ≤ 3) (h20 : 0 < R 2 → R 0 ≠ 0) {z y : Int} (h1 : -2147483648 ≤ z) (h2 : z < 2147483648) (h3 : -2147483648 ≤ y) (h4 : y < 2147483648) : f_m_wayWhy N (iI z) (iI y) σ = some (iI (tW R z y), σ) := by
  unfold f_m_wayWhy
  rw [pm_isBoots h hR h20 h1 h2, Option.bind_some, show (0 : Int32) = iI 0 from rfl, show (1 : Int32) = iI 1 from rfl]
  simp only
  rw [pm_in h3 h4 (by omega) (by omega) (by omega) (by omega), Option.bind_some]
  simp only
  rw [pm_why, Option.bind_some]
  unfold tW
  by_cases e : 0 ≤ z ∧ z < R 2 <;> by_cases e2 : 0 ≤ y ∧ y ≤ 1 <;> simp [e, e2]
theorem pm_numWhy (h : LandM R S σ) {z m : Int} (h1 : -2147483648 ≤ z) (h2 : z < 2147483648) (h3 : -2147483648 ≤ m) (h4 : m < 2147483648) : ((f_m_in N (iI z) (iI 0) (iI m) σ).bind fun q1 => f_m_why N (gI σ 66 14) (b2i q1.1) q1.2) = some (iI (tN R z m), σ) := by
  rw [pm_in h1 h2 (by omega) (by omega) h3 h4, Option.bind_some]
  simp only
  rw [h.hasB, pm_why]
  unfold tN
  by_cases e : R 0 = 0 <;> by_cases e2 : 0 ≤ z ∧ z ≤ m <;> simp [e, e2]
end TRO
