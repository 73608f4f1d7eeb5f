section ZDR
variable {N : Nat} {σ τ : Sg} {T R S B nf nt sl : Nat → Nat} {L : Nat}
def zup (R : Nat → Nat) (i v : Nat) : Nat → Nat := fun k => if k = i then v else R k
theorem zup_eq {i v : Nat} : zup R i v i = v := if_pos rfl
theorem zup_ne {i v k : Nat} (h : k ≠ i) : zup R i v k = R k := if_neg h
theorem AR.up {c n i : Nat} {v : Nat} {x w : Int32} (h : AR σ c n R) (hi : i < 2000) (hx : x = iI (i : Int)) (hw : w = iI (v : Int)) : AR (sA σ c x w) c n (zup R i v) := by
  intro k hk
  rw [hx, hw, sA_iI (by omega) (by omega), Int.toNat_natCast, gI_sI]
  unfold zup
  by_cases e : k = i
  · rw [if_pos ⟨rfl, e⟩, if_pos e]
  · rw [if_neg (fun q => e q.2), if_neg e]
    exact h k hk
/-! a few numbers in a row, of the class's -/
def zL (a c : Nat) (f : Nat → Int) (σ : Sg) : Prop := gI σ a 1 = iI (c : Int) ∧ ∀ i, i < c → gI σ (a + 1) i = iI (f i)
theorem zL.fr {a c : Nat} {f : Nat → Int} {W : WL} (h : zL a c f σ) (g : Fr W σ τ) (hw : dis W [(a, some 1), (a + 1, none)] = true) : zL a c f τ := by
  refine ⟨?_, fun i hi => ?_⟩
  · rw [g.dI hw (by simp)]; exact h.1
  · rw [g.dI hw (by simp)]; exact h.2 i hi
theorem zL.cg {a c d : Nat} {f g : Nat → Int} (h : zL a c f σ) (hc : d = c) (hf : ∀ i, i < c → g i = f i) : zL a d g σ := by
  subst hc
  exact ⟨h.1, fun i hi => by rw [hf i hi]; exact h.2 i hi⟩
theorem zL.add {a c m : Nat} {f g : Nat → Int} {v : Int32} (h : zL a c f σ) (hc : c < m) (hm : m < 1000) (hf : ∀ i, i < c → g i = f i) (hv : v = iI (g c)) : ok (f_numbers_add N a m (a + 1) v σ) (fun z => zL a (c + 1) g z.2 ∧ Fr [(a, some 1), (a + 1, none)] σ z.2) := by
  refine ok.and ?_ (fun z => w_f_numbers_add)
  unfold f_numbers_add
  rw [h.1, if_neg (show ¬ iI (c : Int) < 0 by rw [show (0 : Int32) = iI 0 from rfl, iI_lt (by omega) (by omega) (by omega) (by omega)]; omega), if_neg (show ¬ nI m ≤ iI (c : Int) by rw [nI_iI, iI_le (by omega) (by omega) (by omega) (by omega)]; omega), if_pos (show vin (iI (c : Int)) m by rw [vin_iI (by omega) (by omega)]; omega), sA_iI (by omega) (by omega), Int.toNat_natCast]
  refine okS.mpr ⟨?_, fun i hi => ?_⟩
  · rw [gI_eq, gI_ne (by omega), h.1]; exact iI_add _ 1
  · rw [gI_ne (by omega), gI_sI]
    by_cases e : i = c
    · rw [if_pos ⟨rfl, e⟩, e]; exact hv
    · rw [if_neg (fun q => e q.2), hf i (by omega)]
      exact h.2 i (by omega)
/-- bounds while a text is read -/
def zB (R : Nat → Nat) : Prop := R 0 ≤ 60 ∧ R 2 ≤ 3 ∧ R 3 ≤ 6 ∧ R 4 ≤ 8 ∧ R 5 ≤ 4 ∧ R 6 ≤ 6 ∧ R 7 ≤ 6
/-! the class's draft -/
def zDR (R : Nat → Nat) (σ : Sg) : Prop := gI σ 25 0 = iI (R 0 : Int) ∧ gI σ 25 1 = iI (R 1 : Int) ∧ zL 26 (R 2) (fun b => (R (9 + b) : Int)) σ ∧ zL 28 (R 3) (fun p => (R (12 + 2 * p) : Int)) σ ∧ zL 30 (R 3) (fun p => (R (13 + 2 * p) : Int)) σ ∧ zL 32 (R 4) (fun i => (R (24 + i) : Int) + 1) σ ∧ zL 34 (R 5) (fun i => (R (32 + i) : Int) - 1) σ ∧ zL 36 (R 6) (fun i => (R (36 + 2 * i) : Int)) σ ∧ zL 38 (R 6) (fun i => (R (37 + 2 * i) : Int)) σ ∧ (∀ k, tb (gL σ 25 4) k = decide (k < 60 ∧ R (129 + k) = 1)) ∧ ∀ k, tb (gL σ 25 5) k = decide (k < 60 ∧ R (129 + k) = 2)
def zdW : WL := [(25, some 0), (25, some 1), (26, some 1), (27, none), (28, some 1), (29, none), (30, some 1), (31, none), (32, some 1), (33, none), (34, some 1), (35, none), (36, some 1), (37, none), (38, some 1), (39, none), (25, some 4), (25, some 5)]
theorem zDR.fr {W : WL} (h : zDR R σ) (g : Fr W σ τ) (hw : dis W zdW = true) : zDR R τ := by
  obtain ⟨h1, h2, h3, h4, h5, h6, h7, h8, h9, h10, h11⟩ := h
  refine ⟨?_, ?_, h3.fr g (dis_sub hw rfl), h4.fr g (dis_sub hw rfl), h5.fr g (dis_sub hw rfl), h6.fr g (dis_sub hw rfl), h7.fr g (dis_sub hw rfl), h8.fr g (dis_sub hw rfl), h9.fr g (dis_sub hw rfl), fun k => ?_, fun k => ?_⟩
  · rw [g.dI hw (by simp [zdW])]; exact h1
  · rw [g.dI hw (by simp [zdW])]; exact h2
  · rw [g.dL hw (by simp [zdW])]; exact h10 k
  · rw [g.dL hw (by simp [zdW])]; exact h11 k
def zSB (S B : Nat → Nat) (σ : Sg) : Prop := gI σ 25 2 = iI (B 60 : Int) ∧ gI σ 25 3 = iI (S 61 : Int) ∧ gI σ 25 13 = iI (S 60 : Int) ∧ tb (gL σ 25 14) = gon S
theorem zSB.fr {W : WL} (h : zSB S B σ) (g : Fr W σ τ) (hw : dis W [(25, some 2), (25, some 3), (25, some 13), (25, some 14)] = true) : zSB S B τ := by
  obtain ⟨h1, h2, h3, h4⟩ := h
  refine ⟨?_, ?_, ?_, ?_⟩
  · rw [g.dI hw (by simp)]; exact h1
  · rw [g.dI hw (by simp)]; exact h2
  · rw [g.dI hw (by simp)]; exact h3
  · rw [g.dL hw (by simp)]; exact h4
def zbn (s : Nat) : Int := if s < 3 then (s : Int) else -1
def zNM (c : Nat) (nf nt sl : Nat → Nat) (σ : Sg) : Prop := zL 4 c (fun i => (nf i : Int)) σ ∧ zL 6 c (fun i => (nt i : Int)) σ ∧ zL 8 c (fun i => zbn (sl i)) σ
theorem zNM.fr {W : WL} {c : Nat} (h : zNM c nf nt sl σ) (g : Fr W σ τ) (hw : dis W [(4, some 1), (5, none), (6, some 1), (7, none), (8, some 1), (9, none)] = true) : zNM c nf nt sl τ :=
  ⟨h.1.fr g (dis_sub hw rfl), h.2.1.fr g (dis_sub hw rfl), h.2.2.fr g (dis_sub hw rfl)⟩
/-- all of the class's that a line may change -/
def zY (R S B nf nt sl : Nat → Nat) (σ : Sg) : Prop := gI σ 1 12 = 0 ∧ zDR R σ ∧ zSB S B σ ∧ zNM (R 2 + R 3) nf nt sl σ
def zyW : WL := [(1, some 12), (25, some 0), (25, some 1), (26, some 1), (27, none), (28, some 1), (29, none), (30, some 1), (31, none), (32, some 1), (33, none), (34, some 1), (35, none), (36, some 1), (37, none), (38, some 1), (39, none), (25, some 4), (25, some 5), (25, some 2), (25, some 3), (25, some 13), (25, some 14), (4, some 1), (5, none), (6, some 1), (7, none), (8, some 1), (9, none)]
theorem zY.fr {W : WL} (h : zY R S B nf nt sl σ) (g : Fr W σ τ) (hw : dis W zyW = true) : zY R S B nf nt sl τ := by
  refine ⟨?_, h.2.1.fr g (dis_sub hw rfl), h.2.2.1.fr g (dis_sub hw rfl), h.2.2.2.fr g (dis_sub hw rfl)⟩
  rw [g.dI hw (by simp [zyW])]; exact h.1
/-- between tokens -/
def zX (T : Nat → Nat) (L p : Nat) (R S B nf nt sl : Nat → Nat) (σ : Sg) : Prop := TxX T L σ ∧ gI σ 1 5 = iI (p : Int) ∧ zY R S B nf nt sl σ
/-! how a line ends -/
def zXO (e : zE) (D : Sg → Prop) (z : Bool × Sg) : Prop := (e = none → z.1 = true ∧ D z.2) ∧ ∀ x, e = some x → z.1 = false ∧ zFX x.1 x.2 z.2
theorem zXO.bad {e : zE} {D : Sg → Prop} {x : Nat × Nat} (he : e = some x) (h2 : zFX x.1 x.2 σ) : zXO e D (false, σ) := ⟨fun h => (by rw [he] at h; cases h), fun y hy => by rw [he] at hy; cases hy; exact ⟨rfl, h2⟩⟩
theorem zXO.good {e : zE} {D : Sg → Prop} (he : e = none) (h2 : D σ) : zXO e D (true, σ) := ⟨fun _ => ⟨rfl, h2⟩, fun y hy => by rw [he] at hy; cases hy⟩
def zMO (e : zE) (D : Sg → Prop) (σ : Sg) : Prop := (e = none → D σ) ∧ ∀ x, e = some x → zMF x.1 x.2 σ
theorem zMO.bad {e : zE} {D : Sg → Prop} {x : Nat × Nat} (he : e = some x) (h2 : zMF x.1 x.2 σ) : zMO e D σ := ⟨fun h => (by rw [he] at h; cases h), fun y hy => by rw [he] at hy; cases hy; exact h2⟩
theorem zMO.good {e : zE} {D : Sg → Prop} (he : e = none) (h2 : D σ) : zMO e D σ := ⟨fun _ => h2, fun y hy => by rw [he] at hy; cases hy⟩
def zM (T : Nat → Nat) (L : Nat) (p : Nat) (R S B : Nat → Nat) (σ : Sg) : Prop := zMS T L none p σ ∧ AR σ 70 189 R ∧ AR σ 73 63 S ∧ (R 8 ≠ 0 → AR σ 72 63 B)
/-! the land line -/
def ld1 (T : Nat → Nat) (L p : Nat) : zE := afE T L none p 7 8 60
def ldp (T : Nat → Nat) (L p : Nat) : Nat := zee T L (zee T L p)
def ldv (T : Nat → Nat) (L p : Nat) : Nat := zvv T L (zee T L p)
def ld2 (T : Nat → Nat) (L p : Nat) : zE := afE T L (ld1 T L p) (ldp T L p) 8 0 ((ldv T L p : Int) - 1)
def ld3 (T : Nat → Nat) (L p : Nat) : zE := afE T L (ld2 T L p) (ldp T L (ldp T L p)) 9 0 ((ldv T L p : Int) - 1)
def ld4 (T : Nat → Nat) (L p : Nat) : zE := afE T L (ld3 T L p) (ldp T L (ldp T L (ldp T L p))) 10 0 100
theorem ldp_le {p : Nat} (hp : p ≤ L) : ldp T L p ≤ L := (z_le (z_le hp).2.2).2.2
def ldR (T : Nat → Nat) (L p : Nat) (R : Nat → Nat) : Nat → Nat := zup (zup (zup R 0 (ldv T L p)) 1 (ldv T L (ldp T L (ldp T L (ldp T L p))))) 8 1
def ldS1 (T : Nat → Nat) (L p : Nat) (S : Nat → Nat) : Nat → Nat := zup (zup S 60 (ldv T L (ldp T L p))) 61 (ldv T L (ldp T L (ldp T L p)))
end ZDR
