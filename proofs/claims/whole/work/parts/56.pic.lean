/-! ===== the picture: a land R (as the reference's row r), a state S (as its row st) ===== -/
def AR (σ : Sg) (c n : Nat) (f : Nat → Nat) : Prop := ∀ k, k < n → gI σ c k = iI (f k : Int)
def WfL (R : Nat → Nat) : Prop := (8 ≤ R 0 ∧ R 0 ≤ 60) ∧ R 1 ≤ 100 ∧ (1 ≤ R 2 ∧ R 2 ≤ 3) ∧ R 3 ≤ 6 ∧ R 4 ≤ 8 ∧ R 5 ≤ 4 ∧ R 6 ≤ 6 ∧
  (∀ b, b < R 2 → 2 ≤ R (9 + b) ∧ R (9 + b) ≤ 9) ∧ (∀ p, p < R 3 → R (12 + 2 * p) < R 0 ∧ R (13 + 2 * p) ≤ 99) ∧ (∀ i, i < R 4 → R (24 + i) < 2 * R 2) ∧
  (∀ i, i < R 5 → 1 ≤ R (32 + i) ∧ R (32 + i) ≤ R 4) ∧ (∀ i j, i < j → j < R 5 → R (32 + i) ≠ R (32 + j)) ∧ (∀ i, i < R 6 → R (36 + 2 * i) < R 0 ∧ R (37 + 2 * i) ≤ 1) ∧ (∀ k, k < 60 → R (129 + k) ≤ 2)
section WF
variable {R : Nat → Nat} (h : WfL R)
theorem WfL.c (h : WfL R) : 8 ≤ R 0 ∧ R 0 ≤ 60 := h.1
theorem WfL.gout (h : WfL R) : R 1 ≤ 100 := h.2.1
theorem WfL.nb (h : WfL R) : 1 ≤ R 2 ∧ R 2 ≤ 3 := h.2.2.1
theorem WfL.np (h : WfL R) : R 3 ≤ 6 := h.2.2.2.1
theorem WfL.ns (h : WfL R) : R 4 ≤ 8 := h.2.2.2.2.1
theorem WfL.nu (h : WfL R) : R 5 ≤ 4 := h.2.2.2.2.2.1
theorem WfL.ne (h : WfL R) : R 6 ≤ 6 := h.2.2.2.2.2.2.1
theorem WfL.bt (h : WfL R) {b : Nat} (hb : b < R 2) : 2 ≤ R (9 + b) ∧ R (9 + b) ≤ 9 := h.2.2.2.2.2.2.2.1 b hb
theorem WfL.pl (h : WfL R) {p : Nat} (hb : p < R 3) : R (12 + 2 * p) < R 0 ∧ R (13 + 2 * p) ≤ 99 := h.2.2.2.2.2.2.2.2.1 p hb
theorem WfL.sd (h : WfL R) {i : Nat} (hb : i < R 4) : R (24 + i) < 2 * R 2 := h.2.2.2.2.2.2.2.2.2.1 i hb
theorem WfL.du (h : WfL R) {i : Nat} (hb : i < R 5) : 1 ≤ R (32 + i) ∧ R (32 + i) ≤ R 4 := h.2.2.2.2.2.2.2.2.2.2.1 i hb
theorem WfL.di (h : WfL R) {i j : Nat} (hi : i < j) (hj : j < R 5) : R (32 + i) ≠ R (32 + j) := h.2.2.2.2.2.2.2.2.2.2.2.1 i j hi hj
theorem WfL.se (h : WfL R) {i : Nat} (hb : i < R 6) : R (36 + 2 * i) < R 0 ∧ R (37 + 2 * i) ≤ 1 := h.2.2.2.2.2.2.2.2.2.2.2.2.1 i hb
theorem WfL.gd (h : WfL R) {k : Nat} (hk : k < 60) : R (129 + k) ≤ 2 := h.2.2.2.2.2.2.2.2.2.2.2.2.2 k hk
end WF
/-- a land of the class's -/
def LX (o : Nat) (R : Nat → Nat) (σ : Sg) : Prop :=
  gI σ o 0 = iI (R 0 : Int) ∧ gI σ o 1 = iI (R 1 : Int) ∧ gI σ (o + 1) 1 = iI (R 2 : Int) ∧ gI σ (o + 3) 1 = iI (R 3 : Int) ∧ gI σ (o + 5) 1 = iI (R 3 : Int) ∧ gI σ (o + 7) 1 = iI (R 4 : Int) ∧ gI σ (o + 9) 1 = iI (R 5 : Int) ∧ gI σ (o + 11) 1 = iI (R 6 : Int) ∧ gI σ (o + 13) 1 = iI (R 6 : Int) ∧
  (∀ b, b < R 2 → gI σ (o + 2) b = iI (R (9 + b) : Int)) ∧ (∀ p, p < R 3 → gI σ (o + 4) p = iI (R (12 + 2 * p) : Int) ∧ gI σ (o + 6) p = iI (R (13 + 2 * p) : Int)) ∧ (∀ i, i < R 4 → gI σ (o + 8) i = iI ((R (24 + i) : Int) + 1)) ∧ (∀ i, i < R 5 → gI σ (o + 10) i = iI ((R (32 + i) : Int) - 1)) ∧ (∀ i, i < R 6 → gI σ (o + 12) i = iI (R (36 + 2 * i) : Int) ∧ gI σ (o + 14) i = iI (R (37 + 2 * i) : Int)) ∧
  (∀ k, tb (gL σ o 4) k = decide (k < 60 ∧ R (129 + k) = 1)) ∧ (∀ k, tb (gL σ o 5) k = decide (k < 60 ∧ R (129 + k) = 2))
section LXS
variable {R : Nat → Nat} {σ : Sg}
theorem LX.c (h : LX 10 R σ) : gI σ 10 0 = iI (R 0 : Int) := h.1
theorem LX.gout (h : LX 10 R σ) : gI σ 10 1 = iI (R 1 : Int) := h.2.1
theorem LX.nb (h : LX 10 R σ) : gI σ 11 1 = iI (R 2 : Int) := h.2.2.1
theorem LX.np (h : LX 10 R σ) : gI σ 13 1 = iI (R 3 : Int) := h.2.2.2.1
theorem LX.nf (h : LX 10 R σ) : gI σ 15 1 = iI (R 3 : Int) := h.2.2.2.2.1
theorem LX.ns (h : LX 10 R σ) : gI σ 17 1 = iI (R 4 : Int) := h.2.2.2.2.2.1
theorem LX.nu (h : LX 10 R σ) : gI σ 19 1 = iI (R 5 : Int) := h.2.2.2.2.2.2.1
theorem LX.ne (h : LX 10 R σ) : gI σ 21 1 = iI (R 6 : Int) := h.2.2.2.2.2.2.2.1
theorem LX.ng (h : LX 10 R σ) : gI σ 23 1 = iI (R 6 : Int) := h.2.2.2.2.2.2.2.2.1
theorem LX.bt (h : LX 10 R σ) : ∀ b, b < R 2 → gI σ 12 b = iI (R (9 + b) : Int) := h.2.2.2.2.2.2.2.2.2.1
theorem LX.pl (h : LX 10 R σ) {p : Nat} (hp : p < R 3) : gI σ 14 p = iI (R (12 + 2 * p) : Int) := (h.2.2.2.2.2.2.2.2.2.2.1 p hp).1
theorem LX.fk (h : LX 10 R σ) {p : Nat} (hp : p < R 3) : gI σ 16 p = iI (R (13 + 2 * p) : Int) := (h.2.2.2.2.2.2.2.2.2.2.1 p hp).2
theorem LX.sd (h : LX 10 R σ) {i : Nat} (hi : i < R 4) : gI σ 18 i = iI ((R (24 + i) : Int) + 1) := h.2.2.2.2.2.2.2.2.2.2.2.1 i hi
theorem LX.du (h : LX 10 R σ) {i : Nat} (hi : i < R 5) : gI σ 20 i = iI ((R (32 + i) : Int) - 1) := h.2.2.2.2.2.2.2.2.2.2.2.2.1 i hi
theorem LX.sc (h : LX 10 R σ) {i : Nat} (hi : i < R 6) : gI σ 22 i = iI (R (36 + 2 * i) : Int) := (h.2.2.2.2.2.2.2.2.2.2.2.2.2.1 i hi).1
theorem LX.sg (h : LX 10 R σ) {i : Nat} (hi : i < R 6) : gI σ 24 i = iI (R (37 + 2 * i) : Int) := (h.2.2.2.2.2.2.2.2.2.2.2.2.2.1 i hi).2
theorem LX.bog (h : LX 10 R σ) (k : Nat) : tb (gL σ 10 4) k = decide (k < 60 ∧ R (129 + k) = 1) := h.2.2.2.2.2.2.2.2.2.2.2.2.2.2.1 k
theorem LX.wood (h : LX 10 R σ) (k : Nat) : tb (gL σ 10 5) k = decide (k < 60 ∧ R (129 + k) = 2) := h.2.2.2.2.2.2.2.2.2.2.2.2.2.2.2 k
def lxW : WL := [(10, some 0), (10, some 1), (10, some 4), (10, some 5), (11, some 1), (13, some 1), (15, some 1), (17, some 1), (19, some 1), (21, some 1), (23, some 1), (12, none), (14, none), (16, none), (18, none), (20, none), (22, none), (24, none)]
/-- W writes none of the slots of V -/
def dis (W V : WL) : Bool := V.all (fun e => W.all (fun f => !(Nat.beq f.1 e.1) || (match f.2, e.2 with | some a, some b => !(Nat.beq a b) | _, _ => false)))
theorem dis_nin {W V : WL} (h : dis W V = true) {i k : Nat} (hv : (i, some k) ∈ V ∨ (i, none) ∈ V) : nin W i k = true := by
  refine nin_mk fun f hf => ?_
  rcases hv with hv | hv
  · have h1 := List.all_eq_true.mp (List.all_eq_true.mp h _ hv) f hf
    obtain ⟨c, q⟩ := f
    cases q <;> simpa [nin1] using h1
  · have h1 := List.all_eq_true.mp (List.all_eq_true.mp h _ hv) f hf
    obtain ⟨c, q⟩ := f
    have h2 : c.beq i = false := by cases q <;> simpa using h1
    simp [nin1, h2]
theorem Fr.dI {W V : WL} {τ : Sg} (f : Fr W σ τ) (h : dis W V = true) {i k : Nat} (hv : (i, some k) ∈ V ∨ (i, none) ∈ V) : gI τ i k = gI σ i k := f.I i k (dis_nin h hv)
theorem Fr.dL {W V : WL} {τ : Sg} (f : Fr W σ τ) (h : dis W V = true) {i k : Nat} (hv : (i, some k) ∈ V ∨ (i, none) ∈ V) : gL τ i k = gL σ i k := f.L i k (dis_nin h hv)
theorem LX.fr {W : WL} {τ : Sg} (h : LX 10 R σ) (f : Fr W σ τ) (hw : dis W lxW = true) : LX 10 R τ := by
  obtain ⟨h1, h2, h3, h4, h5, h6, h7, h8, h9, h10, h11, h12, h13, h14, h15, h16⟩ := h
  refine ⟨?_, ?_, ?_, ?_, ?_, ?_, ?_, ?_, ?_, fun b hb => ?_, fun p hp => ⟨?_, ?_⟩, fun i hi => ?_, fun i hi => ?_, fun i hi => ⟨?_, ?_⟩, fun k => ?_, fun k => ?_⟩
  · rw [f.dI hw (by simp [lxW])]; exact h1
  · rw [f.dI hw (by simp [lxW])]; exact h2
  · rw [f.dI hw (by simp [lxW])]; exact h3
  · rw [f.dI hw (by simp [lxW])]; exact h4
  · rw [f.dI hw (by simp [lxW])]; exact h5
  · rw [f.dI hw (by simp [lxW])]; exact h6
  · rw [f.dI hw (by simp [lxW])]; exact h7
  · rw [f.dI hw (by simp [lxW])]; exact h8
  · rw [f.dI hw (by simp [lxW])]; exact h9
  · rw [f.dI hw (by simp [lxW])]; exact h10 b hb
  · rw [f.dI hw (by simp [lxW])]; exact (h11 p hp).1
  · rw [f.dI hw (by simp [lxW])]; exact (h11 p hp).2
  · rw [f.dI hw (by simp [lxW])]; exact h12 i hi
  · rw [f.dI hw (by simp [lxW])]; exact h13 i hi
  · rw [f.dI hw (by simp [lxW])]; exact (h14 i hi).1
  · rw [f.dI hw (by simp [lxW])]; exact (h14 i hi).2
  · rw [f.dL hw (by simp [lxW])]; exact h15 k
  · rw [f.dL hw (by simp [lxW])]; exact h16 k
end LXS
/-- a state of the class's, in the cell o -/
def SX (o : Nat) (S : Nat → Nat) (σ : Sg) : Prop := (∀ k, tb (gL σ o 0) k = decide (k < 60 ∧ S k % 2 = 1)) ∧ (∀ k, tb (gL σ o 1) k = decide (k < 60 ∧ 2 ≤ S k)) ∧ gI σ o 2 = iI (S 60 : Int) ∧ gI σ o 3 = iI (S 61 : Int) ∧ gI σ o 4 = iI (S 62 : Int)
def WfS (R S : Nat → Nat) : Prop := (∀ k, k < 60 → S k ≤ 3) ∧ (∀ k, R 0 ≤ k → k < 60 → S k = 0) ∧ S 60 < R 0 ∧ S 61 < R 0 ∧ S 62 ≤ 999
theorem SX.fr {o : Nat} {S : Nat → Nat} {σ τ : Sg} {W : WL} (h : SX o S σ) (f : Fr W σ τ) (hw : dis W [(o, none)] = true) : SX o S τ := by
  obtain ⟨h1, h2, h3, h4, h5⟩ := h
  refine ⟨fun k => ?_, fun k => ?_, ?_, ?_, ?_⟩
  · rw [f.dL hw (by simp)]; exact h1 k
  · rw [f.dL hw (by simp)]; exact h2 k
  · rw [f.dI hw (by simp)]; exact h3
  · rw [f.dI hw (by simp)]; exact h4
  · rw [f.dI hw (by simp)]; exact h5
theorem AR.fr {c n : Nat} {g : Nat → Nat} {σ τ : Sg} {W : WL} (h : AR σ c n g) (f : Fr W σ τ) (hw : dis W [(c, none)] = true) : AR τ c n g := fun k hk => by
  rw [f.dI hw (by simp)]; exact h k hk
def gon (S : Nat → Nat) (k : Nat) : Bool := decide (k < 60 ∧ 0 < S k)
theorem SX.gone {o : Nat} {S : Nat → Nat} {σ : Sg} (h : SX o S σ) (hs : ∀ k, k < 60 → S k ≤ 3) : tb (gL σ o 0 ||| gL σ o 1) = gon S := by
  funext k
  rw [tb_or, h.1, h.2.1, gon, ← Bool.decide_or]
  have := hs k
  exact decide_eq_decide.mpr (by omega)
theorem px_goneCells (N o : Nat) (σ : Sg) : f_state_goneCells N o σ = some (gL σ o 0 ||| gL σ o 1, σ) := rfl
/-! the land's words -/
theorem px_at {N a0 a1 a2 c i : Nat} {σ : Sg} (hc : gI σ a0 1 = iI (c : Int)) (hi : i < c) (hl : c ≤ a1) (ha : a1 < 1000) : f_numbers_at N a0 a1 a2 (iI (i : Int)) σ = some (gI σ a2 i, σ) := by
  unfold f_numbers_at
  simp (disch := omega) only [hc, nI_iI, iI_lit, iI_neg, iI_add, iI_sub, iI_mul, iI_lt, iI_le, iI_eq, vin_iI, gA_iI, sA_iI, gM_iI, sM_iI]
  repeat (first | rw [if_neg (by omega)] | rw [if_pos (by omega)])
  rfl
theorem px_at_out {N a0 a1 a2 c : Nat} {i : Int} {σ : Sg} (hc : gI σ a0 1 = iI (c : Int)) (h1 : -2147483648 ≤ i) (h2 : i < 2147483648) (hi : i < 0 ∨ c ≤ i) (hl : c ≤ a1) (ha : a1 < 1000) : f_numbers_at N a0 a1 a2 (iI i) σ = some (iI (-1), σ) := by
  unfold f_numbers_at
  simp (disch := omega) only [hc, nI_iI, iI_lit, iI_neg, iI_add, iI_sub, iI_mul, iI_lt, iI_le, iI_eq, vin_iI, gA_iI, sA_iI, gM_iI, sM_iI]
  by_cases h : i < 0
  · rw [if_pos h]
  · rw [if_neg h, if_pos (by omega)]
def lostB (R : Nat → Nat) (g : Nat → Bool) : Nat → Nat
  | 0 => 0
  | p + 1 => lostB R g p + (if g (R (12 + 2 * p)) = true then R (13 + 2 * p) else 0)
def lost (R : Nat → Nat) (g : Nat → Bool) : Nat := lostB R g (R 3)
theorem lostB_le {R : Nat → Nat} (hW : WfL R) (g : Nat → Bool) : ∀ p, p ≤ R 3 → lostB R g p ≤ 99 * p := by
  intro p
  induction p with
  | zero => intro _; exact Nat.le_refl _
  | succ p ih =>
    intro h
    have h1 := ih (by omega)
    have h2 := (hW.pl (p := p) (by omega)).2
    unfold lostB
    split <;> omega
theorem lost_le {R : Nat → Nat} (hW : WfL R) (g : Nat → Bool) : lost R g ≤ 594 := by
  have h1 := lostB_le hW g (R 3) (Nat.le_refl _)
  have h2 := hW.np
  unfold lost
  omega
theorem px_isLost {N : Nat} {R : Nat → Nat} {σ : Sg} (hL : LX 10 R σ) (hW : WfL R) (w : Int64) {p : Nat} (hp : p < R 3) : f_country_isLost N (iI (p : Int)) w σ = some (tb w (R (12 + 2 * p)), σ) := by
  have h1 := hW.np
  have h2 := hW.pl hp
  have h3 := hW.c
  unfold f_country_isLost
  rw [px_at hL.np hp (by omega) (by omega), Option.bind_some, hL.pl hp]
  simp only
  rw [px_bitN N w (by omega)]
  rfl
theorem px_lost {N : Nat} {R : Nat → Nat} {σ : Sg} (hN : 200000 ≤ N) (hL : LX 10 R σ) (hW : WfL R) (w : Int64) : f_country_lostFolk N w σ = some (iI (lost R (tb w) : Int), σ) := by
  have h1 := hW.np
  have key : ∀ n p, p ≤ R 3 → R 3 - p < n → f_country_lostFolk_L5 N n w (iI (lostB R (tb w) p : Int)) (iI (p : Int)) σ = some (iI (lost R (tb w) : Int), σ) := by
    intro n
    induction n with
    | zero => intro p _ h; omega
    | succ n ih =>
      intro p hp hn
      unfold f_country_lostFolk_L5
      simp (disch := omega) only [hL.np, nI_iI, iI_lit, iI_neg, iI_add, iI_sub, iI_mul, iI_lt, iI_le, iI_eq, vin_iI, gA_iI, sA_iI, gM_iI, sM_iI]
      by_cases h : p < R 3
      · have h2 := hW.pl h
        have h3 := ih (p + 1) (by omega) (by omega)
        rw [if_neg (by omega), px_isLost hL hW w h, Option.bind_some]
        simp only
        unfold lostB at h3
        by_cases ht : tb w (R (12 + 2 * p)) = true
        · rw [if_pos ht, px_at hL.nf h (by omega) (by omega), Option.bind_some, hL.fk h]
          simp only [iI_add]
          rw [if_pos ht] at h3
          exact h3
        · rw [if_neg ht]
          rw [if_neg ht] at h3
          exact h3
      · rw [if_pos (by omega)]
        have : p = R 3 := by omega
        subst this
        rfl
  exact key N 0 (by omega) (by omega)
def lead (R : Nat → Nat) (g : Nat → Bool) (s d : Nat) : Option Nat :=
  if d % 2 = 1 then (if s + R (9 + (d - 1) / 2) < R 0 ∧ g (s + R (9 + (d - 1) / 2)) = false then some (s + R (9 + (d - 1) / 2)) else none)
  else (if R (9 + (d - 1) / 2) ≤ s ∧ g (s - R (9 + (d - 1) / 2)) = false then some (s - R (9 + (d - 1) / 2)) else none)
def tg (o : Option Nat) : Int32 := match o with
  | none => iI (-2)
  | some t => iI (t : Int)
theorem lead_lt {R : Nat → Nat} {g : Nat → Bool} {s d t : Nat} (hs : s < R 0) (h : lead R g s d = some t) : t < R 0 := by
  unfold lead at h
  split at h <;> split at h
  · cases h; omega
  · cases h
  · cases h; omega
  · cases h
theorem lead_there {R : Nat → Nat} {g : Nat → Bool} {s d t : Nat} (h : lead R g s d = some t) : g t = false := by
  unfold lead at h
  split at h <;> split at h
  · cases h; rename_i q; exact q.2
  · cases h
  · cases h; rename_i q; exact q.2
  · cases h
theorem tg_cant {R : Nat → Nat} {g : Nat → Bool} {s d : Nat} (hs : s < R 0) (hC : R 0 ≤ 60) : tg (lead R g s d) = iI (-2) ↔ lead R g s d = none := by
  cases h : lead R g s d with
  | none => simp [tg]
  | some t =>
    have := lead_lt hs h
    simp only [tg]
    rw [iI_eq (by omega) (by omega) (by omega) (by omega)]
    simp
theorem px_target {N a0 a2 a3 : Nat} {R : Nat → Nat} {σ : Sg} (h0 : gI σ a3 0 = iI (R 0 : Int)) (h2 : gI σ a0 1 = iI (R 2 : Int)) (hb : ∀ b, b < R 2 → gI σ a2 b = iI (R (9 + b) : Int)) (hC : R 0 ≤ 60) (h3 : R 2 ≤ 3) (hb9 : ∀ b, b < R 2 → R (9 + b) ≤ 9) (w : Int64) {s d : Nat} (hs : s < R 0) (hd : 1 ≤ d) (hd2 : d ≤ 2 * R 2) :
    f_country_target N a0 3 a2 a3 w (iI (s : Int)) (iI (d : Int)) σ = some (tg (lead R (tb w) s d), σ) := by
  unfold f_country_target
  have hq : (d - 1) / 2 < R 2 := by omega
  have h9 := hb9 _ hq
  rw [show ((iI (d : Int)) - 1) / 2 = iI (((d - 1) / 2 : Nat) : Int) by
    simp (disch := omega) only [nI_iI, iI_lit, iI_neg, iI_add, iI_sub, iI_mul, iI_div]
    congr 1; omega]
  rw [px_at h2 hq (by omega) (by omega), Option.bind_some, hb _ hq]
  simp only
  rw [show iI (d : Int) - iI (d : Int) / 2 * 2 = iI ((d : Int) % 2) from iI_rem (b := 2) (by omega) (by omega) (by omega) (by omega)]
  unfold lead
  generalize R (9 + (d - 1) / 2) = l at *
  simp (disch := omega) only [h0, nI_iI, iI_lit, iI_neg, iI_add, iI_sub, iI_mul, iI_lt, iI_le, iI_eq, vin_iI, gA_iI, sA_iI, gM_iI, sM_iI]
  by_cases hp : d % 2 = 1
  · rw [if_pos (by omega), if_pos hp, if_neg (by omega)]
    by_cases hc : s + l < R 0
    · rw [if_neg (by omega), show ((s : Int) + (l : Int)) = ((s + l : Nat) : Int) by omega, px_bitN N w (by omega), Option.bind_some]
      simp only
      cases ht : tb w (s + l)
      · simp [hc, tg]
      · simp [tg]
    · rw [if_pos (by omega), if_neg (by omega)]
      rfl
  · rw [if_neg (by omega), if_neg hp]
    by_cases hc : l ≤ s
    · rw [if_neg (by omega), if_neg (by omega), show ((s : Int) - (l : Int)) = ((s - l : Nat) : Int) by omega, px_bitN N w (by omega), Option.bind_some]
      simp only
      cases ht : tb w (s - l)
      · simp [hc, tg]
      · simp [tg]
    · rw [if_pos (by omega), if_neg (by omega)]
      rfl
theorem px_tgt {N : Nat} {R : Nat → Nat} {σ : Sg} (hL : LX 10 R σ) (hW : WfL R) (w : Int64) {s d : Nat} (hs : s < R 0) (hd : 1 ≤ d) (hd2 : d ≤ 2 * R 2) : f_country_target N 11 3 12 10 w (iI (s : Int)) (iI (d : Int)) σ = some (tg (lead R (tb w) s d), σ) :=
  px_target hL.c hL.nb hL.bt hW.c.2 hW.nb.2 (fun b hb => (hW.bt hb).2) w hs hd hd2
