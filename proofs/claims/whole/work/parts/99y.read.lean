section ZRD
variable {N : Nat} {σ : Sg} {T : Nat → Nat} {L : Nat}
/-! the whole text -/
def zFq (T : Nat → Nat) (L : Nat) (q : zPS) : zE := zlF T L q.1 q.2.1 q.2.2.1 q.2.2.2.2.1 q.2.2.2.2.2.1 q.2.2.2.2.2.2
def zQq (T : Nat → Nat) (L : Nat) (q : zPS) : zPS := zlQ T L q.1 q.2.1 q.2.2.1 q.2.2.2.1 q.2.2.2.2.1 q.2.2.2.2.2.1 q.2.2.2.2.2.2
def zen (T : Nat → Nat) (L : Nat) (q : zPS) : (Nat × Nat) ⊕ zPS := if zkk T L q.1 = 0 then (if q.2.1 2 = 0 then .inl (6, zbb T L q.1) else .inr q) else .inl (1, zbb T L q.1)
def zrd (T : Nat → Nat) (L : Nat) : Nat → zPS → (Nat × Nat) ⊕ zPS
  | 0, _ => .inl (0, 0)
  | f + 1, q => match zFq T L q with
    | some x => .inl x
    | none => if zkk T L (zQq T L q).1 = 3 then zrd T L f (zee T L (zQq T L q).1, (zQq T L q).2) else zen T L (zQq T L q)
theorem zrd_bad {f : Nat} {q : zPS} {x : Nat × Nat} (h : zFq T L q = some x) : zrd T L (f + 1) q = .inl x := by
  conv => lhs; unfold zrd
  rw [h]
theorem zrd_go {f : Nat} {q : zPS} (h : zFq T L q = none) : zrd T L (f + 1) q = if zkk T L (zQq T L q).1 = 3 then zrd T L f (zee T L (zQq T L q).1, (zQq T L q).2) else zen T L (zQq T L q) := by
  conv => lhs; unfold zrd
  rw [h]
def zYq (q : zPS) (σ : Sg) : Prop := zY q.2.1 q.2.2.1 q.2.2.2.1 q.2.2.2.2.1 q.2.2.2.2.2.1 q.2.2.2.2.2.2 σ
def zXe (r : (Nat × Nat) ⊕ zPS) (σ : Sg) : Prop := match r with
  | .inl x => zFX x.1 x.2 σ
  | .inr q => zYq q σ
theorem zx_rd (hN : 200000 ≤ N) (hL : L ≤ 900) : ∀ (n f : Nat) (q : zPS) (i : Nat) (σ : Sg), zIq T L q → L - q.1 < f → L - q.1 < n → i ≤ q.1 → zXq T L q σ → zTX q.2.1 σ → ok (f_reader_read_L7 N n (iI (i : Int)) σ) (fun z => zXe (zrd T L f q) z.2) := by
  intro n
  induction n with
  | zero => intro f q i σ _ _ h; omega
  | succ n ih =>
    intro f q i σ hI hf hn hi hX hT
    obtain ⟨f, rfl⟩ : ∃ f', f = f' + 1 := ⟨f - 1, by omega⟩
    obtain ⟨p, R, S, B, nf, nt, sl⟩ := q
    have hp : p ≤ L := hI.1
    have hI2 : zIV T L R S B nf nt sl := hI.2
    have hX2 : zX T L p R S B nf nt sl σ := hX
    have hT2 : zTX R σ := hT
    have hi : i ≤ p := hi
    have hf : L - p < f + 1 := hf
    have hn : L - p < n + 1 := hn
    unfold f_reader_read_L7
    rw [hX2.1.1, if_neg (show ¬ iI (L : Int) < iI (i : Int) by rw [iI_lt (by omega) (by omega) (by omega) (by omega)]; omega), okB]
    refine (zx_next hN hL hp hX2.1 hX2.2.1).imp (fun q2 h2 => ?_)
    rw [okB]
    refine ((zx_line hN hL hp hI2 h2.2.1 h2.1 (hX2.2.2.fr h2.2.2 rfl) (fun k hk => (h2.2.2.I 3 k rfl).trans (hT2 k hk)))).imp (fun q3 h3 => ?_)
    cases e : zlF T L p R S nf nt sl with
    | some x =>
      obtain ⟨h31, h32⟩ := h3.2 x e
      rw [h31, if_neg Bool.false_ne_true, zrd_bad (T := T) (L := L) (q := (p, R, S, B, nf, nt, sl)) (x := x) e]
      exact okS.mpr h32
    | none =>
      obtain ⟨h31, h32, h33⟩ := h3.1 e
      obtain ⟨i1, i2⟩ := zi_line hp hI2 e
      rw [h31, if_pos rfl, okB, zrd_go (T := T) (L := L) (q := (p, R, S, B, nf, nt, sl)) e]
      change zXq T L (zQq T L (p, R, S, B, nf, nt, sl)) q3.2 at h32
      change zTX (zQq T L (p, R, S, B, nf, nt, sl)).2.1 q3.2 at h33
      change zIq T L (zQq T L (p, R, S, B, nf, nt, sl)) at i1
      change p < (zQq T L (p, R, S, B, nf, nt, sl)).1 at i2
      generalize zQq T L (p, R, S, B, nf, nt, sl) = q' at h32 h33 i1 i2 ⊢
      have hz := z_le (T := T) i1.1
      have hk := z_kk (T := T) (L := L) (p := q'.1)
      refine (zx_next hN hL i1.1 h32.1 h32.2.1).imp (fun q4 h4 => ?_)
      have hY : zYq q' q4.2 := h32.2.2.fr h4.2.2 rfl
      rw [h4.1.2.1]
      by_cases c3 : zkk T L q'.1 = 3
      · rw [if_pos (show iI (zkk T L q'.1 : Int) = 3 by rw [c3]; rfl), if_pos c3, show iI (i : Int) + 1 = iI ((i + 1 : Nat) : Int) from iI_add _ 1]
        exact ih f (zee T L q'.1, q'.2) (i + 1) q4.2 ⟨hz.2.2, i1.2⟩ (show L - zee T L q'.1 < f by omega) (show L - zee T L q'.1 < n by omega) (show i + 1 ≤ zee T L q'.1 by omega) ⟨h4.2.1, h4.1.2.2.1, hY⟩ (fun k hk => (h4.2.2.I 3 k rfl).trans (h33 k hk))
      · rw [if_neg (show ¬ iI (zkk T L q'.1 : Int) = 3 by rw [show (3 : Int32) = iI 3 from rfl, iI_eq (by omega) (by omega) (by omega) (by omega)]; omega), if_neg c3, okB]
        unfold f_reader_endText zen
        rw [h4.1.2.1]
        by_cases c0 : zkk T L q'.1 = 0
        · have hb := i1.2.1
          have h26 : gI q4.2 26 1 = iI (q'.2.1 2 : Int) := hY.2.1.2.2.1.1
          rw [if_pos (show iI (zkk T L q'.1 : Int) = 0 by rw [c0]; rfl), if_pos c0, h26]
          by_cases cb : q'.2.1 2 = 0
          · rw [if_pos (show iI (q'.2.1 2 : Int) = 0 by rw [cb]; rfl), if_pos cb, zx_fail (v := 6) (n := 6) rfl h4.1.1, Option.bind_some]
            exact okS.mpr (okS.mpr zx_ff)
          · rw [if_neg (show ¬ iI (q'.2.1 2 : Int) = 0 by have := hb.2.1; rw [show (0 : Int32) = iI 0 from rfl, iI_eq (by omega) (by omega) (by omega) (by omega)]; omega), if_neg cb]
            exact okS.mpr (okS.mpr hY)
        · rw [if_neg (show ¬ iI (zkk T L q'.1 : Int) = 0 by rw [show (0 : Int32) = iI 0 from rfl, iI_eq (by omega) (by omega) (by omega) (by omega)]; omega), if_neg c0, zx_fail (v := 1) (n := 1) rfl h4.1.1, Option.bind_some]
          exact okS.mpr (okS.mpr zx_ff)
/-! the reference's -/
def rlW : WL := [(66, some 4), (66, some 5), (66, some 6), (66, some 7), (66, some 8), (66, some 9), (66, some 10), (66, some 13), (68, none), (70, none), (72, none), (73, none)]
def zLO (T : Nat → Nat) (L : Nat) (r : (Nat × Nat) ⊕ zPS) (σ : Sg) : Prop := (∃ x, r = .inl x ∧ zMF x.1 x.2 σ) ∨ ∃ q, zIq T L q ∧ zMq T L q σ ∧ zkk T L q.1 ≠ 3 ∧ r = zen T L q
theorem zm_rd (hN : 200000 ≤ N) (hL : L ≤ 900) (hT : ∀ i, T i < 256) {k : Sg → Option (Int32 × Sg)} {P : Int32 × Sg → Prop} : ∀ (n f : Nat) (q : zPS) (τ : Sg), zIq T L q → L - q.1 < f → L - q.1 < n → zMq T L q τ → (∀ υ, zLO T L (zrd T L f q) υ → Fr rlW τ υ → ok (k υ) P) → ok ((f_m_readLine N τ).bind fun q6 => f_m_land_L98 N n q6.2 k) P := by
  intro n
  induction n with
  | zero => intro f q τ _ _ h; omega
  | succ n ih =>
    intro f q τ hI hf hn hM hk
    obtain ⟨f, rfl⟩ : ∃ f', f = f' + 1 := ⟨f - 1, by omega⟩
    obtain ⟨p, R, S, B, nf, nt, sl⟩ := q
    have hp : p ≤ L := hI.1
    have hI2 : zIV T L R S B nf nt sl := hI.2
    have hM2 : zM T L p R S B τ := hM
    have hf : L - p < f + 1 := hf
    have hn : L - p < n + 1 := hn
    rw [okB]
    refine ((zm_line hN hL hT hp hI2 hM2).and (fun z => w_f_m_readLine)).imp (fun q3 h3 => ?_)
    have F3 : Fr rlW τ q3.2 := h3.2
    unfold f_m_land_L98
    cases e : zlF T L p R S nf nt sl with
    | some x =>
      have hf := h3.1.2 x e
      rw [if_neg (ne10 hf.1)]
      refine hk q3.2 (Or.inl ⟨x, ?_, hf⟩) F3
      exact zrd_bad (x := x) e
    | none =>
      have h32 := h3.1.1 e
      obtain ⟨i1, i2⟩ := zi_line hp hI2 e
      have er := zrd_go (T := T) (L := L) (f := f) (q := (p, R, S, B, nf, nt, sl)) e
      change zMq T L (zQq T L (p, R, S, B, nf, nt, sl)) q3.2 at h32
      change zIq T L (zQq T L (p, R, S, B, nf, nt, sl)) at i1
      change p < (zQq T L (p, R, S, B, nf, nt, sl)).1 at i2
      generalize zQq T L (p, R, S, B, nf, nt, sl) = q' at h32 i1 i2 er
      have hz := z_le (T := T) i1.1
      have g := h32.1.2.1 rfl
      rw [if_pos g.1, g.2.2.2.1]
      by_cases c3 : zkk T L q'.1 = 3
      · rw [if_pos c3] at er
        rw [if_pos ((tkM3 z_kk).mpr c3), okB]
        refine (zm_nextG hN hL i1.1 h32.1.1 g).imp (fun q4 h4 => ?_)
        rw [er] at hk
        refine ih f (zee T L q'.1, q'.2) q4.2 ⟨hz.2.2, i1.2⟩ (show L - zee T L q'.1 < f by omega) (show L - zee T L q'.1 < n by omega) ⟨h4.1, h32.2.1.fr h4.2 rfl, h32.2.2.1.fr h4.2 rfl, fun q => (h32.2.2.2 q).fr h4.2 rfl⟩ (fun υ h5 f5 => hk υ h5 ((F3.tr (h4.2.mono rfl)).tr f5))
      · rw [if_neg c3] at er
        rw [if_neg (fun q => c3 ((tkM3 z_kk).mp q))]
        exact hk q3.2 (Or.inr ⟨q', i1, h32, c3, er⟩) F3
/-! faults have numbers 1 to 8 -/
def zEb (e : zE) : Prop := ∀ x, e = some x → 1 ≤ x.1 ∧ x.1 ≤ 8
theorem zEb.o : zEb none := fun x h => by cases h
theorem zEb.s {n a : Nat} (h1 : 1 ≤ n) (h2 : n ≤ 8) : zEb (some (n, a)) := fun x h => by cases h; exact ⟨h1, h2⟩
theorem zEb.wr {e : zE} {p w : Nat} (h : zEb e) : zEb (wrE T L e p w) := by
  cases e with
  | some x => exact h
  | none =>
    unfold wrE
    dsimp only
    split
    · exact zEb.o
    · exact zEb.s (by omega) (by omega)
theorem zEb.nu {e : zE} {p : Nat} {lo hi : Int} (h : zEb e) : zEb (nuE T L e p lo hi) := by
  cases e with
  | some x => exact h
  | none =>
    unfold nuE
    dsimp only
    split
    · split
      · exact zEb.o
      · exact zEb.s (by omega) (by omega)
    · exact zEb.s (by omega) (by omega)
theorem zEb.af {e : zE} {p w : Nat} {lo hi : Int} (h : zEb e) : zEb (afE T L e p w lo hi) := h.wr.nu
theorem zEb.dp {e : zE} {p : Nat} {x : Int} (h : zEb e) : zEb (dpE T L e p x) := by
  cases e with
  | some x => exact h
  | none =>
    unfold dpE
    dsimp only
    split
    · exact zEb.o
    · exact zEb.s (by omega) (by omega)
theorem zEb.w2 {e : zE} {p a b : Nat} (h : zEb e) : zEb (w2E T L e p a b) := by
  cases e with
  | some x => exact h
  | none =>
    unfold w2E
    dsimp only
    split
    · exact zEb.o
    · split
      · exact zEb.o
      · exact zEb.s (by omega) (by omega)
theorem zEb.cn {e : zE} {p : Nat} {b : Bool} (h : zEb e) : zEb (cnE T L e p b) := by
  cases e with
  | some x => exact h
  | none =>
    unfold cnE
    dsimp only
    split
    · exact zEb.o
    · exact zEb.s (by omega) (by omega)
theorem zEb.ne {p c : Nat} {nf nt : Nat → Nat} : zEb (neE T L p c nf nt) := by
  unfold neE
  split
  · split
    · exact zEb.o
    · exact zEb.s (by omega) (by omega)
  · exact zEb.s (by omega) (by omega)
theorem zFq_b {q : zPS} : zEb (zFq T L q) := by
  unfold zFq zlF
  split
  · exact zEb.s (by omega) (by omega)
  · split
    · unfold zlf
      split
      · exact (((zEb.o.af).af).af).af
      split
      · unfold zg3 zg2
        refine (zEb.nu ?_).nu
        unfold zg1
        repeat' split
        all_goals first | exact zEb.o | exact zEb.s (by omega) (by omega)
      split
      · exact zEb.ne.nu
      split
      · exact (zEb.ne.wr.nu.dp).af
      split
      · refine zEb.cn (zEb.w2 ?_)
        unfold zst1
        repeat' split
        all_goals first | exact zEb.o | exact zEb.s (by omega) (by omega)
      split
      · exact zEb.o.nu.dp
      · exact zEb.o.nu.dp.w2
    · rename_i h
      refine zEb.s (by omega) ?_
      unfold zhN
      repeat' split
      all_goals omega
theorem zen_b {q : zPS} {x : Nat × Nat} (h : zen T L q = .inl x) : 1 ≤ x.1 ∧ x.1 ≤ 8 := by
  unfold zen at h
  split at h
  · split at h
    · cases h; exact ⟨by omega, by omega⟩
    · cases h
  · cases h; exact ⟨by omega, by omega⟩
theorem zrd_b : ∀ (f : Nat) (q : zPS), zIq T L q → L - q.1 < f → (∀ x, zrd T L f q = .inl x → 1 ≤ x.1 ∧ x.1 ≤ 8) ∧ ∀ q', zrd T L f q = .inr q' → zIq T L q' ∧ q'.2.1 2 ≠ 0 := by
  intro f
  induction f with
  | zero => intro q _ h; omega
  | succ f ih =>
    intro q hI hf
    have hb := zFq_b (T := T) (L := L) (q := q)
    cases e : zFq T L q with
    | some x =>
      rw [zrd_bad e]
      exact ⟨fun y hy => by cases hy; exact hb x e, fun q' hq => by cases hq⟩
    | none =>
      obtain ⟨i1, i2⟩ := zi_line hI.1 hI.2 e
      change zIq T L (zQq T L q) at i1
      change q.1 < (zQq T L q).1 at i2
      rw [zrd_go e]
      have hz := z_le (T := T) i1.1
      by_cases c3 : zkk T L (zQq T L q).1 = 3
      · rw [if_pos c3]
        exact ih _ ⟨hz.2.2, i1.2⟩ (show L - zee T L (zQq T L q).1 < f by omega)
      · rw [if_neg c3]
        refine ⟨fun x hx => zen_b hx, fun q' hq => ?_⟩
        unfold zen at hq
        split at hq
        · split at hq
          · cases hq
          · cases hq; exact ⟨i1, ‹_›⟩
        · cases hq
end ZRD
