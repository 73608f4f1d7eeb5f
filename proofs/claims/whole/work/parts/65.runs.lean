/-! ===== stretches and gaps ===== -/
def RL (p : Nat → Bool) (k d : Nat) : Prop := (∀ j, k ≤ j → j < k + d → p j = true) ∧ p (k + d) = false
theorem RL.un {p : Nat → Bool} {k d e : Nat} (h : RL p k d) (h2 : RL p k e) : d = e := by
  by_cases c1 : d < e
  · have := h2.1 (k + d) (by omega) (by omega)
    rw [h.2] at this; cases this
  · by_cases c2 : e < d
    · have := h.1 (k + e) (by omega) (by omega)
      rw [h2.2] at this; cases this
    · omega
theorem RL.sub {p : Nat → Bool} {k d s : Nat} (h : RL p k d) (h1 : k ≤ s) (h2 : s ≤ k + d) : RL p s (k + d - s) := by
  refine ⟨fun j h3 h4 => h.1 j (by omega) (by omega), ?_⟩
  rw [show s + (k + d - s) = k + d by omega]; exact h.2
/-- the longest run that begins below k, the first such -/
def Best (p : Nat → Bool) (k m : Nat) (b : Int) : Prop := (∀ s, s < k → ∀ d, RL p s d → d ≤ m) ∧ ((m = 0 ∧ b = -2) ∨ (0 < m ∧ ∃ q, b = (q : Nat) ∧ q < k ∧ RL p q m ∧ ∀ s, s < q → ∀ d, RL p s d → d < m))
theorem Best.un {p : Nat → Bool} {n k l m m' : Nat} {b b' : Int} (hp : ∀ j, n ≤ j → p j = false) (hk : n ≤ k) (hl : n ≤ l) (h : Best p k m b) (h' : Best p l m' b') : m = m' ∧ b = b' := by
  have lt : ∀ {q d : Nat}, RL p q d → 0 < d → q < n := fun {q d} hr hd => by
    by_cases c : q < n
    · exact c
    · have := hr.1 q (by omega) (by omega)
      rw [hp q (by omega)] at this; cases this
  rcases h.2 with ⟨h1, h2⟩ | ⟨h1, q, h2, h3, h4, h5⟩
  · rcases h'.2 with ⟨g1, g2⟩ | ⟨g1, r, g2, g3, g4, g5⟩
    · exact ⟨by omega, by rw [h2, g2]⟩
    · have := h.1 r (by have := lt g4 g1; omega) _ g4
      omega
  · rcases h'.2 with ⟨g1, g2⟩ | ⟨g1, r, g2, g3, g4, g5⟩
    · have := h'.1 q (by have := lt h4 h1; omega) _ h4
      omega
    · have e1 := h.1 r (by have := lt g4 g1; omega) _ g4
      have e2 := h'.1 q (by have := lt h4 h1; omega) _ h4
      have e : m = m' := by omega
      subst e
      refine ⟨rfl, ?_⟩
      rw [h2, g2]
      by_cases c1 : q < r
      · have := g5 q c1 _ h4; omega
      · by_cases c2 : r < q
        · have := h5 r c2 _ g4; omega
        · have : q = r := by omega
          rw [this]
theorem Best.step {p : Nat → Bool} {k m d : Nat} {b : Int} (h : Best p k m b) (hr : RL p k d) : Best p (k + d + 1) (if d ≤ m then m else d) (if d ≤ m then b else (k : Int)) := by
  have hs : ∀ s, k ≤ s → s < k + d + 1 → ∀ e, RL p s e → e ≤ d := fun s h1 h2 e he => by
    have := (hr.sub h1 (by omega)).un he
    omega
  by_cases c : d ≤ m
  · rw [if_pos c, if_pos c]
    refine ⟨fun s h1 e he => ?_, ?_⟩
    · by_cases c2 : s < k
      · exact h.1 s c2 e he
      · have := hs s (by omega) h1 e he; omega
    · rcases h.2 with h2 | ⟨h1, q, h2, h3, h4, h5⟩
      · exact Or.inl h2
      · exact Or.inr ⟨h1, q, h2, by omega, h4, h5⟩
  · rw [if_neg c, if_neg c]
    refine ⟨fun s h1 e he => ?_, Or.inr ⟨by omega, k, rfl, by omega, hr, fun s h1 e he => ?_⟩⟩
    · by_cases c2 : s < k
      · have := h.1 s c2 e he; omega
      · exact hs s (by omega) h1 e he
    · have := h.1 s h1 e he; omega
section RUNS
variable {N : Nat} {R S : Nat → Nat} {σ : Sg}
theorem px_runFrom (hN : 200000 ≤ N) {w : Int64} {k : Nat} (hk : k ≤ 60) (hp : ∀ j, 60 ≤ j → tb w j = false) : ∃ d, RL (tb w) k d ∧ k + d ≤ 60 ∧ f_x_runFrom N w (iI (k : Int)) σ = some (iI (d : Int), σ) := by
  have key : ∀ n e, k + e ≤ 60 → 60 - (k + e) < n → (∀ j, k ≤ j → j < k + e → tb w j = true) → ∃ d, RL (tb w) k d ∧ k + d ≤ 60 ∧ f_x_runFrom_L5 N n w (iI (e : Int)) (iI ((k + e : Nat) : Int)) σ = some (iI (d : Int), σ) := by
    intro n
    induction n with
    | zero => intro e _ h; omega
    | succ n ih =>
      intro e he hn hj
      unfold f_x_runFrom_L5
      rw [px_bitN N w (by omega), Option.bind_some]
      dsimp only
      simp (disch := omega) only [nI_iI, iI_lit, iI_neg, iI_add, iI_sub, iI_mul, iI_lt, iI_le, iI_eq, vin_iI]
      by_cases c : k + e = 60
      · rw [if_pos (by omega)]
        exact ⟨e, ⟨hj, by rw [c]; exact hp 60 (by omega)⟩, by omega, rfl⟩
      · rw [if_neg (by omega)]
        by_cases t : tb w (k + e) = true
        · rw [if_pos t]
          have h := ih (e + 1) (by omega) (by omega) (fun j h1 h2 => by
            by_cases c2 : j = k + e
            · rw [c2]; exact t
            · exact hj j h1 (by omega))
          exact h
        · rw [if_neg t]
          exact ⟨e, ⟨hj, by simpa using t⟩, by omega, rfl⟩
  have h := key N 0 (by omega) (by omega) (fun j h1 h2 => by omega)
  exact h
theorem px_longestRun (hN : 200000 ≤ N) {w : Int64} (hp : ∀ j, 60 ≤ j → tb w j = false) : ∃ m b, Best (tb w) 60 m b ∧ f_x_longestRun N w σ = some (iI b, σ) := by
  have key : ∀ n k m b, k ≤ 61 → 61 - k < n → m ≤ 60 → Best (tb w) k m b → ∃ k' m' b', 60 ≤ k' ∧ Best (tb w) k' m' b' ∧ f_x_longestRun_L8 N n w (iI b) (iI (m : Int)) (iI (k : Int)) σ = some (iI b', σ) := by
    intro n
    induction n with
    | zero => intro k m b _ h; omega
    | succ n ih =>
      intro k m b hk hn hm hb
      unfold f_x_longestRun_L8
      by_cases c : 60 ≤ k
      · simp (disch := omega) only [nI_iI, iI_lit, iI_neg, iI_add, iI_sub, iI_mul, iI_lt, iI_le, iI_eq, vin_iI]
        rw [if_pos (by omega)]
        exact ⟨k, m, b, c, hb, rfl⟩
      · obtain ⟨d, hd, hd2, e⟩ := px_runFrom (N := N) (σ := σ) hN (w := w) (k := k) (by omega) hp
        rw [e, Option.bind_some]
        dsimp only
        simp (disch := omega) only [nI_iI, iI_lit, iI_neg, iI_add, iI_sub, iI_mul, iI_lt, iI_le, iI_eq, vin_iI]
        rw [if_neg (by omega)]
        have hs := hb.step hd
        by_cases c2 : d ≤ m
        · rw [if_pos (by omega)]
          rw [if_pos c2, if_pos c2] at hs
          exact ih (k + d + 1) m b (by omega) (by omega) hm hs
        · rw [if_neg (by omega)]
          rw [if_neg c2, if_neg c2] at hs
          exact ih (k + d + 1) d (k : Int) (by omega) (by omega) (by omega) hs
  have h0 : Best (tb w) 0 0 (-2) := ⟨fun s h => by omega, Or.inl ⟨rfl, rfl⟩⟩
  obtain ⟨k', m', b', h1, h2, h3⟩ := key N 0 0 (-2) (by omega) (by omega) (by omega) h0
  refine ⟨m', b', ⟨fun s hs d hd => h2.1 s (by omega) d hd, ?_⟩, h3⟩
  rcases h2.2 with h | ⟨g1, q, g2, g3, g4, g5⟩
  · exact Or.inl h
  · refine Or.inr ⟨g1, q, g2, ?_, g4, g5⟩
    by_cases c : q < 60
    · exact c
    · have := g4.1 q (by omega) (by omega)
      rw [hp q (by omega)] at this; cases this
def stp (p : Nat → Bool) (k : Nat) : Bool := p k && !(decide (0 < k) && p (k - 1))
/-- the cells that are so, of the land -/
def isg (R S : Nat → Nat) (gaps : Bool) (k : Nat) : Bool := decide (k < R 0) && (gon S k == gaps)
theorem pm_seekRuns (hN : 200000 ≤ N) (hR : AR σ 69 189 R) (hS : AR σ 74 63 S) (hC : R 0 ≤ 60) (hr : ∀ k, k < 60 → S k < 2147483648) (g : Bool) : ok (f_m_seekRuns N (b2i g) σ) (fun z => gI z.2 66 28 = iI (cnt (stp (isg R S g)) (R 0 + 1) : Int) ∧ ∃ m b, Best (isg R S g) (R 0 + 1) m b ∧ gI z.2 66 29 = iI b ∧ gI z.2 66 30 = iI (m : Int)) := by
  have hp0 : isg R S g (R 0) = false := by unfold isg; simp
  have fin : ∀ (k m runs : Nat) (b : Int) (τ : Sg), k ≤ R 0 → m ≤ 60 → AR τ 69 189 R → AR τ 74 63 S → gI τ 66 28 = iI (runs : Int) → gI τ 66 29 = iI b → gI τ 66 30 = iI (m : Int) → ∀ f, f < k → Best (isg R S g) f m b → RL (isg R S g) f (k - f) → (k - f ≤ m → ∃ τ', sI τ 66 28 (gI τ 66 28 + 1) = τ' ∧ AR τ' 69 189 R ∧ AR τ' 74 63 S ∧ gI τ' 66 28 = iI ((runs + 1 : Nat) : Int) ∧ gI τ' 66 29 = iI b ∧ gI τ' 66 30 = iI (m : Int) ∧ Best (isg R S g) (k + 1) m b) ∧ (¬ k - f ≤ m → ∃ τ', sI (sI (sI τ 66 28 (gI τ 66 28 + 1)) 66 29 (iI (f : Int))) 66 30 (iI ((k : Int) - (f : Int))) = τ' ∧ AR τ' 69 189 R ∧ AR τ' 74 63 S ∧ gI τ' 66 28 = iI ((runs + 1 : Nat) : Int) ∧ gI τ' 66 29 = iI (f : Int) ∧ gI τ' 66 30 = iI ((k - f : Nat) : Int) ∧ Best (isg R S g) (k + 1) (k - f) (f : Int)) := by
    intro k m runs b τ hk hm hRt hSt h28 h29 h30 f hf hb hrl
    have hs := hb.step hrl
    rw [show f + (k - f) + 1 = k + 1 by omega] at hs
    constructor
    · intro c
      rw [if_pos c, if_pos c] at hs
      refine ⟨_, rfl, fun j hj => ?_, fun j hj => ?_, ?_, ?_, ?_, hs⟩
      · rw [gI_ne (by omega)]; exact hRt j hj
      · rw [gI_ne (by omega)]; exact hSt j hj
      · rw [gI_eq, h28]; exact iI_add _ 1
      · rw [gI_ne (by omega)]; exact h29
      · rw [gI_ne (by omega)]; exact h30
    · intro c
      rw [if_neg c, if_neg c] at hs
      refine ⟨_, rfl, fun j hj => ?_, fun j hj => ?_, ?_, ?_, ?_, hs⟩
      · rw [gI_ne (by omega), gI_ne (by omega), gI_ne (by omega)]; exact hRt j hj
      · rw [gI_ne (by omega), gI_ne (by omega), gI_ne (by omega)]; exact hSt j hj
      · rw [gI_ne (by omega), gI_ne (by omega), gI_eq, h28]; exact iI_add _ 1
      · rw [gI_ne (by omega), gI_eq]
      · rw [gI_eq]; congr 1; omega
  have key : ∀ n k (m runs : Nat) (b : Int) (fr : Int) τ, k ≤ R 0 + 1 → R 0 + 1 - k < n → m ≤ 60 → AR τ 69 189 R → AR τ 74 63 S → gI τ 66 28 = iI (runs : Int) → gI τ 66 29 = iI b → gI τ 66 30 = iI (m : Int) → ((fr = -1 ∧ runs = cnt (stp (isg R S g)) k ∧ Best (isg R S g) k m b ∧ (0 < k → isg R S g (k - 1) = false)) ∨ (∃ f : Nat, fr = (f : Int) ∧ f < k ∧ k ≤ R 0 ∧ runs + 1 = cnt (stp (isg R S g)) k ∧ Best (isg R S g) f m b ∧ ∀ j, f ≤ j → j < k → isg R S g j = true)) →
      ok (f_m_seekRuns_L20 N n (b2i g) (iI fr) (iI (k : Int)) τ) (fun z => gI z.2 66 28 = iI (cnt (stp (isg R S g)) (R 0 + 1) : Int) ∧ ∃ m b, Best (isg R S g) (R 0 + 1) m b ∧ gI z.2 66 29 = iI b ∧ gI z.2 66 30 = iI (m : Int)) := by
    intro n
    induction n with
    | zero => intro k m runs b fr τ _ h; omega
    | succ n ih =>
      intro k m runs b fr τ hk hn hm hRt hSt h28 h29 h30 hfr
      unfold f_m_seekRuns_L20
      have e0 := hRt.A (z := 0) 0 rfl (by omega) (by omega)
      have g30 : gI (sI τ 66 28 (gI τ 66 28 + iI 1)) 66 30 = iI (m : Int) := by rw [gI_ne (by omega)]; exact h30
      by_cases c1 : k = R 0 + 1
      · simp (disch := omega) only [e0, nI_iI, iI_lit, iI_neg, iI_add, iI_sub, iI_mul, iI_lt]
        rw [if_pos (by omega)]
        rcases hfr with ⟨q1, q2, q3, q4⟩ | ⟨f, q1, q2, q3, q4⟩
        · subst c1
          refine okS.mpr ⟨?_, m, b, q3, h29, h30⟩
          rw [h28, q2]
        · omega
      · have hfb : -1 ≤ fr ∧ fr ≤ 60 := by
          rcases hfr with ⟨q1, q2⟩ | ⟨f, q1, q2, q3, q4⟩ <;> omega
        have hkm : (k : Int) ≤ 60 := by omega
        have hcs : cnt (stp (isg R S g)) (k + 1) = cnt (stp (isg R S g)) k + (if stp (isg R S g) k = true then 1 else 0) := cnt_succ _ _
        have closing : isg R S g k = false → ∀ f : Nat, fr = (f : Int) → f < k → runs + 1 = cnt (stp (isg R S g)) k → Best (isg R S g) f m b → (∀ j, f ≤ j → j < k → isg R S g j = true) →
            (k - f ≤ m → ok (f_m_seekRuns_L20 N n (b2i g) (iI (-1)) (iI ((k : Int) + 1)) (sI τ 66 28 (gI τ 66 28 + iI 1))) (fun z => gI z.2 66 28 = iI (cnt (stp (isg R S g)) (R 0 + 1) : Int) ∧ ∃ m b, Best (isg R S g) (R 0 + 1) m b ∧ gI z.2 66 29 = iI b ∧ gI z.2 66 30 = iI (m : Int))) ∧
            (¬ k - f ≤ m → ok (f_m_seekRuns_L20 N n (b2i g) (iI (-1)) (iI ((k : Int) + 1)) (sI (sI (sI τ 66 28 (gI τ 66 28 + iI 1)) 66 29 (iI fr)) 66 30 (iI ((k : Int) - fr)))) (fun z => gI z.2 66 28 = iI (cnt (stp (isg R S g)) (R 0 + 1) : Int) ∧ ∃ m b, Best (isg R S g) (R 0 + 1) m b ∧ gI z.2 66 29 = iI b ∧ gI z.2 66 30 = iI (m : Int))) := by
          intro hpk f q1 q2 q4 q5 q6
          have hrl : RL (isg R S g) f (k - f) := ⟨fun j h1 h2 => q6 j h1 (by omega), by rw [show f + (k - f) = k by omega]; exact hpk⟩
          obtain ⟨fa, fb⟩ := fin k m runs b τ (by omega) hm hRt hSt h28 h29 h30 f q2 q5 hrl
          have hst : stp (isg R S g) k = false := by unfold stp; rw [hpk]; rfl
          rw [hst] at hcs
          constructor
          · intro c
            obtain ⟨τ', e1, a1, a2, a3, a4, a5, a6⟩ := fa c
            clear fa fb
            rw [show sI τ 66 28 (gI τ 66 28 + iI 1) = τ' from e1]
            exact ih (k + 1) m (runs + 1) b (-1) τ' (by omega) (by omega) hm a1 a2 a3 a4 a5 (Or.inl ⟨rfl, by simp at hcs; omega, a6, fun _ => hpk⟩)
          · intro c
            obtain ⟨τ', e1, a1, a2, a3, a4, a5, a6⟩ := fb c
            clear fa fb
            rw [q1, show sI (sI (sI τ 66 28 (gI τ 66 28 + iI 1)) 66 29 (iI (f : Int))) 66 30 (iI ((k : Int) - (f : Int))) = τ' from e1]
            exact ih (k + 1) (k - f) (runs + 1) (f : Int) (-1) τ' (by omega) (by omega) (by omega) a1 a2 a3 a4 a5 (Or.inl ⟨rfl, by simp at hcs; omega, a6, fun _ => hpk⟩)
        have passing : isg R S g k = false → fr = -1 → runs = cnt (stp (isg R S g)) k → Best (isg R S g) k m b → ok (f_m_seekRuns_L20 N n (b2i g) (iI fr) (iI ((k : Int) + 1)) τ) (fun z => gI z.2 66 28 = iI (cnt (stp (isg R S g)) (R 0 + 1) : Int) ∧ ∃ m b, Best (isg R S g) (R 0 + 1) m b ∧ gI z.2 66 29 = iI b ∧ gI z.2 66 30 = iI (m : Int)) := by
          intro hpk q1 q2 q3
          have hst : stp (isg R S g) k = false := by unfold stp; rw [hpk]; rfl
          rw [hst] at hcs
          have hs := q3.step (d := 0) ⟨fun j h1 h2 => by omega, hpk⟩
          rw [if_pos (by omega), if_pos (by omega)] at hs
          exact ih (k + 1) m runs b fr τ (by omega) (by omega) hm hRt hSt h28 h29 h30 (Or.inl ⟨q1, by simp at hcs; omega, hs, fun _ => hpk⟩)
        by_cases c2 : k = R 0
        · have hpk : isg R S g k = false := by rw [c2]; exact hp0
          simp (disch := omega) only [e0, g30, nI_iI, iI_lit, iI_neg, iI_add, iI_sub, iI_mul, iI_lt, iI_le]
          rw [if_neg (by omega), if_pos (by omega)]
          rcases hfr with ⟨q1, q2, q3, q4⟩ | ⟨f, q1, q2, q3, q4, q5, q6⟩
          · rw [if_neg (by omega)]
            exact passing hpk q1 q2 q3
          · rw [if_pos (by omega)]
            obtain ⟨fa, fb⟩ := closing hpk f q1 q2 q4 q5 q6
            by_cases c : k - f ≤ m
            · rw [if_pos (by omega)]; exact fa c
            · rw [if_neg (by omega)]; exact fb c
        · have e1 := hSt.A (z := (k : Int)) k rfl (by omega) (by omega)
          have hrk := hr k (by omega)
          have hpk : isg R S g k = (decide (0 < S k) == g) := by
            unfold isg gon
            rw [decide_eq_true (show k < R 0 by omega), Bool.true_and]
            congr 1
            exact decide_eq_decide.mpr (by omega)
          have hcond : (b2i (decide (¬ (S k : Int) ≤ 0)) = b2i g) = (isg R S g k = true) := by
            rw [hpk, show decide (¬ (S k : Int) ≤ 0) = decide (0 < S k) from decide_eq_decide.mpr (by omega)]
            cases decide (0 < S k) <;> cases g <;> simp [b2i]
          simp (disch := omega) only [e0, e1, g30, nI_iI, iI_lit, iI_neg, iI_add, iI_sub, iI_mul, iI_lt, iI_le, iI_eq, vin_iI]
          simp only [hcond]
          rw [if_neg (by omega), if_neg (by omega), if_pos (by omega)]
          by_cases t : isg R S g k = true
          · rw [if_pos t]
            rcases hfr with ⟨q1, q2, q3, q4⟩ | ⟨f, q1, q2, q3, q4, q5, q6⟩
            · rw [if_neg (by omega)]
              have hst : stp (isg R S g) k = true := by
                unfold stp
                rw [t]
                by_cases c : 0 < k
                · simp [c, q4 c]
                · simp [c]
              rw [hst] at hcs
              exact ih (k + 1) m runs b (k : Int) τ (by omega) (by omega) hm hRt hSt h28 h29 h30 (Or.inr ⟨k, rfl, by omega, by omega, by simp at hcs; omega, q3, fun j h1 h2 => by rw [show j = k by omega]; exact t⟩)
            · rw [if_pos (by omega)]
              have hst : stp (isg R S g) k = false := by
                unfold stp
                rw [t, q6 (k - 1) (by omega) (by omega)]
                simp; omega
              rw [hst] at hcs
              exact ih (k + 1) m runs b fr τ (by omega) (by omega) hm hRt hSt h28 h29 h30 (Or.inr ⟨f, q1, by omega, by omega, by simp at hcs; omega, q5, fun j h1 h2 => by
                by_cases c : j = k
                · rw [c]; exact t
                · exact q6 j h1 (by omega)⟩)
          · have tf : isg R S g k = false := by simpa using t
            rw [if_neg t]
            rcases hfr with ⟨q1, q2, q3, q4⟩ | ⟨f, q1, q2, q3, q4, q5, q6⟩
            · rw [if_neg (by omega)]
              exact passing tf q1 q2 q3
            · rw [if_pos (by omega)]
              obtain ⟨fa, fb⟩ := closing tf f q1 q2 q4 q5 q6
              by_cases c : k - f ≤ m
              · rw [if_pos (by omega)]; exact fa c
              · rw [if_neg (by omega)]; exact fb c
  unfold f_m_seekRuns
  refine key N 0 0 0 (-2) (-1) _ (by omega) (by omega) (by omega) (fun j hj => ?_) (fun j hj => ?_) ?_ ?_ ?_ (Or.inl ⟨rfl, rfl, ⟨fun s h => by omega, Or.inl ⟨rfl, rfl⟩⟩, fun h => by omega⟩)
  · rw [gI_ne (by omega), gI_ne (by omega), gI_ne (by omega)]; exact hR j hj
  · rw [gI_ne (by omega), gI_ne (by omega), gI_ne (by omega)]; exact hS j hj
  · rw [gI_ne (by omega), gI_ne (by omega), gI_eq]; rfl
  · rw [gI_ne (by omega), gI_eq]; rfl
  · rw [gI_eq]; rfl
theorem tb_there {n : Nat} {w : Int64} (hn : n ≤ 60) (hg : tb w = gon S) : tb (blw n &&& (w ^^^ (-1))) = fun k => decide (k < n) && (gon S k == false) := by
  funext k
  rw [tb_and, tb_nt, tb_blw (by omega), hg]
  by_cases h : k < n
  · simp [h, show k < 64 by omega]
  · simp [h]
theorem px_allCells (hL : LX 10 R σ) (hC : R 0 ≤ 60) : f_country_allCells N σ = some (blw (R 0), σ) := by
  unfold f_country_allCells
  rw [hL.c, px_belowN N (by omega)]
  rfl
theorem isg_0 : isg R S false = fun k => decide (k < R 0) && (gon S k == false) := rfl
theorem isg_1 (hC : R 0 ≤ 60) (hz : ∀ k, R 0 ≤ k → k < 60 → S k = 0) : isg R S true = gon S := by
  funext k
  unfold isg
  by_cases h : k < R 0
  · simp [h]
  · have := hz k (by omega)
    simp only [h, decide_false, Bool.false_and, gon, Bool.false_eq, decide_eq_false_iff_not]
    omega
theorem cnt_stp {p : Nat → Bool} {n : Nat} (hn : n ≤ 60) (hp : ∀ k, n ≤ k → p k = false) : cnt (stp p) 64 = cnt (stp p) (n + 1) := cnt_le_of (by omega) (fun k h1 h2 => by unfold stp; rw [hp k (by omega)]; rfl)
theorem sim_stretches (hN : 200000 ≤ N) (h : Sim σ) : Both (f_x_stretches N σ) (f_m_stretches N) := by
  obtain ⟨R, S, B, h, hr⟩ := h
  refine sim_ro (a := ra (tL R) (cnt (stp (isg R S false)) (R 0 + 1) : Int)) h hr (ra_t tL_3) ?_ (fun z => w_f_x_stretches) rfl (fun τ g => ?_) (fun τ y => w_f_m_stretches) rfl rfl
  · simp only [f_x_stretches, tx_land h.lx.c h.gd.c, px_gr N tL_r, Option.bind_some, bind_ite, Bool.false_eq_true, ↓reduceIte, px_goneCells, px_allCells (h.lx.tr (v := 0)) h.gd.c, px_bitCount]
    refine x_fin (fun h0 => okS.mpr ⟨?_, gI_eq⟩)
    have hc := h.gd.c
    have hS := h.gd.ws (tL_0.mp h0)
    have ht := tb_there (n := R 0) h.gd.c ((h.sx.tr (v := 0) (by decide)).b.gone hS.1)
    show iI _ = iI _
    congr 2
    rw [← cnt_stp (n := R 0) hc (fun k hk => by unfold isg; simp; omega)]
    refine cnt_cong (fun k hk => ?_)
    rw [tb_and, tb_nt, tb_shl1, ht, isg_0]
    unfold stp
    dsimp only
    rw [decide_eq_true hk, Bool.true_and, show decide (0 < k ∧ k < 64) = decide (0 < k) from decide_eq_decide.mpr (by omega)]
  · simp only [f_m_stretches, pm_anew, g.lm.an.has, f_m_no, Option.bind_some, bind_ite, Bool.false_eq_true, ↓reduceIte]
    refine m_finL (fun h0 => ?_)
    rw [okB]
    refine ((pm_seekRuns hN g.lm.an.1 g.lm.an.2.1 g.gd.c (g.gd.ws h0).r false).and (fun z => w_f_m_seekRuns)).imp (fun q hq => okS.mpr ⟨hq.1.1, ?_⟩)
    rw [hq.2.I 66 11 rfl]; exact an_t
theorem sim_longest (hN : 200000 ≤ N) (h : Sim σ) : Both (f_x_longest N σ) (f_m_longest N) := by
  obtain ⟨R, S, B, h, hr⟩ := h
  by_cases hl : R 0 = 0
  · refine sim_ro (a := ra (tL R) 0) h hr (ra_t tL_3) ?_ (fun z => w_f_x_longest) rfl (fun τ g => ?_) (fun τ y => w_f_m_longest) rfl rfl
    · simp only [f_x_longest, tx_land h.lx.c h.gd.c, px_gr N tL_r, Option.bind_some, bind_ite, Bool.false_eq_true, ↓reduceIte]
      exact x_fin (fun h0 => absurd hl (tL_0.mp h0))
    · simp only [f_m_longest, pm_anew, g.lm.an.has, f_m_no, Option.bind_some, bind_ite, Bool.false_eq_true, ↓reduceIte]
      exact m_finL (fun h0 => absurd hl h0)
  · have hc := h.gd.c
    have hS := h.gd.ws hl
    have ht := tb_there (n := R 0) h.gd.c ((h.sx.tr (v := 0) (by decide)).b.gone hS.1)
    obtain ⟨m, b, hb, e⟩ := px_longestRun (N := N) (σ := sI σ 0 10 0) hN (w := blw (R 0) &&& ((gL (sI σ 0 10 0) 40 0 ||| gL (sI σ 0 10 0) 40 1) ^^^ (-1))) (fun j hj => by rw [ht]; simp; omega)
    rw [ht, ← isg_0] at hb
    refine sim_ro (a := ra (tL R) b) h hr (ra_t tL_3) ?_ (fun z => w_f_x_longest) rfl (fun τ g => ?_) (fun τ y => w_f_m_longest) rfl rfl
    · simp only [f_x_longest, tx_land h.lx.c h.gd.c, px_gr N tL_r, Option.bind_some, bind_ite, Bool.false_eq_true, ↓reduceIte, px_goneCells, px_allCells (h.lx.tr (v := 0)) h.gd.c, e]
      exact x_fin (fun h0 => okS.mpr ⟨rfl, gI_eq⟩)
    · simp only [f_m_longest, pm_anew, g.lm.an.has, f_m_no, Option.bind_some, bind_ite, Bool.false_eq_true, ↓reduceIte]
      refine m_finL (fun h0 => ?_)
      rw [okB]
      refine ((pm_seekRuns hN g.lm.an.1 g.lm.an.2.1 g.gd.c (g.gd.ws h0).r false).and (fun z => w_f_m_seekRuns)).imp (fun q hq => ?_)
      obtain ⟨_, m', b', hb', e2, _⟩ := hq.1
      have hu := Best.un (n := R 0) (fun j hj => by unfold isg; simp; omega) hc (by omega) hb hb'
      refine okS.mpr ⟨?_, ?_⟩
      · show gI q.2 66 29 = _
        rw [e2, hu.2]
      · rw [hq.2.I 66 11 rfl]; exact an_t
theorem sim_widest (hN : 200000 ≤ N) (h : Sim σ) : Both (f_x_widest N σ) (f_m_widest N) := by
  obtain ⟨R, S, B, h, hr⟩ := h
  by_cases hl : R 0 = 0
  · refine sim_ro (a := ra (tL R) 0) h hr (ra_t tL_3) ?_ (fun z => w_f_x_widest) rfl (fun τ g => ?_) (fun τ y => w_f_m_widest) rfl rfl
    · simp only [f_x_widest, tx_land h.lx.c h.gd.c, px_gr N tL_r, Option.bind_some, bind_ite, Bool.false_eq_true, ↓reduceIte]
      exact x_fin (fun h0 => absurd hl (tL_0.mp h0))
    · simp only [f_m_widest, pm_anew, g.lm.an.has, f_m_no, Option.bind_some, bind_ite, Bool.false_eq_true, ↓reduceIte]
      exact m_finL (fun h0 => absurd hl h0)
  · have hc := h.gd.c
    have hS := h.gd.ws hl
    have ht : tb (gL (sI σ 0 10 0) 40 0 ||| gL (sI σ 0 10 0) 40 1) = gon S := (h.sx.tr (v := 0) (by decide)).b.gone hS.1
    have hp : ∀ j, 60 ≤ j → tb (gL (sI σ 0 10 0) 40 0 ||| gL (sI σ 0 10 0) 40 1) j = false := fun j hj => by rw [ht]; simp [gon]; omega
    obtain ⟨m, b, hb, e⟩ := px_longestRun (N := N) (σ := sI σ 0 10 0) hN (w := gL (sI σ 0 10 0) 40 0 ||| gL (sI σ 0 10 0) 40 1) hp
    refine sim_ro (a := ra (tL R) (m : Int)) h hr (ra_t tL_3) ?_ (fun z => w_f_x_widest) rfl (fun τ g => ?_) (fun τ y => w_f_m_widest) rfl rfl
    · simp only [f_x_widest, tx_land h.lx.c h.gd.c, px_gr N tL_r, Option.bind_some, bind_ite, Bool.false_eq_true, ↓reduceIte, px_goneCells, e]
      refine x_fin (fun h0 => ?_)
      rcases hb.2 with ⟨h1, h2⟩ | ⟨h1, q, h2, h3, h4, h5⟩
      · rw [h2, if_pos (show iI (-2) = -2 from rfl), h1]
        exact okS.mpr ⟨rfl, gI_eq⟩
      · obtain ⟨d, hd, hd2, e2⟩ := px_runFrom (N := N) (σ := sI σ 0 10 0) hN (w := gL (sI σ 0 10 0) 40 0 ||| gL (sI σ 0 10 0) 40 1) (k := q) (by omega) hp
        rw [h2, if_neg (iI_m2 (by omega)), e2, Option.bind_some, hd.un h4]
        exact okS.mpr ⟨rfl, gI_eq⟩
    · simp only [f_m_widest, pm_anew, g.lm.an.has, f_m_no, Option.bind_some, bind_ite, Bool.false_eq_true, ↓reduceIte]
      refine m_finL (fun h0 => ?_)
      rw [okB]
      refine ((pm_seekRuns hN g.lm.an.1 g.lm.an.2.1 g.gd.c (g.gd.ws h0).r true).and (fun z => w_f_m_seekRuns)).imp (fun q hq => ?_)
      obtain ⟨_, m', b', hb', _, e2⟩ := hq.1
      rw [ht] at hb
      rw [isg_1 hc hS.2.1] at hb'
      have hu := Best.un (n := R 0) (fun j hj => by
        have := hS.2.1 j hj
        simp only [gon, decide_eq_false_iff_not]; omega) hc (by omega) hb hb'
      refine okS.mpr ⟨?_, ?_⟩
      · show gI q.2 66 30 = _
        rw [e2, hu.1]
      · rw [hq.2.I 66 11 rfl]; exact an_t
end RUNS
