/-! ===== reach ===== -/
section REACH
variable {N : Nat} {R S B : Nat → Nat} {σ : Sg}
theorem lowI (w : Int64) : Int64.toInt32 (w &&& 1073741823) = iI (msk (tb w) 30 : Int) := by
  apply Int32.toBitVec_inj.mp
  apply BitVec.eq_of_getLsbD_eq
  intro k hk
  have e1 : tb (w &&& 1073741823) k = (tb w k && decide (k < 30)) := by
    rw [tb_and, (by decide : ∀ k : Fin 32, tb 1073741823 k.val = decide (k.val < 30)) ⟨k, hk⟩]
  have e2 : (Int64.toInt32 (w &&& 1073741823)).toBitVec.getLsbD k = tb (w &&& 1073741823) k := by
    show ((w &&& 1073741823).toBitVec.signExtend 32).getLsbD k = (w &&& 1073741823).toBitVec.getLsbD k
    rw [BitVec.getLsbD_signExtend, decide_eq_true hk, Bool.true_and, if_pos (by omega)]
  rw [e2, e1]
  show _ = (BitVec.ofInt 32 ((msk (tb w) 30 : Nat) : Int)).getLsbD k
  rw [BitVec.ofInt_natCast, BitVec.getLsbD_ofNat, msk_bit, decide_eq_true hk, Bool.true_and, Bool.and_comm]
def rp (ar : Nat → Nat → Bool) : Nat → Nat → Bool
  | 0 => fun _ => false
  | i + 1 => fun k => rp ar i k || ar i k
theorem px_reached {ca : Nat → Option (Nat × Nat)} {sa : Nat → Option (Nat × Nat × Nat)} {ar : Nat → Nat → Bool} {l0 v : Nat} (hN : 200000 ≤ N) (hv : v ≤ 5) (h : TbA ca sa ar l0 σ) : ok (f_paths_reached N (iI (v : Int)) σ) (fun z => tb z.1 = rp ar (v + 1) ∧ z.2 = σ) := by
  have key : ∀ (m i : Nat) (acc : Int64), i ≤ v + 1 → v + 1 - i < m → tb acc = rp ar i → ok (f_paths_reached_L5 N m (iI (v : Int)) acc (iI (i : Int)) σ) (fun z => tb z.1 = rp ar (v + 1) ∧ z.2 = σ) := by
    intro m
    induction m with
    | zero => intro i acc _ h; omega
    | succ m ih =>
      intro i acc hi hm hacc
      unfold f_paths_reached_L5
      by_cases c : i = v + 1
      · rw [if_pos (show iI (v : Int) < iI (i : Int) by rw [iI_lt (by omega) (by omega) (by omega) (by omega)]; omega)]
        rw [c] at hacc
        exact okS.mpr ⟨hacc, rfl⟩
      · rw [if_neg (show ¬ iI (v : Int) < iI (i : Int) by rw [iI_lt (by omega) (by omega) (by omega) (by omega)]; omega), if_neg (show ¬ nI 6 ≤ iI (i : Int) by rw [show nI 6 = iI 6 from rfl, iI_le (by omega) (by omega) (by omega) (by omega)]; omega), if_pos (show vin (iI (i : Int)) 6 by rw [vin_iI (by omega) (by omega)]; omega), gM_iI (by omega) (by omega), Int.toNat_natCast, show iI (i : Int) + 1 = iI ((i + 1 : Nat) : Int) from iI_add _ 1]
        refine ih (i + 1) _ (by omega) (by omega) ?_
        funext k
        rw [tb_or, hacc, h.2 i (by omega)]
        rfl
  unfold f_paths_reached
  refine key N 0 0 (by omega) (by omega) ?_
  funext k
  exact tb_0 k
theorem rp_ex {ar : Nat → Nat → Bool} {k : Nat} : ∀ n, rp ar n k = true ↔ ∃ m, m < n ∧ ar m k = true := by
  intro n
  induction n with
  | zero =>
    refine ⟨fun h => ?_, fun ⟨m, h, _⟩ => ?_⟩
    · exact absurd (show false = true from h) (by decide)
    · omega
  | succ n ih =>
    rw [show rp ar (n + 1) k = (rp ar n k || ar n k) from rfl, Bool.or_eq_true, ih]
    constructor
    · rintro (⟨m, h1, h2⟩ | h)
      · exact ⟨m, by omega, h2⟩
      · exact ⟨n, by omega, h⟩
    · rintro ⟨m, h1, h2⟩
      by_cases c : m = n
      · subst c; exact Or.inr h2
      · exact Or.inl ⟨m, by omega, h2⟩
theorem rc_ex {m k : Nat} : ∀ (l : List Vs) (b : Bool), l.foldl (rcS m k) b = true ↔ b = true ∨ ∃ u, u ∈ l ∧ u.1 = m ∧ u.2.1 = k := by
  intro l
  induction l with
  | nil =>
    intro b
    exact ⟨fun h => Or.inl h, fun h => h.elim id (fun ⟨u, h, _⟩ => absurd h List.not_mem_nil)⟩
  | cons v l ih =>
    intro b
    rw [List.foldl_cons, ih]
    unfold rcS
    rw [Bool.or_eq_true, Bool.and_eq_true, decide_eq_true_eq, decide_eq_true_eq]
    constructor
    · rintro ((h | h) | ⟨u, h1, h2⟩)
      · exact Or.inl h
      · exact Or.inr ⟨v, List.mem_cons_self, h⟩
      · exact Or.inr ⟨u, List.mem_cons_of_mem _ h1, h2⟩
    · rintro (h | ⟨u, h1, h2⟩)
      · exact Or.inl (Or.inl h)
      · rcases List.mem_cons.mp h1 with h | h
        · subst h; exact Or.inl (Or.inr h2)
        · exact Or.inr ⟨u, h, h2⟩
theorem mn_some {k : Nat} : ∀ (l : List Vs) (o : Option Nat), (o ≠ none ∨ ∃ u, u ∈ l ∧ u.2.1 = k) → l.foldl (mnS k) o ≠ none := by
  intro l
  induction l with
  | nil =>
    rintro o (h | ⟨u, h, _⟩)
    · exact h
    · exact absurd h List.not_mem_nil
  | cons v l ih =>
    intro o h
    rw [List.foldl_cons]
    refine ih _ ?_
    by_cases c : v.2.1 = k
    · left
      unfold mnS
      rw [if_pos c]
      split
      · exact fun h => nomatch h
      · split <;> exact fun h => nomatch h
    · rcases h with h | ⟨u, h1, h2⟩
      · left
        unfold mnS
        rw [if_neg c]
        exact h
      · rcases List.mem_cons.mp h1 with h | h
        · subst h; exact absurd h2 c
        · exact Or.inr ⟨u, h, h2⟩
theorem mn_from {k a : Nat} : ∀ (l : List Vs) (o : Option Nat), l.foldl (mnS k) o = some a → o = some a ∨ ∃ u, u ∈ l ∧ u.2.1 = k ∧ u.1 = a := by
  intro l
  induction l with
  | nil => intro o h; exact Or.inl h
  | cons v l ih =>
    intro o h
    rw [List.foldl_cons] at h
    rcases ih _ h with h | ⟨u, h1, h2⟩
    · unfold mnS at h
      by_cases c : v.2.1 = k
      · rw [if_pos c] at h
        have hn : some v.1 = some a → o = some a ∨ ∃ u, u ∈ v :: l ∧ u.2.1 = k ∧ u.1 = a := fun h => Or.inr ⟨v, List.mem_cons_self, c, Option.some.inj h⟩
        cases o with
        | none => exact hn h
        | some b =>
          dsimp only at h
          split at h
          · exact hn h
          · exact Or.inl h
      · rw [if_neg c] at h
        exact Or.inl h
    · exact Or.inr ⟨u, List.mem_cons_of_mem _ h1, h2⟩
theorem nxv_iff {f made : Nat} {g : Nat → Bool} {s row i : Nat} {v : Vs} : v ∈ nxv R f made g s row i ↔ ∃ t, lead R g s (i + 1) = some t ∧ v ∈ vis R f (made + 1) (nxg g s t) t (10 * row + (i + 1)) := by
  refine ⟨nxv_mem, fun ⟨t, h1, h2⟩ => ?_⟩
  unfold nxv
  rw [h1]
  exact h2
theorem vis_hd {f made : Nat} {g : Nat → Bool} {s row : Nat} : (made, s, row, lost R g) ∈ vis R f made g s row := by
  cases f with
  | zero => exact List.mem_singleton.mpr rfl
  | succ f => rw [vis_s]; exact List.mem_cons_self
theorem vis_sub (hnb : R 2 ≤ 3) : ∀ (f f' made : Nat) (g : Nat → Bool) (s row : Nat) (u : Vs), f ≤ f' → (u ∈ vis R f made g s row ↔ u ∈ vis R f' made g s row ∧ u.1 ≤ made + f) := by
  intro f
  induction f with
  | zero =>
    intro f' made g s row u _
    constructor
    · intro h
      rw [show u = (made, s, row, lost R g) from List.mem_singleton.mp h]
      exact ⟨vis_hd, Nat.le_refl _⟩
    · rintro ⟨h, hle⟩
      cases f' with
      | zero => exact h
      | succ f' =>
        rw [vis_s] at h
        rcases List.mem_cons.mp h with h | h
        · rw [h]; exact vis_hd
        · obtain ⟨i, hi, h⟩ := List.mem_flatMap.mp h
          obtain ⟨t, _, h⟩ := nxv_mem h
          obtain ⟨e, h1, _⟩ := vis_row hnb _ _ _ _ _ _ h
          omega
  | succ f ih =>
    intro f' made g s row u hf
    obtain ⟨f', rfl⟩ : ∃ q, f' = q + 1 := ⟨f' - 1, by omega⟩
    rw [vis_s, vis_s, List.mem_cons, List.mem_cons, List.mem_flatMap, List.mem_flatMap]
    constructor
    · rintro (h | ⟨i, hi, h⟩)
      · rw [h]; exact ⟨Or.inl rfl, by show made ≤ made + (f + 1); omega⟩
      · obtain ⟨t, h1, h⟩ := nxv_mem h
        rw [ih f' _ _ _ _ _ (by omega)] at h
        exact ⟨Or.inr ⟨i, hi, nxv_iff.mpr ⟨t, h1, h.1⟩⟩, by omega⟩
    · rintro ⟨h | ⟨i, hi, h⟩, hle⟩
      · exact Or.inl h
      · obtain ⟨t, h1, h⟩ := nxv_mem h
        exact Or.inr ⟨i, hi, nxv_iff.mpr ⟨t, h1, (ih f' _ _ _ _ _ (by omega)).mpr ⟨h, by omega⟩⟩⟩
theorem reach_eq (hnb : R 2 ≤ 3) {g : Nat → Bool} {s v k : Nat} (hv : v ≤ 5) : rp (fun m k => (vis R 5 0 g s 0).foldl (rcS m k) false) (v + 1) k = decide (mnV ((vis R v 0 g s 0).foldl (mnS k) none) ≤ v) := by
  rw [Bool.eq_iff_iff, rp_ex, decide_eq_true_eq]
  constructor
  · rintro ⟨m, hm, h⟩
    rcases (rc_ex _ _).mp h with h | ⟨u, h1, h2, h3⟩
    · exact absurd h (by decide)
    · have hu := (vis_sub hnb v 5 0 g s 0 u hv).mpr ⟨h1, by omega⟩
      have hn := mn_some (k := k) (vis R v 0 g s 0) none (Or.inr ⟨u, hu, h3⟩)
      cases e : (vis R v 0 g s 0).foldl (mnS k) none with
      | none => exact absurd e hn
      | some a =>
        rcases mn_from _ _ e with h | ⟨u', h4, h5, h6⟩
        · exact nomatch h
        · obtain ⟨e', k1, k2, _⟩ := vis_row hnb _ _ _ _ _ _ h4
          show (a : Int) ≤ v
          omega
  · intro h
    cases e : (vis R v 0 g s 0).foldl (mnS k) none with
    | none => rw [e] at h; exact absurd (show (100000000 : Int) ≤ v from h) (by omega)
    | some a =>
      rcases mn_from _ _ e with h | ⟨u', h4, h5, h6⟩
      · exact nomatch h
      · have hu := (vis_sub hnb v 5 0 g s 0 u' hv).mp h4
        exact ⟨u'.1, by omega, (rc_ex _ _).mpr (Or.inr ⟨u', hu.1, rfl, h5⟩)⟩
end REACH
