section ZNA
variable {N : Nat} {σ : Sg} {T R S B nf nt sl : Nat → Nat} {L : Nat}
/-! names told -/
def zle (T : Nat → Nat) (b1 b2 : Nat) : Nat → Bool
  | 0 => true
  | n + 1 => zle T b1 b2 n && decide (T (b1 + n) = T (b2 + n))
theorem zle_iff {b1 b2 : Nat} : ∀ n, zle T b1 b2 n = true ↔ ∀ i, i < n → T (b1 + i) = T (b2 + i) := by
  intro n
  induction n with
  | zero => exact ⟨fun _ i h => by omega, fun _ => rfl⟩
  | succ n ih =>
    show (zle T b1 b2 n && decide (T (b1 + n) = T (b2 + n))) = true ↔ _
    rw [Bool.and_eq_true, ih, decide_eq_true_eq]
    refine ⟨fun h i hi => ?_, fun h => ⟨fun i hi => h i (by omega), h n (by omega)⟩⟩
    by_cases c : i = n
    · rw [c]; exact h.2
    · exact h.1 i (by omega)
def zlk (T : Nat → Nat) (b1 e1 b2 e2 : Nat) : Bool := decide (e1 - b1 = e2 - b2) && zle T b1 b2 (e2 - b2)
theorem zlk_iff {b1 e1 b2 e2 : Nat} : zlk T b1 e1 b2 e2 = true ↔ e1 - b1 = e2 - b2 ∧ ∀ i, i < e2 - b2 → T (b1 + i) = T (b2 + i) := by
  unfold zlk
  rw [Bool.and_eq_true, decide_eq_true_eq, zle_iff]
def zff (q : Nat → Bool) : Nat → Nat → Option Nat
  | 0, _ => none
  | n + 1, i => if q i = true then some i else zff q n (i + 1)
theorem zff_cases (q : Nat → Bool) : ∀ n i, (zff q n i = none ∧ ∀ j, i ≤ j → j < i + n → q j = false) ∨ ∃ j, i ≤ j ∧ j < i + n ∧ zff q n i = some j ∧ q j = true := by
  intro n
  induction n with
  | zero => intro i; exact Or.inl ⟨rfl, fun j h1 h2 => by omega⟩
  | succ n ih =>
    intro i
    unfold zff
    by_cases c : q i = true
    · rw [if_pos c]
      exact Or.inr ⟨i, by omega, by omega, rfl, c⟩
    · rw [if_neg c]
      rcases ih (i + 1) with ⟨h1, h2⟩ | ⟨j, h1, h2, h3, h4⟩
      · refine Or.inl ⟨h1, fun j h3 h4 => ?_⟩
        by_cases e : j = i
        · rw [e]; exact Bool.eq_false_iff.mpr c
        · exact h2 j (by omega) (by omega)
      · exact Or.inr ⟨j, by omega, by omega, h3, h4⟩
/-- which sort of line the word begins -/
def zso (T : Nat → Nat) (L p : Nat) : Int := if zkk T L p = 1 then (if zis T L p 0 = true then 0 else if zis T L p 1 = true then 1 else if zis T L p 2 = true then 2 else if zis T L p 3 = true then 3 else if zis T L p 4 = true then 4 else if zis T L p 5 = true then 5 else if zis T L p 6 = true then 6 else -1) else -2
theorem zso_b {p : Nat} : -2 ≤ zso T L p ∧ zso T L p ≤ 6 := by
  unfold zso
  repeat' split
  all_goals omega
theorem zx_sort (hN : 200000 ≤ N) (hL : L ≤ 900) {p : Nat} (hp : p ≤ L) (ht : TxX T L σ) (h : zCT T L p σ) : f_reader_sortHere N σ = some (iI (zso T L p), σ) := by
  have hk := z_kk (T := T) (L := L) (p := p)
  have is : ∀ w, w < 20 → f_reader_isWord N w σ = some (zis T L p w, σ) := fun w hw => zx_is hN hL hp hw ht h
  unfold f_reader_sortHere zso
  rw [h.2.1]
  by_cases c : zkk T L p = 1
  · rw [if_pos (show iI (zkk T L p : Int) = 1 by rw [c]; rfl), if_pos c, is 0 (by omega), Option.bind_some]
    dsimp only
    by_cases c0 : zis T L p 0 = true
    · rw [if_pos c0, if_pos c0]; rfl
    rw [if_neg c0, if_neg c0, is 1 (by omega), Option.bind_some]
    dsimp only
    by_cases c1 : zis T L p 1 = true
    · rw [if_pos c1, if_pos c1]; rfl
    rw [if_neg c1, if_neg c1, is 2 (by omega), Option.bind_some]
    dsimp only
    by_cases c2 : zis T L p 2 = true
    · rw [if_pos c2, if_pos c2]; rfl
    rw [if_neg c2, if_neg c2, is 3 (by omega), Option.bind_some]
    dsimp only
    by_cases c3 : zis T L p 3 = true
    · rw [if_pos c3, if_pos c3]; rfl
    rw [if_neg c3, if_neg c3, is 4 (by omega), Option.bind_some]
    dsimp only
    by_cases c4 : zis T L p 4 = true
    · rw [if_pos c4, if_pos c4]; rfl
    rw [if_neg c4, if_neg c4, is 5 (by omega), Option.bind_some]
    dsimp only
    by_cases c5 : zis T L p 5 = true
    · rw [if_pos c5, if_pos c5]; rfl
    rw [if_neg c5, if_neg c5, is 6 (by omega), Option.bind_some]
    dsimp only
    by_cases c6 : zis T L p 6 = true
    · rw [if_pos c6, if_pos c6]; rfl
    rw [if_neg c6, if_neg c6]; rfl
  · rw [if_neg (show ¬ iI (zkk T L p : Int) = 1 by rw [show (1 : Int32) = iI 1 from rfl, iI_eq (by omega) (by omega) (by omega) (by omega)]; omega), if_neg c]; rfl
theorem zso_m1 {p : Nat} : iI (zso T L p) = -1 ↔ zso T L p = -1 := by
  have := zso_b (T := T) (L := L) (p := p)
  rw [show (-1 : Int32) = iI (-1) from rfl, iI_eq (by omega) (by omega) (by omega) (by omega)]
theorem zso_w {p : Nat} (h : zso T L p = -1) : zkk T L p = 1 := by
  by_cases c : zkk T L p = 1
  · exact c
  · unfold zso at h; rw [if_neg c] at h; omega
/-! the class: is it like a name told -/
theorem zx_like (hN : 200000 ≤ N) (hL : L ≤ 900) (ht : TxX T L σ) {b e b1 e1 : Nat} (hbe : b ≤ e) (he : e ≤ L) (hb1 : b1 ≤ e1) (he1 : e1 ≤ L) (h4 : gI σ 1 4 = iI (b : Int)) (h5 : gI σ 1 5 = iI (e : Int)) : f_reader_isLike N (iI (b1 : Int)) (iI (e1 : Int)) σ = some (zlk T b1 e1 b e, σ) := by
  have key : e1 - b1 = e - b → ∀ (m j : Nat), j ≤ e - b → e - b - j < m → zle T b1 b j = true → f_reader_isLike_L19 N m (iI (b1 : Int)) (iI (j : Int)) σ = some (zle T b1 b (e - b), σ) := by
    intro hl m
    induction m with
    | zero => intro j _ h; omega
    | succ m ih =>
      intro j hj hm ha
      unfold f_reader_isLike_L19
      rw [h4, h5, iI_sub]
      by_cases c : j = e - b
      · rw [if_pos (show iI ((e : Int) - (b : Int)) ≤ iI (j : Int) by rw [iI_le (by omega) (by omega) (by omega) (by omega)]; omega), ← c, ha]
      · have hr1 := (ht.2 (b1 + j) (by omega)).1
        have hr2 := (ht.2 (b + j) (by omega)).1
        have s1 := sgn_r hr1
        have s2 := sgn_r hr2
        rw [if_neg (show ¬ iI ((e : Int) - (b : Int)) ≤ iI (j : Int) by rw [iI_le (by omega) (by omega) (by omega) (by omega)]; omega), show iI (b1 : Int) + iI (j : Int) = iI ((b1 + j : Nat) : Int) from iI_add _ _, px_byteAt hL ht (by omega), Option.bind_some]
        dsimp only
        rw [h4, show iI (b : Int) + iI (j : Int) = iI ((b + j : Nat) : Int) from iI_add _ _, px_byteAt hL ht (by omega), Option.bind_some, show iI (j : Int) + 1 = iI ((j + 1 : Nat) : Int) from iI_add _ 1]
        dsimp only
        by_cases c2 : T (b1 + j) = T (b + j)
        · rw [if_pos (by rw [c2])]
          refine ih (j + 1) (by omega) (by omega) ?_
          show (zle T b1 b j && decide (T (b1 + j) = T (b + j))) = true
          rw [ha, decide_eq_true c2]; rfl
        · rw [if_neg (show ¬ iI (sgn (T (b1 + j))) = iI (sgn (T (b + j))) by rw [iI_eq (by omega) (by omega) (by omega) (by omega)]; intro h; apply c2; unfold sgn at h; split at h <;> split at h <;> omega)]
          have : zle T b1 b (e - b) = false := by
            rw [Bool.eq_false_iff]
            intro h
            exact c2 ((zle_iff _).mp h j (by omega))
          rw [this]
  unfold f_reader_isLike zlk
  rw [h4, h5, iI_sub, iI_sub]
  by_cases c : e1 - b1 = e - b
  · rw [if_pos (show iI ((e1 : Int) - (b1 : Int)) = iI ((e : Int) - (b : Int)) by congr 1; omega), decide_eq_true c, Bool.true_and]
    exact key c N 0 (by omega) (by omega) rfl
  · rw [if_neg (show ¬ iI ((e1 : Int) - (b1 : Int)) = iI ((e : Int) - (b : Int)) by rw [iI_eq (by omega) (by omega) (by omega) (by omega)]; omega), decide_eq_false c, Bool.false_and]
def zfd (T : Nat → Nat) (L p c : Nat) (nf nt : Nat → Nat) : Option Nat := zff (fun i => zlk T (nf i) (nt i) (zbb T L p) (zee T L p)) c 0
def zfi (o : Option Nat) : Int := match o with
  | none => -1
  | some i => (i : Int)
theorem zx_name (hN : 200000 ≤ N) (hL : L ≤ 900) {p c : Nat} (hp : p ≤ L) (ht : TxX T L σ) (h : zCT T L p σ) (hc : c ≤ 9) (hn : zNM c nf nt sl σ) (hw : ∀ i, i < c → nf i ≤ nt i ∧ nt i ≤ L) : f_reader_nameHere N σ = some (iI (zfi (zfd T L p c nf nt)), σ) := by
  have hz := z_le (T := T) hp
  have key : ∀ (m i : Nat), i ≤ c → c - i < m → f_reader_nameHere_L2 N m (iI (i : Int)) σ = some (iI (zfi (zff (fun i => zlk T (nf i) (nt i) (zbb T L p) (zee T L p)) (c - i) i)), σ) := by
    intro m
    induction m with
    | zero => intro i _ h; omega
    | succ m ih =>
      intro i hi hm
      unfold f_reader_nameHere_L2
      rw [hn.1.1]
      by_cases e : i = c
      · rw [if_pos (show iI (c : Int) ≤ iI (i : Int) by rw [iI_le (by omega) (by omega) (by omega) (by omega)]; omega), show c - i = 0 by omega]
        rfl
      · have hwi := hw i (by omega)
        rw [if_neg (show ¬ iI (c : Int) ≤ iI (i : Int) by rw [iI_le (by omega) (by omega) (by omega) (by omega)]; omega), px_at hn.1.1 (by omega) hc (by omega), Option.bind_some]
        dsimp only
        rw [px_at hn.2.1.1 (by omega) hc (by omega), Option.bind_some]
        dsimp only
        rw [show gI σ 5 i = iI (nf i : Int) from hn.1.2 i (by omega), show gI σ 7 i = iI (nt i : Int) from hn.2.1.2 i (by omega), zx_like hN hL ht hz.2.1 hz.2.2 hwi.1 hwi.2 h.1 h.2.2.1, Option.bind_some, show iI (i : Int) + 1 = iI ((i + 1 : Nat) : Int) from iI_add _ 1, ih (i + 1) (by omega) (by omega), show c - i = (c - (i + 1)) + 1 by omega]
        show (if zlk T (nf i) (nt i) (zbb T L p) (zee T L p) = true then some (iI (i : Int), σ) else _) = some (iI (zfi (if zlk T (nf i) (nt i) (zbb T L p) (zee T L p) = true then some i else _)), σ)
        by_cases c2 : zlk T (nf i) (nt i) (zbb T L p) (zee T L p) = true
        · rw [if_pos c2, if_pos c2]; rfl
        · rw [if_neg c2, if_neg c2]
  unfold f_reader_nameHere
  exact key N 0 (by omega) (by omega)
theorem zfd_b {p c : Nat} (hc : c ≤ 9) : -1 ≤ zfi (zfd T L p c nf nt) ∧ zfi (zfd T L p c nf nt) < 9 := by
  unfold zfd
  rcases zff_cases (fun i => zlk T (nf i) (nt i) (zbb T L p) (zee T L p)) c 0 with ⟨h, -⟩ | ⟨j, h1, h2, h3, -⟩
  · rw [h]; unfold zfi; dsimp only; omega
  · rw [h3]; unfold zfi; dsimp only; omega
/-- a new name -/
def neE (T : Nat → Nat) (L p c : Nat) (nf nt : Nat → Nat) : zE := if zso T L p = -1 then (match zfd T L p c nf nt with
  | none => none
  | some _ => some (3, zbb T L p)) else some (1, zbb T L p)
def znW : WL := [(1, some 3), (1, some 4), (1, some 5), (1, some 6), (4, some 1), (5, none), (6, some 1), (7, none), (8, some 1), (9, none)]
theorem zx_newName {α : Type} {K : Bool × Sg → Option α} {P : α → Prop} (hN : 200000 ≤ N) (hL : L ≤ 900) {p c s : Nat} {v : Int32} (hp : p ≤ L) (hv : v = iI (zbn s)) (ht : TxX T L σ) (h5 : gI σ 1 5 = iI (p : Int)) (hc : c < 9) (hn : zNM c nf nt sl σ) (hw : ∀ i, i < c → nf i ≤ nt i ∧ nt i ≤ L)
    (hg : ∀ τ, neE T L p c nf nt = none → Fr znW σ τ → TxX T L τ → gI τ 1 5 = iI (zee T L p : Int) → zNM (c + 1) (zup nf c (zbb T L p)) (zup nt c (zee T L p)) (zup sl c s) τ → ok (K (true, τ)) P)
    (hb : ∀ τ x, neE T L p c nf nt = some x → zFX x.1 x.2 τ → ok (K (false, τ)) P) : ok ((f_reader_expectNewName N v σ).bind K) P := by
  unfold f_reader_expectNewName
  rw [okB, okB]
  refine (zx_next hN hL hp ht h5).imp (fun q hq => ?_)
  have hn1 := hn.fr hq.2.2 rfl
  rw [zx_sort hN hL hp hq.2.1 hq.1, Option.bind_some]
  dsimp only
  by_cases c1 : zso T L p = -1
  · rw [if_pos (zso_m1.mpr c1), zx_name hN hL hp hq.2.1 hq.1 (by omega) hn1 hw, Option.bind_some]
    dsimp only
    cases hf : zfd T L p c nf nt with
    | none =>
      rw [if_pos (show iI (zfi none) = -1 from rfl), hq.1.1, okB]
      refine (hn1.1.add (m := 9) (g := fun i => (zup nf c (zbb T L p) i : Int)) (by omega) (by omega) (fun i hi => ?_) ?_).imp (fun z1 hz1 => ?_)
      · rw [zup_ne (by omega)]
      · rw [zup_eq]
      · rw [okB, show gI z1.2 1 5 = iI (zee T L p : Int) from (hz1.2.I 1 5 rfl).trans hq.1.2.2.1]
        refine ((hn1.2.1.fr hz1.2 rfl).add (m := 9) (g := fun i => (zup nt c (zee T L p) i : Int)) (by omega) (by omega) (fun i hi => ?_) ?_).imp (fun z2 hz2 => ?_)
        · rw [zup_ne (by omega)]
        · rw [zup_eq]
        · rw [okB]
          have f2 : Fr [(4, some 1), (5, none), (6, some 1), (7, none)] q.2 z2.2 := (hz1.2.mono rfl).tr (hz2.2.mono rfl)
          refine ((hn1.2.2.fr f2 rfl).add (m := 9) (g := fun i => zbn (zup sl c s i)) (by omega) (by omega) (fun i hi => ?_) ?_).imp (fun z3 hz3 => ?_)
          · rw [zup_ne (by omega)]
          · rw [zup_eq]; exact hv
          · have F : Fr znW σ z3.2 := ((hq.2.2.mono rfl).tr (f2.mono rfl)).tr (hz3.2.mono rfl)
            refine okS.mpr (hg z3.2 (by unfold neE; rw [if_pos c1, hf]) F (ht.co F rfl) ?_ ⟨(hz1.1.fr hz2.2 rfl).fr hz3.2 rfl, hz2.1.fr hz3.2 rfl, hz3.1⟩)
            rw [hz3.2.I 1 5 rfl, f2.I 1 5 rfl]; exact hq.1.2.2.1
    | some i =>
      have hbd := zfd_b (T := T) (L := L) (p := p) (nf := nf) (nt := nt) (c := c) (by omega)
      rw [hf] at hbd
      rw [if_neg (show ¬ iI (zfi (some i)) = -1 by rw [show (-1 : Int32) = iI (-1) from rfl, iI_eq (by omega) (by omega) (by omega) (by omega)]; unfold zfi; dsimp only; omega), zx_fail (v := 3) (n := 3) rfl hq.1.1, Option.bind_some]
      exact okS.mpr (hb _ (3, zbb T L p) (by unfold neE; rw [if_pos c1, hf]) zx_ff)
  · rw [if_neg (fun w => c1 (zso_m1.mp w)), zx_fail (v := 1) (n := 1) rfl hq.1.1, Option.bind_some]
    exact okS.mpr (hb _ (1, zbb T L p) (by unfold neE; rw [if_neg c1]) zx_ff)
end ZNA
