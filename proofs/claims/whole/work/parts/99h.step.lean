section ZST
variable {N : Nat} {σ τ : Sg} {T : Nat → Nat} {L : Nat}
/-! the token behind p: where it begins, its kind, end, value; is it the word w -/
def zbb (T : Nat → Nat) (L p : Nat) : Nat := rn tkB T L p
def zkk (T : Nat → Nat) (L p : Nat) : Nat := tkK T L (zbb T L p)
def zee (T : Nat → Nat) (L p : Nat) : Nat := tkE T L (zbb T L p)
def zvv (T : Nat → Nat) (L p : Nat) : Nat := tkV T L (zbb T L p)
def zis (T : Nat → Nat) (L p w : Nat) : Bool := isW T (zkk T L p) (zbb T L p) (zee T L p) w
theorem z_le {p : Nat} (hp : p ≤ L) : p ≤ zbb T L p ∧ zbb T L p ≤ zee T L p ∧ zee T L p ≤ L := by
  have h := rn_le (c := tkB) (T := T) hp
  refine ⟨h.1, ?_⟩
  unfold zee zbb
  generalize rn tkB T L p = b at h
  unfold tkE
  by_cases c : b < L
  · rw [if_pos c]
    split
    · exact rn_le (c := tkL) (T := T) h.2
    · split
      · exact rn_le (c := tkD) (T := T) h.2
      · omega
  · rw [if_neg c]; omega
theorem z_kk {p : Nat} : zkk T L p ≤ 4 := by
  unfold zkk tkK
  split
  · split
    · split <;> omega
    · split
      · split <;> omega
      · split <;> omega
  · omega
theorem z_w {p : Nat} (hp : p ≤ L) (h1 : zkk T L p = 1) : zbb T L p < zee T L p ∧ zee T L p ≤ zbb T L p + 8 ∧ zbb T L p < L := by
  have h := rn_le (c := tkB) (T := T) hp
  unfold zkk at h1
  unfold zee zbb
  unfold zbb at h1
  generalize rn tkB T L p = b at h h1
  unfold tkK at h1
  unfold tkE
  by_cases c : b < L
  · rw [if_pos c] at h1 ⊢
    by_cases c1 : tkL (T b) = true
    · rw [if_pos c1] at h1 ⊢
      have e := rn_yes (T := T) c c1
      have g := rn_le (c := tkL) (T := T) (p := b + 1) (L := L) (by omega)
      split at h1
      · omega
      · omega
    · rw [if_neg c1] at h1
      split at h1
      · split at h1 <;> omega
      · split at h1 <;> omega
  · rw [if_neg c] at h1; omega
theorem z_m {p : Nat} (hp : p ≤ L) (h1 : zkk T L p = 3) : zee T L p = zbb T L p + 1 := by
  unfold zkk at h1
  unfold zee
  generalize zbb T L p = b at h1
  unfold tkK at h1
  unfold tkE
  by_cases c : b < L
  · rw [if_pos c] at h1 ⊢
    by_cases c1 : tkL (T b) = true
    · rw [if_pos c1] at h1
      split at h1 <;> omega
    · rw [if_neg c1] at h1 ⊢
      by_cases c2 : tkD (T b) = true
      · rw [if_pos c2] at h1
        split at h1 <;> omega
      · rw [if_neg c2]
  · rw [if_neg c] at h1; omega
theorem rn_all {c : Nat → Bool} : ∀ (n p : Nat), n = rn c T L p - p → ∀ i, i < rn c T L p - p → c (T (p + i)) = true := by
  intro n
  induction n with
  | zero => intro p h i hi; omega
  | succ n ih =>
    intro p h i hi
    by_cases hp : p < L
    · by_cases hc : c (T p) = true
      · rw [rn_yes hp hc] at h hi
        by_cases e : i = 0
        · subst e; exact hc
        · have := ih (p + 1) (by omega) (i - 1) (by omega)
          rwa [show p + 1 + (i - 1) = p + i by omega] at this
      · rw [rn_no hc] at hi; omega
    · rw [rn_end (by omega)] at hi; omega
theorem z_vv {p : Nat} : zvv T L p < 1000 := by
  unfold zvv tkV
  have h : ∀ i, i < min 3 (rn tkD T L (zbb T L p) - zbb T L p) → T (zbb T L p + i) ≤ 57 := fun i hi => by
    have := rn_all (c := tkD) (T := T) (L := L) _ (zbb T L p) rfl i (by omega)
    simp only [tkD, decide_eq_true_eq] at this
    exact this.2
  have h2 := tvl_lt (T := T) (b := zbb T L p) _ h
  have h3 : 10 ^ (min 3 (rn tkD T L (zbb T L p) - zbb T L p)) ≤ 10 ^ 3 := Nat.pow_le_pow_right (by omega) (by omega)
  omega
/-! what each writes -/
def tkx : WL := [(1, some 3), (1, some 4), (1, some 5), (1, some 6)]
def tkm : WL := [(66, some 4), (66, some 5), (66, some 6), (66, some 7), (66, some 8), (68, none)]
def tkf : WL := [(66, some 4), (66, some 5), (66, some 6), (66, some 7), (66, some 8), (66, some 9), (66, some 10), (66, some 13), (68, none)]
theorem TxX.co {W : WL} (h : TxX T L σ) (f : Fr W σ τ) (hw : dis W [(1, some 2), (2, none)] = true) : TxX T L τ := by
  refine ⟨?_, fun k hk => ⟨(h.2 k hk).1, ?_⟩⟩
  · rw [f.dI hw (by simp)]; exact h.1
  · rw [f.dI hw (by simp)]; exact (h.2 k hk).2
/-! the class, a token loaded; its fault -/
def zCT (T : Nat → Nat) (L p : Nat) (σ : Sg) : Prop := gI σ 1 4 = iI (zbb T L p : Int) ∧ gI σ 1 3 = iI (zkk T L p : Int) ∧ gI σ 1 5 = iI (zee T L p : Int) ∧ (zkk T L p = 2 → gI σ 1 6 = iI (zvv T L p : Int))
def zFX (n a : Nat) (σ : Sg) : Prop := gI σ 1 12 = iI (n : Int) ∧ gI σ 1 13 = iI (a : Int)
theorem zx_next (hN : 200000 ≤ N) (hL : L ≤ 900) {p : Nat} (hp : p ≤ L) (ht : TxX T L σ) (h5 : gI σ 1 5 = iI (p : Int)) : ok (f_reader_nextToken N σ) (fun z => zCT T L p z.2 ∧ TxX T L z.2 ∧ Fr tkx σ z.2) := by
  refine ((px_tok hN hL hp ht h5).and (fun z => w_f_reader_nextToken)).imp (fun z hz => ⟨hz.1, ht.co hz.2 rfl, hz.2⟩)
theorem zx_fail {n a : Nat} {v : Int32} (hv : v = iI (n : Int)) (h4 : gI σ 1 4 = iI (a : Int)) : f_reader_fail N v σ = some (false, sI (sI σ 1 12 (iI (n : Int))) 1 13 (iI (a : Int))) := by
  unfold f_reader_fail
  rw [hv, gI_ne (by omega), h4]
theorem zx_ff {n a : Nat} : zFX n a (sI (sI σ 1 12 (iI (n : Int))) 1 13 (iI (a : Int))) := ⟨by rw [gI_ne (by omega), gI_eq], gI_eq⟩
theorem zx_is (hN : 200000 ≤ N) (hL : L ≤ 900) {p w : Nat} (hp : p ≤ L) (hw : w < 20) (ht : TxX T L σ) (h : zCT T L p σ) : f_reader_isWord N w σ = some (zis T L p w, σ) := by
  have hz := z_le (T := T) hp
  exact px_isWord hN hL ht hw z_kk hz.2.1 hz.2.2 h.2.1 h.1 h.2.2.1
/-! faults: number and place; the first stands -/
abbrev zE : Type := Option (Nat × Nat)
def wrE (T : Nat → Nat) (L : Nat) (e : zE) (p w : Nat) : zE := match e with
  | some x => some x
  | none => if zis T L p w = true then none else some (1, zbb T L p)
def nuE (T : Nat → Nat) (L : Nat) (e : zE) (p : Nat) (lo hi : Int) : zE := match e with
  | some x => some x
  | none => if zkk T L p = 2 then (if lo ≤ (zvv T L p : Int) ∧ (zvv T L p : Int) ≤ hi then none else some (4, zbb T L p)) else some (1, zbb T L p)
def afE (T : Nat → Nat) (L : Nat) (e : zE) (p w : Nat) (lo hi : Int) : zE := nuE T L (wrE T L e p w) (zee T L p) lo hi
theorem zx_expect {α : Type} {K : Bool × Sg → Option α} {P : α → Prop} (hN : 200000 ≤ N) (hL : L ≤ 900) {p w : Nat} (hp : p ≤ L) (hw : w < 20) (ht : TxX T L σ) (h5 : gI σ 1 5 = iI (p : Int))
    (hg : ∀ τ, wrE T L none p w = none → Fr tkx σ τ → TxX T L τ → gI τ 1 5 = iI (zee T L p : Int) → ok (K (true, τ)) P)
    (hb : ∀ τ x, wrE T L none p w = some x → zFX x.1 x.2 τ → ok (K (false, τ)) P) : ok ((f_reader_expect N w σ).bind K) P := by
  unfold f_reader_expect
  rw [okB, okB]
  refine (zx_next hN hL hp ht h5).imp (fun q hq => ?_)
  rw [zx_is hN hL hp hw hq.2.1 hq.1, Option.bind_some]
  dsimp only
  by_cases c : zis T L p w = true
  · rw [if_pos c]
    exact okS.mpr (hg q.2 (by unfold wrE; simp only [c, if_true]) hq.2.2 hq.2.1 hq.1.2.2.1)
  · rw [if_neg c, zx_fail (v := 1) (n := 1) rfl hq.1.1, Option.bind_some, if_neg Bool.false_ne_true]
    exact okS.mpr (hb _ (1, zbb T L p) (by unfold wrE; simp only [c]; rfl) zx_ff)
theorem zx_whole {α : Type} {K : Bool × Sg → Option α} {P : α → Prop} (hN : 200000 ≤ N) (hL : L ≤ 900) {p : Nat} {lo hi : Int} {vl vh : Int32} (hp : p ≤ L) (h1 : vl = iI lo) (h2 : vh = iI hi) (h3 : 0 ≤ lo ∧ lo < 1000) (h4 : -1 ≤ hi ∧ hi < 1000) (ht : TxX T L σ) (h5 : gI σ 1 5 = iI (p : Int))
    (hg : ∀ τ, nuE T L none p lo hi = none → lo ≤ (zvv T L p : Int) ∧ (zvv T L p : Int) ≤ hi → Fr tkx σ τ → TxX T L τ → gI τ 1 5 = iI (zee T L p : Int) → gI τ 1 6 = iI (zvv T L p : Int) → gI τ 1 4 = iI (zbb T L p : Int) → ok (K (true, τ)) P)
    (hb : ∀ τ x, nuE T L none p lo hi = some x → zFX x.1 x.2 τ → ok (K (false, τ)) P) : ok ((f_reader_expectWhole N vl vh σ).bind K) P := by
  have hv := z_vv (T := T) (L := L) (p := p)
  have hk := z_kk (T := T) (L := L) (p := p)
  unfold f_reader_expectWhole
  rw [okB, okB]
  refine (zx_next hN hL hp ht h5).imp (fun q hq => ?_)
  rw [hq.1.2.1, h1, h2]
  by_cases c : zkk T L p = 2
  · have hv6 := hq.1.2.2.2 c
    rw [if_pos (show iI (zkk T L p : Int) = 2 by rw [c]; rfl), hv6]
    by_cases c1 : (zvv T L p : Int) < lo
    · rw [if_pos (show iI (zvv T L p : Int) < iI lo by rw [iI_lt (by omega) (by omega) (by omega) (by omega)]; exact c1), zx_fail (v := 4) (n := 4) rfl hq.1.1, Option.bind_some, if_neg Bool.false_ne_true]
      exact okS.mpr (hb _ (4, zbb T L p) (by unfold nuE; simp only [c, if_true]; rw [if_neg (by omega)]) zx_ff)
    · rw [if_neg (show ¬ iI (zvv T L p : Int) < iI lo by rw [iI_lt (by omega) (by omega) (by omega) (by omega)]; exact c1)]
      by_cases c2 : (zvv T L p : Int) ≤ hi
      · rw [if_pos (show iI (zvv T L p : Int) ≤ iI hi by rw [iI_le (by omega) (by omega) (by omega) (by omega)]; exact c2)]
        exact okS.mpr (hg q.2 (by unfold nuE; simp only [c, if_true]; rw [if_pos (by omega)]) (by omega) hq.2.2 hq.2.1 hq.1.2.2.1 hv6 hq.1.1)
      · rw [if_neg (show ¬ iI (zvv T L p : Int) ≤ iI hi by rw [iI_le (by omega) (by omega) (by omega) (by omega)]; exact c2), zx_fail (v := 4) (n := 4) rfl hq.1.1, Option.bind_some, if_neg Bool.false_ne_true]
        exact okS.mpr (hb _ (4, zbb T L p) (by unfold nuE; simp only [c, if_true]; rw [if_neg (by omega)]) zx_ff)
  · rw [if_neg (show ¬ iI (zkk T L p : Int) = 2 by rw [show (2 : Int32) = iI 2 from rfl, iI_eq (by omega) (by omega) (by omega) (by omega)]; omega), zx_fail (v := 1) (n := 1) rfl hq.1.1, Option.bind_some]
    exact okS.mpr (hb _ (1, zbb T L p) (by unfold nuE; simp only [c]; rfl) zx_ff)
theorem bind_eta {α β : Type} {o : Option (α × β)} : (o.bind fun q => some (q.1, q.2)) = o := by cases o <;> rfl
theorem zx_cellE {v : Int32} : f_reader_expectCell N v σ = f_reader_expectWhole N v ((gI σ 25 0) - 1) σ := bind_eta
end ZST
