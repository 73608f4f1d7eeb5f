/-! ===== unsure strides: which sets fit ===== -/
def bt (s k : Nat) : Bool := decide (s / 2 ^ k % 2 = 1)
/-- whether a stride is one of the set -/
def flN (R : Nat → Nat) (s i : Nat) : Nat → Bool
  | 0 => false
  | n + 1 => flN R s i n ^^ (bt s n && decide (R (32 + n) = i + 1))
def dgF (R : Nat → Nat) (s i : Nat) : Nat := (if flN R s i (R 5) = true then (if R (24 + i) % 2 = 0 then R (24 + i) + 1 else R (24 + i) - 1) else R (24 + i)) + 1
def unF (R : Nat → Nat) (g : Nat → Bool) : Nat → Nat → Int
  | 0, _ => -2
  | n + 1, i => if g (R (36 + 2 * i)) = decide (R (37 + 2 * i) = 1) then unF R g n (i + 1) else (i : Int)
def unI (R : Nat → Nat) (g : Nat → Bool) : Int := unF R g (R 6) 0
def fok (R B : Nat → Nat) (s : Nat) : Bool := rcan R B (dgF R s) (R 4)
def fend (R B : Nat → Nat) (s : Nat) : Nat → Nat := rgo R B (dgF R s) (R 4)
def fit (R B : Nat → Nat) (s : Nat) : Bool := fok R B s && decide (unI R (gon (fend R B s)) = -2)
def wrI (R B : Nat → Nat) (s : Nat) : Int := if fok R B s = true then unI R (gon (fend R B s)) else 100000000
section FITS
variable {N : Nat} {R S B : Nat → Nat} {σ : Sg}
theorem unF_r {g : Nat → Bool} : ∀ n i, n + i ≤ 6 → unF R g n i = -2 ∨ (0 ≤ unF R g n i ∧ unF R g n i < 6) := by
  intro n
  induction n with
  | zero => intro i _; exact Or.inl rfl
  | succ n ih =>
    intro i hi
    unfold unF
    split
    · exact ih (i + 1) (by omega)
    · right; omega
theorem px_unlikeSeen (hN : 200000 ≤ N) (hL : LX 10 R σ) (hW : WfL R) (w : Int64) : f_country_unlikeSeen N w σ = some (iI (unI R (tb w)), σ) := by
  have h6 := hW.ne
  have hc := hW.c
  have key : ∀ m i, i ≤ R 6 → R 6 - i < m → f_country_unlikeSeen_L2 N m w (iI (i : Int)) σ = some (iI (unF R (tb w) (R 6 - i) i), σ) := by
    intro m
    induction m with
    | zero => intro i _ h; omega
    | succ m ih =>
      intro i hi hm
      unfold f_country_unlikeSeen_L2
      rw [hL.ne]
      by_cases h : i < R 6
      · have hs := hW.se h
        rw [if_neg (show ¬ iI (R 6 : Int) ≤ iI (i : Int) by rw [iI_le (by omega) (by omega) (by omega) (by omega)]; omega), px_at hL.ne h (by omega) (by omega), Option.bind_some, hL.sc h]
        dsimp only
        rw [px_bitN N w (by omega), Option.bind_some]
        dsimp only
        rw [px_at hL.ng h (by omega) (by omega), Option.bind_some, hL.sg h]
        dsimp only
        rw [show iI (i : Int) + 1 = iI ((i + 1 : Nat) : Int) from iI_add _ 1, show R 6 - i = (R 6 - (i + 1)) + 1 by omega]
        unfold unF
        have hi2 := ih (i + 1) (by omega) (by omega)
        by_cases c1 : R (37 + 2 * i) = 1
        · rw [if_pos (show iI (R (37 + 2 * i) : Int) = 1 by rw [c1]; rfl)]
          cases ht : tb w (R (36 + 2 * i)) with
          | true => rw [if_pos (show b2i true = 1 from rfl), if_pos (by simp [c1])]; exact hi2
          | false => rw [if_neg (show ¬ b2i false = 1 by decide), if_neg (by simp [c1])]
        · rw [if_neg (show ¬ iI (R (37 + 2 * i) : Int) = 1 by rw [show R (37 + 2 * i) = 0 by omega]; decide)]
          cases ht : tb w (R (36 + 2 * i)) with
          | true => rw [if_neg (show ¬ b2i true = 0 by decide), if_neg (by simp [c1])]
          | false => rw [if_pos (show b2i false = 0 from rfl), if_pos (by simp [c1])]; exact hi2
      · rw [if_pos (show iI (R 6 : Int) ≤ iI (i : Int) by rw [iI_le (by omega) (by omega) (by omega) (by omega)]; omega), show R 6 - i = 0 by omega]
        rfl
  exact key N 0 (by omega) (by omega)
theorem flN_ix (hW : WfL R) {s i : Nat} : ∀ n, n ≤ R 5 → flN R s i n = (match ixF (fun j => (R (32 + j) : Int) - 1) (i : Int) n 0 with
    | .ofNat j => bt s j
    | .negSucc _ => false) := by
  intro n hn
  rcases ixF_cases (fun j => (R (32 + j) : Int) - 1) (i : Int) n 0 with ⟨h1, h2⟩ | ⟨j, h1, h2, h3, h4, h5⟩
  · rw [h1]
    show flN R s i n = false
    have : ∀ m, m ≤ n → flN R s i m = false := by
      intro m
      induction m with
      | zero => intro _; rfl
      | succ m ih =>
        intro hm
        unfold flN
        have h := h2 m (by omega) (by omega)
        have hd := hW.du (i := m) (by omega)
        rw [ih (by omega), decide_eq_false (by intro q; apply h; show (R (32 + m) : Int) - 1 = _; omega)]
        simp
    exact this n (Nat.le_refl _)
  · rw [h3]
    show flN R s i n = bt s j
    have h4' : R (32 + j) = i + 1 := by
      have hd := hW.du (i := j) (by omega)
      have : (R (32 + j) : Int) - 1 = (i : Int) := h4
      omega
    have lo : ∀ m, m ≤ j → flN R s i m = false := by
      intro m
      induction m with
      | zero => intro _; rfl
      | succ m ih =>
        intro hm
        unfold flN
        have hd := hW.di (i := m) (j := j) (by omega) (by omega)
        rw [ih (by omega), decide_eq_false (by omega)]
        simp
    have up : ∀ m, j < m → m ≤ n → flN R s i m = bt s j := by
      intro m
      induction m with
      | zero => intro h; omega
      | succ m ih =>
        intro hm hmn
        unfold flN
        by_cases c : m = j
        · subst c
          rw [lo m (Nat.le_refl _), decide_eq_true h4']
          simp
        · have hd := hW.di (i := j) (j := m) (by omega) (by omega)
          rw [ih (by omega) (by omega), decide_eq_false (by omega)]
          simp
    exact up n (by omega) (Nat.le_refl _)
theorem dgF_r (hW : WfL R) {s i : Nat} (hi : i < R 4) : 1 ≤ dgF R s i ∧ dgF R s i ≤ 2 * R 2 := by
  have := hW.sd hi
  unfold dgF
  split <;> (try split) <;> omega
theorem px_digitIn (hN : 200000 ≤ N) (hL : LX 10 R σ) (hW : WfL R) {s i : Nat} (hs : s < 1024) (hi : i < R 4) : f_country_digitIn N (iI (s : Int)) (iI (i : Int)) σ = some (iI (dgF R s i : Int), σ) := by
  have h4 := hW.nu
  have h8 := hW.ns
  have h3 := hW.nb
  have hsd := hW.sd hi
  unfold f_country_digitIn
  rw [px_at hL.ns hi (by omega) (by omega), Option.bind_some, hL.sd hi]
  dsimp only
  rw [px_indexOf hN hL.nu h4 (by omega) (g := fun j => (R (32 + j) : Int) - 1) (fun j hj => ⟨hL.du hj, by have := hW.du hj; omega, by have := hW.du hj; omega⟩) (by omega) (by omega), Option.bind_some]
  dsimp only
  have hfl := flN_ix hW (s := s) (i := i) (R 5) (Nat.le_refl _)
  have hbit : f_x_bit N (Int32.toInt64 (iI (s : Int))) (iI (ixF (fun j => (R (32 + j) : Int) - 1) (i : Int) (R 5) 0)) σ = some (flN R s i (R 5), σ) := by
    rw [hfl]
    rcases ixF_cases (fun j => (R (32 + j) : Int) - 1) (i : Int) (R 5) 0 with ⟨h1, h2⟩ | ⟨j, h1, h2, h3, h4, h5⟩
    · rw [h1, px_bitz N _ (by omega) (by omega)]
      rfl
    · rw [h3, px_bitN N _ (by omega)]
      show some (_, σ) = some (bt s j, σ)
      rw [tb_i32 (by omega), decide_eq_true (show j < 64 by omega), Bool.true_and, set_bit s hs j (by omega)]
      rfl
  rw [hbit, Option.bind_some]
  dsimp only
  rw [show iI ((R (24 + i) : Int) + 1) - iI ((R (24 + i) : Int) + 1) / 2 * 2 = iI (((R (24 + i) : Int) + 1) % 2) from iI_rem (b := 2) (by omega) (by omega) (by omega) (by omega)]
  unfold dgF
  by_cases c : flN R s i (R 5) = true
  · rw [if_pos c, if_pos c]
    by_cases c2 : R (24 + i) % 2 = 0
    · rw [if_pos (show iI (((R (24 + i) : Int) + 1) % 2) = 1 by rw [show ((R (24 + i) : Int) + 1) % 2 = 1 by omega]; rfl), if_pos c2, show iI ((R (24 + i) : Int) + 1) + 1 = iI ((R (24 + i) : Int) + 1 + 1) from iI_add _ 1]
      rfl
    · rw [if_neg (show ¬ iI (((R (24 + i) : Int) + 1) % 2) = 1 by rw [show ((R (24 + i) : Int) + 1) % 2 = 0 by omega]; decide), if_neg c2, show iI ((R (24 + i) : Int) + 1) - 1 = iI ((R (24 + i) : Int) + 1 - 1) from iI_sub _ 1]
      congr 3; omega
  · rw [if_neg c, if_neg c]
    rfl
theorem BegW (hb : Beg R B σ) (h0 : R 0 ≠ 0) : WfC R B ∧ B 60 < R 0 := by
  refine ⟨⟨fun k hk => ?_, fun k _ hk => hb.2.2.1 k hk⟩, hb.2.2.2.1 h0⟩
  rw [hb.2.2.1 k hk]; omega
theorem px_fitsAll (hN : 200000 ≤ N) (hL : LX 10 R σ) (hb : Beg R B σ) (hW : WfL R) {s : Nat} (hs : s < 1024) : f_country_fitsAll N (iI (s : Int)) σ = some (fit R B s, σ) := by
  have h8 := hW.ns
  have hc := hW.c
  have hB := BegW hb (by omega)
  have key : ∀ m i g, i ≤ R 4 → R 4 - i < m → tb g = gon (rgo R B (dgF R s) i) → rcan R B (dgF R s) i = true → f_country_fitsAll_L11 N m (iI (s : Int)) g (iI (rgo R B (dgF R s) i 60 : Int)) (iI (i : Int)) σ = some (fit R B s, σ) := by
    intro m
    induction m with
    | zero => intro i g _ h; omega
    | succ m ih =>
      intro i g hi hm hg hr
      unfold f_country_fitsAll_L11
      rw [hL.ns]
      by_cases c : i = R 4
      · rw [if_pos (show iI (R 4 : Int) ≤ iI (i : Int) by rw [iI_le (by omega) (by omega) (by omega) (by omega)]; omega), px_unlikeSeen hN hL hW, Option.bind_some, hg]
        dsimp only
        subst c
        unfold fit fok fend
        rw [hr, Bool.true_and]
        have hu := unF_r (R := R) (g := gon (rgo R B (dgF R s) (R 4))) (R 6) 0 (by have := hW.ne; omega)
        by_cases c2 : unI R (gon (rgo R B (dgF R s) (R 4))) = -2
        · rw [if_pos (show iI (unI R (gon (rgo R B (dgF R s) (R 4)))) = -2 by rw [c2]; rfl)]; simp [c2]
        · rw [if_neg (show ¬ iI (unI R (gon (rgo R B (dgF R s) (R 4)))) = -2 by
            rw [show (-2 : Int32) = iI (-2) from rfl, iI_eq (by unfold unI; omega) (by unfold unI; omega) (by omega) (by omega)]; exact c2)]
          simp [c2]
      · have hw := rgo_wf (ds := dgF R s) hW hB.1 hB.2 i
        have hd := dgF_r hW (s := s) (i := i) (by omega)
        rw [if_neg (show ¬ iI (R 4 : Int) ≤ iI (i : Int) by rw [iI_le (by omega) (by omega) (by omega) (by omega)]; omega), px_digitIn hN hL hW hs (by omega), Option.bind_some]
        dsimp only
        rw [px_tgt hL hW g hw.2 hd.1 hd.2, Option.bind_some, hg]
        dsimp only
        cases hl : lead R (gon (rgo R B (dgF R s) i)) (rgo R B (dgF R s) i 60) (dgF R s i) with
        | none =>
          rw [tg_none, if_pos (show iI (-2) = -2 from rfl)]
          have hf : fok R B s = false := by
            cases hx : fok R B s with
            | false => rfl
            | true =>
              have := rcan_lt hx (i := i) (by omega)
              unfold can at this
              rw [hl] at this; cases this
          unfold fit
          rw [hf]; rfl
        | some t =>
          have ht := lead_lt hw.2 hl
          rw [tg_some, if_neg (iI_m2 (by omega)), px_inside N (by omega) (by omega), Option.bind_some]
          dsimp only
          rw [show iI (i : Int) + 1 = iI ((i + 1 : Nat) : Int) from iI_add _ 1]
          have hgo : rgo R B (dgF R s) (i + 1) = mv R (rgo R B (dgF R s) i) t := go_some hl
          have hcan : can R (rgo R B (dgF R s) i) (dgF R s i) = true := by unfold can; rw [hl]; rfl
          have hi2 := ih (i + 1) (g ||| insN (rgo R B (dgF R s) i 60) t) (by omega) (by omega) (by
            rw [hgo, gon_mv (by omega) (by omega)]
            funext k
            rw [tb_or, hg, tb_ins (by omega) (by omega)]
            rfl) (by unfold rcan; rw [hr, hcan]; rfl)
          rw [hgo] at hi2
          exact hi2
  unfold f_country_fitsAll
  rw [hb.1]
  exact key N 0 0 (by omega) (by omega) (by
    funext k
    rw [tb_0]
    show false = gon B k
    unfold gon
    symm
    rw [decide_eq_false_iff_not]
    intro q
    have := hb.2.2.1 k q.1
    omega) rfl
def nS (R : Nat → Nat) : Nat := 2 ^ R 5
theorem nS_le (hW : WfL R) : nS R ≤ 16 := by
  have h : 2 ^ R 5 ≤ 2 ^ 4 := Nat.pow_le_pow_right (by omega) hW.nu
  show 2 ^ R 5 ≤ 16
  omega
theorem px_fittingSets (hN : 200000 ≤ N) (hL : LX 10 R σ) (hb : Beg R B σ) (hW : WfL R) : f_country_fittingSets N σ = some (iI (msk (fit R B) (nS R) : Int), σ) := by
  have h4 := hW.nu
  have hc := hW.c
  have hn := nS_le hW
  unfold f_country_fittingSets
  rw [hL.nu, shl_1 (R 5) (by omega)]
  have key : ∀ m s, s ≤ nS R → nS R - s < m → f_country_fittingSets_L14 N m (iI (msk (fit R B) s : Int)) (iI ((2 ^ R 5 : Nat) : Int)) (iI (s : Int)) σ = some (iI (msk (fit R B) (nS R) : Int), σ) := by
    intro m
    induction m with
    | zero => intro s _ h; omega
    | succ m ih =>
      intro s hs hm
      unfold f_country_fittingSets_L14
      have e : 2 ^ R 5 = nS R := rfl
      by_cases c : s = nS R
      · rw [if_pos (show iI ((2 ^ R 5 : Nat) : Int) ≤ iI (s : Int) by rw [iI_le (by omega) (by omega) (by omega) (by omega)]; omega), c]
      · have hml := msk_lt (fit R B) s
        rw [if_neg (show ¬ iI ((2 ^ R 5 : Nat) : Int) ≤ iI (s : Int) by rw [iI_le (by omega) (by omega) (by omega) (by omega)]; omega), hL.c, if_neg (show ¬ iI (R 0 : Int) ≤ 0 by rw [show (0 : Int32) = iI 0 from rfl, iI_le (by omega) (by omega) (by omega) (by omega)]; omega), px_fitsAll hN hL hb hW (by omega), Option.bind_some]
        dsimp only
        rw [show iI (s : Int) + 1 = iI ((s + 1 : Nat) : Int) from iI_add _ 1, iI_or_pow (by omega) hml]
        have hi := ih (s + 1) (by omega) (by omega)
        rw [msk_s] at hi
        by_cases c2 : fit R B s = true
        · rw [if_pos c2]
          rw [if_pos c2] at hi
          exact hi
        · rw [if_neg c2]
          rw [if_neg c2] at hi
          exact hi
  exact key N 0 (Nat.zero_le _) (by omega)
end FITS
