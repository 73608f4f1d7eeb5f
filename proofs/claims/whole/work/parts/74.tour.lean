/-! ===== how the curate should go ===== -/
abbrev Tac : Type := Option (Nat × Nat × Nat)
def updT (acc : Tac) (l c s : Nat) : Tac := match acc with
  | none => some (l, c, s)
  | some a => if l < a.1 ∨ (l = a.1 ∧ c < a.2.1) then some (l, c, s) else some a
/-- all ways of m steps more -/
def dfs (R : Nat → Nat) : Nat → (Nat → Nat) → Nat → Tac → Tac
  | 0, S, hi, acc => updT acc (lost R (gon S)) (cnt (gon S) 64) hi
  | m + 1, S, hi, acc => if 0 < S 61 then dfs R m (sto S (S 61 - 1)) (2 * hi + 1) (if S 61 + 1 < R 0 then dfs R m (sto S (S 61 + 1)) (2 * hi) acc else acc) else (if S 61 + 1 < R 0 then dfs R m (sto S (S 61 + 1)) (2 * hi) acc else acc)
def wk (R : Nat → Nat) : Nat → (Nat → Nat) → Nat → Option (Nat → Nat)
  | 0, S, _ => some S
  | m + 1, S, s => if s / 2 ^ m % 2 = 0 then (if S 61 + 1 < R 0 then wk R m (sto S (S 61 + 1)) s else none) else (if 0 < S 61 then wk R m (sto S (S 61 - 1)) s else none)
def fdS (R : Nat → Nat) (m : Nat) (S : Nat → Nat) (b s : Nat) (acc : Tac) : Tac := match wk R m S s with
  | none => acc
  | some T => updT acc (lost R (gon T)) (cnt (gon T) 64) (b + s)
def fd (R : Nat → Nat) (m : Nat) (S : Nat → Nat) (b : Nat) : Nat → Tac → Tac
  | 0, acc => acc
  | c + 1, acc => fdS R m S b c (fd R m S b c acc)
theorem fd_0 {R : Nat → Nat} {m : Nat} {S : Nat → Nat} {b : Nat} {acc : Tac} : fd R m S b 0 acc = acc := rfl
theorem fd_s {R : Nat → Nat} {m : Nat} {S : Nat → Nat} {b c : Nat} {acc : Tac} : fd R m S b (c + 1) acc = fdS R m S b c (fd R m S b c acc) := rfl
theorem wk_s {R : Nat → Nat} {m : Nat} {S : Nat → Nat} {s : Nat} : wk R (m + 1) S s = if s / 2 ^ m % 2 = 0 then (if S 61 + 1 < R 0 then wk R m (sto S (S 61 + 1)) s else none) else (if 0 < S 61 then wk R m (sto S (S 61 - 1)) s else none) := rfl
section TOUR
variable {N : Nat} {R S : Nat → Nat} {σ : Sg}
theorem wk_low {m : Nat} : ∀ S s t, (∀ k, k < m → s / 2 ^ k % 2 = t / 2 ^ k % 2) → wk R m S s = wk R m S t := by
  induction m with
  | zero => intro S s t _; rfl
  | succ m ih =>
    intro S s t h
    unfold wk
    rw [h m (by omega), ih _ s t (fun k hk => h k (by omega)), ih _ s t (fun k hk => h k (by omega))]
theorem dv {m c k : Nat} (hk : k < m) : (2 ^ m + c) / 2 ^ k % 2 = c / 2 ^ k % 2 := by
  obtain ⟨d, rfl⟩ : ∃ d, m = k + d + 1 := ⟨m - k - 1, by omega⟩
  rw [show 2 ^ (k + d + 1) + c = c + 2 ^ k * (2 * 2 ^ d) by rw [Nat.pow_succ, Nat.pow_add]; rw [Nat.mul_assoc, Nat.mul_comm (2 ^ d) 2, Nat.add_comm], Nat.add_mul_div_left _ _ (Nat.pow_pos (by omega)), Nat.add_mul_mod_self_left]
theorem fd_dfs : ∀ m S hi acc, dfs R m S hi acc = fd R m S (hi * 2 ^ m) (2 ^ m) acc := by
  intro m
  induction m with
  | zero =>
    intro S hi acc
    unfold dfs
    show _ = fd R 0 S (hi * 1) 1 acc
    unfold fd fd fdS wk
    rw [Nat.mul_one, Nat.add_zero]
  | succ m ih =>
    intro S hi acc
    have p0 : 0 < 2 ^ m := Nat.pow_pos (by omega)
    have up : ∀ c, c ≤ 2 ^ m → fd R (m + 1) S (hi * 2 ^ (m + 1)) c acc = if S 61 + 1 < R 0 then fd R m (sto S (S 61 + 1)) (2 * hi * 2 ^ m) c acc else acc := by
      intro c
      induction c with
      | zero => intro _; rw [fd_0, fd_0, ite_self]
      | succ c ihc =>
        intro hc
        rw [fd_s, fd_s, ihc (by omega)]
        unfold fdS
        rw [wk_s, if_pos (show c / 2 ^ m % 2 = 0 by rw [Nat.div_eq_of_lt (by omega)]), show hi * 2 ^ (m + 1) = 2 * hi * 2 ^ m by rw [Nat.pow_succ, Nat.mul_comm 2 hi, Nat.mul_assoc, Nat.mul_comm 2]]
        by_cases c1 : S 61 + 1 < R 0
        · rw [if_pos c1, if_pos c1, if_pos c1]
        · rw [if_neg c1, if_neg c1, if_neg c1]
    have dnn : ∀ c, c ≤ 2 ^ m → fd R (m + 1) S (hi * 2 ^ (m + 1)) (2 ^ m + c) acc = if 0 < S 61 then fd R m (sto S (S 61 - 1)) ((2 * hi + 1) * 2 ^ m) c (if S 61 + 1 < R 0 then fd R m (sto S (S 61 + 1)) (2 * hi * 2 ^ m) (2 ^ m) acc else acc) else (if S 61 + 1 < R 0 then fd R m (sto S (S 61 + 1)) (2 * hi * 2 ^ m) (2 ^ m) acc else acc) := by
      intro c
      induction c with
      | zero =>
        intro _
        show fd R (m + 1) S (hi * 2 ^ (m + 1)) (2 ^ m) acc = _
        rw [up _ (Nat.le_refl _), fd_0, ite_self]
      | succ c ihc =>
        intro hc
        rw [← Nat.add_assoc, fd_s, fd_s, ihc (by omega)]
        unfold fdS
        rw [wk_s, if_neg (show ¬ (2 ^ m + c) / 2 ^ m % 2 = 0 by rw [Nat.add_div_left _ p0, Nat.div_eq_of_lt (by omega)]; omega), wk_low (t := c) _ _ (fun k hk => dv hk), show hi * 2 ^ (m + 1) + (2 ^ m + c) = (2 * hi + 1) * 2 ^ m + c by rw [Nat.pow_succ, Nat.add_mul, Nat.one_mul, Nat.mul_comm 2 hi, Nat.mul_assoc, Nat.mul_comm 2]; omega]
        by_cases c1 : 0 < S 61
        · rw [if_pos c1, if_pos c1, if_pos c1]
        · rw [if_neg c1, if_neg c1, if_neg c1]
    have e : 2 ^ (m + 1) = 2 ^ m + 2 ^ m := by rw [Nat.pow_succ]; omega
    have h2 : fd R (m + 1) S (hi * 2 ^ (m + 1)) (2 ^ (m + 1)) acc = fd R (m + 1) S (hi * 2 ^ (m + 1)) (2 ^ m + 2 ^ m) acc := congrArg (fun c => fd R (m + 1) S (hi * 2 ^ (m + 1)) c acc) e
    rw [h2, dnn (2 ^ m) (by omega)]
    unfold dfs
    rw [ih, ih]
theorem updT_s (acc : Tac) (l c s : Nat) : ∃ a, updT acc l c s = some a := by
  unfold updT
  cases acc with
  | none => exact ⟨_, rfl⟩
  | some a => dsimp only; split <;> exact ⟨_, rfl⟩
theorem dfs_s : ∀ m S hi a, ∃ b, dfs R m S hi (some a) = some b := by
  intro m
  induction m with
  | zero => intro S hi a; exact updT_s _ _ _ _
  | succ m ih =>
    intro S hi a
    unfold dfs
    by_cases c1 : S 61 + 1 < R 0
    · obtain ⟨b, hb⟩ := ih (sto S (S 61 + 1)) (2 * hi) a
      rw [if_pos c1, hb]
      by_cases c2 : 0 < S 61
      · rw [if_pos c2]; exact ih _ _ b
      · rw [if_neg c2]; exact ⟨b, rfl⟩
    · rw [if_neg c1]
      by_cases c2 : 0 < S 61
      · rw [if_pos c2]; exact ih _ _ a
      · rw [if_neg c2]; exact ⟨a, rfl⟩
theorem dfs_n (hR : 2 ≤ R 0) : ∀ m S hi, S 61 < R 0 → ∃ b, dfs R m S hi none = some b := by
  intro m
  induction m with
  | zero => intro S hi _; exact updT_s _ _ _ _
  | succ m ih =>
    intro S hi hs
    unfold dfs
    by_cases c1 : S 61 + 1 < R 0
    · obtain ⟨b, hb⟩ := ih (sto S (S 61 + 1)) (2 * hi) c1
      rw [if_pos c1, hb]
      by_cases c2 : 0 < S 61
      · rw [if_pos c2]; exact dfs_s _ _ _ b
      · rw [if_neg c2]; exact ⟨b, rfl⟩
    · rw [if_neg c1, if_pos (by omega)]
      exact ih _ _ (by show S 61 - 1 < R 0; omega)
theorem updT_lt {acc : Tac} {l c s n : Nat} (h : ∀ a, acc = some a → a.2.2 < n) (hs : s < n) : ∀ a, updT acc l c s = some a → a.2.2 < n := by
  intro a ha
  unfold updT at ha
  cases acc with
  | none => cases ha; exact hs
  | some b =>
    dsimp only at ha
    split at ha
    · cases ha; exact hs
    · cases ha; exact h _ rfl
theorem dfs_lt : ∀ m S hi n acc, (hi + 1) * 2 ^ m ≤ n → (∀ a, acc = some a → a.2.2 < n) → ∀ a, dfs R m S hi acc = some a → a.2.2 < n := by
  intro m
  induction m with
  | zero =>
    intro S hi n acc hn h
    exact updT_lt h (by omega)
  | succ m ih =>
    intro S hi n acc hn h
    have p0 : 0 < 2 ^ m := Nat.pow_pos (by omega)
    have e1 : (hi + 1) * 2 ^ (m + 1) = (2 * hi + 1 + 1) * 2 ^ m := by rw [Nat.pow_succ, show 2 * hi + 1 + 1 = (hi + 1) * 2 by omega, Nat.mul_assoc, Nat.mul_comm 2]
    have e2 : (2 * hi + 1) * 2 ^ m ≤ (2 * hi + 1 + 1) * 2 ^ m := Nat.mul_le_mul_right _ (by omega)
    have h1 : ∀ a, (if S 61 + 1 < R 0 then dfs R m (sto S (S 61 + 1)) (2 * hi) acc else acc) = some a → a.2.2 < n := by
      by_cases c1 : S 61 + 1 < R 0
      · rw [if_pos c1]; exact ih _ _ n acc (by omega) h
      · rw [if_neg c1]; exact h
    unfold dfs
    by_cases c2 : 0 < S 61
    · rw [if_pos c2]; exact ih _ _ n _ (by omega) h1
    · rw [if_neg c2]; exact h1
/-- the best tour so far -/
def AcX (n : Nat) (acc : Tac) (σ : Sg) : Prop := gI σ 63 3 = iI (n : Int) ∧ match acc with
  | none => gI σ 63 4 = 0
  | some a => gI σ 63 4 = 1 ∧ gI σ 63 0 = iI (a.1 : Int) ∧ gI σ 63 1 = iI (a.2.1 : Int) ∧ gI σ 63 2 = iI (pth n a.2.2 : Int)
def BL (S : Nat → Nat) (v w : Int64) : Prop := (∀ k, tb v k = decide (k < 60 ∧ S k % 2 = 1)) ∧ (∀ k, tb w k = decide (k < 60 ∧ 2 ≤ S k))
def Abd (acc : Tac) : Prop := ∀ a, acc = some a → a.1 ≤ 594 ∧ a.2.1 ≤ 64
theorem Abd.upd {acc : Tac} {l c s : Nat} (h : Abd acc) (h1 : l ≤ 594) (h2 : c ≤ 64) : Abd (updT acc l c s) := by
  intro a ha
  unfold updT at ha
  cases acc with
  | none => cases ha; exact ⟨h1, h2⟩
  | some b =>
    dsimp only at ha
    split at ha
    · cases ha; exact ⟨h1, h2⟩
    · cases ha; exact h _ rfl
theorem dfs_bd (hW : WfL R) : ∀ m S hi acc, Abd acc → Abd (dfs R m S hi acc) := by
  intro m
  induction m with
  | zero => intro S hi acc h; exact h.upd (lost_le hW _) (cnt_le _ _)
  | succ m ih =>
    intro S hi acc h
    have h1 : Abd (if S 61 + 1 < R 0 then dfs R m (sto S (S 61 + 1)) (2 * hi) acc else acc) := by
      by_cases c1 : S 61 + 1 < R 0
      · rw [if_pos c1]; exact ih _ _ _ h
      · rw [if_neg c1]; exact h
    unfold dfs
    by_cases c2 : 0 < S 61
    · rw [if_pos c2]; exact ih _ _ _ h1
    · rw [if_neg c2]; exact h1
theorem px_compare (hN : 200000 ≤ N) (hL : LX 10 R σ) (hW : WfL R) {w : Int64} (hg : tb w = gon S) {n hi : Nat} {acc : Tac} (hb : Abd acc) (hA : AcX n acc σ) : ok (f_tours_compare N w (iI (pth n hi : Int)) σ) (fun z => AcX n (updT acc (lost R (gon S)) (cnt (gon S) 64) hi) z.2) := by
  unfold f_tours_compare
  rw [px_lost hN hL hW, Option.bind_some, px_bitCount, Option.bind_some, hg]
  dsimp only
  have h1 := lost_le hW (gon S)
  have h2 := cnt_le (gon S) 64
  have put : AcX n (some (lost R (gon S), cnt (gon S) 64, hi)) (sI (sI (sI (sI σ 63 4 1) 63 0 (iI (lost R (gon S) : Int))) 63 1 (iI (cnt (gon S) 64 : Int))) 63 2 (iI (pth n hi : Int))) := by
    refine ⟨?_, ?_, ?_, ?_, gI_eq⟩
    · rw [gI_ne (by omega), gI_ne (by omega), gI_ne (by omega), gI_ne (by omega)]; exact hA.1
    · rw [gI_ne (by omega), gI_ne (by omega), gI_ne (by omega), gI_eq]
    · rw [gI_ne (by omega), gI_ne (by omega), gI_eq]
    · rw [gI_ne (by omega), gI_eq]
  unfold updT
  cases acc with
  | none =>
    rw [if_pos hA.2]
    exact okS.mpr put
  | some a =>
    obtain ⟨a1, a2, a3, a4⟩ := hA.2
    have hb' := hb a rfl
    rw [a1, a2, a3, if_neg (by decide)]
    dsimp only
    simp (disch := omega) only [iI_lt, iI_le, iI_eq]
    by_cases c1 : lost R (gon S) < a.1
    · rw [if_pos (by omega), if_pos (Or.inl c1)]
      exact okS.mpr put
    · rw [if_neg (by omega)]
      by_cases c2 : lost R (gon S) = a.1
      · rw [if_pos (by omega)]
        by_cases c3 : cnt (gon S) 64 < a.2.1
        · rw [if_neg (by omega), if_pos (Or.inr ⟨c2, c3⟩)]
          exact okS.mpr put
        · rw [if_pos (by omega), if_neg (by omega)]
          exact okS.mpr hA
      · rw [if_neg (by omega), if_neg (by omega)]
        exact okS.mpr hA
theorem BL.gone {v w : Int64} (h : BL S v w) (hs : ∀ k, k < 60 → S k ≤ 3) : tb (v ||| w) = gon S := by
  funext k
  rw [tb_or, h.1, h.2, gon, ← Bool.decide_or]
  have := hs k
  exact decide_eq_decide.mpr (by omega)
theorem WfC.std {t : Nat} (h : WfC R S) (hc : R 0 ≤ 60) (ht : t < R 0) : WfC R (sto S t) := by
  refine ⟨fun k hk => ?_, fun k h1 h2 => ?_⟩
  · have := h.1 k hk
    have := h.1 t (by omega)
    show (if k = 61 then t else if k = t then S t - 1 else S k) ≤ 3
    rw [if_neg (by omega)]
    split <;> omega
  · show (if k = 61 then t else if k = t then S t - 1 else S k) = 0
    rw [if_neg (by omega), if_neg (by omega)]
    exact h.2 k h1 h2
theorem pth_s {m h : Nat} : pth (m + 1) h = pth m (h / 2) + (h % 2) * 2 ^ m := rfl
theorem pth_s0 {m hi : Nat} : pth (m + 1) (2 * hi) = pth m hi := by
  rw [pth_s, show 2 * hi / 2 = hi by omega, show 2 * hi % 2 = 0 by omega, Nat.zero_mul, Nat.add_zero]
theorem pth_s1 {m hi : Nat} : pth (m + 1) (2 * hi + 1) = pth m hi + 2 ^ m := by
  rw [pth_s, show (2 * hi + 1) / 2 = hi by omega, show (2 * hi + 1) % 2 = 1 by omega, Nat.one_mul]
theorem px_walkOn (hN : 200000 ≤ N) (hW : WfL R) {n : Nat} (hn : n ≤ 10) : ∀ m D made S hi acc σ v w, made + m = n → m < D → WfC R S → S 61 < R 0 → BL S v w → Abd acc → LX 10 R σ → AcX n acc σ → ok (f_tours_walkOn N D (iI ((made : Nat) : Int)) v w (iI (S 61 : Int)) (iI (pth made hi : Int)) σ) (fun z => AcX n (dfs R m S hi acc) z.2) := by
  have hc := hW.c
  intro m
  induction m with
  | zero =>
    intro D made S hi acc σ v w hm hD hw h61 hB hb hL hA
    obtain ⟨D, rfl⟩ : ∃ D', D = D' + 1 := ⟨D - 1, by omega⟩
    unfold f_tours_walkOn f_tours_walkOn_B
    rw [hA.1, if_pos (show iI (n : Int) ≤ iI (made : Int) by rw [iI_le (by omega) (by omega) (by omega) (by omega)]; omega), okB, show made = n by omega]
    exact (px_compare hN hL hW (hB.gone hw.1) hb hA).imp (fun z hz => okS.mpr hz)
  | succ m ih =>
    intro D made S hi acc σ v w hm hD hw h61 hB hb hL hA
    obtain ⟨D, rfl⟩ : ∃ D', D = D' + 1 := ⟨D - 1, by omega⟩
    unfold f_tours_walkOn f_tours_walkOn_B
    rw [hA.1, if_neg (show ¬ iI (n : Int) ≤ iI (made : Int) by rw [iI_le (by omega) (by omega) (by omega) (by omega)]; omega), if_pos (show iI (made : Int) < 10 by rw [show (10 : Int32) = iI 10 from rfl, iI_lt (by omega) (by omega) (by omega) (by omega)]; omega)]
    have hpl := pth_lt made hi
    obtain ⟨N', hN'⟩ : ∃ N', N = N' + 3 := ⟨N - 3, by omega⟩
    -- one way
    have go1 : ∀ (t : Nat) (hi' : Nat) (acc' : Tac) (st : Int32) τ, t < R 0 → Abd acc' → LX 10 R τ → AcX n acc' τ → st = iI (pth (made + 1) hi' : Int) → ok ((f_state_stepTo N 64 (iI (t : Int)) (sL (sL τ 64 0 v) 64 1 w)).bind fun q4 => f_tours_walkOn N D (iI (made : Int) + 1) (gL q4.2 64 0) (gL q4.2 64 1) (iI (t : Int)) st q4.2) (fun z => AcX n (dfs R m (sto S t) hi' acc') z.2 ∧ LX 10 R z.2) := by
      intro t hi' acc' st τ ht hb' hLt hAt hst
      have hSB : SB 64 S (sL (sL τ 64 0 v) 64 1 w) := ⟨fun k => by rw [gL_ne (by omega), gL_eq]; exact hB.1 k, fun k => by rw [gL_eq]; exact hB.2 k⟩
      have hf : Fr [(64, some 0), (64, some 1)] τ (sL (sL τ 64 0 v) 64 1 w) := Fr.wL (Fr.wL Fr.rf (by simp)) (by simp)
      rw [okB]
      refine ((px_stepTo hSB hw.1 (show t < 60 by omega)).and (fun z => w_f_state_stepTo)).imp (fun q hq => ?_)
      have hL2 := (hLt.fr hf rfl).fr hq.2 rfl
      have hA2 : AcX n acc' q.2 := by
        have e : ∀ k, gI q.2 63 k = gI τ 63 k := fun k => by rw [hq.2.I 63 k rfl, hf.I 63 k rfl]
        refine ⟨by rw [e]; exact hAt.1, ?_⟩
        have := hAt.2
        cases acc' with
        | none => show gI q.2 63 4 = 0; rw [e]; exact this
        | some a => show gI q.2 63 4 = 1 ∧ _ ∧ _ ∧ _; rw [e, e, e, e]; exact this
      have h61' : sto S t 61 = t := rfl
      have hi := ih D (made + 1) (sto S t) hi' acc' q.2 (gL q.2 64 0) (gL q.2 64 1) (by omega) (by omega) (hw.std hc.2 ht) ht ⟨hq.1.1.1, hq.1.1.2⟩ hb' hL2 hA2
      rw [h61'] at hi
      rw [show iI (made : Int) + 1 = iI ((made + 1 : Nat) : Int) from iI_add _ 1, hst]
      exact (hi.and (fun z => w_f_tours_walkOn _ _ _ _ _ _ _ _)).imp (fun z hz => ⟨hz.1, hL2.fr hz.2 rfl⟩)
    have st0 : iI (pth made hi : Int) ||| ((0 : Int32) <<< (iI (made : Int) &&& 31)) = iI (pth (made + 1) (2 * hi) : Int) := by
      rw [pth_s0]; exact or_sh0 made (by omega) _ hpl
    have st1 : iI (pth made hi : Int) ||| ((0 + 1 : Int32) <<< (iI (made : Int) &&& 31)) = iI (pth (made + 1) (2 * hi + 1) : Int) := by
      rw [pth_s1]; exact or_shl made (by omega) _ hpl
    -- the way down, then the end
    have two : ∀ acc' τ, Abd acc' → LX 10 R τ → AcX n acc' τ → ok (f_tours_walkOn_L29 N (f_tours_walkOn N D) (N' + 2) (iI (made : Int)) v w (iI (S 61 : Int)) (iI (pth made hi : Int)) (0 + 1) τ) (fun z => AcX n (if 0 < S 61 then dfs R m (sto S (S 61 - 1)) (2 * hi + 1) acc' else acc') z.2) := by
      intro acc' τ hb' hLt hAt
      unfold f_tours_walkOn_L29
      rw [if_neg (by decide), if_neg (by decide)]
      have fin : ∀ acc2 τ2, AcX n acc2 τ2 → ok (f_tours_walkOn_L29 N (f_tours_walkOn N D) (N' + 1) (iI (made : Int)) v w (iI (S 61 : Int)) (iI (pth made hi : Int)) (0 + 1 + 1) τ2) (fun z => AcX n acc2 z.2) := by
        intro acc2 τ2 h2
        unfold f_tours_walkOn_L29
        rw [if_pos (by decide)]
        exact okS.mpr h2
      by_cases c2 : 0 < S 61
      · rw [if_pos c2, show iI (S 61 : Int) - 1 = iI ((S 61 - 1 : Nat) : Int) by rw [show (1 : Int32) = iI 1 from rfl, iI_sub]; congr 1; omega, if_neg (show ¬ iI ((S 61 - 1 : Nat) : Int) < 0 by rw [show (0 : Int32) = iI 0 from rfl, iI_lt (by omega) (by omega) (by omega) (by omega)]; omega), hLt.c, if_neg (show ¬ iI (R 0 : Int) ≤ iI ((S 61 - 1 : Nat) : Int) by rw [iI_le (by omega) (by omega) (by omega) (by omega)]; omega)]
        have g1 := go1 (S 61 - 1) (2 * hi + 1) acc' _ τ (by omega) hb' hLt hAt st1
        rw [okB] at g1 ⊢
        refine g1.imp (fun q2 h2 => ?_)
        rw [okB]
        exact h2.imp (fun q3 h3 => fin _ _ h3.1)
      · rw [if_neg c2, show iI (S 61 : Int) - 1 = iI (-1) by rw [show S 61 = 0 by omega]; rfl, if_pos (by decide)]
        exact fin _ _ hAt
    have one : ∀ F, F = N' + 2 + 1 → ok (f_tours_walkOn_L29 N (f_tours_walkOn N D) F (iI (made : Int)) v w (iI (S 61 : Int)) (iI (pth made hi : Int)) 0 σ) (fun z => AcX n (dfs R (m + 1) S hi acc) z.2) := by
      intro F hF
      subst hF
      unfold f_tours_walkOn_L29
      rw [if_neg (by decide), if_pos rfl, show iI (S 61 : Int) + 1 = iI ((S 61 + 1 : Nat) : Int) from iI_add _ 1, if_neg (show ¬ iI ((S 61 + 1 : Nat) : Int) < 0 by rw [show (0 : Int32) = iI 0 from rfl, iI_lt (by omega) (by omega) (by omega) (by omega)]; omega), hL.c]
      unfold dfs
      by_cases c1 : S 61 + 1 < R 0
      · rw [if_neg (show ¬ iI (R 0 : Int) ≤ iI ((S 61 + 1 : Nat) : Int) by rw [iI_le (by omega) (by omega) (by omega) (by omega)]; omega)]
        have g1 := go1 (S 61 + 1) (2 * hi) acc _ σ (by omega) hb hL hA st0
        rw [okB] at g1 ⊢
        refine g1.imp (fun q2 h2 => ?_)
        rw [okB]
        refine h2.imp (fun q3 h3 => ?_)
        rw [if_pos c1]
        have t2 := two _ q3.2 (dfs_bd hW m _ _ _ hb) h3.2 h3.1
        exact t2
      · rw [if_pos (show iI (R 0 : Int) ≤ iI ((S 61 + 1 : Nat) : Int) by rw [iI_le (by omega) (by omega) (by omega) (by omega)]; omega), if_neg c1]
        exact two acc σ hb hL hA
    exact one N hN'
end TOUR
