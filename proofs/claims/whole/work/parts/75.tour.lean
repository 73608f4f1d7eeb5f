/-! ===== tours: the other side, and the calls ===== -/
section TOURM
variable {N : Nat} {R S : Nat → Nat} {σ : Sg}
theorem wk_wf (hc : R 0 ≤ 60) : ∀ m S s T, WfC R S → S 61 < R 0 → wk R m S s = some T → WfC R T ∧ T 61 < R 0 := by
  intro m
  induction m with
  | zero => intro S s T h1 h2 h3; cases h3; exact ⟨h1, h2⟩
  | succ m ih =>
    intro S s T h1 h2 h3
    rw [wk_s] at h3
    by_cases c : s / 2 ^ m % 2 = 0
    · rw [if_pos c] at h3
      by_cases c1 : S 61 + 1 < R 0
      · rw [if_pos c1] at h3
        exact ih _ s T (h1.std hc c1) c1 h3
      · rw [if_neg c1] at h3; cases h3
    · rw [if_neg c] at h3
      by_cases c1 : 0 < S 61
      · rw [if_pos c1] at h3
        exact ih _ s T (h1.std hc (by omega)) (by show S 61 - 1 < R 0; omega) h3
      · rw [if_neg c1] at h3; cases h3
theorem pm_walks (hN : 200000 ≤ N) (hR : AR σ 69 189 R) (hS : AR σ 74 63 S) (hc : R 0 ≤ 60) (hw : WfC R S) (h61 : S 61 < R 0) {s n : Nat} (hs : s < 1024) (hn : n ≤ 10) : ok (f_m_walks N (iI (s : Int)) (iI (n : Int)) σ) (fun z => match wk R n S s with
    | some T => z.1 = true ∧ AR z.2 75 63 T
    | none => z.1 = false) := by
  have key : ∀ (F m : Nat) T τ, m ≤ n → m < F → AR τ 69 189 R → AR τ 75 63 T → WfC R T → T 61 < R 0 → ok (f_m_walks_L8 N F (iI (s : Int)) (iI ((m : Int) - 1)) τ) (fun z => match wk R m T s with
      | some T => z.1 = true ∧ AR z.2 75 63 T
      | none => z.1 = false) := by
    intro F
    induction F with
    | zero => intro m T τ _ h; omega
    | succ F ih =>
      intro m T τ hm hF hRt hTt hwt ht
      unfold f_m_walks_L8
      cases m with
      | zero =>
        rw [if_pos (show iI (((0 : Nat) : Int) - 1) < 0 by decide)]
        exact okS.mpr ⟨rfl, hTt⟩
      | succ m =>
        rw [show ((m + 1 : Nat) : Int) - 1 = (m : Int) by omega, if_neg (show ¬ iI (m : Int) < 0 by rw [show (0 : Int32) = iI 0 from rfl, iI_lt (by omega) (by omega) (by omega) (by omega)]; omega), shr_bit s hs m (by omega), okB, wk_s]
        have hb : s / 2 ^ m % 2 ≤ 1 := by omega
        refine ((pm_stepOn hRt hTt (by decide) hc hwt.r ht hb).and (fun z => w_f_m_stepOn)).imp (fun q hq => ?_)
        rw [iI_dec, show (m : Int) + -1 = (m : Int) - 1 by omega]
        rcases hq.1 with ⟨e1, t, ht1, ht2, hA⟩ | ⟨e1, e2, e3⟩
        · rw [e1, if_pos rfl]
          by_cases c : s / 2 ^ m % 2 = 0
          · rw [if_pos c] at ht1 ⊢
            have et : t = T 61 + 1 := by omega
            rw [et] at hA ht2
            rw [if_pos ht2]
            exact ih m _ q.2 (by omega) (by omega) (hRt.fr hq.2 rfl) hA (hwt.std hc ht2) ht2
          · rw [if_neg c] at ht1 ⊢
            have et : t = T 61 - 1 := by omega
            rw [et] at hA ht2
            rw [if_pos (show 0 < T 61 by omega)]
            exact ih m _ q.2 (by omega) (by omega) (hRt.fr hq.2 rfl) hA (hwt.std hc ht2) ht2
        · rw [e1, if_neg (by decide)]
          by_cases c : s / 2 ^ m % 2 = 0
          · rw [if_pos c] at e3 ⊢
            rw [if_neg (by omega)]
            exact okS.mpr rfl
          · rw [if_neg c] at e3 ⊢
            rw [if_neg (by omega)]
            exact okS.mpr rfl
  unfold f_m_walks
  rw [okB]
  refine ((pm_begin hN hS).and (fun z => w_f_m_begin)).imp (fun q hq => ?_)
  rw [show iI (n : Int) - 1 = iI ((n : Int) - 1) from iI_sub _ 1]
  exact key N n S q.2 (by omega) (by omega) (hR.fr hq.2 rfl) hq.1 hw h61
def AcM (acc : Tac) (σ : Sg) : Prop := match acc with
  | none => gI σ 66 41 = iI (-1)
  | some a => gI σ 66 41 = iI (a.2.2 : Int) ∧ gI σ 66 42 = iI (a.1 : Int) ∧ gI σ 66 43 = iI (a.2.1 : Int)
theorem AcM.of {acc : Tac} {τ : Sg} (h : AcM acc σ) (e : ∀ k, k = 41 ∨ k = 42 ∨ k = 43 → gI τ 66 k = gI σ 66 k) : AcM acc τ := by
  unfold AcM at *
  cases acc with
  | none => dsimp only at *; rw [e 41 (by omega)]; exact h
  | some a => dsimp only at *; rw [e 41 (by omega), e 42 (by omega), e 43 (by omega)]; exact h
theorem fd_bd (hW : WfL R) {n : Nat} : ∀ c, c ≤ 1024 → ∀ a, fd R n S 0 c none = some a → a.1 ≤ 594 ∧ a.2.1 ≤ 64 ∧ a.2.2 < 1024 := by
  intro c
  induction c with
  | zero => intro _ a h; cases h
  | succ c ih =>
    intro hc a h
    rw [fd_s] at h
    unfold fdS at h
    cases hw : wk R n S c with
    | none => rw [hw] at h; exact ih (by omega) a h
    | some T =>
      rw [hw] at h
      dsimp only at h
      unfold updT at h
      have h1 := lost_le hW (gon T)
      have h2 := cnt_le (gon T) 64
      cases hp : fd R n S 0 c none with
      | none =>
        rw [hp] at h
        cases h
        exact ⟨h1, h2, by show 0 + c < 1024; omega⟩
      | some p =>
        rw [hp] at h
        dsimp only at h
        split at h
        · cases h; exact ⟨h1, h2, by show 0 + c < 1024; omega⟩
        · cases h; exact ih (by omega) _ hp
theorem pm_seekTour (hN : 200000 ≤ N) (hR : AR σ 69 189 R) (hS : AR σ 74 63 S) (hW : WfL R) (hw : WfC R S) (h61 : S 61 < R 0) {n : Nat} (hn : n ≤ 10) : ok (f_m_seekTour N (iI (n : Int)) σ) (fun z => AcM (dfs R n S 0 none) z.2) := by
  have hc := hW.c
  have h2n : 2 ^ n ≤ 1024 := by
    have : 2 ^ n ≤ 2 ^ 10 := Nat.pow_le_pow_right (by omega) hn
    omega
  have key : ∀ F s τ, s ≤ 2 ^ n → 2 ^ n - s < F → AR τ 69 189 R → AR τ 74 63 S → AcM (fd R n S 0 s none) τ → ok (f_m_seekTour_L7 N F (iI (n : Int)) (iI (s : Int)) τ) (fun z => AcM (fd R n S 0 (2 ^ n) none) z.2) := by
    intro F
    induction F with
    | zero => intro s τ _ h; omega
    | succ F ih =>
      intro s τ hs hF hRt hSt hA
      unfold f_m_seekTour_L7
      rw [shl_1 n (by omega)]
      by_cases c : s = 2 ^ n
      · rw [if_pos (show iI ((2 ^ n : Nat) : Int) ≤ iI (s : Int) by rw [iI_le (by omega) (by omega) (by omega) (by omega)]; omega), ← c]
        exact okS.mpr hA
      · rw [if_neg (show ¬ iI ((2 ^ n : Nat) : Int) ≤ iI (s : Int) by rw [iI_le (by omega) (by omega) (by omega) (by omega)]; omega), okB, show iI (s : Int) + 1 = iI ((s + 1 : Nat) : Int) from iI_add _ 1]
        refine ((pm_walks hN hRt hSt hc.2 hw h61 (show s < 1024 by omega) hn).and (fun z => w_f_m_walks)).imp (fun q hq => ?_)
        have hR2 := hRt.fr hq.2 rfl
        have hS2 := hSt.fr hq.2 rfl
        have hA2 : AcM (fd R n S 0 s none) q.2 := hA.of (fun k hk => by rcases hk with rfl | rfl | rfl <;> exact hq.2.I 66 _ rfl)
        have hfs : fd R n S 0 (s + 1) none = fdS R n S 0 s (fd R n S 0 s none) := rfl
        unfold fdS at hfs
        cases hk : wk R n S s with
        | none =>
          rw [hk] at hfs
          have h1 := hq.1
          rw [hk] at h1
          rw [h1, if_neg (by decide)]
          exact ih (s + 1) q.2 (by omega) (by omega) hR2 hS2 (by rw [hfs]; exact hA2)
        | some T =>
          rw [hk] at hfs
          have h1 := hq.1
          rw [hk] at h1
          have hT := wk_wf hc.2 n S s T hw h61 hk
          have l1 := lost_le hW (gon T)
          have l2 := cnt_le (gon T) 64
          rw [h1.1, if_pos rfl, pm_lostOn hN hR2 h1.2 hW hT.1.r, Option.bind_some]
          dsimp only
          rw [pm_goneOn hN hR2 h1.2 hc.2 hT.1.2 hT.1.r, Option.bind_some]
          dsimp only
          have put : ok (f_m_seekTour_L7 N F (iI (n : Int)) (iI ((s + 1 : Nat) : Int)) (sI (sI (sI q.2 66 41 (iI (s : Int))) 66 42 (iI (lost R (gon T) : Int))) 66 43 (iI (cnt (gon T) 64 : Int)))) (fun z => AcM (fd R n S 0 (2 ^ n) none) z.2) ∨ fd R n S 0 (s + 1) none ≠ some (lost R (gon T), cnt (gon T) 64, 0 + s) := by
            by_cases e : fd R n S 0 (s + 1) none = some (lost R (gon T), cnt (gon T) 64, 0 + s)
            · left
              refine ih (s + 1) _ (by omega) (by omega) (fun j hj => ?_) (fun j hj => ?_) ?_
              · rw [gI_ne (by omega), gI_ne (by omega), gI_ne (by omega)]; exact hR2 j hj
              · rw [gI_ne (by omega), gI_ne (by omega), gI_ne (by omega)]; exact hS2 j hj
              · rw [e]
                refine ⟨?_, ?_, gI_eq⟩
                · rw [gI_ne (by omega), gI_ne (by omega), gI_eq, Nat.zero_add]
                · rw [gI_ne (by omega), gI_eq]
            · right; exact e
          have keep : fd R n S 0 (s + 1) none = fd R n S 0 s none → ok (f_m_seekTour_L7 N F (iI (n : Int)) (iI ((s + 1 : Nat) : Int)) q.2) (fun z => AcM (fd R n S 0 (2 ^ n) none) z.2) := fun e => ih (s + 1) q.2 (by omega) (by omega) hR2 hS2 (by rw [e]; exact hA2)
          dsimp only at hfs
          unfold updT at hfs
          cases hp : fd R n S 0 s none with
          | none =>
            rw [hp] at hfs hA2
            rw [show gI q.2 66 41 = iI (-1) from hA2, if_pos (by decide)]
            rcases put with h | h
            · exact h
            · exact absurd hfs h
          | some p =>
            have hb := fd_bd hW s (by omega) p hp
            rw [hp] at hfs hA2 keep
            obtain ⟨a1, a2, a3⟩ := hA2
            dsimp only at hfs
            rw [a1, a2, a3, if_neg (show ¬ iI (p.2.2 : Int) < 0 by rw [show (0 : Int32) = iI 0 from rfl, iI_lt (by omega) (by omega) (by omega) (by omega)]; omega)]
            simp (disch := omega) only [iI_lt, iI_eq]
            by_cases c1 : p.1 < lost R (gon T)
            · rw [if_pos (by omega)]
              rw [if_neg (by omega)] at hfs
              exact keep hfs
            · rw [if_neg (by omega)]
              by_cases c2 : lost R (gon T) = p.1
              · rw [if_pos (by omega)]
                by_cases c3 : cnt (gon T) 64 < p.2.1
                · rw [if_pos (by omega)]
                  rw [if_pos (Or.inr ⟨c2, c3⟩)] at hfs
                  rcases put with h | h
                  · exact h
                  · exact absurd hfs h
                · rw [if_neg (by omega)]
                  rw [if_neg (by omega)] at hfs
                  exact keep hfs
              · rw [if_neg (by omega)]
                rw [if_pos (by omega)] at hfs
                rcases put with h | h
                · exact h
                · exact absurd hfs h
  unfold f_m_seekTour
  have h := key N 0 (sI σ 66 41 (-1)) (Nat.zero_le _) (by omega) (fun j hj => by rw [gI_ne (by omega)]; exact hR j hj) (fun j hj => by rw [gI_ne (by omega)]; exact hS j hj) gI_eq
  rw [show dfs R n S 0 none = fd R n S 0 (2 ^ n) none by rw [fd_dfs, Nat.zero_mul]]
  exact h
theorem px_bestTour (hN : 200000 ≤ N) (hL : LX 10 R σ) (hX : SX 40 S σ) (hW : WfL R) (hw : WfC R S) (h61 : S 61 < R 0) {n : Nat} (hn : n ≤ 10) : ok (f_x_bestTour N (iI (n : Int)) σ) (fun z => AcX n (dfs R n S 0 none) z.2) := by
  unfold f_x_bestTour f_tours_seek
  have hf : Fr [(63, some 3), (63, some 4)] σ (sI (sI σ 63 4 0) 63 3 (iI (n : Int))) := Fr.wI (Fr.wI Fr.rf (by simp)) (by simp)
  have hX2 := hX.fr hf rfl
  have h := px_walkOn hN hW hn n 12 0 S 0 none (sI (sI σ 63 4 0) 63 3 (iI (n : Int))) (gL (sI (sI σ 63 4 0) 63 3 (iI (n : Int))) 40 0) (gL (sI (sI σ 63 4 0) 63 3 (iI (n : Int))) 40 1) (by omega) (by omega) hw h61 ⟨hX2.1, hX2.2.1⟩ (fun a ha => by cases ha) (hL.fr hf rfl) ⟨gI_eq, by show gI _ 63 4 = 0; rw [gI_ne (by omega), gI_eq]⟩
  rw [hX2.2.2.2.1]
  rw [okB, okB]
  exact h.imp (fun z hz => okS.mpr (okS.mpr hz))
theorem pm_tourWhy (h : LandM R S σ) {z : Int} (h1 : -2147483648 ≤ z) (h2 : z < 2147483648) : f_m_tourWhy N (iI z) σ = some (iI (tN R z 10), σ) := by
  unfold f_m_tourWhy
  have e := pm_why9 (N := N) h h1 h2 (m := 10) (by omega) (by omega) (fun q => some (q.1, q.2))
  exact e
theorem sim_tour (hN : 200000 ≤ N) (v : Int32) (h : Sim σ) : Both (f_x_tour N v σ) (f_m_tour N v) := by
  obtain ⟨R, S, B, h, hr⟩ := h
  obtain ⟨z, rfl, z1, z2⟩ := iI_of v
  have hd : R 0 ≠ 0 → ∃ b, dfs R z.toNat S 0 none = some b := fun hl => dfs_n (by have := (h.gd.wl hl).c; omega) _ _ _ (h.gd.ws hl).2.2.2.1
  refine sim_ro (a := ra (tN R z 10) (match dfs R z.toNat S 0 none with | some a => (a.1 : Int) | none => 0)) h hr (ra_t tN_3) ?_ (fun z => w_f_x_tour) rfl (fun τ g => ?_) (fun τ y => w_f_m_tour) rfl rfl
  · have e := tx_num (N := N) h.lx.c h.gd.c z1 z2 (m := 10) (by omega) (by omega)
    simp only [f_x_tour, show (10 : Int32) = iI 10 from rfl, e, px_gr N tN_r, Option.bind_some, bind_ite, Bool.false_eq_true, ↓reduceIte]
    refine x_fin (fun h0 => ?_)
    rw [tN_0] at h0
    obtain ⟨a, ha⟩ := hd h0.1
    obtain ⟨n, rfl⟩ : ∃ b : Nat, z = (b : Int) := ⟨z.toNat, by omega⟩
    rw [Int.toNat_natCast] at ha ⊢
    have hS := h.gd.ws h0.1
    rw [okB]
    refine ((px_bestTour hN h.lx.tr (h.sx.tr (by decide)) (h.gd.wl h0.1) hS.c hS.2.2.2.1 (n := n) (by omega)).and (fun z => w_f_x_bestTour)).imp (fun q hq => ?_)
    have h1 := hq.1
    rw [ha] at h1 ⊢
    refine okS.mpr ⟨h1.2.2.1, ?_⟩
    rw [hq.2.I 0 10 rfl]; exact gI_eq
  · simp only [f_m_tour, pm_anew, pm_tourWhy g.lm.an z1 z2, f_m_no, Option.bind_some, bind_ite, Bool.false_eq_true, ↓reduceIte, iI_0 tN_r]
    refine m_fin (fun h0 => ?_)
    rw [tN_0] at h0
    obtain ⟨a, ha⟩ := hd h0.1
    obtain ⟨n, rfl⟩ : ∃ b : Nat, z = (b : Int) := ⟨z.toNat, by omega⟩
    rw [Int.toNat_natCast] at ha ⊢
    have hS := g.gd.ws h0.1
    rw [okB]
    refine ((pm_seekTour hN g.lm.an.1 g.lm.an.2.1 (g.gd.wl h0.1) hS.c hS.2.2.2.1 (n := n) (by omega)).and (fun z => w_f_m_seekTour)).imp (fun q hq => ?_)
    have h1 := hq.1
    rw [ha] at h1 ⊢
    refine okS.mpr ⟨h1.2.1, ?_⟩
    rw [hq.2.I 66 11 rfl]; exact an_t
theorem sim_tourGone (hN : 200000 ≤ N) (v : Int32) (h : Sim σ) : Both (f_x_tourGone N v σ) (f_m_tourGone N v) := by
  obtain ⟨R, S, B, h, hr⟩ := h
  obtain ⟨z, rfl, z1, z2⟩ := iI_of v
  have hd : R 0 ≠ 0 → ∃ b, dfs R z.toNat S 0 none = some b := fun hl => dfs_n (by have := (h.gd.wl hl).c; omega) _ _ _ (h.gd.ws hl).2.2.2.1
  refine sim_ro (a := ra (tN R z 10) (match dfs R z.toNat S 0 none with | some a => (a.2.1 : Int) | none => 0)) h hr (ra_t tN_3) ?_ (fun z => w_f_x_tourGone) rfl (fun τ g => ?_) (fun τ y => w_f_m_tourGone) rfl rfl
  · have e := tx_num (N := N) h.lx.c h.gd.c z1 z2 (m := 10) (by omega) (by omega)
    simp only [f_x_tourGone, show (10 : Int32) = iI 10 from rfl, e, px_gr N tN_r, Option.bind_some, bind_ite, Bool.false_eq_true, ↓reduceIte]
    refine x_fin (fun h0 => ?_)
    rw [tN_0] at h0
    obtain ⟨a, ha⟩ := hd h0.1
    obtain ⟨n, rfl⟩ : ∃ b : Nat, z = (b : Int) := ⟨z.toNat, by omega⟩
    rw [Int.toNat_natCast] at ha ⊢
    have hS := h.gd.ws h0.1
    rw [okB]
    refine ((px_bestTour hN h.lx.tr (h.sx.tr (by decide)) (h.gd.wl h0.1) hS.c hS.2.2.2.1 (n := n) (by omega)).and (fun z => w_f_x_bestTour)).imp (fun q hq => ?_)
    have h1 := hq.1
    rw [ha] at h1 ⊢
    refine okS.mpr ⟨h1.2.2.2.1, ?_⟩
    rw [hq.2.I 0 10 rfl]; exact gI_eq
  · simp only [f_m_tourGone, pm_anew, pm_tourWhy g.lm.an z1 z2, f_m_no, Option.bind_some, bind_ite, Bool.false_eq_true, ↓reduceIte, iI_0 tN_r]
    refine m_fin (fun h0 => ?_)
    rw [tN_0] at h0
    obtain ⟨a, ha⟩ := hd h0.1
    obtain ⟨n, rfl⟩ : ∃ b : Nat, z = (b : Int) := ⟨z.toNat, by omega⟩
    rw [Int.toNat_natCast] at ha ⊢
    have hS := g.gd.ws h0.1
    rw [okB]
    refine ((pm_seekTour hN g.lm.an.1 g.lm.an.2.1 (g.gd.wl h0.1) hS.c hS.2.2.2.1 (n := n) (by omega)).and (fun z => w_f_m_seekTour)).imp (fun q hq => ?_)
    have h1 := hq.1
    rw [ha] at h1 ⊢
    refine okS.mpr ⟨h1.2.2, ?_⟩
    rw [hq.2.I 66 11 rfl]; exact an_t
def twI (s n : Nat) : Nat → Int
  | 0 => 0
  | k + 1 => twI s n k + (if s.testBit (n - 1 - k) = true then -1 else 1)
theorem twI_s {s n k : Nat} : twI s n (k + 1) = twI s n k + (if s.testBit (n - 1 - k) = true then -1 else 1) := rfl
def tT (R : Nat → Nat) (z i : Int) : Int := if tN R z 10 = 0 then (if 0 ≤ i ∧ i ≤ z then 0 else 1) else tN R z 10
theorem tT_3 {z i : Int} : 0 ≤ tT R z i ∧ tT R z i ≤ 3 := by
  have := tN_3 (R := R) (z := z) (y := 10)
  unfold tT; split <;> (try split) <;> omega
theorem sim_tourAt (hN : 200000 ≤ N) (v w : Int32) (h : Sim σ) : Both (f_x_tourAt N v w σ) (f_m_tourAt N v w) := by
  obtain ⟨R, S, B, h, hr⟩ := h
  obtain ⟨z, rfl, z1, z2⟩ := iI_of v
  obtain ⟨i, rfl, i1, i2⟩ := iI_of w
  have hd : R 0 ≠ 0 → ∃ b, dfs R z.toNat S 0 none = some b := fun hl => dfs_n (by have := (h.gd.wl hl).c; omega) _ _ _ (h.gd.ws hl).2.2.2.1
  refine sim_ro (a := ra (tT R z i) (match dfs R z.toNat S 0 none with | some a => (S 61 : Int) + twI a.2.2 z.toNat i.toNat | none => 0)) h hr (ra_t tT_3) ?_ (fun z => w_f_x_tourAt) rfl (fun τ g => ?_) (fun τ y => w_f_m_tourAt) rfl rfl
  · have e := tx_num (N := N) h.lx.c h.gd.c z1 z2 (m := 10) (by omega) (by omega)
    simp only [f_x_tourAt, show (10 : Int32) = iI 10 from rfl, e, px_gr N tN_r, px_gr1, Option.bind_some, bind_ite, Bool.false_eq_true, ↓reduceIte]
    by_cases ht : tN R z 10 = 0
    · rw [if_pos ht]
      have h0 := tN_0.mp ht
      by_cases hi : 0 ≤ i ∧ i ≤ z
      · rw [if_neg (show ¬ iI i < 0 by rw [show (0 : Int32) = iI 0 from rfl, iI_lt (by omega) (by omega) (by omega) (by omega)]; omega), show b2i (decide (¬ iI i ≤ iI z)) = 0 by rw [decide_eq_false (by rw [iI_le (by omega) (by omega) (by omega) (by omega)]; omega)]; rfl, px_gr0, Option.bind_some]
        dsimp only
        rw [if_pos rfl, show tT R z i = 0 by unfold tT; rw [if_pos ht, if_pos hi], ra_0]
        obtain ⟨a, ha⟩ := hd h0.1
        obtain ⟨n, rfl⟩ : ∃ b : Nat, z = (b : Int) := ⟨z.toNat, by omega⟩
        obtain ⟨i, rfl⟩ : ∃ b : Nat, i = (b : Int) := ⟨i.toNat, by omega⟩
        rw [Int.toNat_natCast] at ha ⊢
        rw [Int.toNat_natCast]
        have hW := h.gd.wl h0.1
        have hS := h.gd.ws h0.1
        have hsx : SX 40 S (sI (sI σ 0 10 0) 0 10 0) := (h.sx.tr (by decide)).tr (by decide)
        have hal : a.2.2 < 2 ^ n := dfs_lt n S 0 (2 ^ n) none (by omega) (fun a ha => by cases ha) a ha
        have hpl := pth_lt n a.2.2
        have h2n : 2 ^ n ≤ 1024 := by
          have : 2 ^ n ≤ 2 ^ 10 := Nat.pow_le_pow_right (by omega) (by omega)
          omega
        rw [okB]
        refine ((px_bestTour hN h.lx.tr.tr hsx hW hS.c hS.2.2.2.1 (n := n) (by omega)).and (fun z => w_f_x_bestTour)).imp (fun q hq => ?_)
        have h1 := hq.1
        rw [ha] at h1 ⊢
        have ht2 : gI q.2 0 10 = iI 0 := by rw [hq.2.I 0 10 rfl]; exact gI_eq
        have h40 : gI q.2 40 3 = iI (S 61 : Int) := by rw [hq.2.I 40 3 rfl]; exact hsx.2.2.2.1
        have key : ∀ F k, k ≤ i → i - k < F → f_tours_standsBehind_L5 N F (iI (i : Int)) (iI ((S 61 : Int) + twI a.2.2 n k)) (iI (k : Int)) q.2 = some (iI ((S 61 : Int) + twI a.2.2 n i), q.2) := by
          intro F
          induction F with
          | zero => intro k _ h; omega
          | succ F ih =>
            intro k hk hF
            unfold f_tours_standsBehind_L5
            by_cases c : k = i
            · rw [if_pos (show iI (i : Int) ≤ iI (k : Int) by rw [iI_le (by omega) (by omega) (by omega) (by omega)]; omega), c]
            · rw [if_neg (show ¬ iI (i : Int) ≤ iI (k : Int) by rw [iI_le (by omega) (by omega) (by omega) (by omega)]; omega), h1.2.2.2.2, px_bitN N _ (by omega), Option.bind_some]
              dsimp only
              rw [tb_i32 (by omega), decide_eq_true (show k < 64 by omega), Bool.true_and, pth_bit n (by omega) _ hal k (by omega), show iI (k : Int) + 1 = iI ((k + 1 : Nat) : Int) from iI_add _ 1]
              have hh := ih (k + 1) (by omega) (by omega)
              rw [twI_s] at hh
              by_cases b : a.2.2.testBit (n - 1 - k) = true
              · rw [if_pos b, iI_dec, Int.add_assoc]
                rw [if_pos b] at hh
                exact hh
              · rw [if_neg b, show iI ((S 61 : Int) + twI a.2.2 n k) + 1 = iI ((S 61 : Int) + twI a.2.2 n k + 1) from iI_add _ 1, Int.add_assoc]
                rw [if_neg b] at hh
                exact hh
        unfold f_tours_standsBehind
        have k0 := key N 0 (by omega) (by omega)
        rw [show twI a.2.2 n 0 = 0 from rfl, Int.add_zero] at k0
        rw [h40, show (0 : Int32) = iI ((0 : Nat) : Int) from rfl, k0]
        exact okS.mpr ⟨rfl, ht2⟩
      · rw [show tT R z i = 1 by unfold tT; rw [if_pos ht, if_neg hi]]
        by_cases c : i < 0
        · rw [if_pos (show iI i < 0 by rw [show (0 : Int32) = iI 0 from rfl, iI_lt (by omega) (by omega) (by omega) (by omega)]; omega)]
          exact okS.mpr ⟨rfl, gI_eq⟩
        · rw [if_neg (show ¬ iI i < 0 by rw [show (0 : Int32) = iI 0 from rfl, iI_lt (by omega) (by omega) (by omega) (by omega)]; omega), show b2i (decide (¬ iI i ≤ iI z)) = 1 by rw [decide_eq_true (by rw [iI_le (by omega) (by omega) (by omega) (by omega)]; omega)]; rfl, px_gr1, Option.bind_some]
          exact okS.mpr ⟨rfl, gI_eq⟩
    · rw [if_neg ht, show tT R z i = tN R z 10 by unfold tT; rw [if_neg ht]]
      unfold ra
      rw [if_neg ht]
      exact okS.mpr ⟨rfl, gI_eq⟩
  · simp only [f_m_tourAt, pm_anew, pm_tourWhy g.lm.an z1 z2, f_m_no, Option.bind_some, bind_ite, Bool.false_eq_true, ↓reduceIte, iI_0 tN_r]
    by_cases ht : tN R z 10 = 0
    · have h0 := tN_0.mp ht
      rw [if_pos ht, show f_m_in N (iI i) 0 (iI z) (an τ) = some (decide (0 ≤ i ∧ i ≤ z), an τ) from pm_in (b := 0) i1 i2 (by omega) (by omega) (by omega) (by omega), Option.bind_some]
      simp only [decide_eq_true_eq]
      by_cases hi : 0 ≤ i ∧ i ≤ z
      · rw [if_pos hi, if_pos ht, show tT R z i = 0 by unfold tT; rw [if_pos ht, if_pos hi], ra_0]
        obtain ⟨a, ha⟩ := hd h0.1
        obtain ⟨n, rfl⟩ : ∃ b : Nat, z = (b : Int) := ⟨z.toNat, by omega⟩
        obtain ⟨i, rfl⟩ : ∃ b : Nat, i = (b : Int) := ⟨i.toNat, by omega⟩
        rw [Int.toNat_natCast] at ha ⊢
        rw [Int.toNat_natCast]
        have hW := g.gd.wl h0.1
        have hS := g.gd.ws h0.1
        have hal : a.2.2 < 2 ^ n := dfs_lt n S 0 (2 ^ n) none (by omega) (fun a ha => by cases ha) a ha
        have h2n : 2 ^ n ≤ 1024 := by
          have : 2 ^ n ≤ 2 ^ 10 := Nat.pow_le_pow_right (by omega) (by omega)
          omega
        rw [okB]
        refine ((pm_seekTour hN g.lm.an.1 g.lm.an.2.1 hW hS.c hS.2.2.2.1 (n := n) (by omega)).and (fun z => w_f_m_seekTour)).imp (fun q hq => ?_)
        have h1 := hq.1
        rw [ha] at h1 ⊢
        have ht2 : gI q.2 66 11 = iI 0 := by rw [hq.2.I 66 11 rfl]; exact an_t
        have h74 : gA q.2 74 61 = iI (S 61 : Int) := (g.lm.an.2.1.fr hq.2 rfl).A (z := 61) 61 rfl (by omega) (by omega)
        have key : ∀ F k, k ≤ i → i - k < F → f_m_tourAt_L52 N F (iI (n : Int)) (iI (i : Int)) (iI ((S 61 : Int) + twI a.2.2 n k)) (iI (k : Int)) q.2 = some (iI ((S 61 : Int) + twI a.2.2 n i), q.2) := by
          intro F
          induction F with
          | zero => intro k _ h; omega
          | succ F ih =>
            intro k hk hF
            unfold f_m_tourAt_L52
            by_cases c : k = i
            · rw [if_pos (show iI (i : Int) ≤ iI (k : Int) by rw [iI_le (by omega) (by omega) (by omega) (by omega)]; omega), c]
            · rw [if_neg (show ¬ iI (i : Int) ≤ iI (k : Int) by rw [iI_le (by omega) (by omega) (by omega) (by omega)]; omega), h1.1, show iI (n : Int) - 1 - iI (k : Int) = iI ((n - 1 - k : Nat) : Int) by rw [show (1 : Int32) = iI 1 from rfl, iI_sub, iI_sub]; congr 1; omega]
              unfold f_m_hasBit
              rw [shr_bit _ (by omega) _ (by omega), show iI (k : Int) + 1 = iI ((k + 1 : Nat) : Int) from iI_add _ 1]
              have hh := ih (k + 1) (by omega) (by omega)
              rw [twI_s, set_bit _ (by omega) _ (by omega)] at hh
              by_cases b : a.2.2 / 2 ^ (n - 1 - k) % 2 = 1
              · rw [if_pos (show iI ((a.2.2 / 2 ^ (n - 1 - k) % 2 : Nat) : Int) = 1 by rw [b]; rfl), Option.bind_some]
                dsimp only
                rw [if_pos rfl, iI_dec, Int.add_assoc]
                rw [if_pos (by simp [b])] at hh
                exact hh
              · rw [if_neg (show ¬ iI ((a.2.2 / 2 ^ (n - 1 - k) % 2 : Nat) : Int) = 1 by rw [show a.2.2 / 2 ^ (n - 1 - k) % 2 = 0 by omega]; decide), Option.bind_some]
                dsimp only
                rw [if_neg (by decide), show iI ((S 61 : Int) + twI a.2.2 n k) + 1 = iI ((S 61 : Int) + twI a.2.2 n k + 1) from iI_add _ 1, Int.add_assoc]
                rw [if_neg (by simp [b])] at hh
                exact hh
        have k0 := key N 0 (by omega) (by omega)
        rw [show twI a.2.2 n 0 = 0 from rfl, Int.add_zero] at k0
        rw [h74, show (0 : Int32) = iI ((0 : Nat) : Int) from rfl, k0]
        exact okS.mpr ⟨rfl, ht2⟩
      · rw [if_neg hi, show tT R z i = 1 by unfold tT; rw [if_pos ht, if_neg hi]]
        exact okS.mpr ⟨rfl, gI_eq⟩
    · rw [if_neg ht, if_neg ht, show tT R z i = tN R z 10 by unfold tT; rw [if_neg ht]]
      unfold ra
      rw [if_neg ht]
      exact okS.mpr ⟨rfl, gI_eq⟩
end TOURM
