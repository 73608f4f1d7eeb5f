section COMEAT2
variable {N : Nat} {R S B : Nat → Nat} {σ : Sg}
def ctA (R S : Nat → Nat) (k : Nat) (y : Int) : Int × Int := match (vis R 5 0 (gon S) (S 60) 0).foldl (cmS k) none with
  | none => (-1, 1)
  | some b => if 0 ≤ y ∧ y < b.1 then ((dg b.2 b.1 y.toNat : Int), 0) else (-1, 1)
def caA (R S : Nat → Nat) (z y : Int) : Int × Int := if 0 ≤ z ∧ z < R 0 then ctA R S z.toNat y else (-1, 1)
theorem caA_t {z y : Int} : 0 ≤ (caA R S z y).2 ∧ (caA R S z y).2 ≤ 6 ∧ (caA R S z y).2 ≠ 4 := by
  have h1 : ∀ a : Int × Int, a = (-1, 1) → 0 ≤ a.2 ∧ a.2 ≤ 6 ∧ a.2 ≠ 4 := fun a h => by rw [h]; decide
  unfold caA
  split
  · unfold ctA
    split
    · exact h1 _ rfl
    · split
      · exact ⟨Int.le_refl 0, by show (0 : Int) ≤ 6; omega, by show (0 : Int) ≠ 4; omega⟩
      · exact h1 _ rfl
  · exact h1 _ rfl
theorem Cache.tr {v : Int32} (h : Cache R σ) : Cache R (sI σ 0 10 v) := h.fr (W := [(0, some 10)]) (Fr.wI Fr.rf (by simp)) rfl
theorem sim_comeAt (hN : 200000 ≤ N) (v w : Int32) (h : Sim σ) : Both (f_x_comeAt N v w σ) (f_m_comeAt N v w) := by
  obtain ⟨R, S, B, h, hr⟩ := h
  obtain ⟨z, rfl, z1, z2⟩ := iI_of v
  obtain ⟨y, rfl, y1, y2⟩ := iI_of w
  have hc := h.gd.c
  refine sim_ca (a := caA R S z y) h hr caA_t ?_ (fun z => w_f_x_comeAt) rfl (fun τ g => ?_) (fun τ y => w_f_m_comeAt) rfl rfl
  · unfold f_x_comeAt
    rw [tx_cell h.lx.c h.gd.c z1 z2, Option.bind_some]
    dsimp only
    rw [px_gr N tC_r]
    by_cases hz : 0 ≤ z ∧ z < R 0
    · have hn : R 0 ≠ 0 := by omega
      have hW := h.gd.wl hn
      have hS := h.gd.ws hn
      obtain ⟨k, rfl⟩ : ∃ b : Nat, z = (b : Int) := ⟨z.toNat, by omega⟩
      rw [if_pos (tC_0.mpr hz), Option.bind_some, if_pos rfl, okB]
      unfold caA
      rw [if_pos hz, Int.toNat_natCast]
      refine (px_knownPaths hN h hn).imp (fun q hq => ?_)
      have hcm := TbA.cm hq.1.1 (k := k) (by omega)
      have hca := hq.1.ca hS.2.2.1
      have bad : ok (some ((-1 : Int32), sI q.2 0 10 (iI 1))) (fun z => An (-1, 1) z ∧ Cache R z.2) := okS.mpr ⟨⟨rfl, gI_eq⟩, hca.tr⟩
      unfold f_paths_comeStrides f_paths_comeRow
      rw [px_getN (by omega), Option.bind_some, Option.bind_some]
      dsimp only
      rw [px_gr1, Option.bind_some, if_neg (show ¬ (false, sI q.2 0 10 (iI 1)).1 = true from Bool.false_ne_true)]
      unfold ctA
      by_cases cy : y < 0
      · rw [if_pos (show iI y < 0 by rw [show (0 : Int32) = iI 0 from rfl, iI_lt (by omega) (by omega) (by omega) (by omega)]; omega)]
        split
        · exact bad
        · rw [if_neg (by omega)]; exact bad
      · rw [if_neg (show ¬ iI y < 0 by rw [show (0 : Int32) = iI 0 from rfl, iI_lt (by omega) (by omega) (by omega) (by omega)]; omega)]
        cases e2 : (vis R 5 0 (gon S) (S 60) 0).foldl (cmS k) none with
        | none =>
          rw [e2] at hcm
          rw [show gI q.2 56 k = iI (-2) from hcm, show b2i (decide (¬ (iI y < iI (-2)))) = 1 by rw [decide_eq_true (show ¬ (iI y < iI (-2)) by rw [iI_lt (by omega) (by omega) (by omega) (by omega)]; omega)]; rfl, px_gr1, Option.bind_some, if_neg (show ¬ (false, sI q.2 0 10 (iI 1)).1 = true from Bool.false_ne_true)]
          exact bad
        | some b =>
          rw [e2] at hcm
          obtain ⟨h5, hg, hf⟩ := come_first hW hS.c hS.2.2.1 e2
          have hlt := rowOk_lt (by have := hW.nb; omega) hg.1
          have hp := p10 h5
          rw [show gI q.2 56 k = iI (b.1 : Int) from hcm.1]
          dsimp only
          by_cases cb : y < b.1
          · obtain ⟨j, rfl⟩ : ∃ b : Nat, y = (b : Int) := ⟨y.toNat, by omega⟩
            rw [show b2i (decide (¬ (iI (j : Int) < iI (b.1 : Int)))) = 0 by rw [decide_eq_false (show ¬ ¬ (iI (j : Int) < iI (b.1 : Int)) by rw [iI_lt (by omega) (by omega) (by omega) (by omega)]; omega)]; rfl, px_gr0, Option.bind_some, if_pos rfl, px_getN (by omega), Option.bind_some, Option.bind_some]
            dsimp only
            rw [show gI (sI q.2 0 10 0) 57 k = iI (b.2 : Int) by rw [gI_ne (by omega)]; exact hcm.2, px_digitOf hN (by omega) h5 (by omega), Option.bind_some, if_pos (by omega), Int.toNat_natCast]
            exact okS.mpr ⟨⟨rfl, gI_eq⟩, hca.tr⟩
          · rw [show b2i (decide (¬ (iI y < iI (b.1 : Int)))) = 1 by rw [decide_eq_true (show ¬ (iI y < iI (b.1 : Int)) by rw [iI_lt (by omega) (by omega) (by omega) (by omega)]; omega)]; rfl, px_gr1, Option.bind_some, if_neg (show ¬ (false, sI q.2 0 10 (iI 1)).1 = true from Bool.false_ne_true), if_neg (by omega)]
            exact bad
    · rw [if_neg (by rw [tC_0]; exact hz), Option.bind_some, if_neg (show ¬ false = true by decide)]
      unfold caA
      rw [if_neg hz, show tC R z = 1 by unfold tC; rw [if_neg hz]]
      exact okS.mpr ⟨⟨rfl, gI_eq⟩, h.ca.tr⟩
  · simp only [f_m_comeAt, pm_anew, pm_isCell g.lm.an g.gd.c z1 z2, f_m_no, Option.bind_some, bind_ite, Bool.false_eq_true, ↓reduceIte, decide_eq_true_eq]
    unfold caA
    by_cases hz : 0 ≤ z ∧ z < R 0
    · have hn : R 0 ≠ 0 := by omega
      have hW := g.gd.wl hn
      have hS := g.gd.ws hn
      obtain ⟨k, rfl⟩ : ∃ b : Nat, z = (b : Int) := ⟨z.toNat, by omega⟩
      rw [if_pos hz, if_pos hz, okB, Int.toNat_natCast]
      refine ((pm_comeRow hN hW hS g.lm.an.1 g.lm.an.2.1 (k := k) (by omega)).and (fun z => w_f_m_comeRow)).imp (fun q hq => ?_)
      have h1 := hq.1
      rw [if_pos (show vin (iI (k : Int)) 60 by rw [vin_iI (by omega) (by omega)]; omega), gA_iI (by omega) (by omega), Int.toNat_natCast]
      unfold ctA
      cases e2 : (vis R 5 0 (gon S) (S 60) 0).foldl (cmS k) none with
      | none =>
        rw [e2] at h1
        rw [show q.1 = iI (-2) from h1, if_pos (show iI (-2) < 0 by decide)]
        exact okS.mpr ⟨rfl, gI_eq⟩
      | some b =>
        rw [e2] at h1
        obtain ⟨h5, hg, hf⟩ := come_first hW hS.c hS.2.2.1 e2
        have hlt := rowOk_lt (by have := hW.nb; omega) hg.1
        have hp := p10 h5
        rw [h1.1, h1.2, if_neg (show ¬ iI (b.2 : Int) < 0 by rw [show (0 : Int32) = iI 0 from rfl, iI_lt (by omega) (by omega) (by omega) (by omega)]; omega), show iI (b.1 : Int) - 1 = iI ((b.1 : Int) - 1) from iI_sub _ 1, show f_m_in N (iI y) 0 (iI ((b.1 : Int) - 1)) q.2 = _ from pm_in (b := 0) y1 y2 (by omega) (by omega) (by omega) (by omega), Option.bind_some]
        dsimp only
        by_cases cb : 0 ≤ y ∧ y < b.1
        · obtain ⟨j, rfl⟩ : ∃ b : Nat, y = (b : Int) := ⟨y.toNat, by omega⟩
          rw [if_pos (show decide (0 ≤ (j : Int) ∧ (j : Int) ≤ (b.1 : Int) - 1) = true by rw [decide_eq_true_eq]; omega), if_pos cb, okB]
          refine ((pm_rowWhy hN (g.lm.an.1.fr hq.2 rfl) (by have := hW.nb; omega) true (z := (b.2 : Int)) (n := (b.1 : Int)) (by omega) (by omega) (by omega) (by omega)).and (fun z => w_f_m_rowWhy)).imp (fun q2 hq2 => ?_)
          have h79 := hq2.1.2 rfl ⟨by omega, by omega, by rw [Int.toNat_natCast, Int.toNat_natCast]; exact hg.1⟩ j (by rw [Int.toNat_natCast]; omega)
          rw [Int.toNat_natCast, Int.toNat_natCast] at h79
          rw [if_pos (show vin (iI (j : Int)) 5 by rw [vin_iI (by omega) (by omega)]; omega), gA_iI (by omega) (by omega), Int.toNat_natCast, h79]
          refine okS.mpr ⟨rfl, ?_⟩
          exact (hq2.2.I 66 11 rfl).trans ((hq.2.I 66 11 rfl).trans an_t)
        · rw [if_neg (show ¬ decide (0 ≤ y ∧ y ≤ (b.1 : Int) - 1) = true by rw [decide_eq_true_eq]; omega), if_neg cb]
          exact okS.mpr ⟨rfl, gI_eq⟩
    · rw [if_neg hz, if_neg hz]
      exact okS.mpr ⟨rfl, gI_eq⟩
end COMEAT2
