section REACH2
variable {N : Nat} {R S B : Nat → Nat} {σ : Sg}
def rchI (R : Nat → Nat) (g : Nat → Bool) (s v : Nat) : Int := ((msk (fun k => decide (mnV ((vis R v 0 g s 0).foldl (mnS k) none) ≤ v)) 30 : Nat) : Int)
theorem pm_reach40 {mi : Nat → Option Nat} {sp : Option (Nat × Nat × Nat)} {v : Nat} (hN : 200000 ≤ N) (hv : v ≤ 5) (h : MT mi sp σ) : f_m_reach_L40 N N (iI (v : Int)) 0 0 σ = some (iI ((msk (fun k => decide (mnV (mi k) ≤ v)) 30 : Nat) : Int), σ) := by
  have key : ∀ (m i : Nat), i ≤ 30 → 30 - i < m → f_m_reach_L40 N m (iI (v : Int)) (iI ((msk (fun k => decide (mnV (mi k) ≤ v)) i : Nat) : Int)) (iI (i : Int)) σ = some (iI ((msk (fun k => decide (mnV (mi k) ≤ v)) 30 : Nat) : Int), σ) := by
    intro m
    induction m with
    | zero => intro i _ h; omega
    | succ m ih =>
      intro i hi hm
      unfold f_m_reach_L40
      by_cases c : i = 30
      · subst c
        rw [if_pos (show (30 : Int32) ≤ iI ((30 : Nat) : Int) by decide)]
      · have hr := mnV_r h.2.2.1 i
        rw [if_neg (show ¬ (30 : Int32) ≤ iI (i : Int) by rw [show (30 : Int32) = iI 30 from rfl, iI_le (by omega) (by omega) (by omega) (by omega)]; omega), if_pos (show vin (iI (i : Int)) 60 by rw [vin_iI (by omega) (by omega)]; omega), gA_iI (by omega) (by omega), Int.toNat_natCast, h.1 i (by omega), show iI (i : Int) + 1 = iI ((i + 1 : Nat) : Int) from iI_add _ 1]
        have hl := msk_lt (fun k => decide (mnV (mi k) ≤ v)) i
        have hl2 : 2 ^ i ≤ 2 ^ 29 := Nat.pow_le_pow_right (by omega) (by omega)
        by_cases c2 : mnV (mi i) ≤ v
        · rw [if_neg (show ¬ iI (v : Int) < iI (mnV (mi i)) by rw [iI_lt (by omega) (by omega) (by omega) (by omega)]; omega), iI_or_pow (by omega) hl]
          have e : msk (fun k => decide (mnV (mi k) ≤ v)) i + 2 ^ i = msk (fun k => decide (mnV (mi k) ≤ v)) (i + 1) := by
            rw [msk_s, if_pos (decide_eq_true c2)]
          rw [e]
          exact ih (i + 1) (by omega) (by omega)
        · rw [if_pos (show iI (v : Int) < iI (mnV (mi i)) by rw [iI_lt (by omega) (by omega) (by omega) (by omega)]; omega), show (0 : Int32) = iI ((0 : Nat) : Int) from rfl, iI_or (by omega) (by omega), Nat.or_zero]
          have e : msk (fun k => decide (mnV (mi k) ≤ v)) i = msk (fun k => decide (mnV (mi k) ≤ v)) (i + 1) := by
            rw [msk_s, if_neg (by rw [decide_eq_false c2]; decide), Nat.add_zero]
          rw [e]
          exact ih (i + 1) (by omega) (by omega)
  exact key N 0 (by omega) (by omega)
theorem sim_reach (hN : 200000 ≤ N) (v : Int32) (h : Sim σ) : Both (f_x_reach N v σ) (f_m_reach N v) := by
  obtain ⟨R, S, B, h, hr⟩ := h
  obtain ⟨z, rfl, z1, z2⟩ := iI_of v
  have hc := h.gd.c
  refine sim_ca (a := ra (tN R z 5) (rchI R (gon S) (S 60) z.toNat)) h hr (ra_t tN_3) ?_ (fun z => w_f_x_reach) rfl (fun τ g => ?_) (fun τ y => w_f_m_reach) rfl rfl
  · have e := tx_num (N := N) h.lx.c h.gd.c z1 z2 (m := 5) (by omega) (by omega)
    simp only [f_x_reach, show (5 : Int32) = iI 5 from rfl, e, px_gr N tN_r, Option.bind_some, bind_ite, Bool.false_eq_true, ↓reduceIte]
    refine x_finK h.ca (fun h0 => ?_)
    rw [tN_0] at h0
    obtain ⟨k, rfl⟩ : ∃ b : Nat, z = (b : Int) := ⟨z.toNat, by omega⟩
    rw [okB]
    refine (px_knownPaths hN h h0.1).imp (fun q hq => ?_)
    rw [okB]
    refine (px_reached hN (v := k) (by omega) hq.1.1).imp (fun q2 hq2 => ?_)
    refine okS.mpr ⟨⟨?_, ?_⟩, ?_⟩
    · rw [lowI, hq2.1, Int.toNat_natCast]
      unfold rchI
      have e2 : rp (fun m k => (vis R 5 0 (gon S) (S 60) 0).foldl (rcS m k) false) (k + 1) = fun j => decide (mnV ((vis R k 0 (gon S) (S 60) 0).foldl (mnS j) none) ≤ k) := by
        funext j
        exact reach_eq h.gd.nb (by omega)
      rw [e2]
    · rw [hq2.2]; exact hq.2
    · rw [hq2.2]; exact hq.1.ca (h.gd.ws h0.1).2.2.1
  · have ew := fun (k : Int32 × Sg → Option (Int32 × Sg)) => pm_why9 (N := N) g.lm.an z1 z2 (m := 5) (by omega) (by omega) k
    simp only [f_m_reach, pm_anew, show (5 : Int32) = iI 5 from rfl]
    refine Eq.mpr (congrArg (fun o => ok o _) (ew _)) ?_
    simp only [f_m_no, Option.bind_some, bind_ite, Bool.false_eq_true, ↓reduceIte, iI_0 tN_r]
    refine m_fin (fun h0 => ?_)
    rw [tN_0] at h0
    have hW := g.gd.wl h0.1
    have hS := g.gd.ws h0.1
    have hc := hW.c
    obtain ⟨k, rfl⟩ : ∃ b : Nat, z = (b : Int) := ⟨z.toNat, by omega⟩
    rw [okB]
    refine ((pm_seekRows (lim := k) (tgt := 60) (tv := -1) hN hW hS g.lm.an.1 g.lm.an.2.1 (by omega) (fun x hx => propext (by rw [show (-1 : Int32) = iI (-1) from rfl, iI_eq (by omega) (by omega) (by omega) (by omega)]; omega))).and (fun z => w_f_m_seekRows)).imp (fun q hq => ?_)
    rw [pm_reach40 hN (by omega) hq.1, Int.toNat_natCast]
    exact okS.mpr ⟨rfl, (hq.2.I 66 11 rfl).trans an_t⟩
end REACH2
