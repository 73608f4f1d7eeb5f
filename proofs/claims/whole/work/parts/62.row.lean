/-! ===== strides on bits and on rows; rows of strides ===== -/
def WfC (R S : Nat → Nat) : Prop := (∀ k, k < 60 → S k ≤ 3) ∧ ∀ k, R 0 ≤ k → k < 60 → S k = 0
theorem WfS.c {R S : Nat → Nat} (h : WfS R S) : WfC R S := ⟨h.1, h.2.1⟩
theorem WfC.r {R S : Nat → Nat} (h : WfC R S) : ∀ k, k < 60 → S k < 2147483648 := fun k hk => by have := h.1 k hk; omega
theorem tg_none : tg none = iI (-2) := rfl
theorem tg_some {t : Nat} : tg (some t) = iI (t : Int) := rfl
theorem iI_m2 {t : Nat} (h : t < 60) : ¬ iI (t : Int) = -2 := by
  rw [show (-2 : Int32) = iI (-2) from rfl, iI_eq (by omega) (by omega) (by omega) (by omega)]; omega
section MV
variable {N : Nat} {R S : Nat → Nat} {σ : Sg}
theorem mv60 {t : Nat} : mv R S t 60 = t := rfl
theorem mv61 {t : Nat} (hs : S 60 < 60) (ht : t < 60) : mv R S t 61 = S 61 := by
  unfold mv
  rw [if_neg (by omega), if_neg (by omega)]
theorem mv62 {t : Nat} (hs : S 60 < 60) (ht : t < 60) : mv R S t 62 = S 62 := by
  unfold mv
  rw [if_neg (by omega), if_neg (by omega)]
theorem WfC.mvd {t : Nat} (h : WfC R S) (hW : WfL R) (hs : S 60 < R 0) (ht : t < R 0) : WfC R (mv R S t) := by
  refine ⟨fun k hk => ?_, fun k h1 h2 => ?_⟩
  · have h1 := h.1 k hk
    have h2 := hW.gd hk
    unfold mv
    rw [if_neg (by omega)]
    split <;> omega
  · have h3 := h.2 k h1 h2
    unfold mv
    rw [if_neg (by omega), if_neg (by omega)]
    exact h3
theorem gon_mv {t : Nat} (hs : S 60 < 60) (ht : t < 60) : gon (mv R S t) = nxg (gon S) (S 60) t := by
  funext k
  unfold gon nxg mv
  rw [Bool.eq_iff_iff]
  simp only [Bool.or_eq_true, decide_eq_true_eq]
  by_cases c1 : k = 60
  · rw [if_pos c1]; omega
  · rw [if_neg c1]
    by_cases c2 : (min (S 60) t < k ∧ k < max (S 60) t) ∧ S k = 0
    · rw [if_pos c2]; omega
    · rw [if_neg c2]; omega
theorem can_some {d : Nat} : can R S d = true ↔ ∃ t, lead R (gon S) (S 60) d = some t := by
  unfold can
  cases lead R (gon S) (S 60) d <;> simp
theorem go_some {d t : Nat} (h : lead R (gon S) (S 60) d = some t) : go R S d = mv R S t := by unfold go; rw [h]
theorem go_none {d : Nat} (h : lead R (gon S) (S 60) d = none) : go R S d = S := by unfold go; rw [h]
theorem WfC.god {d : Nat} (h : WfC R S) (hW : WfL R) (hs : S 60 < R 0) : WfC R (go R S d) ∧ go R S d 60 < R 0 := by
  cases hd : lead R (gon S) (S 60) d with
  | none => rw [go_none hd]; exact ⟨h, hs⟩
  | some t => rw [go_some hd]; exact ⟨h.mvd hW hs (lead_lt hs hd), lead_lt hs hd⟩
theorem px_makeStride {o d : Nat} (hL : LX 10 R σ) (hX : SX o S σ) (hW : WfL R) (hC : WfC R S) (hs : S 60 < R 0) (ho : o = 40 ∨ o = 41) (h1 : 1 ≤ d) (h2 : d ≤ 2 * R 2) : ok (f_state_makeStride N o 11 3 12 10 (iI (d : Int)) σ) (fun z => z.1 = can R S d ∧ SX o (go R S d) z.2) := by
  have hc := hW.c
  unfold f_state_makeStride
  rw [px_goneCells, Option.bind_some]
  simp only [hX.2.2.1]
  rw [px_tgt hL hW _ hs h1 h2, hX.b.gone hC.1, Option.bind_some]
  dsimp only
  cases hd : lead R (gon S) (S 60) d with
  | none =>
    rw [tg_none, if_pos (show iI (-2) = -2 from rfl), show can R S d = false by unfold can; rw [hd]; rfl, go_none hd]
    exact okS.mpr ⟨rfl, hX⟩
  | some t =>
    have ht := lead_lt hs hd
    rw [tg_some, if_neg (iI_m2 (by omega)), show can R S d = true by unfold can; rw [hd]; rfl, go_some hd]
    rw [hX.2.2.1, px_inside N (by omega) (by omega), Option.bind_some, px_goneCells, Option.bind_some]
    unfold f_country_lowDepth f_country_highDepth
    simp only [Option.bind_some]
    have hg : ∀ k, tb (gL σ o 0 ||| gL σ o 1) k = gon S k := fun k => by rw [hX.b.gone hC.1]
    have hne : (10 : Nat) ≠ o := by omega
    refine okS.mpr ⟨rfl, fun k => ?_, fun k => ?_, ?_, ?_, ?_⟩
    · rw [gL_sIx, gL_ne (by omega), gL_eq]
      rw [tb_or, tb_and, tb_and, tb_nt, tb_nt, tb_ins (by omega) (by omega), hg, hX.1, hL.bog]
      unfold mv gon
      rw [Bool.eq_iff_iff]
      simp only [Bool.or_eq_true, Bool.and_eq_true, Bool.not_eq_true', decide_eq_true_eq, decide_eq_false_iff_not]
      have h3 := hC.1 k
      have h4 := hW.gd (k := k)
      by_cases c1 : k = 60
      · rw [if_pos c1]; omega
      · rw [if_neg c1]
        by_cases c2 : (min (S 60) t < k ∧ k < max (S 60) t) ∧ S k = 0
        · rw [if_pos c2]; omega
        · rw [if_neg c2]; omega
    · rw [gL_sIx, gL_eq]
      repeat rw [gL_ne (by omega)]
      rw [tb_or, tb_and, tb_and, tb_nt, hg, tb_or, tb_ins (by omega) (by omega), hX.2.1, hL.bog, hL.wood]
      unfold mv gon
      rw [Bool.eq_iff_iff]
      simp only [Bool.or_eq_true, Bool.and_eq_true, Bool.not_eq_true', decide_eq_true_eq, decide_eq_false_iff_not]
      have h3 := hC.1 k
      have h4 := hW.gd (k := k)
      by_cases c1 : k = 60
      · rw [if_pos c1]; omega
      · rw [if_neg c1]
        by_cases c2 : (min (S 60) t < k ∧ k < max (S 60) t) ∧ S k = 0
        · rw [if_pos c2]; omega
        · rw [if_neg c2]; omega
    · exact gI_eq
    · rw [gI_ne (by omega), gI_sLx, gI_sLx, mv61 (by omega) (by omega)]
      exact hX.2.2.2.1
    · rw [gI_ne (by omega), gI_sLx, gI_sLx, mv62 (by omega) (by omega)]
      exact hX.2.2.2.2
theorem cnt_or {p q : Nat → Bool} (n : Nat) : cnt (fun k => p k || q k) n = cnt p n + cnt (fun k => q k && !p k) n := by
  induction n with
  | zero => rfl
  | succ n ih =>
    unfold cnt
    rw [ih]
    cases p n <;> cases q n <;> simp <;> omega
theorem lostB_or {p q : Nat → Bool} (n : Nat) : lostB R (fun k => p k || q k) n = lostB R p n + lostB R (fun k => q k && !p k) n := by
  induction n with
  | zero => rfl
  | succ n ih =>
    unfold lostB
    rw [ih]
    cases p (R (12 + 2 * n)) <;> cases q (R (12 + 2 * n)) <;> simp <;> omega
theorem tb_frsh {a b : Nat} {w : Int64} {g : Nat → Bool} (ha : a < 60) (hb : b < 60) (hg : tb w = g) : tb (insN a b &&& (w ^^^ (-1))) = fun k => decide (min a b < k ∧ k < max a b) && !g k := by
  funext k
  rw [tb_and, tb_nt, tb_ins (by omega) (by omega), hg, Bool.eq_iff_iff]
  simp only [Bool.and_eq_true, Bool.not_eq_true', decide_eq_true_eq]
  constructor
  · rintro ⟨h1, h2, h3⟩; exact ⟨h1, h3⟩
  · rintro ⟨h1, h3⟩; exact ⟨h1, by omega, h3⟩
def paI (R S : Nat → Nat) (d : Nat) : Int := match lead R (gon S) (S 60) d with
  | none => -2
  | some t => (cnt (fun k => decide (min (S 60) t < k ∧ k < max (S 60) t) && !gon S k) 64 : Int)
def coI (R S : Nat → Nat) (d : Nat) : Int := match lead R (gon S) (S 60) d with
  | none => -2
  | some t => (lost R (fun k => decide (min (S 60) t < k ∧ k < max (S 60) t) && !gon S k) : Int)
theorem sim_passes (hN : 200000 ≤ N) (v w : Int32) (h : Sim σ) : Both (f_x_passes N v w σ) (f_m_passes N v w) := by
  obtain ⟨R, S, B, h, hr⟩ := h
  obtain ⟨z, rfl, z1, z2⟩ := iI_of v
  obtain ⟨y, rfl, y1, y2⟩ := iI_of w
  refine sim_ro (a := ra (tW R z y) (paI R S (2 * z.toNat + 1 + y.toNat))) h hr (ra_t tW_3) ?_ (fun z => w_f_x_passes) rfl (fun τ g => ?_) (fun τ y => w_f_m_passes) rfl rfl
  · simp only [f_x_passes, tx_way h.lx.nb h.gd.nb z1 z2 y1 y2, px_gr N tW_r, Option.bind_some, bind_ite, Bool.false_eq_true, ↓reduceIte]
    refine x_fin (fun h0 => ?_)
    rw [tW_0] at h0
    obtain ⟨b, rfl⟩ : ∃ b : Nat, z = (b : Int) := ⟨z.toNat, by omega⟩
    obtain ⟨w, rfl⟩ : ∃ b : Nat, y = (b : Int) := ⟨y.toNat, by omega⟩
    have hn := h.gd.nb0 (by omega)
    have hW := h.gd.wl hn
    have hS := h.gd.ws hn
    have hc := hW.c
    have hs := hS.2.2.1
    have hsx : SX 40 S (sI σ 0 10 0) := h.sx.tr (by decide)
    rw [px_targetNow h.lx.tr hsx hW hS (by omega) (by omega), Option.bind_some]
    dsimp only
    simp only [Int.toNat_natCast, paI]
    cases hd : lead R (gon S) (S 60) (2 * b + 1 + w) with
    | none =>
      rw [tg_none, if_pos (show iI (-2) = -2 from rfl)]
      exact okS.mpr ⟨rfl, gI_eq⟩
    | some t =>
      have ht := lead_lt hs hd
      rw [tg_some, if_neg (iI_m2 (by omega)), hsx.2.2.1]
      simp only [px_inside N (show S 60 < 63 by omega) (show t < 63 by omega), px_goneCells, px_bitCount, Option.bind_some]
      rw [tb_frsh (by omega) (by omega) (hsx.b.gone hS.1)]
      exact okS.mpr ⟨rfl, gI_eq⟩
  · simp only [f_m_passes, pm_anew, pm_wayWhy g.lm.an g.gd.nb g.gd.nb0 z1 z2 y1 y2, f_m_no, Option.bind_some, bind_ite, Bool.false_eq_true, ↓reduceIte, iI_0 tW_r]
    refine m_fin (fun h0 => ?_)
    rw [tW_0] at h0
    obtain ⟨b, rfl⟩ : ∃ b : Nat, z = (b : Int) := ⟨z.toNat, by omega⟩
    obtain ⟨w, rfl⟩ : ∃ b : Nat, y = (b : Int) := ⟨y.toNat, by omega⟩
    have hn := g.gd.nb0 (by omega)
    have hW := g.gd.wl hn
    have hS := g.gd.ws hn
    have h3 := hW.nb
    have hc := hW.c
    have hs := hS.2.2.1
    rw [okB]
    refine ((pm_begin hN g.lm.an.2.1).and (fun z => w_f_m_begin)).imp (fun q1 h1 => ?_)
    have hR1 := g.lm.an.1.fr h1.2 rfl
    have hS1 := g.lm.an.2.1.fr h1.2 rfl
    rw [okB]
    refine ((pm_strideOn hN hR1 h1.1 (by decide) hW.c.2 (show b < 3 by omega) (hW.bt (by omega)).2 hs hS.r (show w ≤ 1 by omega)).and (fun z => w_f_m_strideOn)).imp (fun q2 h2 => ?_)
    have hR2 := hR1.fr h2.2 rfl
    have hS2 := hS1.fr h2.2 rfl
    have ht2 : gI q2.2 66 11 = iI 0 := by
      rw [h2.2.I 66 11 rfl, h1.2.I 66 11 rfl]; exact an_t
    simp only [Int.toNat_natCast, paI]
    rw [h2.1.1]
    cases hd : lead R (gon S) (S 60) (2 * b + 1 + w) with
    | none =>
      rw [if_neg (by unfold can; rw [hd]; simp)]
      exact okS.mpr ⟨rfl, ht2⟩
    | some t =>
      have ht := lead_lt hs hd
      rw [if_pos (by unfold can; rw [hd]; rfl)]
      have h22 := h2.1.2
      rw [go_some hd] at h22
      have hC := hS.c.mvd hW hs ht
      rw [pm_goneOn hN hR2 h22 hc.2 hC.2 hC.r, Option.bind_some, pm_goneOn hN hR2 hS2 hc.2 hS.2.1 hS.r, Option.bind_some]
      refine okS.mpr ⟨?_, ht2⟩
      show iI _ - iI _ = iI _
      rw [iI_sub, gon_mv (by omega) (by omega)]
      unfold nxg
      rw [cnt_or]
      congr 1; dsimp only; omega
theorem sim_costs (hN : 200000 ≤ N) (v w : Int32) (h : Sim σ) : Both (f_x_costs N v w σ) (f_m_costs N v w) := by
  obtain ⟨R, S, B, h, hr⟩ := h
  obtain ⟨z, rfl, z1, z2⟩ := iI_of v
  obtain ⟨y, rfl, y1, y2⟩ := iI_of w
  refine sim_ro (a := ra (tW R z y) (coI R S (2 * z.toNat + 1 + y.toNat))) h hr (ra_t tW_3) ?_ (fun z => w_f_x_costs) rfl (fun τ g => ?_) (fun τ y => w_f_m_costs) rfl rfl
  · simp only [f_x_costs, tx_way h.lx.nb h.gd.nb z1 z2 y1 y2, px_gr N tW_r, Option.bind_some, bind_ite, Bool.false_eq_true, ↓reduceIte]
    refine x_fin (fun h0 => ?_)
    rw [tW_0] at h0
    obtain ⟨b, rfl⟩ : ∃ b : Nat, z = (b : Int) := ⟨z.toNat, by omega⟩
    obtain ⟨w, rfl⟩ : ∃ b : Nat, y = (b : Int) := ⟨y.toNat, by omega⟩
    have hn := h.gd.nb0 (by omega)
    have hW := h.gd.wl hn
    have hS := h.gd.ws hn
    have hc := hW.c
    have hs := hS.2.2.1
    have hsx : SX 40 S (sI σ 0 10 0) := h.sx.tr (by decide)
    rw [px_targetNow h.lx.tr hsx hW hS (by omega) (by omega), Option.bind_some]
    dsimp only
    simp only [Int.toNat_natCast, coI]
    cases hd : lead R (gon S) (S 60) (2 * b + 1 + w) with
    | none =>
      rw [tg_none, if_pos (show iI (-2) = -2 from rfl)]
      exact okS.mpr ⟨rfl, gI_eq⟩
    | some t =>
      have ht := lead_lt hs hd
      rw [tg_some, if_neg (iI_m2 (by omega)), hsx.2.2.1]
      simp only [px_inside N (show S 60 < 63 by omega) (show t < 63 by omega), px_goneCells, px_lost hN h.lx.tr hW, Option.bind_some]
      rw [tb_frsh (by omega) (by omega) (hsx.b.gone hS.1)]
      exact okS.mpr ⟨rfl, gI_eq⟩
  · simp only [f_m_costs, pm_anew, pm_wayWhy g.lm.an g.gd.nb g.gd.nb0 z1 z2 y1 y2, f_m_no, Option.bind_some, bind_ite, Bool.false_eq_true, ↓reduceIte, iI_0 tW_r]
    refine m_fin (fun h0 => ?_)
    rw [tW_0] at h0
    obtain ⟨b, rfl⟩ : ∃ b : Nat, z = (b : Int) := ⟨z.toNat, by omega⟩
    obtain ⟨w, rfl⟩ : ∃ b : Nat, y = (b : Int) := ⟨y.toNat, by omega⟩
    have hn := g.gd.nb0 (by omega)
    have hW := g.gd.wl hn
    have hS := g.gd.ws hn
    have h3 := hW.nb
    have hc := hW.c
    have hs := hS.2.2.1
    rw [okB]
    refine ((pm_begin hN g.lm.an.2.1).and (fun z => w_f_m_begin)).imp (fun q1 h1 => ?_)
    have hR1 := g.lm.an.1.fr h1.2 rfl
    have hS1 := g.lm.an.2.1.fr h1.2 rfl
    rw [okB]
    refine ((pm_strideOn hN hR1 h1.1 (by decide) hW.c.2 (show b < 3 by omega) (hW.bt (by omega)).2 hs hS.r (show w ≤ 1 by omega)).and (fun z => w_f_m_strideOn)).imp (fun q2 h2 => ?_)
    have hR2 := hR1.fr h2.2 rfl
    have hS2 := hS1.fr h2.2 rfl
    have ht2 : gI q2.2 66 11 = iI 0 := by
      rw [h2.2.I 66 11 rfl, h1.2.I 66 11 rfl]; exact an_t
    simp only [Int.toNat_natCast, coI]
    rw [h2.1.1]
    cases hd : lead R (gon S) (S 60) (2 * b + 1 + w) with
    | none =>
      rw [if_neg (by unfold can; rw [hd]; simp)]
      exact okS.mpr ⟨rfl, ht2⟩
    | some t =>
      have ht := lead_lt hs hd
      rw [if_pos (by unfold can; rw [hd]; rfl)]
      have h22 := h2.1.2
      rw [go_some hd] at h22
      have hC := hS.c.mvd hW hs ht
      rw [pm_lostOn hN hR2 h22 hW hC.r, Option.bind_some, pm_lostOn hN hR2 hS2 hW hS.r, Option.bind_some]
      refine okS.mpr ⟨?_, ht2⟩
      show iI _ - iI _ = iI _
      rw [iI_sub, gon_mv (by omega) (by omega)]
      unfold nxg lost
      rw [lostB_or]
      congr 1; dsimp only; omega
end MV
