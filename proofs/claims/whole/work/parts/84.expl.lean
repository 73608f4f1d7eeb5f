/-! ===== the class goes through every way ahead ===== -/
section EXPL
variable {N : Nat} {R : Nat → Nat} {σ : Sg}
theorem lostB_co {g g' : Nat → Bool} : ∀ p, (∀ q, q < p → g (R (12 + 2 * q)) = g' (R (12 + 2 * q))) → lostB R g p = lostB R g' p := by
  intro p
  induction p with
  | zero => intro _; rfl
  | succ p ih =>
    intro h
    unfold lostB
    rw [ih (fun q hq => h q (by omega)), h p (by omega)]
theorem lostB_mono {g g' : Nat → Bool} (h : ∀ k, g k = true → g' k = true) : ∀ p, lostB R g p ≤ lostB R g' p := by
  intro p
  induction p with
  | zero => exact Nat.le_refl _
  | succ p ih =>
    unfold lostB
    cases e : g (R (12 + 2 * p)) with
    | true => rw [h _ e, if_pos rfl]; omega
    | false => rw [if_neg (by decide)]; omega
theorem lost_nxg {g : Nat → Bool} {s t : Nat} : lost R g ≤ lost R (nxg g s t) := lostB_mono (fun k h => by unfold nxg; rw [h]; rfl) _
/-- what one further digit opens -/
def nxv (R : Nat → Nat) (f made : Nat) (g : Nat → Bool) (s row i : Nat) : List Vs := match lead R g s (i + 1) with
    | none => []
    | some t => vis R f (made + 1) (nxg g s t) t (10 * row + (i + 1))
theorem vis_s {f made : Nat} {g : Nat → Bool} {s row : Nat} : vis R (f + 1) made g s row = (made, s, row, lost R g) :: (List.range (2 * R 2)).flatMap (nxv R f made g s row) := rfl
theorem drop_range {n i : Nat} (h : i < n) : (List.range n).drop i = i :: (List.range n).drop (i + 1) := by
  rw [List.drop_eq_getElem_cons (by rw [List.length_range]; exact h), List.getElem_range]
def plcM (R : Nat → Nat) : Nat → Nat → Bool
  | 0 => fun _ => false
  | p + 1 => fun k => plcM R p k || decide (R (12 + 2 * p) = k)
theorem plcM_at : ∀ p q, q < p → plcM R p (R (12 + 2 * q)) = true := by
  intro p
  induction p with
  | zero => intro q h; omega
  | succ p ih =>
    intro q h
    unfold plcM
    by_cases c : q = p
    · rw [c, decide_eq_true rfl, Bool.or_true]
    · rw [ih q (by omega), Bool.true_or]
def FT (ca : Nat → Option (Nat × Nat)) (sa : Nat → Option (Nat × Nat × Nat)) (ar : Nat → Nat → Bool) (l0 : Nat) (l : List Vs) (σ : Sg) : Prop := TT (fun k => l.foldl (cmS k) (ca k)) (fun k => l.foldl (spS k) (sa k)) (fun m k => l.foldl (rcS m k) (ar m k)) l0 σ
theorem FT.app {ca : Nat → Option (Nat × Nat)} {sa : Nat → Option (Nat × Nat × Nat)} {ar : Nat → Nat → Bool} {l0 : Nat} {l l' : List Vs} (h : FT (fun k => l.foldl (cmS k) (ca k)) (fun k => l.foldl (spS k) (sa k)) (fun m k => l.foldl (rcS m k) (ar m k)) l0 l' σ) : FT ca sa ar l0 (l ++ l') σ := by
  unfold FT at h ⊢
  simp only [List.foldl_append]
  exact h
theorem px_explore (hN : 200000 ≤ N) (hW : WfL R) {l0 : Nat} : ∀ (f D made : Nat) (g : Nat → Bool) (s row : Nat) (w : Int64) (σ : Sg) (ca : Nat → Option (Nat × Nat)) (sa : Nat → Option (Nat × Nat × Nat)) (ar : Nat → Nat → Bool), made + f = 5 → f < D → tb w = g → s < R 0 → LX 10 R σ → gI σ 55 10 = iI (l0 : Int) → tb (gL σ 55 11) = plcM R (R 3) → l0 ≤ lost R g → TT ca sa ar l0 σ →
    ok (f_paths_explore N D (iI (made : Int)) w (iI (s : Int)) (iI (row : Int)) (iI (lost R g : Int)) σ) (fun z => FT ca sa ar l0 (vis R f made g s row) z.2) := by
  have hc := hW.c
  have hnb := hW.nb
  intro f
  induction f with
  | zero =>
    intro D made g s row w σ ca sa ar hm hD hw hs hL h10 h11 hl h
    obtain ⟨D, rfl⟩ : ∃ D', D = D' + 1 := ⟨D - 1, by omega⟩
    have hle := lost_le hW g
    unfold f_paths_explore f_paths_explore_B
    rw [h10, iI_sub, okB]
    refine (px_note (by omega) (by omega) hl hle h).imp (fun q hq => ?_)
    rw [if_neg (show ¬ iI (made : Int) < 5 by rw [show (5 : Int32) = iI 5 from rfl, iI_lt (by omega) (by omega) (by omega) (by omega)]; omega)]
    exact okS.mpr hq
  | succ f ihf =>
    intro D made g s row w σ ca sa ar hm hD hw hs hL h10 h11 hl h
    obtain ⟨D, rfl⟩ : ∃ D', D = D' + 1 := ⟨D - 1, by omega⟩
    have hle := lost_le hW g
    have loop : ∀ (m i : Nat) (τ : Sg) (ca : Nat → Option (Nat × Nat)) (sa : Nat → Option (Nat × Nat × Nat)) (ar : Nat → Nat → Bool), i ≤ 2 * R 2 → 2 * R 2 - i < m → LX 10 R τ → gI τ 55 10 = iI (l0 : Int) → tb (gL τ 55 11) = plcM R (R 3) → TT ca sa ar l0 τ → ok (f_paths_explore_L25 N (f_paths_explore N D) m (iI (made : Int)) w (iI (s : Int)) (iI (row : Int)) (iI (lost R g : Int)) (iI ((i + 1 : Nat) : Int)) τ) (fun z => FT ca sa ar l0 (((List.range (2 * R 2)).drop i).flatMap (nxv R f made g s row)) z.2) := by
      intro m
      induction m with
      | zero => intro i τ ca sa ar _ h; omega
      | succ m ih =>
        intro i τ ca sa ar hi hm2 hLt g10 g11 ht
        unfold f_paths_explore_L25
        rw [hLt.nb, show (2 : Int32) * iI (R 2 : Int) = iI ((2 * R 2 : Nat) : Int) by rw [show (2 : Int32) = iI 2 from rfl, iI_mul]; rfl]
        by_cases c : i = 2 * R 2
        · rw [if_pos (show iI ((2 * R 2 : Nat) : Int) < iI ((i + 1 : Nat) : Int) by rw [iI_lt (by omega) (by omega) (by omega) (by omega)]; omega)]
          refine okS.mpr ?_
          rw [List.drop_eq_nil_of_le (by rw [List.length_range]; omega)]
          exact ht
        · rw [if_neg (show ¬ iI ((2 * R 2 : Nat) : Int) < iI ((i + 1 : Nat) : Int) by rw [iI_lt (by omega) (by omega) (by omega) (by omega)]; omega), px_tgt hLt hW w hs (by omega) (by omega), Option.bind_some, drop_range (by omega), List.flatMap_cons, hw, show iI ((i + 1 : Nat) : Int) + 1 = iI ((i + 1 + 1 : Nat) : Int) from iI_add _ 1]
          dsimp only
          cases hld : lead R g s (i + 1) with
          | none =>
            have ev : nxv R f made g s row i = [] := by unfold nxv; rw [hld]
            rw [tg_none, if_pos (show iI (-2) = -2 from rfl), ev, List.nil_append]
            exact ih (i + 1) τ ca sa ar (by omega) (by omega) hLt g10 g11 ht
          | some t =>
            have htl := lead_lt hs hld
            have ev : nxv R f made g s row i = vis R f (made + 1) (nxg g s t) t (10 * row + (i + 1)) := by unfold nxv; rw [hld]
            rw [tg_some, if_neg (iI_m2 (by omega)), px_inside N (by omega) (by omega), Option.bind_some, ev]
            dsimp only
            have hw2 : tb (w ||| (insN s t &&& (w ^^^ (-1)))) = nxg g s t := by
              funext k
              rw [tb_or, tb_frsh (by omega) (by omega) hw, hw]
              show (g k || (decide (min s t < k ∧ k < max s t) && !g k)) = (g k || decide (min s t < k ∧ k < max s t))
              cases g k <;> cases decide (min s t < k ∧ k < max s t) <;> rfl
            have er : iI (row : Int) * 10 + iI ((i + 1 : Nat) : Int) = iI ((10 * row + (i + 1) : Nat) : Int) := by
              rw [show (10 : Int32) = iI 10 from rfl, iI_mul, iI_add]
              congr 1
              omega
            have go : ok ((f_paths_explore N D (iI ((made + 1 : Nat) : Int)) (w ||| (insN s t &&& (w ^^^ (-1)))) (iI (t : Int)) (iI ((10 * row + (i + 1) : Nat) : Int)) (iI (lost R (nxg g s t) : Int)) τ).bind fun q6 => f_paths_explore_L25 N (f_paths_explore N D) m (iI (made : Int)) w (iI (s : Int)) (iI (row : Int)) (iI (lost R g : Int)) (iI ((i + 1 + 1 : Nat) : Int)) q6.2) (fun z => FT ca sa ar l0 (vis R f (made + 1) (nxg g s t) t (10 * row + (i + 1)) ++ ((List.range (2 * R 2)).drop (i + 1)).flatMap (nxv R f made g s row)) z.2) := by
              rw [okB]
              refine ((ihf D (made + 1) (nxg g s t) t (10 * row + (i + 1)) _ τ ca sa ar (by omega) (by omega) hw2 htl hLt g10 g11 (Nat.le_trans hl lost_nxg) ht).and (fun z => w_f_paths_explore _ _ _ _ _ _ _ _)).imp (fun q hq => ?_)
              refine (ih (i + 1) q.2 _ _ _ (by omega) (by omega) (hLt.fr hq.2 rfl) ((hq.2.I 55 10 rfl).trans g10) (by rw [hq.2.L 55 11 rfl]; exact g11) hq.1).imp (fun z hz => FT.app hz)
            rw [show iI (made : Int) + 1 = iI ((made + 1 : Nat) : Int) from iI_add _ 1, er]
            by_cases c2 : lg_cmp ((insN s t &&& (w ^^^ (-1))) &&& gL τ 55 11) 0 = 0
            · rw [if_pos c2]
              rw [lg_cmp_0] at c2
              have el : lost R (nxg g s t) = lost R g := by
                refine lostB_co _ (fun q hq => ?_)
                have h0 : tb ((insN s t &&& (w ^^^ (-1))) &&& gL τ 55 11) (R (12 + 2 * q)) = tb 0 (R (12 + 2 * q)) := by rw [c2]
                rw [tb_and, g11, plcM_at _ _ hq, Bool.and_true, tb_frsh (by omega) (by omega) hw, tb_0] at h0
                generalize R (12 + 2 * q) = x at h0 ⊢
                have h1 : (decide (min s t < x ∧ x < max s t) && !g x) = false := h0
                show (g x || decide (min s t < x ∧ x < max s t)) = g x
                revert h1
                cases g x <;> cases decide (min s t < x ∧ x < max s t) <;> simp
              rw [← el] at go ⊢
              exact go
            · rw [if_neg c2, px_lost hN hLt hW, Option.bind_some, hw2]
              exact go
    unfold f_paths_explore f_paths_explore_B
    rw [h10, iI_sub, okB]
    refine ((px_note (by omega) (by omega) hl hle h).and (fun z => w_f_paths_note)).imp (fun q hq => ?_)
    rw [if_pos (show iI (made : Int) < 5 by rw [show (5 : Int32) = iI 5 from rfl, iI_lt (by omega) (by omega) (by omega) (by omega)]; omega), show (1 : Int32) = iI ((0 + 1 : Nat) : Int) from rfl, vis_s]
    exact loop N 0 q.2 _ _ _ (by omega) (by omega) (hL.fr hq.2 rfl) ((hq.2.I 55 10 rfl).trans h10) (by rw [hq.2.L 55 11 rfl]; exact h11) hq.1
end EXPL
