/-! ===== comeAt ===== -/
section COMEAT
variable {N : Nat} {R S B : Nat → Nat} {σ : Sg}
theorem p10 {n : Nat} (hn : n ≤ 5) : 10 ^ n ≤ 100000 := by
  have : 10 ^ n ≤ 10 ^ 5 := Nat.pow_le_pow_right (by omega) hn
  omega
theorem pm_comeRow26 {n : Nat} {v1 : Int32} {K : Int32 → Int32 → Int32 → Sg → Option (Int32 × Sg)} (hn : n ≤ 5) : ∀ (m i : Nat), i ≤ n → n - i < m → f_m_comeRow_L26 N m v1 (iI (n : Int)) (iI ((10 ^ i : Nat) : Int)) (iI (i : Int)) σ K = K v1 (iI (n : Int)) (iI ((10 ^ n : Nat) : Int)) σ := by
  intro m
  induction m with
  | zero => intro i _ h; omega
  | succ m ih =>
    intro i hi hm
    unfold f_m_comeRow_L26
    by_cases c : i = n
    · subst c
      rw [if_pos (show iI (i : Int) ≤ iI (i : Int) by rw [iI_le (by omega) (by omega) (by omega) (by omega)]; omega)]
    · rw [if_neg (show ¬ iI (n : Int) ≤ iI (i : Int) by rw [iI_le (by omega) (by omega) (by omega) (by omega)]; omega), show iI (i : Int) + 1 = iI ((i + 1 : Nat) : Int) from iI_add _ 1, show iI ((10 ^ i : Nat) : Int) * 10 = iI ((10 ^ (i + 1) : Nat) : Int) by rw [show (10 : Int32) = iI 10 from rfl, iI_mul, Nat.pow_succ, Int.natCast_mul]; rfl]
      exact ih (i + 1) (by omega) (by omega)
theorem pm_comeRow46 (hN : 200000 ≤ N) (hW : WfL R) (hC : WfC R S) (hs : S 60 < R 0) {n row k : Nat} (hn : n ≤ 5) (hk : k < 60) (hg : gd3 R S n row k) (hf : ∀ r, r < row → ¬ gd3 R S n r k) : ∀ (m r : Nat) (τ : Sg), r ≤ row → row - r < m → AR τ 69 189 R → AR τ 74 63 S → ok (f_m_comeRow_L46 N m (iI (k : Int)) (iI (n : Int)) (iI ((10 ^ n : Nat) : Int)) (iI (r : Int)) τ) (fun z => z.1 = iI (row : Int)) := by
  have hnb := hW.nb
  have hc := hW.c
  have hp := p10 hn
  have hlt := rowOk_lt (by omega) hg.1
  intro m
  induction m with
  | zero => intro r τ _ h; omega
  | succ m ih =>
    intro r τ hr hm hR hA
    unfold f_m_comeRow_L46
    rw [if_neg (show ¬ iI ((10 ^ n : Nat) : Int) ≤ iI (r : Int) by rw [iI_le (by omega) (by omega) (by omega) (by omega)]; omega), okB, show iI (r : Int) + 1 = iI ((r + 1 : Nat) : Int) from iI_add _ 1]
    refine ((pm_rowWhy hN hR (by omega) true (z := (r : Int)) (n := (n : Int)) (by omega) (by omega) (by omega) (by omega)).and (fun z => w_f_m_rowWhy)).imp (fun q hq => ?_)
    have hq1 := hq.1.1
    have hq2 := hq.1.2 rfl
    rw [if_neg (by decide), Int.toNat_natCast, Int.toNat_natCast] at hq1
    rw [Int.toNat_natCast, Int.toNat_natCast] at hq2
    have next : ∀ τ', Fr [(75, none), (79, none)] τ τ' → ¬ gd3 R S n r k → ok (f_m_comeRow_L46 N m (iI (k : Int)) (iI (n : Int)) (iI ((10 ^ n : Nat) : Int)) (iI ((r + 1 : Nat) : Int)) τ') (fun z => z.1 = iI (row : Int)) := by
      intro τ' fr hng
      have : r ≠ row := fun e => hng (by rw [e]; exact hg)
      exact ih (r + 1) τ' (by omega) (by omega) (hR.fr fr rfl) (hA.fr fr rfl)
    by_cases c1 : rowOk R n r = true
    · rw [if_pos ⟨by omega, by omega, c1⟩] at hq1
      rw [hq1, if_pos (show iI 0 = 0 from rfl), okB]
      refine ((pm_makes hN (hR.fr hq.2 rfl) (hA.fr hq.2 rfl) hW hC hs hn (hq2 ⟨by omega, by omega, c1⟩) (rowOk_dg c1)).and (fun z => w_f_m_makes)).imp (fun q3 hq3 => ?_)
      have fr : Fr [(75, none), (79, none)] τ q3.2 := (hq.2.mono rfl).tr (hq3.2.mono rfl)
      rw [hq3.1.1]
      by_cases c2 : rcan R S (dg r n) n = true
      · have hw := rgo_wf (ds := dg r n) hW hC hs n
        have e60 : gA q3.2 75 60 = iI (rgo R S (dg r n) n 60 : Int) := (hq3.1.2 c2).A (z := 60) 60 rfl (by omega) (by omega)
        rw [if_pos c2, e60]
        by_cases c3 : rgo R S (dg r n) n 60 = k
        · rw [if_pos (show iI (rgo R S (dg r n) n 60 : Int) = iI (k : Int) by rw [c3])]
          have : r = row := by
            by_cases c4 : r < row
            · exact absurd ⟨c1, c2, c3⟩ (hf r c4)
            · omega
          rw [this]
          exact okS.mpr rfl
        · rw [if_neg (show ¬ iI (rgo R S (dg r n) n 60 : Int) = iI (k : Int) by rw [iI_eq (by omega) (by omega) (by omega) (by omega)]; omega)]
          exact next q3.2 fr (fun h => c3 h.2.2)
      · rw [if_neg c2]
        exact next q3.2 fr (fun h => c2 h.2.1)
    · rw [if_neg (fun h => c1 h.2.2)] at hq1
      rw [hq1, if_neg (show ¬ iI 2 = 0 by decide)]
      exact next q.2 (hq.2.mono rfl) (fun h => c1 h.1)
theorem pm_comeRow (hN : 200000 ≤ N) (hW : WfL R) (hS : WfS R S) (hR : AR σ 69 189 R) (hA : AR σ 74 63 S) {k : Nat} (hk : k < 60) : ok (f_m_comeRow N (iI (k : Int)) σ) (fun z => match (vis R 5 0 (gon S) (S 60) 0).foldl (cmS k) none with
    | none => z.1 = iI (-2)
    | some b => z.1 = iI (b.2 : Int) ∧ gI z.2 82 k = iI (b.1 : Int)) := by
  unfold f_m_comeRow
  rw [okB]
  refine ((pm_seekRows (lim := 5) (tgt := k) (tv := iI (k : Int)) hN hW hS hR hA (by omega) (hv_iI hk)).and (fun z => w_f_m_seekRows)).imp (fun q hq => ?_)
  have e := hq.1.1 k hk
  dsimp only at e
  rw [show (none : Option Nat) = Option.map Prod.fst (none : Option (Nat × Nat)) from rfl, ← cm_mn] at e
  rw [if_pos (show vin (iI (k : Int)) 60 by rw [vin_iI (by omega) (by omega)]; omega), gA_iI (by omega) (by omega), Int.toNat_natCast, e]
  cases e2 : (vis R 5 0 (gon S) (S 60) 0).foldl (cmS k) none with
  | none =>
    rw [if_neg (show ¬ iI (mnV (Option.map Prod.fst (none : Option (Nat × Nat)))) ≤ 5 by decide)]
    exact okS.mpr rfl
  | some b =>
    rw [e2] at e
    have e : gI q.2 82 k = iI (b.1 : Int) := e
    obtain ⟨h5, hg, hf⟩ := come_first hW hS.c hS.2.2.1 e2
    show ok (if iI (b.1 : Int) ≤ 5 then f_m_comeRow_L26 N N (iI (k : Int)) (iI (b.1 : Int)) 1 0 q.2 (fun w1 w2 w3 t2 => f_m_comeRow_L46 N N w1 w2 w3 0 t2) else some (-2, q.2)) _
    rw [if_pos (show iI (b.1 : Int) ≤ 5 by rw [show (5 : Int32) = iI 5 from rfl, iI_le (by omega) (by omega) (by omega) (by omega)]; omega)]
    rw [show f_m_comeRow_L26 N N (iI (k : Int)) (iI (b.1 : Int)) 1 0 q.2 (fun w1 w2 w3 t2 => f_m_comeRow_L46 N N w1 w2 w3 0 t2) = f_m_comeRow_L46 N N (iI (k : Int)) (iI (b.1 : Int)) (iI ((10 ^ b.1 : Nat) : Int)) 0 q.2 from pm_comeRow26 h5 N 0 (by omega) (by omega)]
    have hlt := rowOk_lt (by have := hW.nb; omega) hg.1
    have hp := p10 h5
    refine ((pm_comeRow46 hN hW hS.c hS.2.2.1 h5 hk hg hf N 0 q.2 (by omega) (by omega) (hR.fr hq.2 rfl) (hA.fr hq.2 rfl)).and (fun z => w_f_m_comeRow_L46 _ _ _ _ _ _ _)).imp (fun z hz => ⟨hz.1, ?_⟩)
    rw [hz.2.I 82 k rfl]
    exact e
end COMEAT
