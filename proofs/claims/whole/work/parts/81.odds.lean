/-! ===== gout by chance: the calls ===== -/
def thF (goal : Nat) (S : Nat → Nat) : Nat := if S 60 = goal then 1 else 0
def loF (R : Nat → Nat) (S : Nat → Nat) : Nat := lost R (gon S)
section ODC
variable {N : Nat} {R S B : Nat → Nat} {σ : Sg}
theorem px_goOn (hN : 200000 ≤ N) (hW : WfL R) {row n goal : Nat} (hrow : row < 2147483648) (hn : n ≤ 5) (hgoal : goal < 60) (hd : rowOk R n row = true) : ∀ m D made (S : Nat → Nat) (wt A1 A2 : Nat) (σ : Sg) (v3 : Int64), made + m = n → m < D → WfC R S → S 60 < R 0 → tb v3 = gon S → LX 10 R σ → gI σ 65 3 = iI (row : Int) → gI σ 65 4 = iI (n : Int) → gI σ 65 5 = iI (goal : Int) → gL σ 65 0 = iL (A1 : Int) → gL σ 65 1 = iL (A2 : Int) →
    ok (f_chances_goOn N D (iI ((made : Nat) : Int)) v3 (iI (S 60 : Int)) (iL (wt : Int)) σ) (fun z => gL z.2 65 0 = iL ((A1 + wt * wW R (dg row n) (thF goal) m made S : Nat) : Int) ∧ gL z.2 65 1 = iL ((A2 + wt * wW R (dg row n) (loF R) m made S : Nat) : Int)) := by
  have hc := hW.c
  have hg := hW.gout
  intro m
  induction m with
  | zero =>
    intro D made S wt A1 A2 σ v3 hm hD hw h60 hv hL g3 g4 g5 a1 a2
    obtain ⟨D, rfl⟩ : ∃ D', D = D' + 1 := ⟨D - 1, by omega⟩
    unfold f_chances_goOn f_chances_goOn_B
    have hl := lost_le hW (gon S)
    rw [g4, if_pos (show iI (n : Int) ≤ iI (made : Int) by rw [iI_le (by omega) (by omega) (by omega) (by omega)]; omega), g5, a1]
    have hL2 : ∀ w, LX 10 R (sL σ 65 0 w) := fun w => hL.fr (W := [(65, some 0)]) (Fr.wL Fr.rf (by simp)) rfl
    have e1 : ∀ w, gL (sL σ 65 0 w) 65 1 = iL (A2 : Int) := fun w => by rw [gL_ne (by omega)]; exact a2
    by_cases c : S 60 = goal
    · rw [if_pos (show iI (S 60 : Int) = iI (goal : Int) by rw [c]), px_lost hN (hL2 _) hW, hv, Option.bind_some]
      dsimp only
      rw [e1, iL_i (by omega) (by omega), iL_mul, iL_add, iL_add]
      refine okS.mpr ⟨?_, ?_⟩
      · rw [gL_ne (by omega), gL_eq]
        show iL _ = iL _
        congr 1
        show (A1 : Int) + (wt : Int) = ((A1 + wt * (if S 60 = goal then 1 else 0) : Nat) : Int)
        rw [if_pos c, Nat.mul_one]
        omega
      · rw [gL_eq]
        show iL _ = iL ((A2 + wt * lost R (gon S) : Nat) : Int)
        rw [Int.natCast_add, Int.natCast_mul]
    · rw [if_neg (show ¬ iI (S 60 : Int) = iI (goal : Int) by rw [iI_eq (by omega) (by omega) (by omega) (by omega)]; omega), px_lost hN (hL2 _) hW, hv, Option.bind_some]
      dsimp only
      rw [e1, iL_i (by omega) (by omega), iL_mul, show (0 : Int64) = iL 0 from rfl, iL_add, iL_add]
      refine okS.mpr ⟨?_, ?_⟩
      · rw [gL_ne (by omega), gL_eq]
        show iL _ = iL _
        congr 1
        show (A1 : Int) + 0 = ((A1 + wt * (if S 60 = goal then 1 else 0) : Nat) : Int)
        rw [if_neg c, Nat.mul_zero]
        omega
      · rw [gL_eq]
        show iL _ = iL ((A2 + wt * lost R (gon S) : Nat) : Int)
        rw [Int.natCast_add, Int.natCast_mul]
  | succ m ih =>
    intro D made S wt A1 A2 σ v3 hm hD hw h60 hv hL g3 g4 g5 a1 a2
    obtain ⟨D, rfl⟩ : ∃ D', D = D' + 1 := ⟨D - 1, by omega⟩
    have hdi := rowOk_dg hd made (by omega)
    unfold f_chances_goOn f_chances_goOn_B
    rw [g4, if_neg (show ¬ iI (n : Int) ≤ iI (made : Int) by rw [iI_le (by omega) (by omega) (by omega) (by omega)]; omega), if_pos (show iI (made : Int) < 5 by rw [show (5 : Int32) = iI 5 from rfl, iI_lt (by omega) (by omega) (by omega) (by omega)]; omega), g3, px_digitOf hN hrow hn (by omega), Option.bind_some]
    dsimp only
    rw [px_tgt hL hW v3 h60 hdi.1 hdi.2, Option.bind_some, hv]
    dsimp only
    rw [show iI (made : Int) + 1 = iI ((made + 1 : Nat) : Int) from iI_add _ 1]
    have ew : ∀ f, wW R (dg row n) f (m + 1) made S = R 1 * wW R (dg row n) f m (made + 1) S + (100 - R 1) * wW R (dg row n) f m (made + 1) (go R S (dg row n made)) := fun f => rfl
    cases hl : lead R (gon S) (S 60) (dg row n made) with
    | none =>
      rw [tg_none, if_pos (show iI (-2) = -2 from rfl), show iL (wt : Int) * 100 = iL ((wt * 100 : Nat) : Int) by rw [show (100 : Int64) = iL 100 from rfl, iL_mul, Int.natCast_mul]; rfl, okB]
      refine (ih D (made + 1) S (wt * 100) A1 A2 σ v3 (by omega) (by omega) hw h60 hv hL g3 g4 g5 a1 a2).imp (fun q hq => okS.mpr ?_)
      have eg : go R S (dg row n made) = S := go_none hl
      have e2 : ∀ f, wt * 100 * wW R (dg row n) f m (made + 1) S = wt * wW R (dg row n) f (m + 1) made S := fun f => by
        rw [ew, eg, ← Nat.add_mul, show R 1 + (100 - R 1) = 100 by omega, Nat.mul_assoc]
      rw [e2, e2] at hq
      exact hq
    | some t =>
      have ht := lead_lt h60 hl
      have eg : go R S (dg row n made) = mv R S t := go_some hl
      rw [tg_some, if_neg (iI_m2 (by omega)), hL.gout, iL_i (by omega) (by omega), show iL (wt : Int) * iL (R 1 : Int) = iL ((wt * R 1 : Nat) : Int) by rw [iL_mul, Int.natCast_mul], okB]
      refine ((ih D (made + 1) S (wt * R 1) A1 A2 σ v3 (by omega) (by omega) hw h60 hv hL g3 g4 g5 a1 a2).and (fun z => w_f_chances_goOn _ _ _ _ _ _ _)).imp (fun q hq => ?_)
      have hL2 := hL.fr hq.2 rfl
      rw [px_inside N (by omega) (by omega), Option.bind_some]
      dsimp only
      rw [hL2.gout, show (100 : Int32) - iI (R 1 : Int) = iI ((100 - R 1 : Nat) : Int) by rw [show (100 : Int32) = iI 100 from rfl, iI_sub]; congr 1; omega, iL_i (by omega) (by omega), show iL (wt : Int) * iL ((100 - R 1 : Nat) : Int) = iL ((wt * (100 - R 1) : Nat) : Int) by rw [iL_mul, Int.natCast_mul], okB]
      have hi := ih D (made + 1) (mv R S t) (wt * (100 - R 1)) _ _ q.2 (v3 ||| insN (S 60) t) (by omega) (by omega) (hw.mvd hW h60 ht) ht (by
        rw [gon_mv (by omega) (by omega)]
        funext k
        rw [tb_or, hv, tb_ins (by omega) (by omega)]
        rfl) hL2 (by rw [hq.2.I 65 3 rfl]; exact g3) (by rw [hq.2.I 65 4 rfl]; exact g4) (by rw [hq.2.I 65 5 rfl]; exact g5) hq.1.1 hq.1.2
      refine hi.imp (fun q2 h2 => okS.mpr ?_)
      have e2 : ∀ (A : Nat) f, A + wt * R 1 * wW R (dg row n) f m (made + 1) S + wt * (100 - R 1) * wW R (dg row n) f m (made + 1) (mv R S t) = A + wt * wW R (dg row n) f (m + 1) made S := fun A f => by
        rw [ew, eg, Nat.mul_add, Nat.mul_assoc, Nat.mul_assoc, Nat.add_assoc]
      rw [e2, e2] at h2
      exact h2
theorem px_weigh (hN : 200000 ≤ N) (hL : LX 10 R σ) (hX : SX 40 S σ) (hW : WfL R) (hw : WfC R S) (h60 : S 60 < R 0) {row n goal : Nat} (hrow : row < 2147483648) (hn : n ≤ 5) (hgoal : goal < 60) (hd : rowOk R n row = true) : ok (f_chances_weigh N (iI (row : Int)) (iI (n : Int)) (iI (goal : Int)) σ) (fun z => gL z.2 65 0 = iL (wW R (dg row n) (thF goal) n 0 S : Int) ∧ gL z.2 65 1 = iL (wW R (dg row n) (loF R) n 0 S : Int) ∧ gL z.2 65 2 = iL ((100 ^ n : Nat) : Int)) := by
  have key : ∀ m i τ, i ≤ n → n - i < m → Fr [(65, none)] σ τ → gI τ 65 3 = iI (row : Int) → gI τ 65 4 = iI (n : Int) → gI τ 65 5 = iI (goal : Int) → gL τ 65 0 = iL 0 → gL τ 65 1 = iL 0 → gL τ 65 2 = iL ((100 ^ i : Nat) : Int) → ok (f_chances_weigh_L35 N m (iI (n : Int)) (iI (i : Int)) τ) (fun z => gL z.2 65 0 = iL (wW R (dg row n) (thF goal) n 0 S : Int) ∧ gL z.2 65 1 = iL (wW R (dg row n) (loF R) n 0 S : Int) ∧ gL z.2 65 2 = iL ((100 ^ n : Nat) : Int)) := by
    intro m
    induction m with
    | zero => intro i τ _ h; omega
    | succ m ih =>
      intro i τ hi hm hf g3 g4 g5 a0 a1 a2
      unfold f_chances_weigh_L35
      by_cases c : i = n
      · subst c
        have hX2 := hX.fr hf rfl
        rw [if_pos (show iI (i : Int) ≤ iI (i : Int) by rw [iI_le (by omega) (by omega) (by omega) (by omega)]; omega), px_goneCells, Option.bind_some]
        dsimp only
        rw [hX2.2.2.1, okB]
        refine ((px_goOn hN hW hrow hn hgoal hd i 12 0 S 1 0 0 τ _ (by omega) (by omega) hw h60 (hX2.b.gone hw.1) (hL.fr hf rfl) g3 g4 g5 a0 a1).and (fun z => w_f_chances_goOn _ _ _ _ _ _ _)).imp (fun q hq => okS.mpr ⟨?_, ?_, ?_⟩)
        · rw [hq.1.1, Nat.one_mul, Nat.zero_add]
        · rw [hq.1.2, Nat.one_mul, Nat.zero_add]
        · rw [hq.2.L 65 2 rfl]; exact a2
      · rw [if_neg (show ¬ iI (n : Int) ≤ iI (i : Int) by rw [iI_le (by omega) (by omega) (by omega) (by omega)]; omega), a2, show iI (i : Int) + 1 = iI ((i + 1 : Nat) : Int) from iI_add _ 1]
        refine ih (i + 1) _ (by omega) (by omega) (hf.wLc (by simp)) ?_ ?_ ?_ ?_ ?_ ?_
        · rw [gI_sLx]; exact g3
        · rw [gI_sLx]; exact g4
        · rw [gI_sLx]; exact g5
        · rw [gL_ne (by omega)]; exact a0
        · rw [gL_ne (by omega)]; exact a1
        · rw [gL_eq, show (100 : Int64) = iL 100 from rfl, iL_mul, Nat.pow_succ, Int.natCast_mul]
          rfl
  unfold f_chances_weigh
  refine key N 0 _ (by omega) (by omega) ((((((Fr.rf.wIc (by simp)).wIc (by simp)).wIc (by simp)).wLc (by simp)).wLc (by simp)).wLc (by simp)) ?_ ?_ ?_ ?_ ?_ gL_eq
  · rw [gI_sLx, gI_sLx, gI_sLx, gI_ne (by omega), gI_ne (by omega), gI_eq]
  · rw [gI_sLx, gI_sLx, gI_sLx, gI_ne (by omega), gI_eq]
  · rw [gI_sLx, gI_sLx, gI_sLx, gI_eq]
  · rw [gL_ne (by omega), gL_ne (by omega), gL_eq]; rfl
  · rw [gL_ne (by omega), gL_eq]; rfl
theorem px_lowest (hN : 200000 ≤ N) {up dn : Nat} {v4 : Int32} (h1 : up < 2 ^ 43) (h2 : dn < 2 ^ 34) (h3 : 0 < dn) : f_x_inLowestTerms N (iL (up : Int)) (iL (dn : Int)) v4 σ = some ((if v4 = 0 then iL (up : Int) else iL (dn : Int)) / iL (Nat.gcd up dn : Int), σ) := by
  unfold f_x_inLowestTerms
  rw [show (0 : Int32) = iI ((0 : Nat) : Int) from rfl, px_euclid (2 * 34) N 0 up dn (ends_of 34 _ _ h2) (by omega) (by omega) (by omega) (by omega)]
  have hg := Nat.gcd_pos_of_pos_right up h3
  have hle : Nat.gcd up dn ≤ dn := Nat.le_of_dvd h3 (Nat.gcd_dvd_right up dn)
  have hne : ¬ iL (Nat.gcd up dn : Int) = 0 := by rw [iL_eq0 (by omega) (by omega)]; omega
  rw [if_neg (show ¬ lg_cmp (iL (Nat.gcd up dn : Int)) 0 = iI ((0 : Nat) : Int) by show ¬ lg_cmp _ 0 = 0; rw [lg_cmp_0]; exact hne), if_neg hne, if_neg hne]
  show (if v4 = 0 then _ else _) = _
  by_cases c : v4 = 0
  · rw [if_pos c, if_pos (show v4 = iI ((0 : Nat) : Int) from c)]
  · rw [if_neg c, if_neg (show ¬ v4 = iI ((0 : Nat) : Int) from c)]
theorem pm_lowest (hN : 200000 ≤ N) {up dn : Nat} {v4 : Int32} (h1 : up < 2 ^ 43) (h2 : dn < 2 ^ 34) (h3 : 0 < dn) : f_m_lowest N (iL (up : Int)) (iL (dn : Int)) v4 σ = some ((if v4 = 0 then iL (up : Int) else iL (dn : Int)) / iL (Nat.gcd up dn : Int), σ) := by
  unfold f_m_lowest
  rw [pm_euclid (2 * 43) N dn up (ends_of 43 _ _ h1) (by omega) (by omega) (by omega) (by rw [Nat.gcd_comm]; exact Nat.gcd_pos_of_pos_right up h3), Nat.gcd_comm dn up]
theorem sI'_wf {ds : Nat → Nat} {u : Nat} (hW : WfL R) (hC : WfC R S) (hs : S 60 < R 0) : ∀ k, WfC R (sI' R S ds u k) ∧ sI' R S ds u k 60 < R 0 := by
  intro k
  induction k with
  | zero => exact ⟨hC, hs⟩
  | succ k ih =>
    show WfC R (if bt u k = true then sI' R S ds u k else go R (sI' R S ds u k) (ds k)) ∧ (if bt u k = true then sI' R S ds u k else go R (sI' R S ds u k) (ds k)) 60 < R 0
    split
    · exact ih
    · exact ih.1.god hW ih.2
theorem pm_tryGout (hN : 200000 ≤ N) (hR : AR σ 69 189 R) (hS : AR σ 74 63 S) (hW : WfL R) (hw : WfC R S) (h60 : S 60 < R 0) {ds : Nat → Nat} {n goal : Nat} {v : Int32} (hn : n ≤ 5) (hdg : ∀ j, j < n → gI σ 79 j = iI (ds j : Int)) (hd : ∀ j, j < n → 1 ≤ ds j ∧ ds j ≤ 2 * R 2) (hv : ∀ T : Nat → Nat, T 60 < R 0 → ((iI (T 60 : Int) = v) = (T 60 = goal))) : ok (f_m_tryGout N (iI (n : Int)) v σ) (fun z => gL z.2 66 49 = iL ((100 ^ n : Nat) : Int) ∧ gL z.2 66 50 = iL (wW R ds (thF goal) n 0 S : Int) ∧ gL z.2 66 51 = iL (wW R ds (loF R) n 0 S : Int)) := by
  have hg := hW.gout
  have hc := hW.c
  have h2n : 2 ^ n ≤ 32 := by
    have : 2 ^ n ≤ 2 ^ 5 := Nat.pow_le_pow_right (by omega) hn
    omega
  have inner : ∀ (u : Nat), u < 32 → ∀ m k τ (K : Int32 → Int32 → Int32 → Int64 → Sg → Option (Unit × Sg)) (P : Unit × Sg → Prop), k ≤ n → n - k < m → AR τ 69 189 R → (∀ j, j < n → gI τ 79 j = iI (ds j : Int)) → AR τ 75 63 (sI' R S ds u k) → (∀ τ', Fr [(75, none)] τ τ' → AR τ' 75 63 (sI' R S ds u n) → ok (K (iI (n : Int)) v (iI (u : Int)) (iL (wI R u n : Int)) τ') P) → ok (f_m_tryGout_L34 N m (iI (n : Int)) v (iI (u : Int)) (iL (wI R u k : Int)) (iI (k : Int)) τ K) P := by
    intro u hu m
    induction m with
    | zero => intro k τ K P _ h; omega
    | succ m ih =>
      intro k τ K P hk hm hRt hdt hTt hK
      unfold f_m_tryGout_L34
      by_cases c : k = n
      · subst c
        rw [if_pos (show iI (k : Int) ≤ iI (k : Int) by rw [iI_le (by omega) (by omega) (by omega) (by omega)]; omega)]
        exact hK τ Fr.rf hTt
      · have e1 : gA τ 69 1 = iI (R 1 : Int) := hRt.A (z := 1) 1 rfl (by omega) (by omega)
        rw [if_neg (show ¬ iI (n : Int) ≤ iI (k : Int) by rw [iI_le (by omega) (by omega) (by omega) (by omega)]; omega), pm_hasBit (by omega) (by omega), Option.bind_some]
        dsimp only
        rw [pm_hasBit (by omega) (by omega), Option.bind_some, e1, show iI (k : Int) + 1 = iI ((k + 1 : Nat) : Int) from iI_add _ 1]
        dsimp only
        have es : sI' R S ds u (k + 1) = if bt u k = true then sI' R S ds u k else go R (sI' R S ds u k) (ds k) := rfl
        have ew : wI R u (k + 1) = wI R u k * (if bt u k = true then R 1 else 100 - R 1) := rfl
        cases hb : bt u k with
        | true =>
          rw [if_pos rfl, if_pos rfl, iL_i (by omega) (by omega), show iL (wI R u k : Int) * iL (R 1 : Int) = iL (wI R u (k + 1) : Int) by rw [ew, hb, if_pos rfl, iL_mul, Int.natCast_mul]]
          refine ih (k + 1) τ K P (by omega) (by omega) hRt hdt ?_ hK
          rw [es, hb, if_pos rfl]; exact hTt
        | false =>
          rw [if_neg (by decide), Option.bind_some]
          dsimp only
          rw [if_neg (by decide), if_pos (show vin (iI (k : Int)) 5 by rw [vin_iI (by omega) (by omega)]; omega), gA_iI (by omega) (by omega), Int.toNat_natCast, hdt k (by omega), okB]
          have hwk := sI'_wf (ds := ds) (u := u) hW hw h60 k
          have hdk := hd k (by omega)
          refine ((pm_digitOn hN hRt hTt (by decide) hW hwk.2 hwk.1.r hdk.1 hdk.2).and (fun z => w_f_m_digitOn)).imp (fun q hq => ?_)
          rw [show (100 : Int32) - iI (R 1 : Int) = iI ((100 - R 1 : Nat) : Int) by rw [show (100 : Int32) = iI 100 from rfl, iI_sub]; congr 1; omega, iL_i (by omega) (by omega), show iL (wI R u k : Int) * iL ((100 - R 1 : Nat) : Int) = iL (wI R u (k + 1) : Int) by rw [ew, hb, if_neg (by decide), iL_mul, Int.natCast_mul]]
          refine ih (k + 1) q.2 K P (by omega) (by omega) (hRt.fr hq.2 rfl) (fun j hj => by rw [hq.2.I 79 j rfl]; exact hdt j hj) ?_ (fun τ' hf h => hK τ' (hq.2.tr hf) h)
          rw [es, hb, if_neg (by decide)]; exact hq.1.2
  have outer : ∀ m u τ, u ≤ 2 ^ n → 2 ^ n - u < m → AR τ 69 189 R → AR τ 74 63 S → (∀ j, j < n → gI τ 79 j = iI (ds j : Int)) → gL τ 66 49 = iL (sm (pW R ds (fun _ => 1) n 0 S) u : Int) → gL τ 66 50 = iL (sm (pW R ds (thF goal) n 0 S) u : Int) → gL τ 66 51 = iL (sm (pW R ds (loF R) n 0 S) u : Int) → ok (f_m_tryGout_L17 N m (iI (n : Int)) v (iI (u : Int)) τ) (fun z => gL z.2 66 49 = iL ((100 ^ n : Nat) : Int) ∧ gL z.2 66 50 = iL (wW R ds (thF goal) n 0 S : Int) ∧ gL z.2 66 51 = iL (wW R ds (loF R) n 0 S : Int)) := by
    intro m
    induction m with
    | zero => intro u τ _ h; omega
    | succ m ih =>
      intro u τ hu hm hRt hSt hdt g49 g50 g51
      unfold f_m_tryGout_L17
      rw [shl_1 n (by omega)]
      by_cases c : u = 2 ^ n
      · rw [if_pos (show iI ((2 ^ n : Nat) : Int) ≤ iI (u : Int) by rw [iI_le (by omega) (by omega) (by omega) (by omega)]; omega)]
        rw [c, pW_sum] at g49 g50 g51
        rw [wW_one hg] at g49
        exact okS.mpr ⟨g49, g50, g51⟩
      · rw [if_neg (show ¬ iI ((2 ^ n : Nat) : Int) ≤ iI (u : Int) by rw [iI_le (by omega) (by omega) (by omega) (by omega)]; omega), okB]
        refine ((pm_begin hN hSt).and (fun z => w_f_m_begin)).imp (fun q hq => ?_)
        have k49 : gL q.2 66 49 = iL (sm (pW R ds (fun _ => 1) n 0 S) u : Int) := by rw [hq.2.L 66 49 rfl]; exact g49
        have k50 : gL q.2 66 50 = iL (sm (pW R ds (thF goal) n 0 S) u : Int) := by rw [hq.2.L 66 50 rfl]; exact g50
        have k51 : gL q.2 66 51 = iL (sm (pW R ds (loF R) n 0 S) u : Int) := by rw [hq.2.L 66 51 rfl]; exact g51
        rw [show (1 : Int64) = iL (wI R u 0 : Int) from rfl, show (0 : Int32) = iI ((0 : Nat) : Int) from rfl]
        refine inner u (by omega) N 0 q.2 _ _ (by omega) (by omega) (hRt.fr hq.2 rfl) (fun j hj => by rw [hq.2.I 79 j rfl]; exact hdt j hj) hq.1 (fun τ' hf hT => ?_)
        have hwn := sI'_wf (ds := ds) (u := u) hW hw h60 n
        have hl := lost_le hW (gon (sI' R S ds u n))
        have hRf := (hRt.fr hq.2 rfl).fr hf rfl
        have hSf := (hSt.fr hq.2 rfl).fr hf rfl
        have l49 : gL τ' 66 49 = iL (sm (pW R ds (fun _ => 1) n 0 S) u : Int) := by rw [hf.L 66 49 rfl]; exact k49
        have l50 : gL τ' 66 50 = iL (sm (pW R ds (thF goal) n 0 S) u : Int) := by rw [hf.L 66 50 rfl]; exact k50
        have l51 : gL τ' 66 51 = iL (sm (pW R ds (loF R) n 0 S) u : Int) := by rw [hf.L 66 51 rfl]; exact k51
        have hdf : ∀ j, j < n → gI τ' 79 j = iI (ds j : Int) := fun j hj => by rw [hf.I 79 j rfl, hq.2.I 79 j rfl]; exact hdt j hj
        have e60 : ∀ x, gA (sL τ' 66 49 x) 75 60 = iI (sI' R S ds u n 60 : Int) := fun x => hT.A (z := 60) 60 rfl (by omega) (by omega)
        have step : ∀ (x : Int64), x = iL ((wI R u n * thF goal (sI' R S ds u n) : Nat) : Int) → ok ((f_m_lostOn N 69 189 63 75 (sL (sL τ' 66 49 ((gL τ' 66 49) + iL (wI R u n : Int))) 66 50 ((gL (sL τ' 66 49 ((gL τ' 66 49) + iL (wI R u n : Int))) 66 50) + x))).bind fun q9 => f_m_tryGout_L17 N m (iI (n : Int)) v (iI (u : Int) + 1) (sL q9.2 66 51 ((gL (sL (sL τ' 66 49 ((gL τ' 66 49) + iL (wI R u n : Int))) 66 50 ((gL (sL τ' 66 49 ((gL τ' 66 49) + iL (wI R u n : Int))) 66 50) + x)) 66 51) + (iL (wI R u n : Int) * (Int32.toInt64 q9.1))))) (fun z => gL z.2 66 49 = iL ((100 ^ n : Nat) : Int) ∧ gL z.2 66 50 = iL (wW R ds (thF goal) n 0 S : Int) ∧ gL z.2 66 51 = iL (wW R ds (loF R) n 0 S : Int)) := by
          intro x hx
          rw [pm_lostOn (σ := sL (sL τ' 66 49 ((gL τ' 66 49) + iL (wI R u n : Int))) 66 50 ((gL (sL τ' 66 49 ((gL τ' 66 49) + iL (wI R u n : Int))) 66 50) + x)) hN (fun j hj => hRf j hj) (fun j hj => hT j hj) hW hwn.1.r, Option.bind_some]
          dsimp only
          rw [iL_i (by omega) (by omega), show iI (u : Int) + 1 = iI ((u + 1 : Nat) : Int) from iI_add _ 1]
          refine ih (u + 1) _ (by omega) (by omega) (fun j hj => hRf j hj) (fun j hj => hSf j hj) (fun j hj => hdf j hj) ?_ ?_ ?_
          · rw [gL_ne (by omega), gL_ne (by omega), gL_eq, l49, iL_add, sm_succ, pW_end, Nat.mul_one, Int.natCast_add]
          · rw [gL_ne (by omega), gL_eq, gL_ne (by omega), l50, hx, iL_add, sm_succ, pW_end, Int.natCast_add]
          · rw [gL_eq, gL_ne (by omega), gL_ne (by omega), l51, iL_mul, iL_add, sm_succ, pW_end, Int.natCast_add, Int.natCast_mul]
            rfl
        rw [e60]
        simp only [hv _ hwn.2]
        by_cases c2 : sI' R S ds u n 60 = goal
        · rw [if_pos c2]
          exact step (iL (wI R u n : Int)) (by unfold thF; rw [if_pos c2, Nat.mul_one])
        · rw [if_neg c2]
          exact step 0 (by unfold thF; rw [if_neg c2, Nat.mul_zero]; rfl)
  unfold f_m_tryGout
  rw [show (0 : Int32) = iI ((0 : Nat) : Int) from rfl]
  refine outer N 0 _ (Nat.zero_le _) (by omega) (fun j hj => hR j hj) (fun j hj => hS j hj) (fun j hj => hdg j hj) ?_ ?_ gL_eq
  · rw [gL_ne (by omega), gL_ne (by omega), gL_eq]; rfl
  · rw [gL_ne (by omega), gL_eq]; rfl
def lw (up dn : Nat) (v4 : Int32) : Int64 := (if v4 = 0 then iL (up : Int) else iL (dn : Int)) / iL (Nat.gcd up dn : Int)
theorem p100 {n : Nat} (hn : n ≤ 5) : 0 < 100 ^ n ∧ 100 ^ n ≤ 10000000000 := by
  refine ⟨Nat.pow_pos (by omega), ?_⟩
  have : 100 ^ n ≤ 100 ^ 5 := Nat.pow_le_pow_right (by omega) hn
  omega
def raL (t : Int) (a : Int64) : Int64 × Int := if t = 0 then (a, 0) else (-1, t)
theorem raL_t {t : Int} {a : Int64} (h : 0 ≤ t ∧ t ≤ 3) : 0 ≤ (raL t a).2 ∧ (raL t a).2 ≤ 6 ∧ (raL t a).2 ≠ 4 := by
  unfold raL
  split
  · exact ⟨Int.le_refl 0, by show (0 : Int) ≤ 6; omega, by show (0 : Int) ≠ 4; omega⟩
  · exact ⟨h.1, by have := h.2; show t ≤ 6; omega, by have := h.2; show t ≠ 4; omega⟩
def tO (R : Nat → Nat) (k z n : Int) : Int := if tC R k = 0 then tR R z n else 1
theorem tO_3 {k z n : Int} : 0 ≤ tO R k z n ∧ tO R k z n ≤ 3 := by
  have := tR_3 (R := R) (z := z) (y := n)
  unfold tO; split <;> omega
theorem sim_odds (hN : 200000 ≤ N) (v1 v2 v3 v4 : Int32) (h : Sim σ) : Both (f_x_odds N v1 v2 v3 v4 σ) (f_m_odds N v1 v2 v3 v4) := by
  obtain ⟨R, S, B, h, hr⟩ := h
  obtain ⟨k, rfl, k1, k2⟩ := iI_of v1
  obtain ⟨z, rfl, z1, z2⟩ := iI_of v2
  obtain ⟨y, rfl, y1, y2⟩ := iI_of v3
  have hc := h.gd.c
  have thb : ∀ goal S, thF goal S ≤ 1 := fun goal S => by unfold thF; split <;> omega
  refine sim_roL (a := raL (tO R k z y) (lw (wW R (dg z.toNat y.toNat) (thF k.toNat) y.toNat 0 S) (100 ^ y.toNat) v4)) h hr (raL_t tO_3) ?_ (fun z => w_f_x_odds) rfl (fun τ g => ?_) (fun τ y => w_f_m_odds) rfl rfl
  · simp only [f_x_odds, tx_cell h.lx.c h.gd.c k1 k2, tx_row hN h.lx h.gd.c h.gd.nb z1 z2 y1 y2, px_gr N tR_r, px_gr1, Option.bind_some, bind_ite, Bool.false_eq_true, ↓reduceIte, iI_0 (tC_r (R := R) (z := k))]
    by_cases hk : tC R k = 0
    · rw [if_pos hk, show tO R k z y = tR R z y by unfold tO; rw [if_pos hk]]
      unfold raL
      by_cases ht : tR R z y = 0
      · rw [if_pos ht, if_pos ht]
        have h0 := tR_0.mp ht
        have hk0 := tC_0.mp hk
        obtain ⟨k, rfl⟩ : ∃ b : Nat, k = (b : Int) := ⟨k.toNat, by omega⟩
        obtain ⟨a, rfl⟩ : ∃ b : Nat, z = (b : Int) := ⟨z.toNat, by omega⟩
        obtain ⟨n, rfl⟩ : ∃ b : Nat, y = (b : Int) := ⟨y.toNat, by omega⟩
        simp only [Int.toNat_natCast] at h0 ⊢
        have hW := h.gd.wl h0.1
        have hS := h.gd.ws h0.1
        have hp := p100 (show n ≤ 5 by omega)
        have hb := wW_le (ds := dg a n) (f := thF k) (c := 1) hW.gout (thb k) n 0 S
        rw [okB]
        refine ((px_weigh hN h.lx.tr (h.sx.tr (v := 0) (by decide)) hW hS.c hS.2.2.1 (by omega) (by omega) (by omega) h0.2.2.2).and (fun z => w_f_chances_weigh)).imp (fun q hq => ?_)
        rw [hq.1.1, hq.1.2.2, px_lowest hN (by omega) (by omega) hp.1]
        refine okS.mpr ⟨rfl, ?_⟩
        rw [hq.2.I 0 10 rfl]; exact gI_eq
      · rw [if_neg ht, if_neg ht]
        exact okS.mpr ⟨rfl, gI_eq⟩
    · rw [if_neg hk, show tO R k z y = 1 by unfold tO; rw [if_neg hk]]
      exact okS.mpr ⟨rfl, gI_eq⟩
  · simp only [f_m_odds, pm_anew, pm_isCell g.lm.an g.gd.c k1 k2, f_m_no, Option.bind_some]
    rw [okB]
    refine ((pm_rowWhy hN g.lm.an.1 g.gd.nb (decide (0 ≤ k ∧ k < R 0)) z1 z2 y1 y2).and (fun z => w_f_m_rowWhy)).imp (fun q hq => ?_)
    have hte : (if decide (0 ≤ k ∧ k < R 0) = false then (1 : Int) else if (0 ≤ y ∧ y ≤ 5) ∧ 0 ≤ z ∧ rowOk R y.toNat z.toNat = true then 0 else 2) = tO R k z y := by
      unfold tO tR tC
      by_cases ck : 0 ≤ k ∧ k < R 0
      · rw [if_neg (by simp; omega), if_pos ck, if_pos rfl, if_neg (show ¬ R 0 = 0 by omega)]
      · rw [if_pos (by simp; omega), if_neg ck, if_neg (by omega)]
    rw [hte] at hq
    rw [hq.1.1]
    simp only [iI_0 (show 0 ≤ tO R k z y ∧ tO R k z y ≤ 9 by have := tO_3 (R := R) (k := k) (z := z) (n := y); omega)]
    unfold raL
    by_cases ht : tO R k z y = 0
    · rw [if_pos ht, if_pos ht]
      have hk : tC R k = 0 := by
        by_cases c : tC R k = 0
        · exact c
        · unfold tO at ht; rw [if_neg c] at ht; omega
      have hk0 := tC_0.mp hk
      have h0 := tR_0.mp (show tR R z y = 0 by unfold tO at ht; rw [if_pos hk] at ht; exact ht)
      have hdg := hq.1.2 (by simp; omega) h0.2
      obtain ⟨k, rfl⟩ : ∃ b : Nat, k = (b : Int) := ⟨k.toNat, by omega⟩
      obtain ⟨a, rfl⟩ : ∃ b : Nat, z = (b : Int) := ⟨z.toNat, by omega⟩
      obtain ⟨n, rfl⟩ : ∃ b : Nat, y = (b : Int) := ⟨y.toNat, by omega⟩
      simp only [Int.toNat_natCast] at h0 hdg ⊢
      have hW := g.gd.wl h0.1
      have hS := g.gd.ws h0.1
      have hp := p100 (show n ≤ 5 by omega)
      have hb := wW_le (ds := dg a n) (f := thF k) (c := 1) hW.gout (thb k) n 0 S
      rw [okB]
      refine ((pm_tryGout hN (g.lm.an.1.fr hq.2 rfl) (g.lm.an.2.1.fr hq.2 rfl) hW hS.c hS.2.2.1 (n := n) (goal := k) (v := iI (k : Int)) (by omega) hdg (rowOk_dg h0.2.2.2) (fun T hT => by rw [iI_eq (by omega) (by omega) (by omega) (by omega)]; exact propext (by omega))).and (fun z => w_f_m_tryGout)).imp (fun q2 h2 => ?_)
      rw [h2.1.1, h2.1.2.1, pm_lowest hN (by omega) (by omega) hp.1]
      refine okS.mpr ⟨rfl, ?_⟩
      rw [h2.2.I 66 11 rfl, hq.2.I 66 11 rfl]; exact an_t
    · rw [if_neg ht, if_neg ht]
      exact okS.mpr ⟨rfl, gI_eq⟩
theorem sim_mean (hN : 200000 ≤ N) (v1 v2 v3 : Int32) (h : Sim σ) : Both (f_x_mean N v1 v2 v3 σ) (f_m_mean N v1 v2 v3) := by
  obtain ⟨R, S, B, h, hr⟩ := h
  obtain ⟨z, rfl, z1, z2⟩ := iI_of v1
  obtain ⟨y, rfl, y1, y2⟩ := iI_of v2
  have hc := h.gd.c
  refine sim_roL (a := raL (tR R z y) (lw (wW R (dg z.toNat y.toNat) (loF R) y.toNat 0 S) (100 ^ y.toNat) v3)) h hr (raL_t tR_3) ?_ (fun z => w_f_x_mean) rfl (fun τ g => ?_) (fun τ y => w_f_m_mean) rfl rfl
  · simp only [f_x_mean, tx_row hN h.lx h.gd.c h.gd.nb z1 z2 y1 y2, px_gr N tR_r, Option.bind_some, bind_ite, Bool.false_eq_true, ↓reduceIte]
    unfold raL
    by_cases ht : tR R z y = 0
    · rw [if_pos ht, if_pos ht]
      have h0 := tR_0.mp ht
      obtain ⟨a, rfl⟩ : ∃ b : Nat, z = (b : Int) := ⟨z.toNat, by omega⟩
      obtain ⟨n, rfl⟩ : ∃ b : Nat, y = (b : Int) := ⟨y.toNat, by omega⟩
      simp only [Int.toNat_natCast] at h0 ⊢
      have hW := h.gd.wl h0.1
      have hS := h.gd.ws h0.1
      have h60 := hS.2.2.1
      have hsx : SX 40 S (sI σ 0 10 0) := h.sx.tr (by decide)
      have hp := p100 (show n ≤ 5 by omega)
      have hb := wW_le (ds := dg a n) (f := loF R) (c := 594) hW.gout (fun T => lost_le hW (gon T)) n 0 S
      rw [hsx.2.2.1, okB]
      refine ((px_weigh hN h.lx.tr hsx hW hS.c hS.2.2.1 (by omega) (by omega) (show S 60 < 60 by omega) h0.2.2.2).and (fun z => w_f_chances_weigh)).imp (fun q hq => ?_)
      rw [hq.1.2.1, hq.1.2.2, px_lowest hN (by omega) (by omega) hp.1]
      refine okS.mpr ⟨rfl, ?_⟩
      rw [hq.2.I 0 10 rfl]; exact gI_eq
    · rw [if_neg ht, if_neg ht]
      exact okS.mpr ⟨rfl, gI_eq⟩
  · simp only [f_m_mean, pm_anew, f_m_no, Option.bind_some]
    rw [okB]
    refine ((pm_rowWhyT hN g.lm.an g.gd.nb z1 z2 y1 y2).and (fun z => w_f_m_rowWhy)).imp (fun q hq => ?_)
    rw [hq.1.1]
    simp only [iI_0 (tR_r (R := R) (z := z) (y := y))]
    unfold raL
    by_cases ht : tR R z y = 0
    · rw [if_pos ht, if_pos ht]
      have h0 := tR_0.mp ht
      have hdg := hq.1.2 ht
      obtain ⟨a, rfl⟩ : ∃ b : Nat, z = (b : Int) := ⟨z.toNat, by omega⟩
      obtain ⟨n, rfl⟩ : ∃ b : Nat, y = (b : Int) := ⟨y.toNat, by omega⟩
      simp only [Int.toNat_natCast] at h0 hdg ⊢
      have hW := g.gd.wl h0.1
      have hS := g.gd.ws h0.1
      have hp := p100 (show n ≤ 5 by omega)
      have hb := wW_le (ds := dg a n) (f := loF R) (c := 594) hW.gout (fun T => lost_le hW (gon T)) n 0 S
      rw [okB]
      refine ((pm_tryGout hN (g.lm.an.1.fr hq.2 rfl) (g.lm.an.2.1.fr hq.2 rfl) hW hS.c hS.2.2.1 (n := n) (goal := 100) (v := -1) (by omega) hdg (rowOk_dg h0.2.2.2) (fun T hT => by rw [m1, iI_eq (by omega) (by omega) (by omega) (by omega)]; exact propext (by omega))).and (fun z => w_f_m_tryGout)).imp (fun q2 h2 => ?_)
      rw [h2.1.1, h2.1.2.2, pm_lowest hN (by omega) (by omega) hp.1]
      refine okS.mpr ⟨rfl, ?_⟩
      rw [h2.2.I 66 11 rfl, hq.2.I 66 11 rfl]; exact an_t
    · rw [if_neg ht, if_neg ht]
      exact okS.mpr ⟨rfl, gI_eq⟩
end ODC
