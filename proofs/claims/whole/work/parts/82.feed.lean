/-! ===== the tape grows ===== -/
section FEED
variable {N : Nat} {R S B : Nat → Nat} {σ : Sg}
def low8 (y : Int32) : Nat := y.toBitVec.toNat % 256
theorem low8_lt (y : Int32) : low8 y < 256 := Nat.mod_lt _ (by omega)
theorem low8_m (y : Int32) : y &&& 255 = iI (low8 y : Int) := by
  apply Int32.toBitVec_inj.mp
  rw [Int32.toBitVec_and]
  apply BitVec.eq_of_toNat_eq
  rw [BitVec.toNat_and, show (255 : Int32).toBitVec.toNat = 2 ^ 8 - 1 from rfl, Nat.and_two_pow_sub_one_eq_mod]
  have h := low8_lt y
  show low8 y = (BitVec.ofInt 32 (low8 y : Int)).toNat
  rw [BitVec.toNat_ofInt]
  omega
theorem low8_x (y : Int32) : Int8.toInt32 (Int32.toInt8 y) = iI (sgn (low8 y)) := by
  have h := low8_lt y
  apply Int32.toInt_inj.mp
  rw [Int8.toInt_toInt32, Int32.toInt_toInt8, iI_toInt (by unfold sgn; split <;> omega) (by unfold sgn; split <;> omega)]
  have e : y.toInt = if 2 * y.toBitVec.toNat < 2 ^ 32 then (y.toBitVec.toNat : Int) else (y.toBitVec.toNat : Int) - ((2 ^ 32 : Nat) : Int) := BitVec.toInt_eq_toNat_cond _
  rw [e, Int.bmod_def]
  unfold sgn low8
  split <;> split <;> split <;> omega
theorem i8_rt (x : Int8) : Int32.toInt8 (Int8.toInt32 x) = x := by
  apply Int8.toInt_inj.mp
  have h1 := x.le_toInt
  have h2 := x.toInt_lt
  rw [Int32.toInt_toInt8, Int8.toInt_toInt32, Int.bmod_def]
  split <;> omega
def wd (v1 v2 v3 v4 v5 : Int32) (q : Nat) : Int32 := if q = 0 then v1 else if q = 1 then v2 else if q = 2 then v3 else if q = 3 then v4 else v5
def byk (w : Int32) (j : Nat) : Nat := low8 (w >>> iI ((24 - 8 * j : Nat) : Int))
theorem px_append (hN : 200000 ≤ N) {T : Nat → Nat} {n : Nat} {w : Int32} (hn : n + 4 ≤ 900) (hT : ∀ j, j < 4 → T (n + j) = byk w j) (h1 : gI σ 1 1 = iI (n : Int)) (h2 : ∀ k, k < n → gI σ 2 k = iI (sgn (T k))) : ok (f_reader_append N w σ) (fun z => gI z.2 1 1 = iI ((n + 4 : Nat) : Int) ∧ ∀ k, k < n + 4 → gI z.2 2 k = iI (sgn (T k))) := by
  have key : ∀ (m j : Nat) (τ : Sg), j ≤ 4 → 4 - j < m → gI τ 1 1 = iI ((n + j : Nat) : Int) → (∀ k, k < n + j → gI τ 2 k = iI (sgn (T k))) → ok (f_reader_append_L3 N m w (iI (24 - 8 * (j : Int))) τ) (fun z => gI z.2 1 1 = iI ((n + 4 : Nat) : Int) ∧ ∀ k, k < n + 4 → gI z.2 2 k = iI (sgn (T k))) := by
    intro m
    induction m with
    | zero => intro j τ _ h; omega
    | succ m ih =>
      intro j τ hj hm g1 g2
      unfold f_reader_append_L3
      by_cases c : j = 4
      · subst c
        rw [if_pos (show iI (24 - 8 * ((4 : Nat) : Int)) < 0 by decide)]
        exact okS.mpr ⟨g1, g2⟩
      · rw [if_neg (show ¬ iI (24 - 8 * (j : Int)) < 0 by rw [show (0 : Int32) = iI 0 from rfl, iI_lt (by omega) (by omega) (by omega) (by omega)]; omega), g1]
        rw [if_neg (show ¬ iI ((n + j : Nat) : Int) < 0 by rw [show (0 : Int32) = iI 0 from rfl, iI_lt (by omega) (by omega) (by omega) (by omega)]; omega), if_neg (show ¬ nI 900 ≤ iI ((n + j : Nat) : Int) by rw [show nI 900 = iI 900 from rfl, iI_le (by omega) (by omega) (by omega) (by omega)]; omega), if_pos (show vin (iI ((n + j : Nat) : Int)) 900 by rw [vin_iI (by omega) (by omega)]; omega)]
        have es : (iI (24 - 8 * (j : Int)) &&& 31) = iI ((24 - 8 * j : Nat) : Int) := (by decide : ∀ j : Fin 4, (iI (24 - 8 * (j.val : Int)) &&& 31) = iI ((24 - 8 * j.val : Nat) : Int)) ⟨j, by omega⟩
        rw [i8_rt, es, low8_x, sA_iI (by omega) (by omega), Int.toNat_natCast, show iI (24 - 8 * (j : Int)) + (-8) = iI (24 - 8 * ((j + 1 : Nat) : Int)) by rw [show (-8 : Int32) = iI (-8) from rfl, iI_add]; congr 1; omega]
        refine ih (j + 1) _ (by omega) (by omega) ?_ (fun k hk => ?_)
        · rw [gI_eq, gI_ne (by omega), g1, show (1 : Int32) = iI 1 from rfl, iI_add]; rfl
        · rw [gI_ne (by omega)]
          by_cases d : k = n + j
          · rw [d, gI_eq, hT j (by omega)]; rfl
          · rw [gI_ne (by omega)]
            exact g2 k (by omega)
  unfold f_reader_append
  exact key N 0 σ (by omega) (by omega) h1 h2
def tpk (v1 v2 v3 v4 v5 : Int32) (k : Nat) : Nat := byk (wd v1 v2 v3 v4 v5 (k / 4)) (k % 4)
def tap (T : Nat → Nat) (n : Nat) (v1 v2 v3 v4 v5 : Int32) (k : Nat) : Nat := if k < n then T k else tpk v1 v2 v3 v4 v5 (k - n)
theorem tap_lt {T : Nat → Nat} {n : Nat} {v1 v2 v3 v4 v5 : Int32} (h : ∀ k, k < n → T k < 256) (k : Nat) : tap T n v1 v2 v3 v4 v5 k < 256 := by
  unfold tap
  split
  · exact h k ‹_›
  · exact low8_lt _
theorem tap_at {T : Nat → Nat} {n : Nat} {v1 v2 v3 v4 v5 : Int32} (q j : Nat) (hj : j < 4) : tap T n v1 v2 v3 v4 v5 (n + 4 * q + j) = byk (wd v1 v2 v3 v4 v5 q) j := by
  unfold tap tpk
  rw [if_neg (by omega), show n + 4 * q + j - n = 4 * q + j by omega, show (4 * q + j) / 4 = q by omega, show (4 * q + j) % 4 = j by omega]
theorem px_feed (hN : 200000 ≤ N) {T : Nat → Nat} {n : Nat} (v1 v2 v3 v4 v5 : Int32) (hn : n + 20 ≤ 900) (h1 : gI σ 1 1 = iI (n : Int)) (h2 : ∀ k, k < n → gI σ 2 k = iI (sgn (T k))) : ok (f_x_feed N v1 v2 v3 v4 v5 σ) (fun z => z.1 = iI ((n + 20 : Nat) : Int) ∧ gI z.2 1 1 = iI ((n + 20 : Nat) : Int) ∧ ∀ k, k < n + 20 → gI z.2 2 k = iI (sgn (tap T n v1 v2 v3 v4 v5 k))) := by
  unfold f_x_feed
  rw [h1, show iI (n : Int) + 20 = iI ((n + 20 : Nat) : Int) from iI_add _ 20, if_pos (show iI ((n + 20 : Nat) : Int) ≤ 900 by rw [show (900 : Int32) = iI 900 from rfl, iI_le (by omega) (by omega) (by omega) (by omega)]; omega), okB]
  refine (px_append hN (T := tap T n v1 v2 v3 v4 v5) (by omega) (fun j hj => tap_at 0 j hj) h1 (fun k hk => by unfold tap; rw [if_pos (show k < n from hk)]; exact h2 k hk)).imp (fun q hq => ?_)
  rw [okB]
  refine (px_append hN (T := tap T n v1 v2 v3 v4 v5) (by omega) (fun j hj => tap_at 1 j hj) hq.1 hq.2).imp (fun q hq => ?_)
  rw [okB]
  refine (px_append hN (T := tap T n v1 v2 v3 v4 v5) (by omega) (fun j hj => tap_at 2 j hj) hq.1 hq.2).imp (fun q hq => ?_)
  rw [okB]
  refine (px_append hN (T := tap T n v1 v2 v3 v4 v5) (by omega) (fun j hj => tap_at 3 j hj) hq.1 hq.2).imp (fun q hq => ?_)
  rw [okB]
  refine (px_append hN (T := tap T n v1 v2 v3 v4 v5) (by omega) (fun j hj => tap_at 4 j hj) hq.1 hq.2).imp (fun q hq => ?_)
  exact okS.mpr ⟨hq.1, hq.1, hq.2⟩
theorem pm_feed1 {m : Nat} (v1 v2 v3 v4 v5 : Int32) {k : Nat} (hk : k < 20) : f_m_feed_L23 N (m + 1) v1 v2 v3 v4 v5 (iI (k : Int)) σ = if vin (gI σ 66 2) 900 then f_m_feed_L23 N m v1 v2 v3 v4 v5 (iI ((k + 1 : Nat) : Int)) (sI (sA σ 67 (gI σ 66 2) (iI (tpk v1 v2 v3 v4 v5 k : Int))) 66 2 ((gI (sA σ 67 (gI σ 66 2) (iI (tpk v1 v2 v3 v4 v5 k : Int))) 66 2) + 1)) else none := by
  have es : ((24 - (8 * (iI (k : Int) - iI (k : Int) / 4 * 4))) &&& 31) = iI ((24 - 8 * (k % 4) : Nat) : Int) := (by decide : ∀ k : Fin 20, ((24 - (8 * (iI (k.val : Int) - iI (k.val : Int) / 4 * 4))) &&& 31) = iI ((24 - 8 * (k.val % 4) : Nat) : Int)) ⟨k, hk⟩
  have le : ∀ z : Int, 0 ≤ z → z ≤ 20 → (iI z ≤ iI (k : Int)) = (z ≤ k) := fun z h1 h2 => propext (by rw [iI_le (by omega) (by omega) (by omega) (by omega)])
  unfold tpk byk
  rw [← low8_m]
  conv => lhs; unfold f_m_feed_L23
  rw [es, show iI (k : Int) + 1 = iI ((k + 1 : Nat) : Int) from iI_add _ 1, if_neg (show ¬ (20 : Int32) ≤ iI (k : Int) by rw [show (20 : Int32) = iI 20 from rfl, le 20 (by omega) (by omega)]; omega)]
  unfold wd
  by_cases c1 : 4 ≤ k
  · rw [if_pos (show (4 : Int32) ≤ iI (k : Int) by rw [show (4 : Int32) = iI 4 from rfl, le 4 (by omega) (by omega)]; omega), if_neg (show ¬ k / 4 = 0 by omega)]
    by_cases c2 : 8 ≤ k
    · rw [if_pos (show (8 : Int32) ≤ iI (k : Int) by rw [show (8 : Int32) = iI 8 from rfl, le 8 (by omega) (by omega)]; omega), if_neg (show ¬ k / 4 = 1 by omega)]
      by_cases c3 : 12 ≤ k
      · rw [if_pos (show (12 : Int32) ≤ iI (k : Int) by rw [show (12 : Int32) = iI 12 from rfl, le 12 (by omega) (by omega)]; omega), if_neg (show ¬ k / 4 = 2 by omega)]
        by_cases c4 : 16 ≤ k
        · rw [if_pos (show (16 : Int32) ≤ iI (k : Int) by rw [show (16 : Int32) = iI 16 from rfl, le 16 (by omega) (by omega)]; omega), if_neg (show ¬ k / 4 = 3 by omega)]
        · rw [if_neg (show ¬ (16 : Int32) ≤ iI (k : Int) by rw [show (16 : Int32) = iI 16 from rfl, le 16 (by omega) (by omega)]; omega), if_pos (show k / 4 = 3 by omega)]
      · rw [if_neg (show ¬ (12 : Int32) ≤ iI (k : Int) by rw [show (12 : Int32) = iI 12 from rfl, le 12 (by omega) (by omega)]; omega), if_pos (show k / 4 = 2 by omega)]
    · rw [if_neg (show ¬ (8 : Int32) ≤ iI (k : Int) by rw [show (8 : Int32) = iI 8 from rfl, le 8 (by omega) (by omega)]; omega), if_pos (show k / 4 = 1 by omega)]
  · rw [if_neg (show ¬ (4 : Int32) ≤ iI (k : Int) by rw [show (4 : Int32) = iI 4 from rfl, le 4 (by omega) (by omega)]; omega), if_pos (show k / 4 = 0 by omega)]
theorem pm_feed (hN : 200000 ≤ N) {T : Nat → Nat} {n : Nat} (v1 v2 v3 v4 v5 : Int32) (hn : n + 20 ≤ 900) (h1 : gI σ 66 2 = iI (n : Int)) (h2 : ∀ k, k < n → gI σ 67 k = iI (T k : Int)) : ok (f_m_feed N v1 v2 v3 v4 v5 σ) (fun z => z.1 = iI ((n + 20 : Nat) : Int) ∧ gI z.2 66 2 = iI ((n + 20 : Nat) : Int) ∧ ∀ k, k < n + 20 → gI z.2 67 k = iI (tap T n v1 v2 v3 v4 v5 k : Int)) := by
  have key : ∀ (m j : Nat) (τ : Sg), j ≤ 20 → 20 - j < m → gI τ 66 2 = iI ((n + j : Nat) : Int) → (∀ k, k < n + j → gI τ 67 k = iI (tap T n v1 v2 v3 v4 v5 k : Int)) → ok (f_m_feed_L23 N m v1 v2 v3 v4 v5 (iI (j : Int)) τ) (fun z => z.1 = iI ((n + 20 : Nat) : Int) ∧ gI z.2 66 2 = iI ((n + 20 : Nat) : Int) ∧ ∀ k, k < n + 20 → gI z.2 67 k = iI (tap T n v1 v2 v3 v4 v5 k : Int)) := by
    intro m
    induction m with
    | zero => intro j τ _ h; omega
    | succ m ih =>
      intro j τ hj hm g1 g2
      by_cases c : j = 20
      · subst c
        unfold f_m_feed_L23
        rw [if_pos (show (20 : Int32) ≤ iI ((20 : Nat) : Int) by decide)]
        exact okS.mpr ⟨g1, g1, g2⟩
      · rw [pm_feed1 v1 v2 v3 v4 v5 (by omega), g1, if_pos (show vin (iI ((n + j : Nat) : Int)) 900 by rw [vin_iI (by omega) (by omega)]; omega), sA_iI (by omega) (by omega), Int.toNat_natCast]
        refine ih (j + 1) _ (by omega) (by omega) ?_ (fun k hk => ?_)
        · rw [gI_eq, gI_ne (by omega), g1, show (1 : Int32) = iI 1 from rfl, iI_add]; rfl
        · rw [gI_ne (by omega)]
          by_cases d : k = n + j
          · rw [d, gI_eq]
            unfold tap
            rw [if_neg (by omega), show n + j - n = j by omega]
          · rw [gI_ne (by omega)]
            exact g2 k (by omega)
  unfold f_m_feed
  have g1 : gI (sI σ 66 0 0) 66 2 = iI (n : Int) := by rw [gI_ne (by omega)]; exact h1
  rw [g1, show iI (n : Int) + 20 = iI ((n + 20 : Nat) : Int) from iI_add _ 20, if_pos (show iI ((n + 20 : Nat) : Int) ≤ 900 by rw [show (900 : Int32) = iI 900 from rfl, iI_le (by omega) (by omega) (by omega) (by omega)]; omega)]
  refine key N 0 _ (by omega) (by omega) g1 (fun k hk => ?_)
  rw [gI_ne (by omega), h2 k hk]
  unfold tap
  rw [if_pos (show k < n from hk)]
theorem sim_feed (hN : 200000 ≤ N) (v1 v2 v3 v4 v5 : Int32) (h : Sim σ) : Both (f_x_feed N v1 v2 v3 v4 v5 σ) (f_m_feed N v1 v2 v3 v4 v5) := by
  obtain ⟨R, S, B, h, hr⟩ := h
  obtain ⟨h0, h1, h2, h3, h4, h5, h6, ⟨n, T, hn, t1, t2, t3⟩, h8⟩ := h
  by_cases c : n + 20 ≤ 900
  · refine ((px_feed hN (T := T) v1 v2 v3 v4 v5 c t1 (fun k hk => (t3 k hk).2.2)).and (fun z => w_f_x_feed)).imp (fun z hz => ?_)
    have f := hz.2
    refine ((pm_feed hN (T := T) v1 v2 v3 v4 v5 c ((f.I 66 2 rfl).trans t2) (fun k hk => (f.I 67 k rfl).trans (t3 k hk).2.1)).and (fun y => w_f_m_feed)).imp (fun y hy => ?_)
    have g : Fr [(1, some 1), (2, none), (66, some 0), (66, some 2), (67, none)] σ y.2 := (f.mono rfl).tr (hy.2.mono rfl)
    refine ⟨hz.1.1.trans hy.1.1.symm, R, S, B, ⟨h0, h1.fr g rfl, h2.fr g rfl, h3.fr g rfl, h4.fr g rfl, h5.fr g rfl, h6.fr g rfl, ⟨n + 20, tap T n v1 v2 v3 v4 v5, by omega, ?_, hy.1.2.1, fun k hk => ⟨tap_lt (fun k hk => (t3 k hk).1) k, hy.1.2.2 k hk, ?_⟩⟩, h8.fr g rfl⟩, ?_⟩
    · rw [hy.2.I 1 1 rfl]; exact hz.1.2.1
    · rw [hy.2.I 2 k rfl]; exact hz.1.2.2 k hk
    · unfold Trb
      rw [g.I 0 10 rfl, g.I 66 11 rfl, g.I 1 12 rfl, g.I 66 9 rfl, g.I 1 13 rfl, g.I 66 10 rfl]
      exact hr
  · have e : ¬ iI ((n + 20 : Nat) : Int) ≤ 900 := by rw [show (900 : Int32) = iI 900 from rfl, iI_le (by omega) (by omega) (by omega) (by omega)]; omega
    unfold Both f_x_feed
    rw [t1, show iI (n : Int) + 20 = iI ((n + 20 : Nat) : Int) from iI_add _ 20, if_neg e]
    refine okS.mpr ?_
    have g : Fr [(66, some 0)] σ (sI σ 66 0 0) := Fr.wI Fr.rf (by simp)
    unfold f_m_feed
    dsimp only
    rw [g.I 66 2 rfl, t2, show iI (n : Int) + 20 = iI ((n + 20 : Nat) : Int) from iI_add _ 20, if_neg e]
    refine okS.mpr ⟨rfl, R, S, B, Sim0.fr ⟨h0, h1, h2, h3, h4, h5, h6, ⟨n, T, hn, t1, t2, t3⟩, h8⟩ g rfl, ?_⟩
    unfold Trb
    rw [g.I 0 10 rfl, g.I 66 11 rfl, g.I 1 12 rfl, g.I 66 9 rfl, g.I 1 13 rfl, g.I 66 10 rfl]
    exact hr
end FEED
