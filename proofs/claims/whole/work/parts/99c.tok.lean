section TOK6
variable {N : Nat} {σ : Sg} {T : Nat → Nat} {L : Nat}
/-- the reference's names of the kinds -/
def tkM (k : Nat) : Int := if k = 0 then 0 else if k = 1 then 2 else if k = 2 then 3 else if k = 3 then 59 else 1
theorem TxM.co {τ : Sg} {W : WL} (h : TxM T L σ) (f : Fr W σ τ) (hw : dis W [(66, some 3), (67, none)] = true) : TxM T L τ := by
  refine ⟨?_, fun k hk => ⟨(h.2 k hk).1, ?_⟩⟩
  · rw [f.dI hw (by simp)]; exact h.1
  · rw [f.dI hw (by simp)]; exact (h.2 k hk).2
theorem pm_tok (hN : 200000 ≤ N) (hL : L ≤ 900) {p : Nat} (hp : p ≤ L) (ht : TxM T L σ) (h5 : gI σ 66 5 = iI (p : Int)) : ok (f_m_next N σ) (fun z => gI z.2 66 4 = iI (rn tkB T L p : Int) ∧ gI z.2 66 6 = iI (tkM (tkK T L (rn tkB T L p))) ∧ gI z.2 66 5 = iI (tkE T L (rn tkB T L p) : Int) ∧ (tkK T L (rn tkB T L p) = 2 → gI z.2 66 7 = iI (tkV T L (rn tkB T L p) : Int)) ∧ (tkK T L (rn tkB T L p) = 1 → gI z.2 66 8 = iI ((tkE T L (rn tkB T L p) - rn tkB T L p : Nat) : Int) ∧ ∀ i, i < tkE T L (rn tkB T L p) - rn tkB T L p → gI z.2 68 i = iI (T (rn tkB T L p + i) : Int))) := by
  have hr := rn_le (c := tkB) (T := T) hp
  unfold f_m_next
  rw [h5, pm_skip hL ht N p hp (by omega)]
  generalize rn tkB T L p = b at hr ⊢
  have f0 : Fr [(66, some 4)] σ (sI σ 66 4 (iI (b : Int))) := Fr.wI Fr.rf (by simp)
  have ht1 : TxM T L (sI σ 66 4 (iI (b : Int))) := ht.co f0 rfl
  rw [pm_see hL ht1 hr.2, Option.bind_some]
  dsimp only
  by_cases c : b < L
  · have hb := (ht.2 b c).1
    rw [if_pos c, if_neg (show ¬ iI (T b : Int) = -1 by rw [show (-1 : Int32) = iI (-1) from rfl, iI_eq (by omega) (by omega) (by omega) (by omega)]; omega), pm_isSmall (by omega) (by omega), Option.bind_some]
    dsimp only
    have f1 : Fr [(66, some 4), (66, some 7), (66, some 8)] σ (sI (sI (sI σ 66 4 (iI (b : Int))) 66 8 0) 66 7 0) := Fr.wI (Fr.wI (Fr.wI Fr.rf (by simp)) (by simp)) (by simp)
    have g4 : gI (sI (sI (sI σ 66 4 (iI (b : Int))) 66 8 0) 66 7 0) 66 4 = iI (b : Int) := by rw [gI_ne (by omega), gI_ne (by omega), gI_eq]
    have g7 : gI (sI (sI (sI σ 66 4 (iI (b : Int))) 66 8 0) 66 7 0) 66 7 = iI ((0 : Nat) : Int) := by rw [gI_eq]; rfl
    have g8 : gI (sI (sI (sI σ 66 4 (iI (b : Int))) 66 8 0) 66 7 0) 66 8 = iI ((0 : Nat) : Int) := by rw [gI_ne (by omega), gI_eq]; rfl
    have ht2 := ht.co f1 rfl
    generalize sI (sI (sI σ 66 4 (iI (b : Int))) 66 8 0) 66 7 0 = υ at g4 g7 g8 ht2 ⊢
    unfold tkK tkE
    rw [if_pos c, if_pos c]
    by_cases c1 : 97 ≤ T b ∧ T b ≤ 122
    · have c1' : tkL (T b) = true := decide_eq_true c1
      rw [if_pos (show decide ((97 : Int) ≤ (T b : Int) ∧ (T b : Int) ≤ 122) = true by rw [decide_eq_true_eq]; omega), if_pos c1', if_pos c1']
      refine ((pm_word hL (b := b) N 0 υ hr.2 (by omega) ht2 g8 (fun i hi => by omega)).and (fun z => w_f_m_next_L67 _ _ _ _)).imp (fun z hz => ?_)
      have hz1 := hz.1
      rw [Nat.add_zero] at hz1
      refine ⟨?_, ?_, hz1.2.1, fun h => ?_, fun h => ?_⟩
      · rw [hz.2.I 66 4 rfl]; exact g4
      · rw [hz1.1]
        by_cases c8 : 8 < rn tkL T L b - b
        · rw [if_pos c8, if_pos c8]; rfl
        · rw [if_neg c8, if_neg c8]; rfl
      · split at h <;> omega
      · refine ⟨hz1.2.2.1, fun i hi => hz1.2.2.2 i ?_⟩
        split at h <;> omega
    · have c1' : ¬ tkL (T b) = true := by unfold tkL; rw [decide_eq_true_eq]; exact c1
      rw [if_neg (show ¬ decide ((97 : Int) ≤ (T b : Int) ∧ (T b : Int) ≤ 122) = true by rw [decide_eq_true_eq]; omega), if_neg c1', if_neg c1', pm_isDigit (by omega) (by omega), Option.bind_some]
      dsimp only
      by_cases c2 : 48 ≤ T b ∧ T b ≤ 57
      · have c2' : tkD (T b) = true := decide_eq_true c2
        rw [if_pos (show decide ((48 : Int) ≤ (T b : Int) ∧ (T b : Int) ≤ 57) = true by rw [decide_eq_true_eq]; omega), if_pos c2', if_pos c2']
        refine ((pm_num hL (b := b) N 0 υ hr.2 (by omega) ht2 g7).and (fun z => w_f_m_next_L152 _ _ _ _ _)).imp (fun z hz => ?_)
        have hz1 := hz.1
        rw [Nat.add_zero] at hz1
        refine ⟨?_, ?_, hz1.2.1, fun h => hz1.2.2, fun h => ?_⟩
        · rw [hz.2.I 66 4 rfl]; exact g4
        · rw [hz1.1]
          by_cases c8 : 3 < rn tkD T L b - b
          · rw [if_pos c8, if_pos c8]; rfl
          · rw [if_neg c8, if_neg c8]; rfl
        · split at h <;> omega
      · have c2' : ¬ tkD (T b) = true := by unfold tkD; rw [decide_eq_true_eq]; exact c2
        rw [if_neg (show ¬ decide ((48 : Int) ≤ (T b : Int) ∧ (T b : Int) ≤ 57) = true by rw [decide_eq_true_eq]; omega), if_neg c2', if_neg c2']
        by_cases c3 : T b = 59
        · rw [if_pos (show iI (T b : Int) = 59 by rw [c3]; rfl), if_pos c3]
          refine okS.mpr ⟨?_, ?_, ?_, fun h => absurd h (by decide), fun h => absurd h (by decide)⟩
          · rw [gI_ne (by omega), gI_ne (by omega)]; exact g4
          · rw [gI_eq, c3]; rfl
          · rw [gI_ne (by omega), gI_eq]; exact iI_add _ 1
        · rw [if_neg (show ¬ iI (T b : Int) = 59 by rw [show (59 : Int32) = iI 59 from rfl, iI_eq (by omega) (by omega) (by omega) (by omega)]; omega), if_neg c3]
          refine okS.mpr ⟨?_, ?_, ?_, fun h => absurd h (by decide), fun h => absurd h (by decide)⟩
          · rw [gI_ne (by omega), gI_ne (by omega)]; exact g4
          · rw [gI_eq]; rfl
          · rw [gI_ne (by omega), gI_eq]; exact iI_add _ 1
  · rw [if_neg c, if_pos (show iI (-1) = -1 from rfl)]
    unfold tkK tkE
    rw [if_neg c, if_neg c]
    refine okS.mpr ⟨?_, ?_, ?_, fun h => absurd h (by decide), fun h => absurd h (by decide)⟩
    · rw [gI_ne (by omega), gI_ne (by omega), gI_ne (by omega), gI_ne (by omega), gI_eq]
    · rw [gI_ne (by omega), gI_eq]; rfl
    · rw [gI_eq]
end TOK6
