section ZSU
variable {N : Nat} {σ τ : Sg} {T : Nat → Nat} {L : Nat}
/-! the reference: a token loaded, no fault yet; a fault -/
def zMT (T : Nat → Nat) (L p : Nat) (σ : Sg) : Prop := gI σ 66 4 = iI (zbb T L p : Int) ∧ gI σ 66 6 = iI (tkM (zkk T L p)) ∧ gI σ 66 5 = iI (zee T L p : Int) ∧ (zkk T L p = 2 → gI σ 66 7 = iI (zvv T L p : Int)) ∧ (zkk T L p = 1 → gI σ 66 8 = iI ((zee T L p - zbb T L p : Nat) : Int) ∧ ∀ i, i < zee T L p - zbb T L p → gI σ 68 i = iI (T (zbb T L p + i) : Int))
def zMG (T : Nat → Nat) (L p : Nat) (σ : Sg) : Prop := gI σ 66 13 = 0 ∧ gI σ 66 9 = 0 ∧ zMT T L p σ
def zMF (n a : Nat) (σ : Sg) : Prop := gI σ 66 13 = 1 ∧ gI σ 66 9 = iI (n : Int) ∧ gI σ 66 10 = iI (a : Int)
def zMS (T : Nat → Nat) (L : Nat) (e : zE) (p : Nat) (σ : Sg) : Prop := TxM T L σ ∧ (e = none → zMG T L p σ) ∧ ∀ x, e = some x → zMF x.1 x.2 σ
theorem zMS.bad {n a p : Nat} (ht : TxM T L σ) (h : zMF n a σ) : zMS T L (some (n, a)) p σ := ⟨ht, fun h => (by cases h), fun x hx => by cases hx; exact h⟩
theorem zMS.ok {p : Nat} (ht : TxM T L σ) (h : zMG T L p σ) : zMS T L none p σ := ⟨ht, fun _ => h, fun x hx => by cases hx⟩
theorem zMF.fr {n a : Nat} {W : WL} (h : zMF n a σ) (f : Fr W σ τ) (hw : dis W [(66, some 9), (66, some 10), (66, some 13)] = true) : zMF n a τ := by
  refine ⟨?_, ?_, ?_⟩
  · rw [f.dI hw (by simp)]; exact h.1
  · rw [f.dI hw (by simp)]; exact h.2.1
  · rw [f.dI hw (by simp)]; exact h.2.2
theorem zMT.fr {p : Nat} {W : WL} (h : zMT T L p σ) (f : Fr W σ τ) (hw : dis W tkm = true) : zMT T L p τ := by
  obtain ⟨h1, h2, h3, h4, h5⟩ := h
  refine ⟨?_, ?_, ?_, fun c => ?_, fun c => ⟨?_, fun i hi => ?_⟩⟩
  · rw [f.dI hw (by simp [tkm])]; exact h1
  · rw [f.dI hw (by simp [tkm])]; exact h2
  · rw [f.dI hw (by simp [tkm])]; exact h3
  · rw [f.dI hw (by simp [tkm])]; exact h4 c
  · rw [f.dI hw (by simp [tkm])]; exact (h5 c).1
  · rw [f.dI hw (by simp [tkm])]; exact (h5 c).2 i hi
theorem zMS.fr {e : zE} {p : Nat} {W : WL} (h : zMS T L e p σ) (f : Fr W σ τ) (hw : dis W [(66, some 3), (67, none), (66, some 4), (66, some 5), (66, some 6), (66, some 7), (66, some 8), (68, none), (66, some 9), (66, some 10), (66, some 13)] = true) : zMS T L e p τ := by
  refine ⟨h.1.co f (dis_sub hw rfl), fun c => ?_, fun x hx => (h.2.2 x hx).fr f (dis_sub hw rfl)⟩
  obtain ⟨h1, h2, h3⟩ := h.2.1 c
  refine ⟨?_, ?_, h3.fr f (dis_sub hw rfl)⟩
  · rw [f.dI hw (by simp)]; exact h1
  · rw [f.dI hw (by simp)]; exact h2
theorem zm_next (hN : 200000 ≤ N) (hL : L ≤ 900) {p : Nat} (hp : p ≤ L) (ht : TxM T L σ) (h5 : gI σ 66 5 = iI (p : Int)) : ok (f_m_next N σ) (fun z => zMT T L p z.2 ∧ TxM T L z.2 ∧ Fr tkm σ z.2) :=
  ((pm_tok hN hL hp ht h5).and (fun z => w_f_m_next)).imp (fun z hz => ⟨hz.1, ht.co hz.2 rfl, hz.2⟩)
theorem zm_nextG (hN : 200000 ≤ N) (hL : L ≤ 900) {p : Nat} (hp : p ≤ L) (ht : TxM T L σ) (h : zMG T L p σ) : ok (f_m_next N σ) (fun z => zMS T L none (zee T L p) z.2 ∧ Fr tkm σ z.2) := by
  refine (zm_next hN hL (z_le hp).2.2 ht h.2.2.2.2.1).imp (fun z hz => ⟨zMS.ok hz.2.1 ⟨?_, ?_, hz.1⟩, hz.2.2⟩)
  · rw [hz.2.2.I 66 13 rfl]; exact h.1
  · rw [hz.2.2.I 66 9 rfl]; exact h.2.1
/-- the first fault is written down -/
def wrg (σ : Sg) (n a : Nat) : Sg := sI (sI (sI σ 66 13 1) 66 9 (iI (n : Int))) 66 10 (iI (a : Int))
def wrW : WL := [(66, some 9), (66, some 10), (66, some 13)]
theorem wrg_fr {n a : Nat} : Fr wrW σ (wrg σ n a) := Fr.wI (Fr.wI (Fr.wI Fr.rf (by simp [wrW])) (by simp [wrW])) (by simp [wrW])
theorem wrg_f {n a : Nat} : zMF n a (wrg σ n a) := ⟨by unfold wrg; rw [gI_ne (by omega), gI_ne (by omega), gI_eq], by unfold wrg; rw [gI_ne (by omega), gI_eq], gI_eq⟩
theorem zm_wrong {n a : Nat} {v w : Int32} (h : gI σ 66 13 = 0) (hv : v = iI (n : Int)) (hw : w = iI (a : Int)) : f_m_wrong N v w σ = some ((), wrg σ n a) := by
  unfold f_m_wrong
  rw [if_pos h, hv, hw]
  rfl
theorem ne10 {v : Int32} (h : v = 1) : ¬ v = 0 := by rw [h]; decide
theorem zF_wrong {v w : Int32} (h : gI σ 66 13 = 1) : f_m_wrong N v w σ = some ((), σ) := by unfold f_m_wrong; rw [if_neg (ne10 h)]
theorem zF_pass (h : gI σ 66 13 = 1) : f_m_pass N σ = some ((), σ) := by unfold f_m_pass; rw [if_neg (ne10 h)]
theorem zF_numH {v w : Int32} (h : gI σ 66 13 = 1) : f_m_numberHere N v w σ = some (v, σ) := by unfold f_m_numberHere; rw [if_neg (ne10 h)]
theorem zF_must {w : Nat} (h : gI σ 66 13 = 1) : f_m_must N w σ = some ((), σ) := by unfold f_m_must; rw [if_neg (ne10 h)]
theorem zF_is {w : Nat} (h : gI σ 66 13 = 1) : f_m_isWord N w σ = some (false, σ) := by unfold f_m_isWord; rw [if_neg (ne10 h)]
theorem zm_pass (hN : 200000 ≤ N) (hL : L ≤ 900) {e : zE} {p : Nat} (hp : p ≤ L) (h : zMS T L e p σ) : ok (f_m_pass N σ) (fun z => zMS T L e (zee T L p) z.2 ∧ Fr tkm σ z.2) := by
  cases e with
  | some x =>
    rw [zF_pass (h.2.2 x rfl).1]
    exact okS.mpr ⟨zMS.bad h.1 (h.2.2 x rfl), Fr.rf⟩
  | none =>
    unfold f_m_pass
    rw [if_pos (h.2.1 rfl).1, okB]
    exact (zm_nextG hN hL hp h.1 (h.2.1 rfl)).imp (fun z hz => okS.mpr hz)
theorem zm_is (hN : 200000 ≤ N) (hL : L ≤ 900) (hT : ∀ i, T i < 256) {p w : Nat} (hp : p ≤ L) (hw : w < 20) (h : zMG T L p σ) : f_m_isWord N w σ = some (zis T L p w, σ) := by
  have hz := z_le (T := T) hp
  exact pm_isWord hN hw z_kk hz.2.1 (by omega) hT h.1 h.2.2.2.1 h.2.2.2.2.2.2
theorem zm_must (hN : 200000 ≤ N) (hL : L ≤ 900) (hT : ∀ i, T i < 256) {e : zE} {p w : Nat} (hp : p ≤ L) (hw : w < 20) (h : zMS T L e p σ) : ok (f_m_must N w σ) (fun z => zMS T L (wrE T L e p w) (zee T L p) z.2 ∧ Fr tkf σ z.2) := by
  cases e with
  | some x =>
    rw [zF_must (h.2.2 x rfl).1]
    exact okS.mpr ⟨zMS.bad h.1 (h.2.2 x rfl), Fr.rf⟩
  | none =>
    have g := h.2.1 rfl
    unfold f_m_must f_m_takesWord
    rw [if_pos g.1, zm_is hN hL hT hp hw g, Option.bind_some]
    dsimp only
    unfold wrE
    dsimp only
    by_cases c : zis T L p w = true
    · rw [if_pos c, if_pos c, okB, okB]
      refine (zm_nextG hN hL hp h.1 g).imp (fun z hz => okS.mpr ?_)
      rw [if_pos rfl]
      exact okS.mpr ⟨hz.1, hz.2.mono rfl⟩
    · rw [if_neg c, if_neg c, Option.bind_some, if_neg Bool.false_ne_true, zm_wrong (v := 1) (n := 1) g.1 rfl g.2.2.1, Option.bind_some]
      exact okS.mpr ⟨zMS.bad (h.1.co wrg_fr rfl) wrg_f, wrg_fr.mono rfl⟩
theorem tkM2 {k : Nat} (hk : k ≤ 4) : iI (tkM k) = 3 ↔ k = 2 := by
  have h : k = 0 ∨ k = 1 ∨ k = 2 ∨ k = 3 ∨ k = 4 := by omega
  rcases h with rfl | rfl | rfl | rfl | rfl <;> decide
theorem tkM1 {k : Nat} (hk : k ≤ 4) : iI (tkM k) = 2 ↔ k = 1 := by
  have h : k = 0 ∨ k = 1 ∨ k = 2 ∨ k = 3 ∨ k = 4 := by omega
  rcases h with rfl | rfl | rfl | rfl | rfl <;> decide
theorem tkM0 {k : Nat} (hk : k ≤ 4) : iI (tkM k) = 0 ↔ k = 0 := by
  have h : k = 0 ∨ k = 1 ∨ k = 2 ∨ k = 3 ∨ k = 4 := by omega
  rcases h with rfl | rfl | rfl | rfl | rfl <;> decide
theorem tkM3 {k : Nat} (hk : k ≤ 4) : iI (tkM k) = 59 ↔ k = 3 := by
  have h : k = 0 ∨ k = 1 ∨ k = 2 ∨ k = 3 ∨ k = 4 := by omega
  rcases h with rfl | rfl | rfl | rfl | rfl <;> decide
theorem zm_numH (hN : 200000 ≤ N) (hL : L ≤ 900) {e : zE} {p : Nat} {lo hi : Int} {vl vh : Int32} (hp : p ≤ L) (h12 : e = none → vl = iI lo ∧ vh = iI hi) (h3 : 0 ≤ lo ∧ lo < 1000) (h4 : -1 ≤ hi ∧ hi < 1000) (h : zMS T L e p σ) : ok (f_m_numberHere N vl vh σ) (fun z => zMS T L (nuE T L e p lo hi) p z.2 ∧ (nuE T L e p lo hi = none → z.1 = iI (zvv T L p : Int)) ∧ Fr wrW σ z.2) := by
  cases e with
  | some x =>
    rw [zF_numH (h.2.2 x rfl).1]
    exact okS.mpr ⟨zMS.bad h.1 (h.2.2 x rfl), fun q => (by cases q), Fr.rf⟩
  | none =>
    have g := h.2.1 rfl
    have hv := z_vv (T := T) (L := L) (p := p)
    obtain ⟨h1, h2⟩ := h12 rfl
    unfold f_m_numberHere
    rw [if_pos g.1, g.2.2.2.1]
    unfold nuE
    dsimp only
    by_cases c : zkk T L p = 2
    · rw [if_pos ((tkM2 z_kk).mpr c), if_pos c, g.2.2.2.2.2.1 c, h1, h2, pm_in (by omega) (by omega) (by omega) (by omega) (by omega) (by omega), Option.bind_some]
      dsimp only
      by_cases c2 : lo ≤ (zvv T L p : Int) ∧ (zvv T L p : Int) ≤ hi
      · rw [if_pos (decide_eq_true c2), if_pos g.1, if_pos c2, g.2.2.2.2.2.1 c]
        exact okS.mpr ⟨h, fun _ => rfl, Fr.rf⟩
      · rw [if_neg (by rw [decide_eq_true_eq]; exact c2), if_neg c2, zm_wrong (v := 4) (n := 4) g.1 rfl g.2.2.1, Option.bind_some, if_neg (ne10 wrg_f.1)]
        exact okS.mpr ⟨zMS.bad (h.1.co wrg_fr rfl) wrg_f, fun q => (by cases q), wrg_fr⟩
    · rw [if_neg (fun q => c ((tkM2 z_kk).mp q)), if_neg c, zm_wrong (v := 1) (n := 1) g.1 rfl g.2.2.1, Option.bind_some, if_neg (ne10 wrg_f.1)]
      exact okS.mpr ⟨zMS.bad (h.1.co wrg_fr rfl) wrg_f, fun q => (by cases q), wrg_fr⟩
theorem zm_num (hN : 200000 ≤ N) (hL : L ≤ 900) {e : zE} {p : Nat} {lo hi : Int} {vl vh : Int32} (hp : p ≤ L) (h12 : e = none → vl = iI lo ∧ vh = iI hi) (h3 : 0 ≤ lo ∧ lo < 1000) (h4 : -1 ≤ hi ∧ hi < 1000) (h : zMS T L e p σ) : ok (f_m_number N vl vh σ) (fun z => zMS T L (nuE T L e p lo hi) (zee T L p) z.2 ∧ (nuE T L e p lo hi = none → z.1 = iI (zvv T L p : Int)) ∧ Fr tkf σ z.2) := by
  unfold f_m_number
  rw [okB]
  refine (zm_numH hN hL hp h12 h3 h4 h).imp (fun z hz => ?_)
  rw [okB]
  exact (zm_pass hN hL hp hz.1).imp (fun y hy => okS.mpr ⟨hy.1, hz.2.1, (hz.2.2.mono rfl).tr (hy.2.mono rfl)⟩)
theorem zm_aft (hN : 200000 ≤ N) (hL : L ≤ 900) (hT : ∀ i, T i < 256) {e : zE} {p w : Nat} {lo hi : Int} {vl vh : Int32} (hp : p ≤ L) (hw : w < 20) (h12 : e = none → vl = iI lo ∧ vh = iI hi) (h3 : 0 ≤ lo ∧ lo < 1000) (h4 : -1 ≤ hi ∧ hi < 1000) (h : zMS T L e p σ) : ok (f_m_after N w vl vh σ) (fun z => zMS T L (afE T L e p w lo hi) (zee T L (zee T L p)) z.2 ∧ (afE T L e p w lo hi = none → z.1 = iI (zvv T L (zee T L p) : Int)) ∧ Fr tkf σ z.2) := by
  unfold f_m_after
  rw [okB]
  refine (zm_must hN hL hT hp hw h).imp (fun z hz => ?_)
  rw [okB]
  refine (zm_num hN hL (z_le hp).2.2 (fun q => h12 ?_) h3 h4 hz.1).imp (fun y hy => okS.mpr ⟨hy.1, hy.2.1, hz.2.tr hy.2.2⟩)
  cases e with
  | none => rfl
  | some x => cases q
theorem zm_cellE : f_m_cellHere N σ = f_m_numberHere N 0 ((gA σ 70 0) - 1) σ := bind_eta
end ZSU
