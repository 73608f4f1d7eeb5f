section ZNB
variable {N : Nat} {σ : Sg} {T R S B nf nt sl : Nat → Nat} {L : Nat}
/-! names in the reference: what its row holds of the class's list -/
def zNI (T : Nat → Nat) (L : Nat) (R nf nt sl : Nat → Nat) : Prop := (∀ i, i < R 2 + R 3 → (nf i < nt i ∧ nt i ≤ nf i + 8 ∧ nt i ≤ L ∧ sl i < 9 ∧ (sl i < 3 → sl i < R 2) ∧ (3 ≤ sl i → sl i < 3 + R 3)) ∧ R (48 + sl i) = nt i - nf i ∧ ∀ k, k < nt i - nf i → R (57 + 8 * sl i + k) = T (nf i + k)) ∧ (∀ s, s < 9 → R (48 + s) = 0 ∨ ∃ i, i < R 2 + R 3 ∧ sl i = s) ∧ ∀ i j, i < R 2 + R 3 → j < R 2 + R 3 → zlk T (nf i) (nt i) (nf j) (nt j) = true → i = j
def zmt (T R : Nat → Nat) (b e s : Nat) : Prop := 0 < R (48 + s) ∧ R (48 + s) = e - b ∧ ∀ k, k < e - b → R (57 + 8 * s + k) = T (b + k)
theorem zNI.mt {b e i : Nat} (h : zNI T L R nf nt sl) (hi : i < R 2 + R 3) (hbe : b < e) : zmt T R b e (sl i) ↔ zlk T (nf i) (nt i) b e = true := by
  obtain ⟨h1, h2, h3⟩ := h.1 i hi
  rw [zlk_iff]
  unfold zmt
  rw [h2]
  refine ⟨fun q => ⟨q.2.1, fun k hk => ?_⟩, fun q => ⟨by omega, q.1, fun k hk => ?_⟩⟩
  · rw [← h3 k (by omega)]; exact q.2.2 k hk
  · rw [h3 k (by omega)]; exact q.2 k hk
theorem zm_f0 {m : Nat} {v w : Int32} {k : Int32 → Int32 → Sg → Option (Int32 × Sg)} : f_m_find_L44 N (m + 1) v 0 w σ k = k v 0 σ := by
  unfold f_m_find_L44
  by_cases c : (gI σ 66 8) ≤ w
  · rw [if_pos c]
  · rw [if_neg c, if_pos rfl]
theorem zm_f1 {b e s : Nat} {k : Int32 → Int32 → Sg → Option (Int32 × Sg)} (hT : ∀ i, T i < 256) (hR : AR σ 70 189 R) (hs : s < 9) (hbe : b ≤ e) (he : e - b ≤ 8) (hm : R (57 + 8 * s) < 2 ∨ True) (hRb : ∀ k, k < e - b → R (57 + 8 * s + k) < 256) (h8 : gI σ 66 8 = iI ((e - b : Nat) : Int)) (h68 : ∀ i, i < e - b → gI σ 68 i = iI (T (b + i) : Int)) : ∀ (m j : Nat), j ≤ e - b → e - b - j + 1 < m → ((∀ q, j ≤ q → q < e - b → R (57 + 8 * s + q) = T (b + q)) → f_m_find_L44 N m (iI (s : Int)) 1 (iI (j : Int)) σ k = k (iI (s : Int)) 1 σ) ∧ (¬ (∀ q, j ≤ q → q < e - b → R (57 + 8 * s + q) = T (b + q)) → f_m_find_L44 N m (iI (s : Int)) 1 (iI (j : Int)) σ k = k (iI (s : Int)) 0 σ) := by
  intro m
  induction m with
  | zero => intro j _ h; omega
  | succ m ih =>
    intro j hj hm
    unfold f_m_find_L44
    rw [h8]
    by_cases c : j = e - b
    · rw [if_pos (show iI ((e - b : Nat) : Int) ≤ iI (j : Int) by rw [iI_le (by omega) (by omega) (by omega) (by omega)]; omega)]
      exact ⟨fun _ => rfl, fun q => absurd (fun q h1 h2 => by omega) q⟩
    · have hr := hRb j (by omega)
      have ht := hT (b + j)
      rw [if_neg (show ¬ iI ((e - b : Nat) : Int) ≤ iI (j : Int) by rw [iI_le (by omega) (by omega) (by omega) (by omega)]; omega), if_neg (by decide), show (57 : Int32) + 8 * iI (s : Int) + iI (j : Int) = iI ((57 + 8 * s + j : Nat) : Int) by rw [show (57 : Int32) = iI 57 from rfl, show (8 : Int32) = iI 8 from rfl, iI_mul, iI_add, iI_add]; rfl, if_pos (show vin (iI ((57 + 8 * s + j : Nat) : Int)) 189 by rw [vin_iI (by omega) (by omega)]; omega), if_pos (show vin (iI (j : Int)) 8 by rw [vin_iI (by omega) (by omega)]; omega), hR.A (57 + 8 * s + j) rfl (by omega) (by omega), gA_iI (by omega) (by omega), Int.toNat_natCast, h68 j (by omega), show iI (j : Int) + 1 = iI ((j + 1 : Nat) : Int) from iI_add _ 1]
      by_cases c2 : R (57 + 8 * s + j) = T (b + j)
      · rw [if_pos (show iI (R (57 + 8 * s + j) : Int) = iI (T (b + j) : Int) by rw [c2])]
        obtain ⟨i1, i2⟩ := ih (j + 1) (by omega) (by omega)
        refine ⟨fun q => i1 (fun x h1 h2 => q x (by omega) h2), fun q => i2 (fun w => q (fun x h1 h2 => ?_))⟩
        by_cases ex : x = j
        · rw [ex]; exact c2
        · exact w x (by omega) h2
      · rw [if_neg (show ¬ iI (R (57 + 8 * s + j) : Int) = iI (T (b + j) : Int) by rw [iI_eq (by omega) (by omega) (by omega) (by omega)]; omega)]
        obtain ⟨m', rfl⟩ : ∃ m', m = m' + 1 := ⟨m - 1, by omega⟩
        rw [zm_f0]
        exact ⟨fun q => absurd (q j (by omega) (by omega)) c2, fun _ => rfl⟩
theorem zm_fstep {b e s n : Nat} (hN : 200000 ≤ N) (hT : ∀ i, T i < 256) (hR : AR σ 70 189 R) (hs : s < 9) (hbe : b < e) (he : e - b ≤ 8) (hsz : R (48 + s) < 1000) (hRb : R (48 + s) = e - b → ∀ k, k < e - b → R (57 + 8 * s + k) < 256) (h8 : gI σ 66 8 = iI ((e - b : Nat) : Int)) (h68 : ∀ i, i < e - b → gI σ 68 i = iI (T (b + i) : Int)) : (zmt T R b e s → f_m_find_L2 N (n + 1) (iI (s : Int)) σ = some (iI (s : Int), σ)) ∧ (¬ zmt T R b e s → f_m_find_L2 N (n + 1) (iI (s : Int)) σ = f_m_find_L2 N n (iI ((s + 1 : Nat) : Int)) σ) := by
  obtain ⟨N', rfl⟩ : ∃ N', N = N' + 1 := ⟨N - 1, by omega⟩
  have e48 : gA σ 70 (48 + iI (s : Int)) = iI (R (48 + s) : Int) := by
    rw [show (48 : Int32) + iI (s : Int) = iI ((48 + s : Nat) : Int) from iI_add 48 _]
    exact hR.A (48 + s) rfl (by omega) (by omega)
  have v48 : vin (48 + iI (s : Int)) 189 := by
    rw [show (48 : Int32) + iI (s : Int) = iI ((48 + s : Nat) : Int) from iI_add 48 _, vin_iI (by omega) (by omega)]; omega
  have e1 : iI (s : Int) + 1 = iI ((s + 1 : Nat) : Int) := iI_add _ 1
  conv => lhs; rhs; lhs; unfold f_m_find_L2
  conv => rhs; rhs; lhs; unfold f_m_find_L2
  rw [if_neg (show ¬ (9 : Int32) ≤ iI (s : Int) by rw [show (9 : Int32) = iI 9 from rfl, iI_le (by omega) (by omega) (by omega) (by omega)]; omega), if_pos v48, e48, h8]
  by_cases c : R (48 + s) = 0
  · have hno : ¬ zmt T R b e s := fun q => by have := q.1; omega
    rw [if_pos (show iI (R (48 + s) : Int) ≤ 0 by rw [c]; decide), zm_f0, if_pos rfl, e1]
    exact ⟨fun q => absurd q hno, fun _ => rfl⟩
  · rw [if_neg (show ¬ iI (R (48 + s) : Int) ≤ 0 by rw [show (0 : Int32) = iI 0 from rfl, iI_le (by omega) (by omega) (by omega) (by omega)]; omega), if_pos v48]
    by_cases c2 : R (48 + s) = e - b
    · rw [if_pos (show iI (R (48 + s) : Int) = iI ((e - b : Nat) : Int) by rw [c2])]
      obtain ⟨k1, k2⟩ := zm_f1 (N := N' + 1) (σ := σ) (b := b) (e := e) (s := s) (k := fun (w1 : Int32) (w2 : Int32) (t3 : Sg) => if w2 = 0 then f_m_find_L2 (N' + 1) n (w1 + 1) t3 else some (w1, t3)) hT hR hs (by omega) he (Or.inr trivial) (hRb c2) h8 h68 (N' + 1) 0 (by omega) (by omega)
      have z0 : iI ((0 : Nat) : Int) = 0 := rfl
      rw [z0] at k1 k2
      by_cases c3 : ∀ q, 0 ≤ q → q < e - b → R (57 + 8 * s + q) = T (b + q)
      · rw [k1 c3, if_neg (by decide)]
        exact ⟨fun _ => rfl, fun q => absurd ⟨by omega, c2, fun k hk => c3 k (by omega) hk⟩ q⟩
      · rw [k2 c3, if_pos rfl, e1]
        exact ⟨fun q => absurd (fun k _ hk => q.2.2 k hk) c3, fun _ => rfl⟩
    · have hno : ¬ zmt T R b e s := fun q => c2 q.2.1
      rw [if_neg (show ¬ iI (R (48 + s) : Int) = iI ((e - b : Nat) : Int) by rw [iI_eq (by omega) (by omega) (by omega) (by omega)]; omega), zm_f0, if_pos rfl, e1]
      exact ⟨fun q => absurd q hno, fun _ => rfl⟩
def zfs (sl : Nat → Nat) (o : Option Nat) : Int := match o with
  | none => -1
  | some i => (sl i : Int)
theorem zm_find (hN : 200000 ≤ N) (hT : ∀ i, T i < 256) {p : Nat} (hp : p ≤ L) (hk : zkk T L p = 1) (h : zMG T L p σ) (hR : AR σ 70 189 R) (hn : zNI T L R nf nt sl) : f_m_find N σ = some (iI (zfs sl (zfd T L p (R 2 + R 3) nf nt)), σ) := by
  have hw := z_w (T := T) hp hk
  obtain ⟨h8, h68⟩ := h.2.2.2.2.2.2 hk
  have st : ∀ s n, s < 9 → (zmt T R (zbb T L p) (zee T L p) s → f_m_find_L2 N (n + 1) (iI (s : Int)) σ = some (iI (s : Int), σ)) ∧ (¬ zmt T R (zbb T L p) (zee T L p) s → f_m_find_L2 N (n + 1) (iI (s : Int)) σ = f_m_find_L2 N n (iI ((s + 1 : Nat) : Int)) σ) := fun s n hs => by
    refine zm_fstep hN hT hR hs hw.1 (by omega) ?_ (fun q k hk => ?_) h8 h68
    · rcases hn.2.1 s hs with h0 | ⟨i, hi, rfl⟩
      · omega
      · rw [(hn.1 i hi).2.1]; have := (hn.1 i hi).1; omega
    · rcases hn.2.1 s hs with h0 | ⟨i, hi, rfl⟩
      · omega
      · rw [(hn.1 i hi).2.2 k (by rw [(hn.1 i hi).2.1] at q; omega)]; exact hT _
  have fin : ∀ n, f_m_find_L2 N (n + 1) (iI ((9 : Nat) : Int)) σ = some (iI (-1), σ) := fun n => by
    unfold f_m_find_L2
    rw [if_pos (by decide)]
    rfl
  unfold f_m_find
  rcases zff_cases (fun i => zlk T (nf i) (nt i) (zbb T L p) (zee T L p)) (R 2 + R 3) 0 with ⟨hz, ha⟩ | ⟨j, -, hj, hz, hq⟩
  · have key : ∀ (m s : Nat), s ≤ 9 → 9 - s < m → f_m_find_L2 N m (iI (s : Int)) σ = some (iI (-1), σ) := by
      intro m
      induction m with
      | zero => intro s _ h; omega
      | succ m ih =>
        intro s hs hm
        by_cases c : s = 9
        · rw [c]; exact fin m
        · rw [(st s m (by omega)).2 ?_]
          · exact ih (s + 1) (by omega) (by omega)
          · intro q
            rcases hn.2.1 s (by omega) with h0 | ⟨i, hi, rfl⟩
            · have := q.1; omega
            · have h1 := (hn.mt hi hw.1).mp q
              have h2 : zlk T (nf i) (nt i) (zbb T L p) (zee T L p) = false := ha i (by omega) (by omega)
              rw [h2] at h1; cases h1
    unfold zfd
    rw [hz]
    exact key N 0 (by omega) (by omega)
  · have hj' : j < R 2 + R 3 := by omega
    have hmj := (hn.mt hj' hw.1).mpr hq
    have hsj := (hn.1 j hj').1
    have key : ∀ (m s : Nat), s ≤ sl j → sl j - s < m → f_m_find_L2 N m (iI (s : Int)) σ = some (iI (sl j : Int), σ) := by
      intro m
      induction m with
      | zero => intro s _ h; omega
      | succ m ih =>
        intro s hs hm
        by_cases c : s = sl j
        · rw [c]; exact (st (sl j) m (by omega)).1 hmj
        · rw [(st s m (by omega)).2 ?_]
          · exact ih (s + 1) (by omega) (by omega)
          · intro q
            rcases hn.2.1 s (by omega) with h0 | ⟨i, hi, rfl⟩
            · have := q.1; omega
            · have h1 := zlk_iff.mp ((hn.mt hi hw.1).mp q)
              have h2 := zlk_iff.mp hq
              have h3 : i = j := hn.2.2 i j hi hj' (zlk_iff.mpr ⟨by omega, fun k hk => by rw [h1.2 k (by omega), h2.2 k (by omega)]⟩)
              exact c (by rw [h3])
    unfold zfd
    rw [hz]
    exact key N 0 (by omega) (by omega)
end ZNB
