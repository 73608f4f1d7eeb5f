section ZIW
variable {N : Nat} {σ : Sg} {T R S B nf nt sl : Nat → Nat} {L : Nat}
theorem zi_land {p : Nat} (h : zIV T L R S B nf nt sl) (h8 : R 8 = 0) (e : ld4 T L p = none) : zIV T L (ldR T L p R) (ldS1 T L p S) (ldS1 T L p S) nf nt sl := by
  obtain ⟨hb, -, h0, -, hn⟩ := h
  obtain ⟨zR, zS⟩ := h0 h8
  obtain ⟨e4, -, l4⟩ := nuE_none (show nuE T L (wrE T L (ld3 T L p) (ldp T L (ldp T L (ldp T L p))) 10) (zee T L (ldp T L (ldp T L (ldp T L p)))) 0 100 = none from e)
  obtain ⟨e3, -, l3⟩ := nuE_none (show nuE T L (wrE T L (ld2 T L p) (ldp T L (ldp T L p)) 9) (zee T L (ldp T L (ldp T L p))) 0 ((ldv T L p : Int) - 1) = none from (wrE_none e4).1)
  obtain ⟨e2, -, l2⟩ := nuE_none (show nuE T L (wrE T L (ld1 T L p) (ldp T L p) 8) (zee T L (ldp T L p)) 0 ((ldv T L p : Int) - 1) = none from (wrE_none e3).1)
  obtain ⟨e1, -, l1⟩ := nuE_none (show nuE T L (wrE T L none p 7) (zee T L p) 8 60 = none from (wrE_none e2).1)
  have v1 : 8 ≤ ldv T L p ∧ ldv T L p ≤ 60 := by unfold ldv; omega
  have v2 : ldv T L (ldp T L p) < ldv T L p := by
    have : ldv T L (ldp T L p) = zvv T L (zee T L (ldp T L p)) := rfl
    omega
  have v3 : ldv T L (ldp T L (ldp T L p)) < ldv T L p := by
    have : ldv T L (ldp T L (ldp T L p)) = zvv T L (zee T L (ldp T L (ldp T L p))) := rfl
    omega
  have v4 : ldv T L (ldp T L (ldp T L (ldp T L p))) ≤ 100 := by
    have : ldv T L (ldp T L (ldp T L (ldp T L p))) = zvv T L (zee T L (ldp T L (ldp T L (ldp T L p)))) := rfl
    omega
  have r : ∀ k, k ≠ 0 → k ≠ 1 → k ≠ 8 → ldR T L p R k = 0 := fun k a b c => (ldR_ne a b c).trans (zR k)
  have r0 : ldR T L p R 0 = ldv T L p := by unfold ldR; rw [zup_ne (by omega), zup_ne (by omega), zup_eq]
  have r1 : ldR T L p R 1 = ldv T L (ldp T L (ldp T L (ldp T L p))) := by unfold ldR; rw [zup_ne (by omega), zup_eq]
  have r8 : ldR T L p R 8 = 1 := by unfold ldR; rw [zup_eq]
  have s60 : ldS1 T L p S 60 = ldv T L (ldp T L p) := by unfold ldS1; rw [zup_ne (by omega), zup_eq]
  have s61 : ldS1 T L p S 61 = ldv T L (ldp T L (ldp T L p)) := by unfold ldS1; rw [zup_eq]
  have s : ∀ k, k ≠ 60 → k ≠ 61 → ldS1 T L p S k = 0 := fun k a b => by unfold ldS1; rw [zup_ne b, zup_ne a]; exact zS k
  have r2 := r 2 (by omega) (by omega) (by omega)
  have r3 := r 3 (by omega) (by omega) (by omega)
  have r4 := r 4 (by omega) (by omega) (by omega)
  have r5 := r 5 (by omega) (by omega) (by omega)
  have r6 := r 6 (by omega) (by omega) (by omega)
  have r7 := r 7 (by omega) (by omega) (by omega)
  refine ⟨⟨by omega, by omega, by omega, by omega, by omega, by omega, by omega⟩, by omega, fun q => by omega, fun _ => ⟨⟨by omega, by omega, fun b hb => by omega, fun b hb => by omega, fun b hb => by omega, fun b hb => by omega, fun i j hi hj => by omega, fun b hb => by omega, fun k hk => ?_⟩, ⟨fun k hk => ?_, fun k _ hk => s k (by omega) (by omega), by omega, by omega, ?_⟩, ⟨fun k hk => s k (by omega) (by omega), by omega, fun i hi => by omega, ?_⟩⟩, hn.cg (ldR_ne (by omega) (by omega) (by omega)) (ldR_ne (by omega) (by omega) (by omega)) (fun k h1 h2 => ldR_ne (by omega) (by omega) (by omega))⟩
  · rw [r _ (by omega) (by omega) (by omega)]; omega
  · rw [s k (by omega) (by omega)]; omega
  · rw [s 62 (by omega) (by omega)]; omega
  · rw [r4]; rfl
theorem zi_gnd {a b s : Nat} (h : zIV T L R S B nf nt sl) (h8 : R 8 ≠ 0) (h4 : R 4 = 0) (h7 : R 7 < 6) (hs : s ≤ 2) : zIV T L (gdR R a b s) S B nf nt sl := by
  obtain ⟨hb, h1, -, hw, hn⟩ := h
  obtain ⟨⟨w1, w2, w3, w4, w5, w6, w7, w8, w9⟩, ws, g1, g2, g3, g4⟩ := hw h8
  obtain ⟨b0, b2, b3, b4, b5, b6, b7⟩ := hb
  have r : ∀ k, k < 129 → k ≠ 7 → gdR R a b s k = R k := fun k h1 h2 => gdR_lo h1 h2
  have r0 := r 0 (by omega) (by omega)
  have r1 := r 1 (by omega) (by omega)
  have r2 := r 2 (by omega) (by omega)
  have r3 := r 3 (by omega) (by omega)
  have r4 := r 4 (by omega) (by omega)
  have r5 := r 5 (by omega) (by omega)
  have r6 := r 6 (by omega) (by omega)
  have r8 := r 8 (by omega) (by omega)
  have r7 : gdR R a b s 7 = R 7 + 1 := by unfold gdR; rw [zup_eq]
  refine ⟨⟨by omega, by omega, by omega, by omega, by omega, by omega, by omega⟩, by omega, fun q => by omega, fun _ => ⟨⟨by omega, by omega, fun b hb => ?_, fun p hp => ?_, fun i hi => by omega, fun i hi => ?_, fun i j hi hj => ?_, fun i hi => ?_, fun k hk => ?_⟩, ⟨ws.1, fun k hk => ws.2.1 k (by omega), by have := ws.2.2.1; omega, by have := ws.2.2.2.1; omega, ws.2.2.2.2⟩, ⟨g1, by omega, fun i hi => by omega, ?_⟩⟩, hn.cg r2 r3 (fun k h1 h2 => r k (by omega) (by omega))⟩
  · rw [r _ (by omega) (by omega)]; exact w3 b (by omega)
  · rw [r0, r _ (by omega) (by omega), r _ (by omega) (by omega)]; exact w4 p (by omega)
  · rw [r _ (by omega) (by omega), r4]; exact w6 i (by omega)
  · rw [r _ (by omega) (by omega), r _ (by omega) (by omega)]; exact w7 i j hi (by omega)
  · rw [r0, r _ (by omega) (by omega), r _ (by omega) (by omega)]; exact w8 i (by omega)
  · unfold gdR gdG
    rw [zup_ne (by omega)]
    have := w9 k hk
    split <;> omega
  · rw [r4, h4]
    rw [h4] at g4
    exact g4
theorem zgs_le {p : Nat} : zgs T L p ≤ 2 := by
  unfold zgs
  split
  · omega
  · split <;> omega
theorem zi_uns {p : Nat} (h : zIV T L R S B nf nt sl) (h8 : R 8 ≠ 0) (h5 : R 5 < 4) (e : zunE T L p R = none) : zIV T L (zunR R (zvv T L p)) S B nf nt sl := by
  obtain ⟨hb, h1, -, hw, hn⟩ := h
  obtain ⟨⟨w1, w2, w3, w4, w5, w6, w7, w8, w9⟩, ws, hg⟩ := hw h8
  obtain ⟨b0, b2, b3, b4, b5, b6, b7⟩ := hb
  obtain ⟨e1, ed⟩ := dpE_none (show dpE T L (nuE T L none p 1 (R 4 : Int)) p (zunI R (zvv T L p)) = none from e)
  obtain ⟨-, -, l1⟩ := nuE_none e1
  have hd : ∀ i, i < R 5 → R (32 + i) ≠ zvv T L p := fun i hi q => by
    rcases ixF_cases (fun i => (R (32 + i) : Int)) (zvv T L p : Int) (R 5) 0 with ⟨-, h2⟩ | ⟨j, h2, h3, h4, -⟩
    · exact h2 i (by omega) (by omega) (by omega)
    · unfold zunI at ed; omega
  generalize zvv T L p = v at l1 hd
  have r : ∀ k, k ≠ 32 + R 5 → k ≠ 5 → zunR R v k = R k := fun k h1 h2 => by unfold zunR; rw [zup_ne h2, zup_ne h1]
  have rv : zunR R v (32 + R 5) = v := by unfold zunR; rw [zup_ne (by omega), zup_eq]
  have r5 : zunR R v 5 = R 5 + 1 := by unfold zunR; rw [zup_eq]
  have r0 := r 0 (by omega) (by omega)
  have r1 := r 1 (by omega) (by omega)
  have r2 := r 2 (by omega) (by omega)
  have r3 := r 3 (by omega) (by omega)
  have r4 := r 4 (by omega) (by omega)
  have r6 := r 6 (by omega) (by omega)
  have r7 := r 7 (by omega) (by omega)
  have r8 := r 8 (by omega) (by omega)
  refine ⟨⟨by omega, by omega, by omega, by omega, by omega, by omega, by omega⟩, by omega, fun q => by omega, fun _ => ⟨⟨by omega, by omega, fun b hb => ?_, fun p hp => ?_, fun i hi => ?_, fun i hi => ?_, fun i j hi hj => ?_, fun i hi => ?_, fun k hk => ?_⟩, ⟨ws.1, fun k hk => ws.2.1 k (by omega), by have := ws.2.2.1; omega, by have := ws.2.2.2.1; omega, ws.2.2.2.2⟩, hg.cg b0 r0 r4 (fun k hk => r _ (by omega) (by omega)) (fun k hk => r _ (by omega) (by omega)) (fun k hk => r _ (by omega) (by omega)) w5⟩, hn.cg r2 r3 (fun k h1 h2 => r k (by omega) (by omega))⟩
  · rw [r _ (by omega) (by omega)]; exact w3 b (by omega)
  · rw [r0, r _ (by omega) (by omega), r _ (by omega) (by omega)]; exact w4 p (by omega)
  · rw [r _ (by omega) (by omega), r2]; exact w5 i (by omega)
  · rw [r4]
    by_cases c : i = R 5
    · rw [c, rv]; omega
    · rw [r _ (by omega) (by omega)]; exact w6 i (by omega)
  · rw [r (32 + i) (by omega) (by omega)]
    by_cases c : j = R 5
    · rw [c, rv]; exact hd i (by omega)
    · rw [r _ (by omega) (by omega)]; exact w7 i j hi (by omega)
  · rw [r0, r _ (by omega) (by omega), r _ (by omega) (by omega)]; exact w8 i (by omega)
  · rw [r _ (by omega) (by omega)]; exact w9 k hk
theorem zi_seen {p g : Nat} (h : zIV T L R S B nf nt sl) (h8 : R 8 ≠ 0) (h6 : R 6 < 6) (hg1 : g ≤ 1) (e : zse1 T L p R = none) : zIV T L (zseR R (zvv T L p) g) S B nf nt sl := by
  obtain ⟨hb, h1, -, hw, hn⟩ := h
  obtain ⟨⟨w1, w2, w3, w4, w5, w6, w7, w8, w9⟩, ws, hg⟩ := hw h8
  obtain ⟨b0, b2, b3, b4, b5, b6, b7⟩ := hb
  obtain ⟨e1, -⟩ := dpE_none (show dpE T L (nuE T L none p 0 ((R 0 : Int) - 1)) p (zseI R (zvv T L p)) = none from e)
  obtain ⟨-, -, l1⟩ := nuE_none e1
  generalize zvv T L p = v at l1
  have r : ∀ k, k ≠ 36 + 2 * R 6 → k ≠ 36 + 2 * R 6 + 1 → k ≠ 6 → zseR R v g k = R k := fun k h1 h2 h3 => by unfold zseR; rw [zup_ne h3, zup_ne h2, zup_ne h1]
  have rv : zseR R v g (36 + 2 * R 6) = v := by unfold zseR; rw [zup_ne (by omega), zup_ne (by omega), zup_eq]
  have rg : zseR R v g (37 + 2 * R 6) = g := by unfold zseR; rw [zup_ne (by omega), show 37 + 2 * R 6 = 36 + 2 * R 6 + 1 by omega, zup_eq]
  have r6 : zseR R v g 6 = R 6 + 1 := by unfold zseR; rw [zup_eq]
  have r0 := r 0 (by omega) (by omega) (by omega)
  have r1 := r 1 (by omega) (by omega) (by omega)
  have r2 := r 2 (by omega) (by omega) (by omega)
  have r3 := r 3 (by omega) (by omega) (by omega)
  have r4 := r 4 (by omega) (by omega) (by omega)
  have r5 := r 5 (by omega) (by omega) (by omega)
  have r7 := r 7 (by omega) (by omega) (by omega)
  have r8 := r 8 (by omega) (by omega) (by omega)
  refine ⟨⟨by omega, by omega, by omega, by omega, by omega, by omega, by omega⟩, by omega, fun q => by omega, fun _ => ⟨⟨by omega, by omega, fun b hb => ?_, fun p hp => ?_, fun i hi => ?_, fun i hi => ?_, fun i j hi hj => ?_, fun i hi => ?_, fun k hk => ?_⟩, ⟨ws.1, fun k hk => ws.2.1 k (by omega), by have := ws.2.2.1; omega, by have := ws.2.2.2.1; omega, ws.2.2.2.2⟩, hg.cg b0 r0 r4 (fun k hk => r _ (by omega) (by omega) (by omega)) (fun k hk => r _ (by omega) (by omega) (by omega)) (fun k hk => r _ (by omega) (by omega) (by omega)) w5⟩, hn.cg r2 r3 (fun k h1 h2 => r k (by omega) (by omega) (by omega))⟩
  · rw [r _ (by omega) (by omega) (by omega)]; exact w3 b (by omega)
  · rw [r0, r _ (by omega) (by omega) (by omega), r _ (by omega) (by omega) (by omega)]; exact w4 p (by omega)
  · rw [r _ (by omega) (by omega) (by omega), r2]; exact w5 i (by omega)
  · rw [r _ (by omega) (by omega) (by omega), r4]; exact w6 i (by omega)
  · rw [r _ (by omega) (by omega) (by omega), r _ (by omega) (by omega) (by omega)]; exact w7 i j hi (by omega)
  · rw [r0]
    by_cases c : i = R 6
    · rw [c, rv, rg]; omega
    · rw [r _ (by omega) (by omega) (by omega), r _ (by omega) (by omega) (by omega)]; exact w8 i (by omega)
  · rw [r _ (by omega) (by omega) (by omega)]; exact w9 k hk
theorem neE_none {p c : Nat} (h : neE T L p c nf nt = none) : zkk T L p = 1 ∧ ∀ i, i < c → zlk T (nf i) (nt i) (zbb T L p) (zee T L p) = false := by
  unfold neE at h
  by_cases c1 : zso T L p = -1
  · refine ⟨zso_w c1, fun i hi => ?_⟩
    rw [if_pos c1] at h
    unfold zfd at h
    rcases zff_cases (fun i => zlk T (nf i) (nt i) (zbb T L p) (zee T L p)) c 0 with ⟨-, h2⟩ | ⟨j, -, -, h3, -⟩
    · exact h2 i (by omega) (by omega)
    · rw [h3] at h; cases h
  · rw [if_neg c1] at h; cases h
theorem zi_boots {p : Nat} (hp : p ≤ L) (h : zIV T L R S B nf nt sl) (h8 : R 8 ≠ 0) (h2 : R 2 < 3) (e : zbo2 T L p R nf nt = none) : zIV T L (zboR T L p R) S B (zup nf (R 2 + R 3) (zbb T L p)) (zup nt (R 2 + R 3) (zee T L p)) (zup sl (R 2 + R 3) (R 2)) := by
  obtain ⟨hb, h1, -, hw, hn⟩ := h
  obtain ⟨⟨w1, w2, w3, w4, w5, w6, w7, w8, w9⟩, ws, hg⟩ := hw h8
  obtain ⟨b0, b2, b3, b4, b5, b6, b7⟩ := hb
  obtain ⟨e1, -, l1⟩ := nuE_none (show nuE T L (neE T L p (R 2 + R 3) nf nt) (zee T L p) 2 9 = none from e)
  obtain ⟨hk, hnew⟩ := neE_none e1
  have hwd := z_w (T := T) hp hk
  have hz := z_le (T := T) hp
  have rn : ∀ k, k ≠ 9 + R 2 → k ≠ 2 → zboR T L p R k = nmR T R (zbb T L p) (zee T L p) (R 2) k := fun k h1 h2 => by unfold zboR; rw [zup_ne h2, zup_ne h1]
  have rv : zboR T L p R (9 + R 2) = zvv T L (zee T L p) := by unfold zboR; rw [zup_ne (by omega), zup_eq]
  have r2 : zboR T L p R 2 = R 2 + 1 := by unfold zboR; rw [zup_eq]
  have r : ∀ k, k ≠ 9 + R 2 → k ≠ 2 → (k < 48 ∨ 129 ≤ k) → zboR T L p R k = R k := fun k h1 h2 h3 => by
    rw [rn k h1 h2]
    rcases h3 with h3 | h3
    · exact nmR_lo h3
    · exact nmR_hi h3 (by omega) (by omega)
  have r0 := r 0 (by omega) (by omega) (by omega)
  have r1 := r 1 (by omega) (by omega) (by omega)
  have r3 := r 3 (by omega) (by omega) (by omega)
  have r4 := r 4 (by omega) (by omega) (by omega)
  have r5 := r 5 (by omega) (by omega) (by omega)
  have r6 := r 6 (by omega) (by omega) (by omega)
  have r7 := r 7 (by omega) (by omega) (by omega)
  have r8 := r 8 (by omega) (by omega) (by omega)
  refine ⟨⟨by omega, by omega, by omega, by omega, by omega, by omega, by omega⟩, by omega, fun q => by omega, fun _ => ⟨⟨by omega, by omega, fun b hb => ?_, fun p hp => ?_, fun i hi => ?_, fun i hi => ?_, fun i j hi hj => ?_, fun i hi => ?_, fun k hk => ?_⟩, ⟨ws.1, fun k hk => ws.2.1 k (by omega), by have := ws.2.2.1; omega, by have := ws.2.2.2.1; omega, ws.2.2.2.2⟩, hg.cg b0 r0 r4 (fun k hk => r _ (by omega) (by omega) (by omega)) (fun k hk => r _ (by omega) (by omega) (by omega)) (fun k hk => r _ (by omega) (by omega) (by omega)) w5⟩, hn.add (by omega) (fun i hi => ?_) hwd.1 hwd.2.1 hz.2.2 (by omega) (by omega) (by omega) (fun _ => by omega) (fun q => by omega) (fun k h1 h2 => rn k (by omega) (by omega)) hnew⟩
  · by_cases c : b = R 2
    · rw [c, rv]; omega
    · rw [r _ (by omega) (by omega) (by omega)]; exact w3 b (by omega)
  · rw [r0, r _ (by omega) (by omega) (by omega), r _ (by omega) (by omega) (by omega)]; exact w4 p (by omega)
  · rw [r _ (by omega) (by omega) (by omega), r2]; have := w5 i (by omega); omega
  · rw [r _ (by omega) (by omega) (by omega), r4]; exact w6 i (by omega)
  · rw [r _ (by omega) (by omega) (by omega), r _ (by omega) (by omega) (by omega)]; exact w7 i j hi (by omega)
  · rw [r0, r _ (by omega) (by omega) (by omega), r _ (by omega) (by omega) (by omega)]; exact w8 i (by omega)
  · rw [r _ (by omega) (by omega) (by omega)]; exact w9 k hk
  · have := (hn.1 i hi).1; omega
theorem zi_place {p : Nat} (hp : p ≤ L) (h : zIV T L R S B nf nt sl) (h8 : R 8 ≠ 0) (h3 : R 3 < 6) (e : zpl5 T L p R nf nt = none) : zIV T L (zplR T L p R) S B (zup nf (R 2 + R 3) (zbb T L p)) (zup nt (R 2 + R 3) (zee T L p)) (zup sl (R 2 + R 3) (3 + R 3)) := by
  obtain ⟨hb, h1, -, hw, hn⟩ := h
  obtain ⟨⟨w1, w2, w3, w4, w5, w6, w7, w8, w9⟩, ws, hg⟩ := hw h8
  obtain ⟨b0, b2, b3, b4, b5, b6, b7⟩ := hb
  obtain ⟨e5, -, l5⟩ := nuE_none (show nuE T L (wrE T L (zpl4 T L p R nf nt) (zee T L (zpq T L p)) 15) (zee T L (zee T L (zpq T L p))) 1 99 = none from e)
  obtain ⟨e3, -⟩ := dpE_none (show dpE T L (zpl3 T L p R nf nt) (zpq T L p) (zplI R (zvv T L (zpq T L p))) = none from (wrE_none e5).1)
  obtain ⟨e2, -, l2⟩ := nuE_none (show nuE T L (zpl2 T L p R nf nt) (zpq T L p) 0 ((R 0 : Int) - 1) = none from e3)
  obtain ⟨e1, -⟩ := wrE_none (show wrE T L (neE T L p (R 2 + R 3) nf nt) (zee T L p) 14 = none from e2)
  obtain ⟨hk, hnew⟩ := neE_none e1
  have hwd := z_w (T := T) hp hk
  have hz := z_le (T := T) hp
  have rn : ∀ k, k ≠ 12 + 2 * R 3 → k ≠ 12 + 2 * R 3 + 1 → k ≠ 3 → zplR T L p R k = nmR T R (zbb T L p) (zee T L p) (3 + R 3) k := fun k h1 h2 h3 => by unfold zplR; rw [zup_ne h3, zup_ne h2, zup_ne h1]
  have rv : zplR T L p R (12 + 2 * R 3) = zvv T L (zpq T L p) := by unfold zplR; rw [zup_ne (by omega), zup_ne (by omega), zup_eq]
  have rf : zplR T L p R (13 + 2 * R 3) = zvv T L (zee T L (zee T L (zpq T L p))) := by unfold zplR; rw [zup_ne (by omega), show 13 + 2 * R 3 = 12 + 2 * R 3 + 1 by omega, zup_eq]
  have r3 : zplR T L p R 3 = R 3 + 1 := by unfold zplR; rw [zup_eq]
  have r : ∀ k, k ≠ 12 + 2 * R 3 → k ≠ 12 + 2 * R 3 + 1 → k ≠ 3 → (k < 48 ∨ 129 ≤ k) → zplR T L p R k = R k := fun k h1 h2 h3 h4 => by
    rw [rn k h1 h2 h3]
    rcases h4 with h4 | h4
    · exact nmR_lo h4
    · exact nmR_hi h4 (by omega) (by omega)
  have r0 := r 0 (by omega) (by omega) (by omega) (by omega)
  have r1 := r 1 (by omega) (by omega) (by omega) (by omega)
  have r2 := r 2 (by omega) (by omega) (by omega) (by omega)
  have r4 := r 4 (by omega) (by omega) (by omega) (by omega)
  have r5 := r 5 (by omega) (by omega) (by omega) (by omega)
  have r6 := r 6 (by omega) (by omega) (by omega) (by omega)
  have r7 := r 7 (by omega) (by omega) (by omega) (by omega)
  have r8 := r 8 (by omega) (by omega) (by omega) (by omega)
  refine ⟨⟨by omega, by omega, by omega, by omega, by omega, by omega, by omega⟩, by omega, fun q => by omega, fun _ => ⟨⟨by omega, by omega, fun b hb => ?_, fun p hp => ?_, fun i hi => ?_, fun i hi => ?_, fun i j hi hj => ?_, fun i hi => ?_, fun k hk => ?_⟩, ⟨ws.1, fun k hk => ws.2.1 k (by omega), by have := ws.2.2.1; omega, by have := ws.2.2.2.1; omega, ws.2.2.2.2⟩, hg.cg b0 r0 r4 (fun k hk => r _ (by omega) (by omega) (by omega) (by omega)) (fun k hk => r _ (by omega) (by omega) (by omega) (by omega)) (fun k hk => r _ (by omega) (by omega) (by omega) (by omega)) w5⟩, hn.add (by omega) (fun i hi => ?_) hwd.1 hwd.2.1 hz.2.2 (by omega) (by omega) (by omega) (fun _ => by omega) (fun q => by omega) (fun k h1 h2 => rn k (by omega) (by omega) (by omega)) hnew⟩
  · rw [r _ (by omega) (by omega) (by omega) (by omega)]; exact w3 b (by omega)
  · rw [r0]
    by_cases c : p = R 3
    · rw [c, rv, rf]; omega
    · rw [r _ (by omega) (by omega) (by omega) (by omega), r _ (by omega) (by omega) (by omega) (by omega)]; exact w4 p (by omega)
  · rw [r _ (by omega) (by omega) (by omega) (by omega), r2]; exact w5 i (by omega)
  · rw [r _ (by omega) (by omega) (by omega) (by omega), r4]; exact w6 i (by omega)
  · rw [r _ (by omega) (by omega) (by omega) (by omega), r _ (by omega) (by omega) (by omega) (by omega)]; exact w7 i j hi (by omega)
  · rw [r0, r _ (by omega) (by omega) (by omega) (by omega), r _ (by omega) (by omega) (by omega) (by omega)]; exact w8 i (by omega)
  · rw [r _ (by omega) (by omega) (by omega) (by omega)]; exact w9 k hk
  · have := (hn.1 i hi).1; omega
theorem zi_strd {b w : Nat} (h : zIV T L R S B nf nt sl) (h8 : R 8 ≠ 0) (h4 : R 4 < 8) (hbR : b < R 2) (hw1 : w ≤ 1) (hc : can R S (2 * b + 1 + w) = true) : zIV T L (zstR R (2 * b + w)) (go R S (2 * b + 1 + w)) B nf nt sl := by
  obtain ⟨hb, h1, -, hw, hn⟩ := h
  obtain ⟨⟨w1, w2, w3, w4, w5, w6, w7, w8, w9⟩, ws, hg⟩ := hw h8
  have hb' := hb
  obtain ⟨b0, b2, b3, b4, b5, b6, b7⟩ := hb
  have r : ∀ k, k ≠ 24 + R 4 → k ≠ 4 → zstR R (2 * b + w) k = R k := fun k h1 h2 => by unfold zstR; rw [zup_ne h2, zup_ne h1]
  have rv : zstR R (2 * b + w) (24 + R 4) = 2 * b + w := by unfold zstR; rw [zup_ne (by omega), zup_eq]
  have r4 : zstR R (2 * b + w) 4 = R 4 + 1 := by unfold zstR; rw [zup_eq]
  have r0 := r 0 (by omega) (by omega)
  have r1 := r 1 (by omega) (by omega)
  have r2 := r 2 (by omega) (by omega)
  have r3 := r 3 (by omega) (by omega)
  have r5 := r 5 (by omega) (by omega)
  have r6 := r 6 (by omega) (by omega)
  have r7 := r 7 (by omega) (by omega)
  have r8 := r 8 (by omega) (by omega)
  have hWf : WfL R := WfD.wfl ⟨w1, w2, w3, w4, w5, w6, w7, w8, w9⟩ hb' (by omega)
  obtain ⟨t, ht⟩ := can_some.mp hc
  have htl := lead_lt ws.2.2.1 ht
  have hgo := ws.c.god (d := 2 * b + 1 + w) hWf ws.2.2.1
  have hgr : ∀ k, k < 60 → zstR R (2 * b + w) (129 + k) = R (129 + k) := fun k hk => r _ (by omega) (by omega)
  have key := runS_cg (B := B) (R' := zstR R (2 * b + w)) r0 b0 hgr (fun k hk => r _ (by omega) (by omega)) (fun k hk => r _ (by omega) (by omega)) w5 hg.2.1 hg.2.2.1
  have k4 := (key (R 4) (by omega)).1
  have hS := hg.2.2.2
  have gc := go_cg (R := R) (R' := zstR R (2 * b + w)) (S := S) (d := 2 * b + 1 + w) r0 b0 (r _ (by omega) (by omega)) ws.2.2.1 hgr
  refine ⟨⟨by omega, by omega, by omega, by omega, by omega, by omega, by omega⟩, by omega, fun q => by omega, fun _ => ⟨⟨by omega, by omega, fun b hb => ?_, fun p hp => ?_, fun i hi => ?_, fun i hi => ?_, fun i j hi hj => ?_, fun i hi => ?_, fun k hk => ?_⟩, ⟨hgo.1.1, fun k hk => hgo.1.2 k (by omega), by have := hgo.2; omega, ?_, ?_⟩, ⟨hg.1, by have := hg.2.1; omega, fun i hi => ?_, ?_⟩⟩, hn.cg r2 r3 (fun k h1 h2 => r k (by omega) (by omega))⟩
  · rw [r _ (by omega) (by omega)]; exact w3 b (by omega)
  · rw [r0, r _ (by omega) (by omega), r _ (by omega) (by omega)]; exact w4 p (by omega)
  · rw [r2]
    by_cases c : i = R 4
    · rw [c, rv]; omega
    · rw [r _ (by omega) (by omega)]; exact w5 i (by omega)
  · rw [r _ (by omega) (by omega), r4]; have := w6 i (by omega); omega
  · rw [r _ (by omega) (by omega), r _ (by omega) (by omega)]; exact w7 i j hi (by omega)
  · rw [r0, r _ (by omega) (by omega), r _ (by omega) (by omega)]; exact w8 i (by omega)
  · rw [r _ (by omega) (by omega)]; exact w9 k hk
  · rw [go_some ht, mv61 (by have := ws.2.2.1; omega) (by omega), r0]; exact ws.2.2.2.1
  · rw [go_some ht, mv62 (by have := ws.2.2.1; omega) (by omega)]; exact ws.2.2.2.2
  · by_cases c : i = R 4
    · rw [c, rv, k4.1, ← hS, show 2 * b + w + 1 = 2 * b + 1 + w by omega, gc.2.1]; exact hc
    · exact (key i (by omega)).2 (by omega)
  · rw [r4]
    show go R S (2 * b + 1 + w) = go (zstR R (2 * b + w)) (runS (zstR R (2 * b + w)) B (R 4)) (zstR R (2 * b + w) (24 + R 4) + 1)
    rw [rv, k4.1, ← hS, show 2 * b + w + 1 = 2 * b + 1 + w by omega, gc.1]
end ZIW
