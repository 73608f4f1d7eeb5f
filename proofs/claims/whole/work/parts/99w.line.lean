section ZLJ
variable {N : Nat} {σ : Sg} {T R S B nf nt sl : Nat → Nat} {L : Nat}
/-! a whole line: its fault, or what it makes of what was read -/
abbrev zPS : Type := Nat × (Nat → Nat) × (Nat → Nat) × (Nat → Nat) × (Nat → Nat) × (Nat → Nat) × (Nat → Nat)
def zlf (T : Nat → Nat) (L j p : Nat) (R S nf nt sl : Nat → Nat) : zE := if j = 0 then ld4 T L p else if j = 1 then zg3 T L (zee T L p) (R 0) (zg1 T L p) else if j = 2 then zbo2 T L p R nf nt else if j = 3 then zpl5 T L p R nf nt else if j = 4 then zst3 T L p R S nf nt sl else if j = 5 then zunE T L p R else zse2 T L p R
def zlq (T : Nat → Nat) (L j p : Nat) (R S B nf nt sl : Nat → Nat) : zPS := if j = 0 then (ldp T L (ldp T L (ldp T L (ldp T L p))), ldR T L p R, ldS1 T L p S, ldS1 T L p S, nf, nt, sl) else if j = 1 then (zee T L (zee T L (zee T L p)), gdR R (zvv T L (zee T L p)) (zvv T L (zee T L (zee T L p))) (zgs T L p), S, B, nf, nt, sl) else if j = 2 then (zee T L (zee T L p), zboR T L p R, S, B, zup nf (R 2 + R 3) (zbb T L p), zup nt (R 2 + R 3) (zee T L p), zup sl (R 2 + R 3) (R 2)) else if j = 3 then (ldp T L (zee T L (zpq T L p)), zplR T L p R, S, B, zup nf (R 2 + R 3) (zbb T L p), zup nt (R 2 + R 3) (zee T L p), zup sl (R 2 + R 3) (3 + R 3)) else if j = 4 then (zee T L (zee T L p), zstR R (2 * zstb sl (zfd T L p (R 2 + R 3) nf nt) + zstw T L p), go R S (2 * zstb sl (zfd T L p (R 2 + R 3) nf nt) + 1 + zstw T L p), B, nf, nt, sl) else if j = 5 then (zee T L p, zunR R (zvv T L p), S, B, nf, nt, sl) else (zee T L (zee T L p), zseR R (zvv T L p) (zsev T L p), S, B, nf, nt, sl)
def zXq (T : Nat → Nat) (L : Nat) (q : zPS) (σ : Sg) : Prop := zX T L q.1 q.2.1 q.2.2.1 q.2.2.2.1 q.2.2.2.2.1 q.2.2.2.2.2.1 q.2.2.2.2.2.2 σ
def zMq (T : Nat → Nat) (L : Nat) (q : zPS) (σ : Sg) : Prop := zM T L q.1 q.2.1 q.2.2.1 q.2.2.2.1 σ
def zIq (T : Nat → Nat) (L : Nat) (q : zPS) : Prop := q.1 ≤ L ∧ zIV T L q.2.1 q.2.2.1 q.2.2.2.1 q.2.2.2.2.1 q.2.2.2.2.2.1 q.2.2.2.2.2.2
def zlF (T : Nat → Nat) (L p : Nat) (R S nf nt sl : Nat → Nat) : zE := if zso T L p < 0 then some (1, zbb T L p) else if zhN R (zso T L p).toNat = 0 then zlf T L (zso T L p).toNat (zee T L p) R S nf nt sl else some (zhN R (zso T L p).toNat, zbb T L p)
def zlQ (T : Nat → Nat) (L p : Nat) (R S B nf nt sl : Nat → Nat) : zPS := zlq T L (zso T L p).toNat (zee T L p) R S B nf nt sl
theorem zhN_0 {j : Nat} (h : zhN R j = 0) : zto R j < zrm j ∧ (j ≠ 0 → R 8 ≠ 0) ∧ (j = 1 → R 4 = 0) := by
  unfold zhN at h
  by_cases c1 : zrm j ≤ zto R j
  · rw [if_pos c1] at h; split at h <;> omega
  · rw [if_neg c1] at h
    by_cases c2 : j ≠ 0 ∧ R 8 = 0
    · rw [if_pos c2] at h; omega
    · rw [if_neg c2] at h
      by_cases c3 : j = 1 ∧ 0 < R 4
      · rw [if_pos c3] at h; omega
      · exact ⟨by omega, fun q => by omega, fun q => by omega⟩
theorem zso_j {p : Nat} (h : ¬ zso T L p < 0) : ∃ j : Nat, j < 7 ∧ zso T L p = (j : Int) := by
  have := zso_b (T := T) (L := L) (p := p)
  exact ⟨(zso T L p).toNat, by omega, by omega⟩
theorem zsev_le {p : Nat} : zsev T L p ≤ 1 := by unfold zsev; split <;> omega
theorem zstw_le {p : Nat} : zstw T L p ≤ 1 := by unfold zstw; split <;> omega
theorem cnE_none {e : zE} {p : Nat} {b : Bool} (h : cnE T L e p b = none) : e = none ∧ b = true := by
  cases e with
  | some x => cases h
  | none =>
    unfold cnE at h
    dsimp only at h
    split at h
    · exact ⟨rfl, ‹_›⟩
    · cases h
theorem zst1_none {p : Nat} (hn : zNI T L R nf nt sl) (h : zst1 T L p (R 2 + R 3) nf nt sl = none) : zstb sl (zfd T L p (R 2 + R 3) nf nt) < R 2 := by
  unfold zst1 at h
  by_cases c1 : zso T L p = -1
  · rw [if_pos c1] at h
    unfold zfd at h ⊢
    rcases zff_cases (fun i => zlk T (nf i) (nt i) (zbb T L p) (zee T L p)) (R 2 + R 3) 0 with ⟨h1, -⟩ | ⟨j, -, h2, h3, -⟩
    · rw [h1] at h
      rw [if_pos (show zbt sl none = -1 from rfl)] at h
      cases h
    · rw [h3] at h ⊢
      have := (hn.1 j (by omega)).1
      unfold zbt zbn at h
      dsimp only at h
      unfold zstb
      dsimp only
      by_cases cj : sl j < 3
      · omega
      · simp [cj] at h
  · rw [if_neg c1] at h; cases h
/-- what held ahead of the line holds behind it, further on in the text -/
theorem zi_line {p : Nat} (hp : p ≤ L) (hI : zIV T L R S B nf nt sl) (e : zlF T L p R S nf nt sl = none) : zIq T L (zlQ T L p R S B nf nt sl) ∧ p < (zlQ T L p R S B nf nt sl).1 := by
  unfold zlF at e
  by_cases c : zso T L p < 0
  · rw [if_pos c] at e; cases e
  rw [if_neg c] at e
  obtain ⟨j, hj, ej⟩ := zso_j c
  have et : (zso T L p).toNat = j := by omega
  rw [et] at e
  unfold zlQ
  rw [et]
  by_cases c0 : zhN R j = 0
  · rw [if_pos c0] at e
    obtain ⟨k1, k2, k3⟩ := zhN_0 c0
    have hw := z_w (T := T) hp (zis_w (zso_yes ej).1)
    have hz := z_le (T := T) hp
    have hz1 := z_le (T := T) hz.2.2
    have hz2 := z_le (T := T) hz1.2.2
    have hz3 := z_le (T := T) hz2.2.2
    have hz4 := z_le (T := T) hz3.2.2
    have hz5 := z_le (T := T) hz4.2.2
    have hz6 := z_le (T := T) hz5.2.2
    have hz7 := z_le (T := T) hz6.2.2
    have hz8 := z_le (T := T) hz7.2.2
    have h7 : j = 0 ∨ j = 1 ∨ j = 2 ∨ j = 3 ∨ j = 4 ∨ j = 5 ∨ j = 6 := by omega
    rcases h7 with rfl | rfl | rfl | rfl | rfl | rfl | rfl
    · exact ⟨⟨hz8.2.2, zi_land hI (by have : zto R 0 < 1 := k1; have : R 8 < 1 := this; omega) e⟩, show p < zee T L (zee T L (zee T L (zee T L (zee T L (zee T L (zee T L (zee T L (zee T L p)))))))) by omega⟩
    · exact ⟨⟨hz3.2.2, zi_gnd hI (k2 (by omega)) (k3 rfl) k1 zgs_le⟩, show p < zee T L (zee T L (zee T L (zee T L p))) by omega⟩
    · exact ⟨⟨hz2.2.2, zi_boots hz.2.2 hI (k2 (by omega)) k1 e⟩, show p < zee T L (zee T L (zee T L p)) by omega⟩
    · exact ⟨⟨hz5.2.2, zi_place hz.2.2 hI (k2 (by omega)) k1 e⟩, show p < zee T L (zee T L (zee T L (zee T L (zee T L (zee T L p))))) by omega⟩
    · obtain ⟨e1, e2⟩ := cnE_none (show cnE T L (zst2 T L (zee T L p) (R 2 + R 3) nf nt sl) (zee T L (zee T L p)) (can R S (2 * zstb sl (zfd T L (zee T L p) (R 2 + R 3) nf nt) + 1 + zstw T L (zee T L p))) = none from e)
      exact ⟨⟨hz2.2.2, zi_strd hI (k2 (by omega)) k1 (zst1_none hI.2.2.2.2 (w2E_none e1)) zstw_le e2⟩, show p < zee T L (zee T L (zee T L p)) by omega⟩
    · exact ⟨⟨hz1.2.2, zi_uns hI (k2 (by omega)) k1 e⟩, show p < zee T L (zee T L p) by omega⟩
    · exact ⟨⟨hz2.2.2, zi_seen hI (k2 (by omega)) k1 zsev_le (w2E_none e)⟩, show p < zee T L (zee T L (zee T L p)) by omega⟩
  · rw [if_neg c0] at e; cases e
theorem zXO.lift {e e' : zE} {D D' : Sg → Prop} {z : Bool × Sg} (h : zXO e D z) (he : e' = e) (hD : D z.2 → D' z.2) : zXO e' D' z := by
  subst he
  exact ⟨fun q => ⟨(h.1 q).1, hD (h.1 q).2⟩, h.2⟩
theorem zto7 {R' : Nat → Nat} {j : Nat} (h : ∀ k : Fin 7, zto R' k.val = if k.val = j then zto R j + 1 else zto R k.val) : ∀ k, k < 7 → zto R' k = if k = j then zto R j + 1 else zto R k := fun k hk => h ⟨k, hk⟩
theorem zto_of {R' : Nat → Nat} {j : Nat} (a8 : R' 8 = if j = 0 then R 8 + 1 else R 8) (a7 : R' 7 = if j = 1 then R 7 + 1 else R 7) (a : ∀ k, 2 ≤ k → k < 7 → R' k = if k = j then R k + 1 else R k) : ∀ k, k < 7 → zto R' k = if k = j then zto R j + 1 else zto R k := by
  intro k hk
  unfold zto
  by_cases c0 : k = 0
  · subst c0
    rw [if_pos rfl, if_pos rfl, a8]
    by_cases d : j = 0
    · rw [if_pos d, if_pos d.symm, if_pos d]
    · rw [if_neg d, if_neg (fun q => d q.symm)]
  · rw [if_neg c0, if_neg c0]
    by_cases c1 : k = 1
    · subst c1
      rw [if_pos rfl, if_pos rfl, a7]
      by_cases d : j = 1
      · rw [if_pos d, if_pos d.symm, if_neg (by omega), if_pos d]
      · rw [if_neg d, if_neg (fun q => d q.symm)]
    · rw [if_neg c1, if_neg c1, a k (by omega) hk]
      by_cases d : k = j
      · rw [if_pos d, if_pos d, if_neg (by omega), if_neg (by omega), d]
      · rw [if_neg d, if_neg d]
theorem zx_line (hN : 200000 ≤ N) (hL : L ≤ 900) {p : Nat} (hp : p ≤ L) (hI : zIV T L R S B nf nt sl) (ht : TxX T L σ) (hc : zCT T L p σ) (hy : zY R S B nf nt sl σ) (hx : zTX R σ) : ok (f_reader_readLine N σ) (zXO (zlF T L p R S nf nt sl) (fun υ => zXq T L (zlQ T L p R S B nf nt sl) υ ∧ zTX (zlQ T L p R S B nf nt sl).2.1 υ)) := by
  have hb := hI.1
  have h81 := hI.2.1
  have hIw := hI.2.2.2.1
  have hn := hI.2.2.2.2
  obtain ⟨b0, b2, b3, b4, b5, b6, b7⟩ := hI.1
  have hz := z_le (T := T) hp
  have htb : ∀ k, k < 7 → zto R k < 1000 := fun k hk => by
    have h7 : k = 0 ∨ k = 1 ∨ k = 2 ∨ k = 3 ∨ k = 4 ∨ k = 5 ∨ k = 6 := by omega
    rcases h7 with rfl | rfl | rfl | rfl | rfl | rfl | rfl
    · show R 8 < 1000; omega
    · show R 7 < 1000; omega
    · show R 2 < 1000; omega
    · show R 3 < 1000; omega
    · show R 4 < 1000; omega
    · show R 5 < 1000; omega
    · show R 6 < 1000; omega
  unfold f_reader_readLine
  rw [zx_sort hN hL hp ht hc, Option.bind_some]
  dsimp only
  unfold zlF zlQ
  by_cases c : zso T L p < 0
  · have hbz := zso_b (T := T) (L := L) (p := p)
    rw [show f_reader_headFits N (iI (zso T L p)) σ = some (false, sI (sI σ 1 12 (iI ((1 : Nat) : Int))) 1 13 (iI (zbb T L p : Int))) by
      unfold f_reader_headFits
      rw [if_pos (show iI (zso T L p) < 0 by rw [show (0 : Int32) = iI 0 from rfl, iI_lt (by omega) (by omega) (by omega) (by omega)]; omega), zx_fail (v := 1) (n := 1) rfl hc.1, Option.bind_some], Option.bind_some]
    dsimp only
    rw [if_neg Bool.false_ne_true, if_pos c]
    exact okS.mpr (zXO.bad (x := (1, zbb T L p)) rfl zx_ff)
  · obtain ⟨j, hj, ej⟩ := zso_j c
    rw [if_neg c, show (zso T L p).toNat = j by omega, ej, zx_head hj hx htb]
    by_cases c0 : zhN R j = 0
    · obtain ⟨k1, k2, k3⟩ := zhN_0 c0
      rw [if_pos c0, if_pos c0, Option.bind_some]
      dsimp only
      rw [if_pos rfl]
      have f0 : Fr [(3, none)] σ (sI σ 3 j (iI ((zto R j + 1 : Nat) : Int))) := Fr.wIc Fr.rf (by simp)
      have hX : zX T L (zee T L p) R S B nf nt sl (sI σ 3 j (iI ((zto R j + 1 : Nat) : Int))) := ⟨ht.co f0 rfl, by rw [gI_ne (by omega)]; exact hc.2.2.1, hy.fr f0 rfl⟩
      have hw' : ∀ i, i < R 2 + R 3 → nf i ≤ nt i ∧ nt i ≤ L := fun i hi => by have := (hn.1 i hi).1; omega
      have h7 : j = 0 ∨ j = 1 ∨ j = 2 ∨ j = 3 ∨ j = 4 ∨ j = 5 ∨ j = 6 := by omega
      rcases h7 with rfl | rfl | rfl | rfl | rfl | rfl | rfl
      · rw [if_pos (by decide), bind_eta]
        have h8 : R 8 = 0 := by have : R 8 < 1 := k1; omega
        refine ((zx_land hN hL hz.2.2 hX).and (fun z => w_f_reader_readLand)).imp (fun z h => h.1.lift rfl (fun d => ⟨d, hx.step rfl h.2 rfl (zto_of ?_ ?_ (fun k a b => ?_))⟩))
        · show ldR T L (zee T L p) R 8 = _
          unfold ldR; rw [zup_eq, if_pos rfl, h8]
        · show ldR T L (zee T L p) R 7 = _
          rw [ldR_ne (by omega) (by omega) (by omega), if_neg (by omega)]
        · show ldR T L (zee T L p) R k = _
          rw [ldR_ne (by omega) (by omega) (by omega), if_neg (by omega)]
      · rw [if_neg (by decide), if_pos (by decide), bind_eta]
        refine ((zx_gnd hN hL hz.2.2 hb hX).and (fun z => w_f_reader_readGround)).imp (fun z h => h.1.lift rfl (fun d => ⟨d, hx.step rfl h.2 rfl (zto_of ?_ ?_ (fun k a b => ?_))⟩))
        · show gdR R _ _ _ 8 = _
          rw [gdR_lo (by omega) (by omega), if_neg (by omega)]
        · show gdR R (zvv T L (zee T L (zee T L p))) (zvv T L (zee T L (zee T L (zee T L p)))) (zgs T L (zee T L p)) 7 = _
          unfold gdR; rw [zup_eq, if_pos rfl]
        · show gdR R _ _ _ k = _
          rw [gdR_lo (by omega) (by omega), if_neg (by omega)]
      · rw [if_neg (by decide), if_neg (by decide), if_pos (by decide), bind_eta]
        refine ((zx_boots hN hL hz.2.2 hb k1 hw' hX).and (fun z => w_f_reader_readBoots)).imp (fun z h => h.1.lift rfl (fun d => ⟨d, hx.step rfl h.2 rfl (zto_of ?_ ?_ (fun k a b => ?_))⟩))
        · show zboR T L (zee T L p) R 8 = _
          unfold zboR; rw [zup_ne (by omega), zup_ne (by omega), nmR_lo (by omega), if_neg (by omega)]
        · show zboR T L (zee T L p) R 7 = _
          unfold zboR; rw [zup_ne (by omega), zup_ne (by omega), nmR_lo (by omega), if_neg (by omega)]
        · show zboR T L (zee T L p) R k = _
          unfold zboR
          by_cases d : k = 2
          · rw [d, zup_eq, if_pos rfl]
          · rw [zup_ne d, zup_ne (by omega), nmR_lo (by omega), if_neg d]
      · rw [if_neg (by decide), if_neg (by decide), if_neg (by decide), if_pos (by decide), bind_eta]
        have h8 := k2 (by omega)
        have wd := (hIw h8).1
        refine ((zx_place hN hL hz.2.2 hb k1 (fun i hi => by have := (wd.2.2.2.1 i hi).1; omega) hw' hX).and (fun z => w_f_reader_readPlace)).imp (fun z h => h.1.lift rfl (fun d => ⟨d, hx.step rfl h.2 rfl (zto_of ?_ ?_ (fun k a b => ?_))⟩))
        · show zplR T L (zee T L p) R 8 = _
          unfold zplR; rw [zup_ne (by omega), zup_ne (by omega), zup_ne (by omega), nmR_lo (by omega), if_neg (by omega)]
        · show zplR T L (zee T L p) R 7 = _
          unfold zplR; rw [zup_ne (by omega), zup_ne (by omega), zup_ne (by omega), nmR_lo (by omega), if_neg (by omega)]
        · show zplR T L (zee T L p) R k = _
          unfold zplR
          by_cases d : k = 3
          · rw [d, zup_eq, if_pos rfl]
          · rw [zup_ne d, zup_ne (by omega), zup_ne (by omega), nmR_lo (by omega), if_neg d]
      · rw [if_neg (by decide), if_neg (by decide), if_neg (by decide), if_neg (by decide), if_pos (by decide), bind_eta]
        have h8 := k2 (by omega)
        have wd := hIw h8
        refine ((zx_strd hN hL hz.2.2 hb k1 (fun b hb => (wd.1.2.2.1 b hb).2) wd.2.1.2.2.1 hn hX).and (fun z => w_f_reader_readStride)).imp (fun z h => h.1.lift rfl (fun d => ⟨d, hx.step rfl h.2 rfl (zto_of ?_ ?_ (fun k a b => ?_))⟩))
        · show zstR R _ 8 = _
          unfold zstR; rw [zup_ne (by omega), zup_ne (by omega), if_neg (by omega)]
        · show zstR R _ 7 = _
          unfold zstR; rw [zup_ne (by omega), zup_ne (by omega), if_neg (by omega)]
        · show zstR R _ k = _
          unfold zstR
          by_cases d : k = 4
          · rw [d, zup_eq, if_pos rfl]
          · rw [zup_ne d, zup_ne (by omega), if_neg d]
      · rw [if_neg (by decide), if_neg (by decide), if_neg (by decide), if_neg (by decide), if_neg (by decide), if_pos (by decide), bind_eta]
        have h8 := k2 (by omega)
        have wd := (hIw h8).1
        refine ((zx_uns hN hL hz.2.2 hb k1 (fun i hi => by have := (wd.2.2.2.2.2.1 i hi).2; omega) hX).and (fun z => w_f_reader_readUnsure)).imp (fun z h => h.1.lift rfl (fun d => ⟨d, hx.step rfl h.2 rfl (zto_of ?_ ?_ (fun k a b => ?_))⟩))
        · show zunR R _ 8 = _
          unfold zunR; rw [zup_ne (by omega), zup_ne (by omega), if_neg (by omega)]
        · show zunR R _ 7 = _
          unfold zunR; rw [zup_ne (by omega), zup_ne (by omega), if_neg (by omega)]
        · show zunR R _ k = _
          unfold zunR
          by_cases d : k = 5
          · rw [d, zup_eq, if_pos rfl]
          · rw [zup_ne d, zup_ne (by omega), if_neg d]
      · rw [if_neg (by decide), if_neg (by decide), if_neg (by decide), if_neg (by decide), if_neg (by decide), if_neg (by decide), bind_eta]
        have h8 := k2 (by omega)
        have wd := (hIw h8).1
        refine ((zx_seen hN hL hz.2.2 hb k1 (fun i hi => by have := (wd.2.2.2.2.2.2.2.1 i hi).1; omega) hX).and (fun z => w_f_reader_readSeen)).imp (fun z h => h.1.lift rfl (fun d => ⟨d, hx.step rfl h.2 rfl (zto_of ?_ ?_ (fun k a b => ?_))⟩))
        · show zseR R _ _ 8 = _
          unfold zseR; rw [zup_ne (by omega), zup_ne (by omega), zup_ne (by omega), if_neg (by omega)]
        · show zseR R _ _ 7 = _
          unfold zseR; rw [zup_ne (by omega), zup_ne (by omega), zup_ne (by omega), if_neg (by omega)]
        · show zseR R _ _ k = _
          unfold zseR
          by_cases d : k = 6
          · rw [d, zup_eq, if_pos rfl]
          · rw [zup_ne d, zup_ne (by omega), zup_ne (by omega), if_neg d]
    · rw [if_neg c0, if_neg c0, zx_fail (v := iI (zhN R j : Int)) (n := zhN R j) rfl hc.1, Option.bind_some, Option.bind_some]
      dsimp only
      rw [if_neg Bool.false_ne_true]
      exact okS.mpr (zXO.bad (x := (zhN R j, zbb T L p)) rfl zx_ff)
end ZLJ
