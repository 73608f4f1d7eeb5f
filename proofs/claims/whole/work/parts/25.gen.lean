def f_m_takesWord (N : Nat) (w1 : Nat) (σ : Sg) : Option (Bool × Sg) :=
  (f_m_isWord N w1 σ).bind fun q1 =>
  if q1.1 = true then
    (f_m_next N q1.2).bind fun q2 =>
    some (true, q2.2)
  else
    some (false, q1.2)
set_option maxRecDepth 100000 in
theorem s_m_takesWord {y : EX} {N : Nat} {w1 : Nat} (hw1 : w1 < 20) {σ : Sg} {P : Bool × Sg → Prop} (h : ok (f_m_takesWord N w1 σ) P) : Ev y M_m_takesWord 5 [.ref 66, .ref (100 + w1)] σ rvB P := by
  refine Ev.of mk_m_takesWord (Nat.le_of_ble_eq_true rfl) (fun x hx hc hr => ?_)
  have hx : Cx 10 prog_12_method_17_code x := hx
  have hc : Cc y 2 5 x := hc
  show G x 0 [some (.ref 66), some (.ref (100 + w1))] [] σ
  unfold f_m_takesWord at h
  refine g_run hx [(.aload_n 0, 0, 0), (.aload_n 1, 0, 0)] (pc' := 2) (lo' := [some (.ref 66), some (.ref (100 + w1))]) (st' := [.ref (100 + w1), .ref 66]) (σ' := σ) (by decide +kernel) rfl rfl ?_
  refine g_callV (rest := []) [.ref (100 + w1)] hx hc mk_m_isWord ln_10_123 rfl (by decide +kernel) (by decide) (Nat.le_of_ble_eq_true rfl) (s_m_isWord hw1 (ok_b h)) (fun r1 s1 h => ?_)
  refine g_ifb_ne hx (off := 5) (tgt := 10) (by decide +kernel) (by decide) (fun c5 => ?_) (fun c5 => ?_)
  · have h := ok_t h c5
    refine g_run hx [(.aload_n 0, 0, 0)] (pc' := 11) (lo' := [some (.ref 66), some (.ref (100 + w1))]) (st' := [.ref 66]) (σ' := s1) (by decide +kernel) rfl rfl ?_
    refine g_callV (rest := []) [] hx hc mk_m_next ln_10_127 rfl (by decide +kernel) (by decide) (Nat.le_of_ble_eq_true rfl) (s_m_next (ok_b h)) (fun r2 s2 h => ?_)
    refine g_run hx [(.iconst 1, 1, 0)] (pc' := 15) (lo' := [some (.ref 66), some (.ref (100 + w1))]) (st' := [.int 1]) (σ' := s2) (by decide +kernel) rfl rfl ?_
    exact g_zret (b := true) hx hr rfl true rfl (by decide +kernel) (ok_some h)
  · have h := ok_f h c5
    refine g_run hx [(.iconst 0, 0, 0)] (pc' := 9) (lo' := [some (.ref 66), some (.ref (100 + w1))]) (st' := [.int 0]) (σ' := s1) (by decide +kernel) rfl rfl ?_
    exact g_zret (b := false) hx hr rfl false rfl (by decide +kernel) (ok_some h)
def f_m_must (N : Nat) (w1 : Nat) (σ : Sg) : Option (Unit × Sg) :=
  if (gI σ 66 13) = 0 then
    (f_m_takesWord N w1 σ).bind fun q1 =>
    if q1.1 = true then
      some ((), q1.2)
    else
      (f_m_wrong N 1 (gI q1.2 66 4) q1.2).bind fun q2 =>
      some ((), q2.2)
  else
    some ((), σ)
set_option maxRecDepth 100000 in
theorem s_m_must {y : EX} {N : Nat} {w1 : Nat} (hw1 : w1 < 20) {σ : Sg} {P : Unit × Sg → Prop} (h : ok (f_m_must N w1 σ) P) : Ev y M_m_must 6 [.ref 66, .ref (100 + w1)] σ rvN P := by
  refine Ev.of mk_m_must (Nat.le_of_ble_eq_true rfl) (fun x hx hc hr => ?_)
  have hx : Cx 10 prog_12_method_18_code x := hx
  have hc : Cc y 2 6 x := hc
  show G x 0 [some (.ref 66), some (.ref (100 + w1))] [] σ
  unfold f_m_must at h
  refine g_run hx [(.aload_n 0, 0, 0), (.getfield 106, 0, 0)] (pc' := 4) (lo' := [some (.ref 66), some (.ref (100 + w1))]) (st' := [.int (gI σ 66 13)]) (σ' := σ) (by decide +kernel) rfl rfl ?_
  refine g_if_ne hx (off := 20) (tgt := 24) (by decide +kernel) (by decide) (fun c4 => ?_) (fun c4 => ?_)
  · have h := ok_f h c4
    exact g_vret hx hr rfl () rfl (by decide +kernel) (ok_some h)
  · have h := ok_t h c4
    refine g_run hx [(.aload_n 0, 0, 0), (.aload_n 1, 0, 0)] (pc' := 9) (lo' := [some (.ref 66), some (.ref (100 + w1))]) (st' := [.ref (100 + w1), .ref 66]) (σ' := σ) (by decide +kernel) rfl rfl ?_
    refine g_callV (rest := []) [.ref (100 + w1)] hx hc mk_m_takesWord ln_10_130 rfl (by decide +kernel) (by decide) (Nat.le_of_ble_eq_true rfl) (s_m_takesWord hw1 (ok_b h)) (fun r1 s1 h => ?_)
    refine g_ifb_ne hx (off := 12) (tgt := 24) (by decide +kernel) (by decide) (fun c12 => ?_) (fun c12 => ?_)
    · have h := ok_t h c12
      exact g_vret hx hr rfl () rfl (by decide +kernel) (ok_some h)
    · have h := ok_f h c12
      refine g_run hx [(.aload_n 0, 0, 0), (.iconst 1, 1, 0), (.aload_n 0, 0, 0), (.getfield 87, 0, 0)] (pc' := 21) (lo' := [some (.ref 66), some (.ref (100 + w1))]) (st' := [.int (gI s1 66 4), .int 1, .ref 66]) (σ' := s1) (by decide +kernel) rfl rfl ?_
      refine g_callV (rest := []) [.int 1, .int (gI s1 66 4)] hx hc mk_m_wrong ln_10_133 rfl (by decide +kernel) (by decide) (Nat.le_of_ble_eq_true rfl) (s_m_wrong (ok_b h)) (fun r2 s2 h => ?_)
      exact g_vret hx hr rfl () rfl (by decide +kernel) (ok_some h)
def f_m_number (N : Nat) (v1 : Int32) (v2 : Int32) (σ : Sg) : Option (Int32 × Sg) :=
  (f_m_numberHere N v1 v2 σ).bind fun q1 =>
  (f_m_pass N q1.2).bind fun q2 =>
  some (q1.1, q2.2)
set_option maxRecDepth 100000 in
theorem s_m_number {y : EX} {N : Nat} {v1 : Int32} {v2 : Int32} {σ : Sg} {P : Int32 × Sg → Prop} (h : ok (f_m_number N v1 v2 σ) P) : Ev y M_m_number 3 [.ref 66, .int v1, .int v2] σ rvI P := by
  refine Ev.of mk_m_number (Nat.le_of_ble_eq_true rfl) (fun x hx hc hr => ?_)
  have hx : Cx 10 prog_12_method_24_code x := hx
  have hc : Cc y 4 3 x := hc
  show G x 0 [some (.ref 66), some (.int v1), some (.int v2), none] [] σ
  unfold f_m_number at h
  refine g_run hx [(.aload_n 0, 0, 0), (.iload_n 1, 0, 0), (.iload_n 2, 0, 0)] (pc' := 3) (lo' := [some (.ref 66), some (.int v1), some (.int v2), none]) (st' := [.int v2, .int v1, .ref 66]) (σ' := σ) (by decide +kernel) rfl rfl ?_
  refine g_callV (rest := []) [.int v1, .int v2] hx hc mk_m_numberHere ln_10_160 rfl (by decide +kernel) (by decide) (Nat.le_of_ble_eq_true rfl) (s_m_numberHere (ok_b h)) (fun r1 s1 h => ?_)
  refine g_run hx [(.istore_n 3, 0, 0), (.aload_n 0, 0, 0)] (pc' := 8) (lo' := [some (.ref 66), some (.int v1), some (.int v2), some (.int r1)]) (st' := [.ref 66]) (σ' := s1) (by decide +kernel) rfl rfl ?_
  refine g_callV (rest := []) [] hx hc mk_m_pass ln_10_164 rfl (by decide +kernel) (by decide) (Nat.le_of_ble_eq_true rfl) (s_m_pass (ok_b h)) (fun r2 s2 h => ?_)
  refine g_run hx [(.iload_n 3, 0, 0)] (pc' := 12) (lo' := [some (.ref 66), some (.int v1), some (.int v2), some (.int r1)]) (st' := [.int r1]) (σ' := s2) (by decide +kernel) rfl rfl ?_
  exact g_iret hx hr rfl _ rfl (by decide +kernel) (ok_some h)
def f_m_after (N : Nat) (w1 : Nat) (v2 : Int32) (v3 : Int32) (σ : Sg) : Option (Int32 × Sg) :=
  (f_m_must N w1 σ).bind fun q1 =>
  (f_m_number N v2 v3 q1.2).bind fun q2 =>
  some (q2.1, q2.2)
set_option maxRecDepth 100000 in
theorem s_m_after {y : EX} {N : Nat} {w1 : Nat} (hw1 : w1 < 20) {v2 : Int32} {v3 : Int32} {σ : Sg} {P : Int32 × Sg → Prop} (h : ok (f_m_after N w1 v2 v3 σ) P) : Ev y M_m_after 7 [.ref 66, .ref (100 + w1), .int v2, .int v3] σ rvI P := by
  refine Ev.of mk_m_after (Nat.le_of_ble_eq_true rfl) (fun x hx hc hr => ?_)
  have hx : Cx 10 prog_12_method_25_code x := hx
  have hc : Cc y 4 7 x := hc
  show G x 0 [some (.ref 66), some (.ref (100 + w1)), some (.int v2), some (.int v3)] [] σ
  unfold f_m_after at h
  refine g_run hx [(.aload_n 0, 0, 0), (.aload_n 1, 0, 0)] (pc' := 2) (lo' := [some (.ref 66), some (.ref (100 + w1)), some (.int v2), some (.int v3)]) (st' := [.ref (100 + w1), .ref 66]) (σ' := σ) (by decide +kernel) rfl rfl ?_
  refine g_callV (rest := []) [.ref (100 + w1)] hx hc mk_m_must ln_10_167 rfl (by decide +kernel) (by decide) (Nat.le_of_ble_eq_true rfl) (s_m_must hw1 (ok_b h)) (fun r1 s1 h => ?_)
  refine g_run hx [(.aload_n 0, 0, 0), (.iload_n 2, 0, 0), (.iload_n 3, 0, 0)] (pc' := 8) (lo' := [some (.ref 66), some (.ref (100 + w1)), some (.int v2), some (.int v3)]) (st' := [.int v3, .int v2, .ref 66]) (σ' := s1) (by decide +kernel) rfl rfl ?_
  refine g_callV (rest := []) [.int v2, .int v3] hx hc mk_m_number ln_10_171 rfl (by decide +kernel) (by decide) (Nat.le_of_ble_eq_true rfl) (s_m_number (ok_b h)) (fun r2 s2 h => ?_)
  exact g_iret hx hr rfl _ rfl (by decide +kernel) (ok_some h)
def f_m_placeLine_L45 (N : Nat) : Nat → Int32 → Int32 → Int32 → Sg → (Int32 → Int32 → Sg → Option (Unit × Sg)) → Option (Unit × Sg)
  | 0, _, _, _, _, _ => none
  | n + 1, v1, v2, v3, σ, k92 =>
    if (gA σ 70 3) ≤ v3 then
      k92 v1 v2 σ
    else
      if (gI σ 66 13) = 0 then
        if vin (12 + (2 * v3)) 189 then
        if (gA σ 70 (12 + (2 * v3))) = v2 then
          (f_m_wrong N 3 (gI σ 66 4) σ).bind fun q4 =>
          f_m_placeLine_L45 N n v1 v2 (v3 + 1) q4.2 k92
        else
          f_m_placeLine_L45 N n v1 v2 (v3 + 1) σ k92
        else none
      else
        f_m_placeLine_L45 N n v1 v2 (v3 + 1) σ k92
def f_m_placeLine (N : Nat) (σ : Sg) : Option (Unit × Sg) :=
  if (gI σ 66 13) = 0 then
    (f_m_newName N (3 + (gA σ 70 3)) σ).bind fun q1 =>
    (f_m_must N 14 q1.2).bind fun q2 =>
    (f_m_cellHere N q2.2).bind fun q3 =>
    f_m_placeLine_L45 N N (12 + (2 * (gA σ 70 3))) q3.1 0 q3.2
      (fun (w1 : Int32) (w2 : Int32) (t5 : Sg) =>
        (f_m_pass N t5).bind fun q6 =>
        (f_m_after N 15 1 99 q6.2).bind fun q7 =>
        if (gI q7.2 66 13) = 0 then
          if vin w1 189 then
          if vin (w1 + 1) 189 then
          some ((), sA (sA (sA q7.2 70 w1 w2) 70 (w1 + 1) q7.1) 70 3 ((gA (sA (sA q7.2 70 w1 w2) 70 (w1 + 1) q7.1) 70 3) + 1))
          else none
          else none
        else
          some ((), q7.2))
  else
    some ((), σ)
set_option maxRecDepth 100000 in
theorem s_m_placeLine_L45 {y : EX} {N : Nat} {x : CX} {P : Unit × Sg → Prop} (hx : Cx 10 prog_12_method_33_code x) (hc : Cc y 4 8 x) (hr : Cr M_m_placeLine rvN P x) : ∀ (n : Nat) (v1 : Int32) (v2 : Int32) (v3 : Int32) (σ : Sg) (k92 : Int32 → Int32 → Sg → Option (Unit × Sg)) (hk92 : ∀ (w1 : Int32) (w2 : Int32) (t : Sg), ok (k92 w1 w2 t) P → G x 92 [some (.ref 66), some (.int w1), some (.int w2), none] [] t), ok (f_m_placeLine_L45 N n v1 v2 v3 σ k92) P → G x 45 [some (.ref 66), some (.int v1), some (.int v2), some (.int v3)] [] σ := by
  intro n
  induction n with
  | zero => intro v1 v2 v3 σ k92 hk92 h; exact ok_none h
  | succ n ih =>
    intro v1 v2 v3 σ k92 hk92 h
    rw [f_m_placeLine_L45] at h
    refine g_run hx [(.iload_n 3, 0, 0), (.aload_n 0, 0, 0), (.getfield 23, 0, 0), (.iconst 3, 3, 0), (.iaload, 0, 0)] (pc' := 52) (lo' := [some (.ref 66), some (.int v1), some (.int v2), some (.int v3)]) (st' := [.int (gA σ 70 3), .int v3]) (σ' := σ) (by decide +kernel) rfl rfl ?_
    refine g_ic_ge hx (off := 40) (tgt := 92) (by decide +kernel) (by decide) (fun c52 => ?_) (fun c52 => ?_)
    · have h := ok_t h c52
      refine g_wk (lo' := [some (.ref 66), some (.int v1), some (.int v2), none]) ⟨rfl, ⟨rfl, ⟨rfl, trivial⟩⟩⟩ ?_
      exact hk92 _ _ _ h
    · have h := ok_f h c52
      refine g_run hx [(.aload_n 0, 0, 0), (.getfield 106, 0, 0)] (pc' := 59) (lo' := [some (.ref 66), some (.int v1), some (.int v2), some (.int v3)]) (st' := [.int (gI σ 66 13)]) (σ' := σ) (by decide +kernel) rfl rfl ?_
      refine g_if_ne hx (off := 27) (tgt := 86) (by decide +kernel) (by decide) (fun c59 => ?_) (fun c59 => ?_)
      · have h := ok_f h c59
        refine g_run hx [(.iinc 3 1, 1, 0)] (pc' := 89) (lo' := [some (.ref 66), some (.int v1), some (.int v2), some (.int (v3 + 1))]) (st' := []) (σ' := σ) (by decide +kernel) rfl rfl ?_
        refine g_goto hx (off := (-44)) (tgt := 45) (by decide +kernel) (by decide) ?_
        exact ih _ _ _ _ _ hk92 h
      · have h := ok_t h c59
        refine g_run hx [(.aload_n 0, 0, 0), (.getfield 23, 0, 0), (.bipush 12, 12, 0), (.iconst 2, 2, 0), (.iload_n 3, 0, 0), (.imul, 0, 0), (.iadd, 0, 0)] (pc' := 72) (lo' := [some (.ref 66), some (.int v1), some (.int v2), some (.int v3)]) (st' := [.int (12 + (2 * v3)), .ref 70]) (σ' := σ) (by decide +kernel) rfl rfl ?_
        obtain ⟨c72, h⟩ := ok_g h
        refine g_iald hx (by decide +kernel) (i := 70) (n := 189) rfl c72 ?_
        refine g_run hx [(.iload_n 2, 0, 0)] (pc' := 74) (lo' := [some (.ref 66), some (.int v1), some (.int v2), some (.int v3)]) (st' := [.int v2, .int (gA σ 70 (12 + (2 * v3)))]) (σ' := σ) (by decide +kernel) rfl rfl ?_
        refine g_ic_ne hx (off := 12) (tgt := 86) (by decide +kernel) (by decide) (fun c74 => ?_) (fun c74 => ?_)
        · have h := ok_f h c74
          refine g_run hx [(.iinc 3 1, 1, 0)] (pc' := 89) (lo' := [some (.ref 66), some (.int v1), some (.int v2), some (.int (v3 + 1))]) (st' := []) (σ' := σ) (by decide +kernel) rfl rfl ?_
          refine g_goto hx (off := (-44)) (tgt := 45) (by decide +kernel) (by decide) ?_
          exact ih _ _ _ _ _ hk92 h
        · have h := ok_t h c74
          refine g_run hx [(.aload_n 0, 0, 0), (.iconst 3, 3, 0), (.aload_n 0, 0, 0), (.getfield 87, 0, 0)] (pc' := 83) (lo' := [some (.ref 66), some (.int v1), some (.int v2), some (.int v3)]) (st' := [.int (gI σ 66 4), .int 3, .ref 66]) (σ' := σ) (by decide +kernel) rfl rfl ?_
          refine g_callV (rest := []) [.int 3, .int (gI σ 66 4)] hx hc mk_m_wrong ln_10_133 rfl (by decide +kernel) (by decide) (Nat.le_of_ble_eq_true rfl) (s_m_wrong (ok_b h)) (fun r4 s4 h => ?_)
          refine g_run hx [(.iinc 3 1, 1, 0)] (pc' := 89) (lo' := [some (.ref 66), some (.int v1), some (.int v2), some (.int (v3 + 1))]) (st' := []) (σ' := s4) (by decide +kernel) rfl rfl ?_
          refine g_goto hx (off := (-44)) (tgt := 45) (by decide +kernel) (by decide) ?_
          exact ih _ _ _ _ _ hk92 h
set_option maxRecDepth 100000 in
theorem s_m_placeLine {y : EX} {N : Nat} {σ : Sg} {P : Unit × Sg → Prop} (h : ok (f_m_placeLine N σ) P) : Ev y M_m_placeLine 8 [.ref 66] σ rvN P := by
  refine Ev.of mk_m_placeLine (Nat.le_of_ble_eq_true rfl) (fun x hx hc hr => ?_)
  have hx : Cx 10 prog_12_method_33_code x := hx
  have hc : Cc y 4 8 x := hc
  show G x 0 [some (.ref 66), none, none, none] [] σ
  unfold f_m_placeLine at h
  refine g_run hx [(.aload_n 0, 0, 0), (.getfield 106, 0, 0)] (pc' := 4) (lo' := [some (.ref 66), none, none, none]) (st' := [.int (gI σ 66 13)]) (σ' := σ) (by decide +kernel) rfl rfl ?_
  refine g_if_eq hx (off := 4) (tgt := 8) (by decide +kernel) (by decide) (fun c4 => ?_) (fun c4 => ?_)
  · have h := ok_t h c4
    refine g_run hx [(.bipush 12, 12, 0), (.iconst 2, 2, 0), (.aload_n 0, 0, 0), (.getfield 23, 0, 0), (.iconst 3, 3, 0), (.iaload, 0, 0), (.imul, 0, 0), (.iadd, 0, 0), (.istore_n 1, 0, 0), (.aload_n 0, 0, 0), (.iconst 3, 3, 0), (.aload_n 0, 0, 0), (.getfield 23, 0, 0), (.iconst 3, 3, 0), (.iaload, 0, 0), (.iadd, 0, 0)] (pc' := 29) (lo' := [some (.ref 66), some (.int (12 + (2 * (gA σ 70 3)))), none, none]) (st' := [.int (3 + (gA σ 70 3)), .ref 66]) (σ' := σ) (by decide +kernel) rfl rfl ?_
    refine g_callV (rest := []) [.int (3 + (gA σ 70 3))] hx hc mk_m_newName ln_10_239 rfl (by decide +kernel) (by decide) (Nat.le_of_ble_eq_true rfl) (s_m_newName (ok_b h)) (fun r1 s1 h => ?_)
    refine g_run hx [(.aload_n 0, 0, 0)] (pc' := 33) (lo' := [some (.ref 66), some (.int (12 + (2 * (gA σ 70 3)))), none, none]) (st' := [.ref 66]) (σ' := s1) (by decide +kernel) rfl rfl ?_
    refine g_ldcS (idx := 243) (sid := 14) hx hc (by decide) (by decide +kernel) ?_
    refine g_callV (rest := []) [.ref (100 + 14)] hx hc mk_m_must ln_10_167 rfl (by decide +kernel) (by decide) (Nat.le_of_ble_eq_true rfl) (s_m_must (by decide) (ok_b h)) (fun r2 s2 h => ?_)
    refine g_run hx [(.aload_n 0, 0, 0)] (pc' := 39) (lo' := [some (.ref 66), some (.int (12 + (2 * (gA σ 70 3)))), none, none]) (st' := [.ref 66]) (σ' := s2) (by decide +kernel) rfl rfl ?_
    refine g_callV (rest := []) [] hx hc mk_m_cellHere ln_10_244 rfl (by decide +kernel) (by decide) (Nat.le_of_ble_eq_true rfl) (s_m_cellHere (ok_b h)) (fun r3 s3 h => ?_)
    refine g_run hx [(.istore_n 2, 0, 0), (.iconst 0, 0, 0), (.istore_n 3, 0, 0)] (pc' := 45) (lo' := [some (.ref 66), some (.int (12 + (2 * (gA σ 70 3)))), some (.int r3), some (.int 0)]) (st' := []) (σ' := s3) (by decide +kernel) rfl rfl ?_
    refine s_m_placeLine_L45 hx hc hr N _ _ _ _ _ (fun w1 w2 t5 h => ?_) h
    refine g_run hx [(.aload_n 0, 0, 0)] (pc' := 93) (lo' := [some (.ref 66), some (.int w1), some (.int w2), none]) (st' := [.ref 66]) (σ' := t5) (by decide +kernel) rfl rfl ?_
    refine g_callV (rest := []) [] hx hc mk_m_pass ln_10_164 rfl (by decide +kernel) (by decide) (Nat.le_of_ble_eq_true rfl) (s_m_pass (ok_b h)) (fun r6 s6 h => ?_)
    refine g_run hx [(.aload_n 0, 0, 0)] (pc' := 97) (lo' := [some (.ref 66), some (.int w1), some (.int w2), none]) (st' := [.ref 66]) (σ' := s6) (by decide +kernel) rfl rfl ?_
    refine g_ldcS (idx := 247) (sid := 15) hx hc (by decide) (by decide +kernel) ?_
    refine g_run hx [(.iconst 1, 1, 0), (.bipush 99, 99, 0)] (pc' := 102) (lo' := [some (.ref 66), some (.int w1), some (.int w2), none]) (st' := [.int 99, .int 1, .ref (100 + 15), .ref 66]) (σ' := s6) (by decide +kernel) rfl rfl ?_
    refine g_callV (rest := []) [.ref (100 + 15), .int 1, .int 99] hx hc mk_m_after ln_10_223 rfl (by decide +kernel) (by decide) (Nat.le_of_ble_eq_true rfl) (s_m_after (by decide) (ok_b h)) (fun r7 s7 h => ?_)
    refine g_run hx [(.istore_n 3, 0, 0), (.aload_n 0, 0, 0), (.getfield 106, 0, 0)] (pc' := 110) (lo' := [some (.ref 66), some (.int w1), some (.int w2), some (.int r7)]) (st' := [.int (gI s7 66 13)]) (σ' := s7) (by decide +kernel) rfl rfl ?_
    refine g_if_eq hx (off := 4) (tgt := 114) (by decide +kernel) (by decide) (fun c110 => ?_) (fun c110 => ?_)
    · have h := ok_t h c110
      refine g_run hx [(.aload_n 0, 0, 0), (.getfield 23, 0, 0), (.iload_n 1, 0, 0), (.iload_n 2, 0, 0)] (pc' := 120) (lo' := [some (.ref 66), some (.int w1), some (.int w2), some (.int r7)]) (st' := [.int w2, .int w1, .ref 70]) (σ' := s7) (by decide +kernel) rfl rfl ?_
      obtain ⟨c120, h⟩ := ok_g h
      refine g_iast hx (by decide +kernel) (i := 70) (n := 189) rfl c120 ?_
      refine g_run hx [(.aload_n 0, 0, 0), (.getfield 23, 0, 0), (.iload_n 1, 0, 0), (.iconst 1, 1, 0), (.iadd, 0, 0), (.iload_n 3, 0, 0)] (pc' := 129) (lo' := [some (.ref 66), some (.int w1), some (.int w2), some (.int r7)]) (st' := [.int r7, .int (w1 + 1), .ref 70]) (σ' := sA s7 70 w1 w2) (by decide +kernel) rfl rfl ?_
      obtain ⟨c129, h⟩ := ok_g h
      refine g_iast hx (by decide +kernel) (i := 70) (n := 189) rfl c129 ?_
      refine g_run hx [(.aload_n 0, 0, 0), (.getfield 23, 0, 0), (.iconst 3, 3, 0), (.dup2, 0, 0), (.iaload, 0, 0), (.iconst 1, 1, 0), (.iadd, 0, 0), (.iastore, 0, 0)] (pc' := 140) (lo' := [some (.ref 66), some (.int w1), some (.int w2), some (.int r7)]) (st' := []) (σ' := sA (sA (sA s7 70 w1 w2) 70 (w1 + 1) r7) 70 3 ((gA (sA (sA s7 70 w1 w2) 70 (w1 + 1) r7) 70 3) + 1)) (by decide +kernel) rfl rfl ?_
      exact g_vret hx hr rfl () rfl (by decide +kernel) (ok_some h)
    · have h := ok_f h c110
      exact g_vret hx hr rfl () rfl (by decide +kernel) (ok_some h)
  · have h := ok_f h c4
    exact g_vret hx hr rfl () rfl (by decide +kernel) (ok_some h)
def f_m_bootsLine (N : Nat) (σ : Sg) : Option (Unit × Sg) :=
  if (gI σ 66 13) = 0 then
    (f_m_newName N (gA σ 70 2) σ).bind fun q1 =>
    (f_m_number N 2 9 q1.2).bind fun q2 =>
    if vin (9 + (gA q1.2 70 2)) 189 then
    if (gI (sA q2.2 70 (9 + (gA q1.2 70 2)) q2.1) 66 13) = 0 then
      some ((), sA (sA q2.2 70 (9 + (gA q1.2 70 2)) q2.1) 70 2 ((gA (sA q2.2 70 (9 + (gA q1.2 70 2)) q2.1) 70 2) + 1))
    else
      some ((), sA q2.2 70 (9 + (gA q1.2 70 2)) q2.1)
    else none
  else
    some ((), σ)
set_option maxRecDepth 100000 in
theorem s_m_bootsLine {y : EX} {N : Nat} {σ : Sg} {P : Unit × Sg → Prop} (h : ok (f_m_bootsLine N σ) P) : Ev y M_m_bootsLine 7 [.ref 66] σ rvN P := by
  refine Ev.of mk_m_bootsLine (Nat.le_of_ble_eq_true rfl) (fun x hx hc hr => ?_)
  have hx : Cx 10 prog_12_method_32_code x := hx
  have hc : Cc y 1 7 x := hc
  show G x 0 [some (.ref 66)] [] σ
  unfold f_m_bootsLine at h
  refine g_run hx [(.aload_n 0, 0, 0), (.getfield 106, 0, 0)] (pc' := 4) (lo' := [some (.ref 66)]) (st' := [.int (gI σ 66 13)]) (σ' := σ) (by decide +kernel) rfl rfl ?_
  refine g_if_eq hx (off := 4) (tgt := 8) (by decide +kernel) (by decide) (fun c4 => ?_) (fun c4 => ?_)
  · have h := ok_t h c4
    refine g_run hx [(.aload_n 0, 0, 0), (.aload_n 0, 0, 0), (.getfield 23, 0, 0), (.iconst 2, 2, 0), (.iaload, 0, 0)] (pc' := 15) (lo' := [some (.ref 66)]) (st' := [.int (gA σ 70 2), .ref 66]) (σ' := σ) (by decide +kernel) rfl rfl ?_
    refine g_callV (rest := []) [.int (gA σ 70 2)] hx hc mk_m_newName ln_10_239 rfl (by decide +kernel) (by decide) (Nat.le_of_ble_eq_true rfl) (s_m_newName (ok_b h)) (fun r1 s1 h => ?_)
    refine g_run hx [(.aload_n 0, 0, 0), (.getfield 23, 0, 0), (.bipush 9, 9, 0), (.aload_n 0, 0, 0), (.getfield 23, 0, 0), (.iconst 2, 2, 0), (.iaload, 0, 0), (.iadd, 0, 0), (.aload_n 0, 0, 0), (.iconst 2, 2, 0), (.bipush 9, 9, 0)] (pc' := 35) (lo' := [some (.ref 66)]) (st' := [.int 9, .int 2, .ref 66, .int (9 + (gA s1 70 2)), .ref 70]) (σ' := s1) (by decide +kernel) rfl rfl ?_
    refine g_callV (rest := [.int (9 + (gA s1 70 2)), .ref 70]) [.int 2, .int 9] hx hc mk_m_number ln_10_171 rfl (by decide +kernel) (by decide) (Nat.le_of_ble_eq_true rfl) (s_m_number (ok_b h)) (fun r2 s2 h => ?_)
    obtain ⟨c38, h⟩ := ok_g h
    refine g_iast hx (by decide +kernel) (i := 70) (n := 189) rfl c38 ?_
    refine g_run hx [(.aload_n 0, 0, 0), (.getfield 106, 0, 0)] (pc' := 43) (lo' := [some (.ref 66)]) (st' := [.int (gI (sA s2 70 (9 + (gA s1 70 2)) r2) 66 13)]) (σ' := sA s2 70 (9 + (gA s1 70 2)) r2) (by decide +kernel) rfl rfl ?_
    refine g_if_ne hx (off := 13) (tgt := 56) (by decide +kernel) (by decide) (fun c43 => ?_) (fun c43 => ?_)
    · have h := ok_f h c43
      exact g_vret hx hr rfl () rfl (by decide +kernel) (ok_some h)
    · have h := ok_t h c43
      refine g_run hx [(.aload_n 0, 0, 0), (.getfield 23, 0, 0), (.iconst 2, 2, 0), (.dup2, 0, 0), (.iaload, 0, 0), (.iconst 1, 1, 0), (.iadd, 0, 0), (.iastore, 0, 0)] (pc' := 56) (lo' := [some (.ref 66)]) (st' := []) (σ' := sA (sA s2 70 (9 + (gA s1 70 2)) r2) 70 2 ((gA (sA s2 70 (9 + (gA s1 70 2)) r2) 70 2) + 1)) (by decide +kernel) rfl rfl ?_
      exact g_vret hx hr rfl () rfl (by decide +kernel) (ok_some h)
  · have h := ok_f h c4
    exact g_vret hx hr rfl () rfl (by decide +kernel) (ok_some h)
def f_m_groundLine_L105 (N : Nat) : Nat → Int32 → Int32 → Int32 → Sg → Option (Unit × Sg)
  | 0, _, _, _, _ => none
  | n + 1, v1, v3, v4, σ =>
    if v3 < v4 then
      some ((), sA σ 70 7 ((gA σ 70 7) + 1))
    else
      if vin (129 + v4) 189 then
      f_m_groundLine_L105 N n v1 v3 (v4 + 1) (sA σ 70 (129 + v4) v1)
      else none
def f_m_groundLine (N : Nat) (σ : Sg) : Option (Unit × Sg) :=
  if (gI σ 66 13) = 0 then
    (f_m_isWord N 11 σ).bind fun q1 =>
    if q1.1 = true then
      (f_m_pass N q1.2).bind fun q14 =>
      (f_m_number N 0 ((gA q14.2 70 0) - 1) q14.2).bind fun q15 =>
      (f_m_number N q15.1 ((gA q15.2 70 0) - 1) q15.2).bind fun q16 =>
      if (gI q16.2 66 13) = 0 then
        f_m_groundLine_L105 N N 0 q16.1 q15.1 q16.2
      else
        some ((), q16.2)
    else
      (f_m_isWord N 12 q1.2).bind fun q2 =>
      if q2.1 = true then
        (f_m_pass N q2.2).bind fun q11 =>
        (f_m_number N 0 ((gA q11.2 70 0) - 1) q11.2).bind fun q12 =>
        (f_m_number N q12.1 ((gA q12.2 70 0) - 1) q12.2).bind fun q13 =>
        if (gI q13.2 66 13) = 0 then
          f_m_groundLine_L105 N N 1 q13.1 q12.1 q13.2
        else
          some ((), q13.2)
      else
        (f_m_isWord N 13 q2.2).bind fun q3 =>
        if q3.1 = true then
          (f_m_pass N q3.2).bind fun q8 =>
          (f_m_number N 0 ((gA q8.2 70 0) - 1) q8.2).bind fun q9 =>
          (f_m_number N q9.1 ((gA q9.2 70 0) - 1) q9.2).bind fun q10 =>
          if (gI q10.2 66 13) = 0 then
            f_m_groundLine_L105 N N 2 q10.1 q9.1 q10.2
          else
            some ((), q10.2)
        else
          (f_m_wrong N 1 (gI q3.2 66 4) q3.2).bind fun q4 =>
          (f_m_pass N q4.2).bind fun q5 =>
          (f_m_number N 0 ((gA q5.2 70 0) - 1) q5.2).bind fun q6 =>
          (f_m_number N q6.1 ((gA q6.2 70 0) - 1) q6.2).bind fun q7 =>
          if (gI q7.2 66 13) = 0 then
            f_m_groundLine_L105 N N (-1) q7.1 q6.1 q7.2
          else
            some ((), q7.2)
  else
    some ((), σ)
set_option maxRecDepth 100000 in
theorem s_m_groundLine_L105 {y : EX} {N : Nat} {x : CX} {P : Unit × Sg → Prop} (hx : Cx 10 prog_12_method_31_code x) (hc : Cc y 5 5 x) (hr : Cr M_m_groundLine rvN P x) : ∀ (n : Nat) (v1 : Int32) (v3 : Int32) (v4 : Int32) (σ : Sg), ok (f_m_groundLine_L105 N n v1 v3 v4 σ) P → G x 105 [some (.ref 66), some (.int v1), none, some (.int v3), some (.int v4)] [] σ := by
  intro n
  induction n with
  | zero => intro v1 v3 v4 σ h; exact ok_none h
  | succ n ih =>
    intro v1 v3 v4 σ h
    rw [f_m_groundLine_L105] at h
    refine g_run hx [(.iload 4, 0, 0), (.iload_n 3, 0, 0)] (pc' := 108) (lo' := [some (.ref 66), some (.int v1), none, some (.int v3), some (.int v4)]) (st' := [.int v3, .int v4]) (σ' := σ) (by decide +kernel) rfl rfl ?_
    refine g_ic_gt hx (off := 21) (tgt := 129) (by decide +kernel) (by decide) (fun c108 => ?_) (fun c108 => ?_)
    · have h := ok_t h c108
      refine g_run hx [(.aload_n 0, 0, 0), (.getfield 23, 0, 0), (.bipush 7, 7, 0), (.dup2, 0, 0), (.iaload, 0, 0), (.iconst 1, 1, 0), (.iadd, 0, 0), (.iastore, 0, 0)] (pc' := 140) (lo' := [some (.ref 66), some (.int v1), none, some (.int v3), some (.int v4)]) (st' := []) (σ' := sA σ 70 7 ((gA σ 70 7) + 1)) (by decide +kernel) rfl rfl ?_
      exact g_vret hx hr rfl () rfl (by decide +kernel) (ok_some h)
    · have h := ok_f h c108
      refine g_run hx [(.aload_n 0, 0, 0), (.getfield 23, 0, 0), (.sipush 129, 129, 0), (.iload 4, 0, 0), (.iadd, 0, 0), (.iload_n 1, 0, 0)] (pc' := 122) (lo' := [some (.ref 66), some (.int v1), none, some (.int v3), some (.int v4)]) (st' := [.int v1, .int (129 + v4), .ref 70]) (σ' := σ) (by decide +kernel) rfl rfl ?_
      obtain ⟨c122, h⟩ := ok_g h
      refine g_iast hx (by decide +kernel) (i := 70) (n := 189) rfl c122 ?_
      refine g_run hx [(.iinc 4 1, 1, 0)] (pc' := 126) (lo' := [some (.ref 66), some (.int v1), none, some (.int v3), some (.int (v4 + 1))]) (st' := []) (σ' := sA σ 70 (129 + v4) v1) (by decide +kernel) rfl rfl ?_
      refine g_goto hx (off := (-21)) (tgt := 105) (by decide +kernel) (by decide) ?_
      exact ih _ _ _ _ h
set_option maxRecDepth 100000 in
theorem s_m_groundLine {y : EX} {N : Nat} {σ : Sg} {P : Unit × Sg → Prop} (h : ok (f_m_groundLine N σ) P) : Ev y M_m_groundLine 5 [.ref 66] σ rvN P := by
  refine Ev.of mk_m_groundLine (Nat.le_of_ble_eq_true rfl) (fun x hx hc hr => ?_)
  have hx : Cx 10 prog_12_method_31_code x := hx
  have hc : Cc y 5 5 x := hc
  show G x 0 [some (.ref 66), none, none, none, none] [] σ
  unfold f_m_groundLine at h
  refine g_run hx [(.aload_n 0, 0, 0), (.getfield 106, 0, 0)] (pc' := 4) (lo' := [some (.ref 66), none, none, none, none]) (st' := [.int (gI σ 66 13)]) (σ' := σ) (by decide +kernel) rfl rfl ?_
  refine g_if_eq hx (off := 4) (tgt := 8) (by decide +kernel) (by decide) (fun c4 => ?_) (fun c4 => ?_)
  · have h := ok_t h c4
    refine g_run hx [(.aload_n 0, 0, 0)] (pc' := 9) (lo' := [some (.ref 66), none, none, none, none]) (st' := [.ref 66]) (σ' := σ) (by decide +kernel) rfl rfl ?_
    refine g_ldcS (idx := 233) (sid := 11) hx hc (by decide) (by decide +kernel) ?_
    refine g_callV (rest := []) [.ref (100 + 11)] hx hc mk_m_isWord ln_10_123 rfl (by decide +kernel) (by decide) (Nat.le_of_ble_eq_true rfl) (s_m_isWord (by decide) (ok_b h)) (fun r1 s1 h => ?_)
    refine g_ifb_eq hx (off := 7) (tgt := 21) (by decide +kernel) (by decide) (fun c14 => ?_) (fun c14 => ?_)
    · have h := ok_f h c14
      refine g_run hx [(.aload_n 0, 0, 0)] (pc' := 22) (lo' := [some (.ref 66), none, none, none, none]) (st' := [.ref 66]) (σ' := s1) (by decide +kernel) rfl rfl ?_
      refine g_ldcS (idx := 235) (sid := 12) hx hc (by decide) (by decide +kernel) ?_
      refine g_callV (rest := []) [.ref (100 + 12)] hx hc mk_m_isWord ln_10_123 rfl (by decide +kernel) (by decide) (Nat.le_of_ble_eq_true rfl) (s_m_isWord (by decide) (ok_b h)) (fun r2 s2 h => ?_)
      refine g_ifb_eq hx (off := 7) (tgt := 34) (by decide +kernel) (by decide) (fun c27 => ?_) (fun c27 => ?_)
      · have h := ok_f h c27
        refine g_run hx [(.aload_n 0, 0, 0)] (pc' := 35) (lo' := [some (.ref 66), none, none, none, none]) (st' := [.ref 66]) (σ' := s2) (by decide +kernel) rfl rfl ?_
        refine g_ldcS (idx := 237) (sid := 13) hx hc (by decide) (by decide +kernel) ?_
        refine g_callV (rest := []) [.ref (100 + 13)] hx hc mk_m_isWord ln_10_123 rfl (by decide +kernel) (by decide) (Nat.le_of_ble_eq_true rfl) (s_m_isWord (by decide) (ok_b h)) (fun r3 s3 h => ?_)
        refine g_ifb_eq hx (off := 7) (tgt := 47) (by decide +kernel) (by decide) (fun c40 => ?_) (fun c40 => ?_)
        · have h := ok_f h c40
          refine g_run hx [(.iconst (-1), (-1), 0), (.istore_n 1, 0, 0), (.iload_n 1, 0, 0)] (pc' := 50) (lo' := [some (.ref 66), some (.int (-1)), none, none, none]) (st' := [.int (-1)]) (σ' := s3) (by decide +kernel) rfl rfl ?_
          refine g_if_ge hx (off := 12) (tgt := 62) (by decide +kernel) (by decide) (fun c => absurd c (by decide)) (fun _ => ?_)
          refine g_run hx [(.aload_n 0, 0, 0), (.iconst 1, 1, 0), (.aload_n 0, 0, 0), (.getfield 87, 0, 0)] (pc' := 59) (lo' := [some (.ref 66), some (.int (-1)), none, none, none]) (st' := [.int (gI s3 66 4), .int 1, .ref 66]) (σ' := s3) (by decide +kernel) rfl rfl ?_
          refine g_callV (rest := []) [.int 1, .int (gI s3 66 4)] hx hc mk_m_wrong ln_10_133 rfl (by decide +kernel) (by decide) (Nat.le_of_ble_eq_true rfl) (s_m_wrong (ok_b h)) (fun r4 s4 h => ?_)
          refine g_run hx [(.aload_n 0, 0, 0)] (pc' := 63) (lo' := [some (.ref 66), some (.int (-1)), none, none, none]) (st' := [.ref 66]) (σ' := s4) (by decide +kernel) rfl rfl ?_
          refine g_callV (rest := []) [] hx hc mk_m_pass ln_10_164 rfl (by decide +kernel) (by decide) (Nat.le_of_ble_eq_true rfl) (s_m_pass (ok_b h)) (fun r5 s5 h => ?_)
          refine g_run hx [(.aload_n 0, 0, 0), (.iconst 0, 0, 0), (.aload_n 0, 0, 0), (.getfield 23, 0, 0), (.iconst 0, 0, 0), (.iaload, 0, 0), (.iconst 1, 1, 0), (.isub, 0, 0)] (pc' := 76) (lo' := [some (.ref 66), some (.int (-1)), none, none, none]) (st' := [.int ((gA s5 70 0) - 1), .int 0, .ref 66]) (σ' := s5) (by decide +kernel) rfl rfl ?_
          refine g_callV (rest := []) [.int 0, .int ((gA s5 70 0) - 1)] hx hc mk_m_number ln_10_171 rfl (by decide +kernel) (by decide) (Nat.le_of_ble_eq_true rfl) (s_m_number (ok_b h)) (fun r6 s6 h => ?_)
          refine g_run hx [(.istore_n 2, 0, 0), (.aload_n 0, 0, 0), (.iload_n 2, 0, 0), (.aload_n 0, 0, 0), (.getfield 23, 0, 0), (.iconst 0, 0, 0), (.iaload, 0, 0), (.iconst 1, 1, 0), (.isub, 0, 0)] (pc' := 90) (lo' := [some (.ref 66), some (.int (-1)), some (.int r6), none, none]) (st' := [.int ((gA s6 70 0) - 1), .int r6, .ref 66]) (σ' := s6) (by decide +kernel) rfl rfl ?_
          refine g_callV (rest := []) [.int r6, .int ((gA s6 70 0) - 1)] hx hc mk_m_number ln_10_171 rfl (by decide +kernel) (by decide) (Nat.le_of_ble_eq_true rfl) (s_m_number (ok_b h)) (fun r7 s7 h => ?_)
          refine g_run hx [(.istore_n 3, 0, 0), (.aload_n 0, 0, 0), (.getfield 106, 0, 0)] (pc' := 98) (lo' := [some (.ref 66), some (.int (-1)), some (.int r6), some (.int r7), none]) (st' := [.int (gI s7 66 13)]) (σ' := s7) (by decide +kernel) rfl rfl ?_
          refine g_if_eq hx (off := 4) (tgt := 102) (by decide +kernel) (by decide) (fun c98 => ?_) (fun c98 => ?_)
          · have h := ok_t h c98
            refine g_run hx [(.iload_n 2, 0, 0), (.istore 4, 0, 0)] (pc' := 105) (lo' := [some (.ref 66), some (.int (-1)), some (.int r6), some (.int r7), some (.int r6)]) (st' := []) (σ' := s7) (by decide +kernel) rfl rfl ?_
            refine g_wk (lo' := [some (.ref 66), some (.int (-1)), none, some (.int r7), some (.int r6)]) ⟨rfl, ⟨rfl, ⟨rfl, ⟨rfl, trivial⟩⟩⟩⟩ ?_
            refine s_m_groundLine_L105 hx hc hr N _ _ _ _ h
          · have h := ok_f h c98
            exact g_vret hx hr rfl () rfl (by decide +kernel) (ok_some h)
        · have h := ok_t h c40
          refine g_run hx [(.iconst 2, 2, 0)] (pc' := 44) (lo' := [some (.ref 66), none, none, none, none]) (st' := [.int 2]) (σ' := s3) (by decide +kernel) rfl rfl ?_
          refine g_goto hx (off := 4) (tgt := 48) (by decide +kernel) (by decide) ?_
          refine g_run hx [(.istore_n 1, 0, 0), (.iload_n 1, 0, 0)] (pc' := 50) (lo' := [some (.ref 66), some (.int 2), none, none, none]) (st' := [.int 2]) (σ' := s3) (by decide +kernel) rfl rfl ?_
          refine g_if_ge hx (off := 12) (tgt := 62) (by decide +kernel) (by decide) (fun _ => ?_) (fun c => absurd c (by decide))
          refine g_run hx [(.aload_n 0, 0, 0)] (pc' := 63) (lo' := [some (.ref 66), some (.int 2), none, none, none]) (st' := [.ref 66]) (σ' := s3) (by decide +kernel) rfl rfl ?_
          refine g_callV (rest := []) [] hx hc mk_m_pass ln_10_164 rfl (by decide +kernel) (by decide) (Nat.le_of_ble_eq_true rfl) (s_m_pass (ok_b h)) (fun r8 s8 h => ?_)
          refine g_run hx [(.aload_n 0, 0, 0), (.iconst 0, 0, 0), (.aload_n 0, 0, 0), (.getfield 23, 0, 0), (.iconst 0, 0, 0), (.iaload, 0, 0), (.iconst 1, 1, 0), (.isub, 0, 0)] (pc' := 76) (lo' := [some (.ref 66), some (.int 2), none, none, none]) (st' := [.int ((gA s8 70 0) - 1), .int 0, .ref 66]) (σ' := s8) (by decide +kernel) rfl rfl ?_
          refine g_callV (rest := []) [.int 0, .int ((gA s8 70 0) - 1)] hx hc mk_m_number ln_10_171 rfl (by decide +kernel) (by decide) (Nat.le_of_ble_eq_true rfl) (s_m_number (ok_b h)) (fun r9 s9 h => ?_)
          refine g_run hx [(.istore_n 2, 0, 0), (.aload_n 0, 0, 0), (.iload_n 2, 0, 0), (.aload_n 0, 0, 0), (.getfield 23, 0, 0), (.iconst 0, 0, 0), (.iaload, 0, 0), (.iconst 1, 1, 0), (.isub, 0, 0)] (pc' := 90) (lo' := [some (.ref 66), some (.int 2), some (.int r9), none, none]) (st' := [.int ((gA s9 70 0) - 1), .int r9, .ref 66]) (σ' := s9) (by decide +kernel) rfl rfl ?_
          refine g_callV (rest := []) [.int r9, .int ((gA s9 70 0) - 1)] hx hc mk_m_number ln_10_171 rfl (by decide +kernel) (by decide) (Nat.le_of_ble_eq_true rfl) (s_m_number (ok_b h)) (fun r10 s10 h => ?_)
          refine g_run hx [(.istore_n 3, 0, 0), (.aload_n 0, 0, 0), (.getfield 106, 0, 0)] (pc' := 98) (lo' := [some (.ref 66), some (.int 2), some (.int r9), some (.int r10), none]) (st' := [.int (gI s10 66 13)]) (σ' := s10) (by decide +kernel) rfl rfl ?_
          refine g_if_eq hx (off := 4) (tgt := 102) (by decide +kernel) (by decide) (fun c98 => ?_) (fun c98 => ?_)
          · have h := ok_t h c98
            refine g_run hx [(.iload_n 2, 0, 0), (.istore 4, 0, 0)] (pc' := 105) (lo' := [some (.ref 66), some (.int 2), some (.int r9), some (.int r10), some (.int r9)]) (st' := []) (σ' := s10) (by decide +kernel) rfl rfl ?_
            refine g_wk (lo' := [some (.ref 66), some (.int 2), none, some (.int r10), some (.int r9)]) ⟨rfl, ⟨rfl, ⟨rfl, ⟨rfl, trivial⟩⟩⟩⟩ ?_
            refine s_m_groundLine_L105 hx hc hr N _ _ _ _ h
          · have h := ok_f h c98
            exact g_vret hx hr rfl () rfl (by decide +kernel) (ok_some h)
      · have h := ok_t h c27
        refine g_run hx [(.iconst 1, 1, 0)] (pc' := 31) (lo' := [some (.ref 66), none, none, none, none]) (st' := [.int 1]) (σ' := s2) (by decide +kernel) rfl rfl ?_
        refine g_goto hx (off := 17) (tgt := 48) (by decide +kernel) (by decide) ?_
        refine g_run hx [(.istore_n 1, 0, 0), (.iload_n 1, 0, 0)] (pc' := 50) (lo' := [some (.ref 66), some (.int 1), none, none, none]) (st' := [.int 1]) (σ' := s2) (by decide +kernel) rfl rfl ?_
        refine g_if_ge hx (off := 12) (tgt := 62) (by decide +kernel) (by decide) (fun _ => ?_) (fun c => absurd c (by decide))
        refine g_run hx [(.aload_n 0, 0, 0)] (pc' := 63) (lo' := [some (.ref 66), some (.int 1), none, none, none]) (st' := [.ref 66]) (σ' := s2) (by decide +kernel) rfl rfl ?_
        refine g_callV (rest := []) [] hx hc mk_m_pass ln_10_164 rfl (by decide +kernel) (by decide) (Nat.le_of_ble_eq_true rfl) (s_m_pass (ok_b h)) (fun r11 s11 h => ?_)
        refine g_run hx [(.aload_n 0, 0, 0), (.iconst 0, 0, 0), (.aload_n 0, 0, 0), (.getfield 23, 0, 0), (.iconst 0, 0, 0), (.iaload, 0, 0), (.iconst 1, 1, 0), (.isub, 0, 0)] (pc' := 76) (lo' := [some (.ref 66), some (.int 1), none, none, none]) (st' := [.int ((gA s11 70 0) - 1), .int 0, .ref 66]) (σ' := s11) (by decide +kernel) rfl rfl ?_
        refine g_callV (rest := []) [.int 0, .int ((gA s11 70 0) - 1)] hx hc mk_m_number ln_10_171 rfl (by decide +kernel) (by decide) (Nat.le_of_ble_eq_true rfl) (s_m_number (ok_b h)) (fun r12 s12 h => ?_)
        refine g_run hx [(.istore_n 2, 0, 0), (.aload_n 0, 0, 0), (.iload_n 2, 0, 0), (.aload_n 0, 0, 0), (.getfield 23, 0, 0), (.iconst 0, 0, 0), (.iaload, 0, 0), (.iconst 1, 1, 0), (.isub, 0, 0)] (pc' := 90) (lo' := [some (.ref 66), some (.int 1), some (.int r12), none, none]) (st' := [.int ((gA s12 70 0) - 1), .int r12, .ref 66]) (σ' := s12) (by decide +kernel) rfl rfl ?_
        refine g_callV (rest := []) [.int r12, .int ((gA s12 70 0) - 1)] hx hc mk_m_number ln_10_171 rfl (by decide +kernel) (by decide) (Nat.le_of_ble_eq_true rfl) (s_m_number (ok_b h)) (fun r13 s13 h => ?_)
        refine g_run hx [(.istore_n 3, 0, 0), (.aload_n 0, 0, 0), (.getfield 106, 0, 0)] (pc' := 98) (lo' := [some (.ref 66), some (.int 1), some (.int r12), some (.int r13), none]) (st' := [.int (gI s13 66 13)]) (σ' := s13) (by decide +kernel) rfl rfl ?_
        refine g_if_eq hx (off := 4) (tgt := 102) (by decide +kernel) (by decide) (fun c98 => ?_) (fun c98 => ?_)
        · have h := ok_t h c98
          refine g_run hx [(.iload_n 2, 0, 0), (.istore 4, 0, 0)] (pc' := 105) (lo' := [some (.ref 66), some (.int 1), some (.int r12), some (.int r13), some (.int r12)]) (st' := []) (σ' := s13) (by decide +kernel) rfl rfl ?_
          refine g_wk (lo' := [some (.ref 66), some (.int 1), none, some (.int r13), some (.int r12)]) ⟨rfl, ⟨rfl, ⟨rfl, ⟨rfl, trivial⟩⟩⟩⟩ ?_
          refine s_m_groundLine_L105 hx hc hr N _ _ _ _ h
        · have h := ok_f h c98
          exact g_vret hx hr rfl () rfl (by decide +kernel) (ok_some h)
    · have h := ok_t h c14
      refine g_run hx [(.iconst 0, 0, 0)] (pc' := 18) (lo' := [some (.ref 66), none, none, none, none]) (st' := [.int 0]) (σ' := s1) (by decide +kernel) rfl rfl ?_
      refine g_goto hx (off := 30) (tgt := 48) (by decide +kernel) (by decide) ?_
      refine g_run hx [(.istore_n 1, 0, 0), (.iload_n 1, 0, 0)] (pc' := 50) (lo' := [some (.ref 66), some (.int 0), none, none, none]) (st' := [.int 0]) (σ' := s1) (by decide +kernel) rfl rfl ?_
      refine g_if_ge hx (off := 12) (tgt := 62) (by decide +kernel) (by decide) (fun _ => ?_) (fun c => absurd c (by decide))
      refine g_run hx [(.aload_n 0, 0, 0)] (pc' := 63) (lo' := [some (.ref 66), some (.int 0), none, none, none]) (st' := [.ref 66]) (σ' := s1) (by decide +kernel) rfl rfl ?_
      refine g_callV (rest := []) [] hx hc mk_m_pass ln_10_164 rfl (by decide +kernel) (by decide) (Nat.le_of_ble_eq_true rfl) (s_m_pass (ok_b h)) (fun r14 s14 h => ?_)
      refine g_run hx [(.aload_n 0, 0, 0), (.iconst 0, 0, 0), (.aload_n 0, 0, 0), (.getfield 23, 0, 0), (.iconst 0, 0, 0), (.iaload, 0, 0), (.iconst 1, 1, 0), (.isub, 0, 0)] (pc' := 76) (lo' := [some (.ref 66), some (.int 0), none, none, none]) (st' := [.int ((gA s14 70 0) - 1), .int 0, .ref 66]) (σ' := s14) (by decide +kernel) rfl rfl ?_
      refine g_callV (rest := []) [.int 0, .int ((gA s14 70 0) - 1)] hx hc mk_m_number ln_10_171 rfl (by decide +kernel) (by decide) (Nat.le_of_ble_eq_true rfl) (s_m_number (ok_b h)) (fun r15 s15 h => ?_)
      refine g_run hx [(.istore_n 2, 0, 0), (.aload_n 0, 0, 0), (.iload_n 2, 0, 0), (.aload_n 0, 0, 0), (.getfield 23, 0, 0), (.iconst 0, 0, 0), (.iaload, 0, 0), (.iconst 1, 1, 0), (.isub, 0, 0)] (pc' := 90) (lo' := [some (.ref 66), some (.int 0), some (.int r15), none, none]) (st' := [.int ((gA s15 70 0) - 1), .int r15, .ref 66]) (σ' := s15) (by decide +kernel) rfl rfl ?_
      refine g_callV (rest := []) [.int r15, .int ((gA s15 70 0) - 1)] hx hc mk_m_number ln_10_171 rfl (by decide +kernel) (by decide) (Nat.le_of_ble_eq_true rfl) (s_m_number (ok_b h)) (fun r16 s16 h => ?_)
      refine g_run hx [(.istore_n 3, 0, 0), (.aload_n 0, 0, 0), (.getfield 106, 0, 0)] (pc' := 98) (lo' := [some (.ref 66), some (.int 0), some (.int r15), some (.int r16), none]) (st' := [.int (gI s16 66 13)]) (σ' := s16) (by decide +kernel) rfl rfl ?_
      refine g_if_eq hx (off := 4) (tgt := 102) (by decide +kernel) (by decide) (fun c98 => ?_) (fun c98 => ?_)
      · have h := ok_t h c98
        refine g_run hx [(.iload_n 2, 0, 0), (.istore 4, 0, 0)] (pc' := 105) (lo' := [some (.ref 66), some (.int 0), some (.int r15), some (.int r16), some (.int r15)]) (st' := []) (σ' := s16) (by decide +kernel) rfl rfl ?_
        refine g_wk (lo' := [some (.ref 66), some (.int 0), none, some (.int r16), some (.int r15)]) ⟨rfl, ⟨rfl, ⟨rfl, ⟨rfl, trivial⟩⟩⟩⟩ ?_
        refine s_m_groundLine_L105 hx hc hr N _ _ _ _ h
      · have h := ok_f h c98
        exact g_vret hx hr rfl () rfl (by decide +kernel) (ok_some h)
  · have h := ok_f h c4
    exact g_vret hx hr rfl () rfl (by decide +kernel) (ok_some h)
set_option maxRecDepth 100000 in
theorem s_m_copy_73_72_L3 {y : EX} {N : Nat} {x : CX} {P : Unit × Sg → Prop} (hx : Cx 10 prog_12_method_8_code x) (hc : Cc y 6 0 x) (hr : Cr M_m_copy rvN P x) : ∀ (n : Nat) (v1 : Int32) (v3 : Int32) (v4 : Int32) (v5 : Int32) (σ : Sg), ok (f_m_copy_L3 N 63 63 72 73 n v1 v3 v4 v5 σ) P → G x 3 [some (.ref 73), some (.int v1), some (.ref 72), some (.int v3), some (.int v4), some (.int v5)] [] σ := by
  intro n
  induction n with
  | zero => intro v1 v3 v4 v5 σ h; exact ok_none h
  | succ n ih =>
    intro v1 v3 v4 v5 σ h
    rw [f_m_copy_L3] at h
    refine g_run hx [(.iload 5, 0, 0), (.iload 4, 0, 0)] (pc' := 7) (lo' := [some (.ref 73), some (.int v1), some (.ref 72), some (.int v3), some (.int v4), some (.int v5)]) (st' := [.int v4, .int v5]) (σ' := σ) (by decide +kernel) rfl rfl ?_
    refine g_ic_ge hx (off := 21) (tgt := 28) (by decide +kernel) (by decide) (fun c7 => ?_) (fun c7 => ?_)
    · have h := ok_t h c7
      exact g_vret hx hr rfl () rfl (by decide +kernel) (ok_some h)
    · have h := ok_f h c7
      refine g_run hx [(.aload_n 2, 0, 0), (.iload_n 3, 0, 0), (.iload 5, 0, 0), (.iadd, 0, 0), (.aload_n 0, 0, 0), (.iload_n 1, 0, 0), (.iload 5, 0, 0), (.iadd, 0, 0)] (pc' := 20) (lo' := [some (.ref 73), some (.int v1), some (.ref 72), some (.int v3), some (.int v4), some (.int v5)]) (st' := [.int (v1 + v5), .ref 73, .int (v3 + v5), .ref 72]) (σ' := σ) (by decide +kernel) rfl rfl ?_
      obtain ⟨c20, h⟩ := ok_g h
      refine g_iald hx (by decide +kernel) (i := 73) (n := 63) rfl c20 ?_
      obtain ⟨c21, h⟩ := ok_g h
      refine g_iast hx (by decide +kernel) (i := 72) (n := 63) rfl c21 ?_
      refine g_run hx [(.iinc 5 1, 1, 0)] (pc' := 25) (lo' := [some (.ref 73), some (.int v1), some (.ref 72), some (.int v3), some (.int v4), some (.int (v5 + 1))]) (st' := []) (σ' := sA σ 72 (v3 + v5) (gA σ 73 (v1 + v5))) (by decide +kernel) rfl rfl ?_
      refine g_goto hx (off := (-22)) (tgt := 3) (by decide +kernel) (by decide) ?_
      exact ih _ _ _ _ _ h
set_option maxRecDepth 100000 in
theorem s_m_copy_73_72 {y : EX} {N : Nat} {v1 : Int32} {v3 : Int32} {v4 : Int32} {σ : Sg} {P : Unit × Sg → Prop} (h : ok (f_m_copy N 63 63 72 73 v1 v3 v4 σ) P) : Ev y M_m_copy 0 [.ref 73, .int v1, .ref 72, .int v3, .int v4] σ rvN P := by
  refine Ev.of mk_m_copy (Nat.le_of_ble_eq_true rfl) (fun x hx hc hr => ?_)
  have hx : Cx 10 prog_12_method_8_code x := hx
  have hc : Cc y 6 0 x := hc
  show G x 0 [some (.ref 73), some (.int v1), some (.ref 72), some (.int v3), some (.int v4), none] [] σ
  unfold f_m_copy at h
  refine g_run hx [(.iconst 0, 0, 0), (.istore 5, 0, 0)] (pc' := 3) (lo' := [some (.ref 73), some (.int v1), some (.ref 72), some (.int v3), some (.int v4), some (.int 0)]) (st' := []) (σ' := σ) (by decide +kernel) rfl rfl ?_
  refine s_m_copy_73_72_L3 hx hc hr N _ _ _ _ _ h
def f_m_landLine (N : Nat) (σ : Sg) : Option (Unit × Sg) :=
  if (gA σ 70 8) ≤ 0 then
    if (gI σ 66 13) = 0 then
      (f_m_next N σ).bind fun q1 =>
      (f_m_after N 7 8 60 q1.2).bind fun q2 =>
      (f_m_after N 8 0 ((gA (sA q2.2 70 0 q2.1) 70 0) - 1) (sA q2.2 70 0 q2.1)).bind fun q3 =>
      (f_m_after N 9 0 ((gA (sA q3.2 73 60 q3.1) 70 0) - 1) (sA q3.2 73 60 q3.1)).bind fun q4 =>
      (f_m_after N 10 0 100 (sA q4.2 73 61 q4.1)).bind fun q5 =>
      if (gI (sA q5.2 70 1 q5.1) 66 13) = 0 then
        (f_m_copy N 63 63 72 73 0 0 63 (sA (sA q5.2 70 1 q5.1) 70 8 1)).bind fun q6 =>
        some ((), q6.2)
      else
        some ((), sA q5.2 70 1 q5.1)
    else
      some ((), σ)
  else
    (f_m_wrong N 3 (gI σ 66 4) σ).bind fun q7 =>
    if (gI q7.2 66 13) = 0 then
      (f_m_next N q7.2).bind fun q8 =>
      (f_m_after N 7 8 60 q8.2).bind fun q9 =>
      (f_m_after N 8 0 ((gA (sA q9.2 70 0 q9.1) 70 0) - 1) (sA q9.2 70 0 q9.1)).bind fun q10 =>
      (f_m_after N 9 0 ((gA (sA q10.2 73 60 q10.1) 70 0) - 1) (sA q10.2 73 60 q10.1)).bind fun q11 =>
      (f_m_after N 10 0 100 (sA q11.2 73 61 q11.1)).bind fun q12 =>
      if (gI (sA q12.2 70 1 q12.1) 66 13) = 0 then
        (f_m_copy N 63 63 72 73 0 0 63 (sA (sA q12.2 70 1 q12.1) 70 8 1)).bind fun q13 =>
        some ((), q13.2)
      else
        some ((), sA q12.2 70 1 q12.1)
    else
      some ((), q7.2)
set_option maxRecDepth 100000 in
theorem s_m_landLine {y : EX} {N : Nat} {σ : Sg} {P : Unit × Sg → Prop} (h : ok (f_m_landLine N σ) P) : Ev y M_m_landLine 8 [.ref 66] σ rvN P := by
  refine Ev.of mk_m_landLine (Nat.le_of_ble_eq_true rfl) (fun x hx hc hr => ?_)
  have hx : Cx 10 prog_12_method_30_code x := hx
  have hc : Cc y 1 8 x := hc
  show G x 0 [some (.ref 66)] [] σ
  unfold f_m_landLine at h
  refine g_run hx [(.aload_n 0, 0, 0), (.getfield 23, 0, 0), (.bipush 8, 8, 0), (.iaload, 0, 0)] (pc' := 7) (lo' := [some (.ref 66)]) (st' := [.int (gA σ 70 8)]) (σ' := σ) (by decide +kernel) rfl rfl ?_
  refine g_if_le hx (off := 12) (tgt := 19) (by decide +kernel) (by decide) (fun c7 => ?_) (fun c7 => ?_)
  · have h := ok_t h c7
    refine g_run hx [(.aload_n 0, 0, 0), (.getfield 106, 0, 0)] (pc' := 23) (lo' := [some (.ref 66)]) (st' := [.int (gI σ 66 13)]) (σ' := σ) (by decide +kernel) rfl rfl ?_
    refine g_if_eq hx (off := 4) (tgt := 27) (by decide +kernel) (by decide) (fun c23 => ?_) (fun c23 => ?_)
    · have h := ok_t h c23
      refine g_run hx [(.aload_n 0, 0, 0)] (pc' := 28) (lo' := [some (.ref 66)]) (st' := [.ref 66]) (σ' := σ) (by decide +kernel) rfl rfl ?_
      refine g_callV (rest := []) [] hx hc mk_m_next ln_10_127 rfl (by decide +kernel) (by decide) (Nat.le_of_ble_eq_true rfl) (s_m_next (ok_b h)) (fun r1 s1 h => ?_)
      refine g_run hx [(.aload_n 0, 0, 0), (.getfield 23, 0, 0), (.iconst 0, 0, 0), (.aload_n 0, 0, 0)] (pc' := 37) (lo' := [some (.ref 66)]) (st' := [.ref 66, .int 0, .ref 70]) (σ' := s1) (by decide +kernel) rfl rfl ?_
      refine g_ldcS (idx := 221) (sid := 7) hx hc (by decide) (by decide +kernel) ?_
      refine g_run hx [(.bipush 8, 8, 0), (.bipush 60, 60, 0)] (pc' := 43) (lo' := [some (.ref 66)]) (st' := [.int 60, .int 8, .ref (100 + 7), .ref 66, .int 0, .ref 70]) (σ' := s1) (by decide +kernel) rfl rfl ?_
      refine g_callV (rest := [.int 0, .ref 70]) [.ref (100 + 7), .int 8, .int 60] hx hc mk_m_after ln_10_223 rfl (by decide +kernel) (by decide) (Nat.le_of_ble_eq_true rfl) (s_m_after (by decide) (ok_b h)) (fun r2 s2 h => ?_)
      refine g_run hx [(.iastore, 0, 0), (.aload_n 0, 0, 0), (.getfield 32, 0, 0), (.bipush 60, 60, 0), (.aload_n 0, 0, 0)] (pc' := 54) (lo' := [some (.ref 66)]) (st' := [.ref 66, .int 60, .ref 73]) (σ' := sA s2 70 0 r2) (by decide +kernel) rfl rfl ?_
      refine g_ldcS (idx := 227) (sid := 8) hx hc (by decide) (by decide +kernel) ?_
      refine g_run hx [(.iconst 0, 0, 0), (.aload_n 0, 0, 0), (.getfield 23, 0, 0), (.iconst 0, 0, 0), (.iaload, 0, 0), (.iconst 1, 1, 0), (.isub, 0, 0)] (pc' := 65) (lo' := [some (.ref 66)]) (st' := [.int ((gA (sA s2 70 0 r2) 70 0) - 1), .int 0, .ref (100 + 8), .ref 66, .int 60, .ref 73]) (σ' := sA s2 70 0 r2) (by decide +kernel) rfl rfl ?_
      refine g_callV (rest := [.int 60, .ref 73]) [.ref (100 + 8), .int 0, .int ((gA (sA s2 70 0 r2) 70 0) - 1)] hx hc mk_m_after ln_10_223 rfl (by decide +kernel) (by decide) (Nat.le_of_ble_eq_true rfl) (s_m_after (by decide) (ok_b h)) (fun r3 s3 h => ?_)
      refine g_run hx [(.iastore, 0, 0), (.aload_n 0, 0, 0), (.getfield 32, 0, 0), (.bipush 61, 61, 0), (.aload_n 0, 0, 0)] (pc' := 76) (lo' := [some (.ref 66)]) (st' := [.ref 66, .int 61, .ref 73]) (σ' := sA s3 73 60 r3) (by decide +kernel) rfl rfl ?_
      refine g_ldcS (idx := 229) (sid := 9) hx hc (by decide) (by decide +kernel) ?_
      refine g_run hx [(.iconst 0, 0, 0), (.aload_n 0, 0, 0), (.getfield 23, 0, 0), (.iconst 0, 0, 0), (.iaload, 0, 0), (.iconst 1, 1, 0), (.isub, 0, 0)] (pc' := 87) (lo' := [some (.ref 66)]) (st' := [.int ((gA (sA s3 73 60 r3) 70 0) - 1), .int 0, .ref (100 + 9), .ref 66, .int 61, .ref 73]) (σ' := sA s3 73 60 r3) (by decide +kernel) rfl rfl ?_
      refine g_callV (rest := [.int 61, .ref 73]) [.ref (100 + 9), .int 0, .int ((gA (sA s3 73 60 r3) 70 0) - 1)] hx hc mk_m_after ln_10_223 rfl (by decide +kernel) (by decide) (Nat.le_of_ble_eq_true rfl) (s_m_after (by decide) (ok_b h)) (fun r4 s4 h => ?_)
      refine g_run hx [(.iastore, 0, 0), (.aload_n 0, 0, 0), (.getfield 23, 0, 0), (.iconst 1, 1, 0), (.aload_n 0, 0, 0)] (pc' := 97) (lo' := [some (.ref 66)]) (st' := [.ref 66, .int 1, .ref 70]) (σ' := sA s4 73 61 r4) (by decide +kernel) rfl rfl ?_
      refine g_ldcS (idx := 231) (sid := 10) hx hc (by decide) (by decide +kernel) ?_
      refine g_run hx [(.iconst 0, 0, 0), (.bipush 100, 100, 0)] (pc' := 102) (lo' := [some (.ref 66)]) (st' := [.int 100, .int 0, .ref (100 + 10), .ref 66, .int 1, .ref 70]) (σ' := sA s4 73 61 r4) (by decide +kernel) rfl rfl ?_
      refine g_callV (rest := [.int 1, .ref 70]) [.ref (100 + 10), .int 0, .int 100] hx hc mk_m_after ln_10_223 rfl (by decide +kernel) (by decide) (Nat.le_of_ble_eq_true rfl) (s_m_after (by decide) (ok_b h)) (fun r5 s5 h => ?_)
      refine g_run hx [(.iastore, 0, 0), (.aload_n 0, 0, 0), (.getfield 106, 0, 0)] (pc' := 110) (lo' := [some (.ref 66)]) (st' := [.int (gI (sA s5 70 1 r5) 66 13)]) (σ' := sA s5 70 1 r5) (by decide +kernel) rfl rfl ?_
      refine g_if_eq hx (off := 4) (tgt := 114) (by decide +kernel) (by decide) (fun c110 => ?_) (fun c110 => ?_)
      · have h := ok_t h c110
        refine g_run hx [(.aload_n 0, 0, 0), (.getfield 23, 0, 0), (.bipush 8, 8, 0), (.iconst 1, 1, 0), (.iastore, 0, 0), (.aload_n 0, 0, 0), (.getfield 32, 0, 0), (.iconst 0, 0, 0), (.aload_n 0, 0, 0), (.getfield 29, 0, 0), (.iconst 0, 0, 0), (.bipush 63, 63, 0)] (pc' := 134) (lo' := [some (.ref 66)]) (st' := [.int 63, .int 0, .ref 72, .int 0, .ref 73]) (σ' := sA (sA s5 70 1 r5) 70 8 1) (by decide +kernel) rfl rfl ?_
        refine g_callS (rest := []) [.ref 73, .int 0, .ref 72, .int 0, .int 63] hx hc mk_m_copy ln_10_183 (by decide +kernel) (by decide) (Nat.le_of_ble_eq_true rfl) (s_m_copy_73_72 (ok_b h)) (fun r6 s6 h => ?_)
        exact g_vret hx hr rfl () rfl (by decide +kernel) (ok_some h)
      · have h := ok_f h c110
        exact g_vret hx hr rfl () rfl (by decide +kernel) (ok_some h)
    · have h := ok_f h c23
      exact g_vret hx hr rfl () rfl (by decide +kernel) (ok_some h)
  · have h := ok_f h c7
    refine g_run hx [(.aload_n 0, 0, 0), (.iconst 3, 3, 0), (.aload_n 0, 0, 0), (.getfield 87, 0, 0)] (pc' := 16) (lo' := [some (.ref 66)]) (st' := [.int (gI σ 66 4), .int 3, .ref 66]) (σ' := σ) (by decide +kernel) rfl rfl ?_
    refine g_callV (rest := []) [.int 3, .int (gI σ 66 4)] hx hc mk_m_wrong ln_10_133 rfl (by decide +kernel) (by decide) (Nat.le_of_ble_eq_true rfl) (s_m_wrong (ok_b h)) (fun r7 s7 h => ?_)
    refine g_run hx [(.aload_n 0, 0, 0), (.getfield 106, 0, 0)] (pc' := 23) (lo' := [some (.ref 66)]) (st' := [.int (gI s7 66 13)]) (σ' := s7) (by decide +kernel) rfl rfl ?_
    refine g_if_eq hx (off := 4) (tgt := 27) (by decide +kernel) (by decide) (fun c23 => ?_) (fun c23 => ?_)
    · have h := ok_t h c23
      refine g_run hx [(.aload_n 0, 0, 0)] (pc' := 28) (lo' := [some (.ref 66)]) (st' := [.ref 66]) (σ' := s7) (by decide +kernel) rfl rfl ?_
      refine g_callV (rest := []) [] hx hc mk_m_next ln_10_127 rfl (by decide +kernel) (by decide) (Nat.le_of_ble_eq_true rfl) (s_m_next (ok_b h)) (fun r8 s8 h => ?_)
      refine g_run hx [(.aload_n 0, 0, 0), (.getfield 23, 0, 0), (.iconst 0, 0, 0), (.aload_n 0, 0, 0)] (pc' := 37) (lo' := [some (.ref 66)]) (st' := [.ref 66, .int 0, .ref 70]) (σ' := s8) (by decide +kernel) rfl rfl ?_
      refine g_ldcS (idx := 221) (sid := 7) hx hc (by decide) (by decide +kernel) ?_
      refine g_run hx [(.bipush 8, 8, 0), (.bipush 60, 60, 0)] (pc' := 43) (lo' := [some (.ref 66)]) (st' := [.int 60, .int 8, .ref (100 + 7), .ref 66, .int 0, .ref 70]) (σ' := s8) (by decide +kernel) rfl rfl ?_
      refine g_callV (rest := [.int 0, .ref 70]) [.ref (100 + 7), .int 8, .int 60] hx hc mk_m_after ln_10_223 rfl (by decide +kernel) (by decide) (Nat.le_of_ble_eq_true rfl) (s_m_after (by decide) (ok_b h)) (fun r9 s9 h => ?_)
      refine g_run hx [(.iastore, 0, 0), (.aload_n 0, 0, 0), (.getfield 32, 0, 0), (.bipush 60, 60, 0), (.aload_n 0, 0, 0)] (pc' := 54) (lo' := [some (.ref 66)]) (st' := [.ref 66, .int 60, .ref 73]) (σ' := sA s9 70 0 r9) (by decide +kernel) rfl rfl ?_
      refine g_ldcS (idx := 227) (sid := 8) hx hc (by decide) (by decide +kernel) ?_
      refine g_run hx [(.iconst 0, 0, 0), (.aload_n 0, 0, 0), (.getfield 23, 0, 0), (.iconst 0, 0, 0), (.iaload, 0, 0), (.iconst 1, 1, 0), (.isub, 0, 0)] (pc' := 65) (lo' := [some (.ref 66)]) (st' := [.int ((gA (sA s9 70 0 r9) 70 0) - 1), .int 0, .ref (100 + 8), .ref 66, .int 60, .ref 73]) (σ' := sA s9 70 0 r9) (by decide +kernel) rfl rfl ?_
      refine g_callV (rest := [.int 60, .ref 73]) [.ref (100 + 8), .int 0, .int ((gA (sA s9 70 0 r9) 70 0) - 1)] hx hc mk_m_after ln_10_223 rfl (by decide +kernel) (by decide) (Nat.le_of_ble_eq_true rfl) (s_m_after (by decide) (ok_b h)) (fun r10 s10 h => ?_)
      refine g_run hx [(.iastore, 0, 0), (.aload_n 0, 0, 0), (.getfield 32, 0, 0), (.bipush 61, 61, 0), (.aload_n 0, 0, 0)] (pc' := 76) (lo' := [some (.ref 66)]) (st' := [.ref 66, .int 61, .ref 73]) (σ' := sA s10 73 60 r10) (by decide +kernel) rfl rfl ?_
      refine g_ldcS (idx := 229) (sid := 9) hx hc (by decide) (by decide +kernel) ?_
      refine g_run hx [(.iconst 0, 0, 0), (.aload_n 0, 0, 0), (.getfield 23, 0, 0), (.iconst 0, 0, 0), (.iaload, 0, 0), (.iconst 1, 1, 0), (.isub, 0, 0)] (pc' := 87) (lo' := [some (.ref 66)]) (st' := [.int ((gA (sA s10 73 60 r10) 70 0) - 1), .int 0, .ref (100 + 9), .ref 66, .int 61, .ref 73]) (σ' := sA s10 73 60 r10) (by decide +kernel) rfl rfl ?_
      refine g_callV (rest := [.int 61, .ref 73]) [.ref (100 + 9), .int 0, .int ((gA (sA s10 73 60 r10) 70 0) - 1)] hx hc mk_m_after ln_10_223 rfl (by decide +kernel) (by decide) (Nat.le_of_ble_eq_true rfl) (s_m_after (by decide) (ok_b h)) (fun r11 s11 h => ?_)
      refine g_run hx [(.iastore, 0, 0), (.aload_n 0, 0, 0), (.getfield 23, 0, 0), (.iconst 1, 1, 0), (.aload_n 0, 0, 0)] (pc' := 97) (lo' := [some (.ref 66)]) (st' := [.ref 66, .int 1, .ref 70]) (σ' := sA s11 73 61 r11) (by decide +kernel) rfl rfl ?_
      refine g_ldcS (idx := 231) (sid := 10) hx hc (by decide) (by decide +kernel) ?_
      refine g_run hx [(.iconst 0, 0, 0), (.bipush 100, 100, 0)] (pc' := 102) (lo' := [some (.ref 66)]) (st' := [.int 100, .int 0, .ref (100 + 10), .ref 66, .int 1, .ref 70]) (σ' := sA s11 73 61 r11) (by decide +kernel) rfl rfl ?_
      refine g_callV (rest := [.int 1, .ref 70]) [.ref (100 + 10), .int 0, .int 100] hx hc mk_m_after ln_10_223 rfl (by decide +kernel) (by decide) (Nat.le_of_ble_eq_true rfl) (s_m_after (by decide) (ok_b h)) (fun r12 s12 h => ?_)
      refine g_run hx [(.iastore, 0, 0), (.aload_n 0, 0, 0), (.getfield 106, 0, 0)] (pc' := 110) (lo' := [some (.ref 66)]) (st' := [.int (gI (sA s12 70 1 r12) 66 13)]) (σ' := sA s12 70 1 r12) (by decide +kernel) rfl rfl ?_
      refine g_if_eq hx (off := 4) (tgt := 114) (by decide +kernel) (by decide) (fun c110 => ?_) (fun c110 => ?_)
      · have h := ok_t h c110
        refine g_run hx [(.aload_n 0, 0, 0), (.getfield 23, 0, 0), (.bipush 8, 8, 0), (.iconst 1, 1, 0), (.iastore, 0, 0), (.aload_n 0, 0, 0), (.getfield 32, 0, 0), (.iconst 0, 0, 0), (.aload_n 0, 0, 0), (.getfield 29, 0, 0), (.iconst 0, 0, 0), (.bipush 63, 63, 0)] (pc' := 134) (lo' := [some (.ref 66)]) (st' := [.int 63, .int 0, .ref 72, .int 0, .ref 73]) (σ' := sA (sA s12 70 1 r12) 70 8 1) (by decide +kernel) rfl rfl ?_
        refine g_callS (rest := []) [.ref 73, .int 0, .ref 72, .int 0, .int 63] hx hc mk_m_copy ln_10_183 (by decide +kernel) (by decide) (Nat.le_of_ble_eq_true rfl) (s_m_copy_73_72 (ok_b h)) (fun r13 s13 h => ?_)
        exact g_vret hx hr rfl () rfl (by decide +kernel) (ok_some h)
      · have h := ok_f h c110
        exact g_vret hx hr rfl () rfl (by decide +kernel) (ok_some h)
    · have h := ok_f h c23
      exact g_vret hx hr rfl () rfl (by decide +kernel) (ok_some h)
def f_m_readLine (N : Nat) (σ : Sg) : Option (Unit × Sg) :=
  (f_m_isWord N 0 σ).bind fun q1 =>
  if q1.1 = true then
    (f_m_landLine N q1.2).bind fun q15 =>
    some ((), q15.2)
  else
    (f_m_begins N 1 (b2i (decide (¬ (6 ≤ (gA q1.2 70 7))))) q1.2).bind fun q2 =>
    if q2.1 = true then
      (f_m_groundLine N q2.2).bind fun q14 =>
      some ((), q14.2)
    else
      (f_m_begins N 2 (b2i (decide (¬ (3 ≤ (gA q2.2 70 2))))) q2.2).bind fun q3 =>
      if q3.1 = true then
        (f_m_bootsLine N q3.2).bind fun q13 =>
        some ((), q13.2)
      else
        (f_m_begins N 3 (b2i (decide (¬ (6 ≤ (gA q3.2 70 3))))) q3.2).bind fun q4 =>
        if q4.1 = true then
          (f_m_placeLine N q4.2).bind fun q12 =>
          some ((), q12.2)
        else
          (f_m_begins N 4 (b2i (decide (¬ (8 ≤ (gA q4.2 70 4))))) q4.2).bind fun q5 =>
          if q5.1 = true then
            (f_m_strideLine N q5.2).bind fun q11 =>
            some ((), q11.2)
          else
            (f_m_begins N 5 (b2i (decide (¬ (4 ≤ (gA q5.2 70 5))))) q5.2).bind fun q6 =>
            if q6.1 = true then
              (f_m_unsureLine N q6.2).bind fun q10 =>
              some ((), q10.2)
            else
              (f_m_begins N 6 (b2i (decide (¬ (6 ≤ (gA q6.2 70 6))))) q6.2).bind fun q7 =>
              if q7.1 = true then
                (f_m_seenLine N q7.2).bind fun q9 =>
                some ((), q9.2)
              else
                (f_m_wrong N 1 (gI q7.2 66 4) q7.2).bind fun q8 =>
                some ((), q8.2)
set_option maxRecDepth 100000 in
theorem s_m_readLine {y : EX} {N : Nat} {σ : Sg} {P : Unit × Sg → Prop} (h : ok (f_m_readLine N σ) P) : Ev y M_m_readLine 9 [.ref 66] σ rvN P := by
  refine Ev.of mk_m_readLine (Nat.le_of_ble_eq_true rfl) (fun x hx hc hr => ?_)
  have hx : Cx 10 prog_12_method_29_code x := hx
  have hc : Cc y 1 9 x := hc
  show G x 0 [some (.ref 66)] [] σ
  unfold f_m_readLine at h
  refine g_run hx [(.aload_n 0, 0, 0)] (pc' := 1) (lo' := [some (.ref 66)]) (st' := [.ref 66]) (σ' := σ) (by decide +kernel) rfl rfl ?_
  refine g_ldcS (idx := 137) (sid := 0) hx hc (by decide) (by decide +kernel) ?_
  refine g_callV (rest := []) [.ref (100 + 0)] hx hc mk_m_isWord ln_10_123 rfl (by decide +kernel) (by decide) (Nat.le_of_ble_eq_true rfl) (s_m_isWord (by decide) (ok_b h)) (fun r1 s1 h => ?_)
  refine g_ifb_eq hx (off := 10) (tgt := 16) (by decide +kernel) (by decide) (fun c6 => ?_) (fun c6 => ?_)
  · have h := ok_f h c6
    refine g_run hx [(.aload_n 0, 0, 0)] (pc' := 17) (lo' := [some (.ref 66)]) (st' := [.ref 66]) (σ' := s1) (by decide +kernel) rfl rfl ?_
    refine g_ldcS (idx := 139) (sid := 1) hx hc (by decide) (by decide +kernel) ?_
    refine g_run hx [(.aload_n 0, 0, 0), (.getfield 23, 0, 0), (.bipush 7, 7, 0), (.iaload, 0, 0), (.bipush 6, 6, 0)] (pc' := 28) (lo' := [some (.ref 66)]) (st' := [.int 6, .int (gA s1 70 7), .ref (100 + 1), .ref 66]) (σ' := s1) (by decide +kernel) rfl rfl ?_
    have hm : G x 36 [some (.ref 66)] [.int (b2i (decide (¬ (6 ≤ (gA s1 70 7))))), .ref (100 + 1), .ref 66] s1 := by
      refine g_callV (rest := []) [.ref (100 + 1), .int (b2i (decide (¬ (6 ≤ (gA s1 70 7)))))] hx hc mk_m_begins ln_10_199 rfl (by decide +kernel) (by decide) (Nat.le_of_ble_eq_true rfl) (s_m_begins (by decide) (ok_b h)) (fun r2 s2 h => ?_)
      refine g_ifb_eq hx (off := 10) (tgt := 49) (by decide +kernel) (by decide) (fun c39 => ?_) (fun c39 => ?_)
      · have h := ok_f h c39
        refine g_run hx [(.aload_n 0, 0, 0)] (pc' := 50) (lo' := [some (.ref 66)]) (st' := [.ref 66]) (σ' := s2) (by decide +kernel) rfl rfl ?_
        refine g_ldcS (idx := 141) (sid := 2) hx hc (by decide) (by decide +kernel) ?_
        refine g_run hx [(.aload_n 0, 0, 0), (.getfield 23, 0, 0), (.iconst 2, 2, 0), (.iaload, 0, 0), (.iconst 3, 3, 0)] (pc' := 59) (lo' := [some (.ref 66)]) (st' := [.int 3, .int (gA s2 70 2), .ref (100 + 2), .ref 66]) (σ' := s2) (by decide +kernel) rfl rfl ?_
        have hm : G x 67 [some (.ref 66)] [.int (b2i (decide (¬ (3 ≤ (gA s2 70 2))))), .ref (100 + 2), .ref 66] s2 := by
          refine g_callV (rest := []) [.ref (100 + 2), .int (b2i (decide (¬ (3 ≤ (gA s2 70 2)))))] hx hc mk_m_begins ln_10_199 rfl (by decide +kernel) (by decide) (Nat.le_of_ble_eq_true rfl) (s_m_begins (by decide) (ok_b h)) (fun r3 s3 h => ?_)
          refine g_ifb_eq hx (off := 10) (tgt := 80) (by decide +kernel) (by decide) (fun c70 => ?_) (fun c70 => ?_)
          · have h := ok_f h c70
            refine g_run hx [(.aload_n 0, 0, 0)] (pc' := 81) (lo' := [some (.ref 66)]) (st' := [.ref 66]) (σ' := s3) (by decide +kernel) rfl rfl ?_
            refine g_ldcS (idx := 143) (sid := 3) hx hc (by decide) (by decide +kernel) ?_
            refine g_run hx [(.aload_n 0, 0, 0), (.getfield 23, 0, 0), (.iconst 3, 3, 0), (.iaload, 0, 0), (.bipush 6, 6, 0)] (pc' := 91) (lo' := [some (.ref 66)]) (st' := [.int 6, .int (gA s3 70 3), .ref (100 + 3), .ref 66]) (σ' := s3) (by decide +kernel) rfl rfl ?_
            have hm : G x 99 [some (.ref 66)] [.int (b2i (decide (¬ (6 ≤ (gA s3 70 3))))), .ref (100 + 3), .ref 66] s3 := by
              refine g_callV (rest := []) [.ref (100 + 3), .int (b2i (decide (¬ (6 ≤ (gA s3 70 3)))))] hx hc mk_m_begins ln_10_199 rfl (by decide +kernel) (by decide) (Nat.le_of_ble_eq_true rfl) (s_m_begins (by decide) (ok_b h)) (fun r4 s4 h => ?_)
              refine g_ifb_eq hx (off := 10) (tgt := 112) (by decide +kernel) (by decide) (fun c102 => ?_) (fun c102 => ?_)
              · have h := ok_f h c102
                refine g_run hx [(.aload_n 0, 0, 0)] (pc' := 113) (lo' := [some (.ref 66)]) (st' := [.ref 66]) (σ' := s4) (by decide +kernel) rfl rfl ?_
                refine g_ldcS (idx := 144) (sid := 4) hx hc (by decide) (by decide +kernel) ?_
                refine g_run hx [(.aload_n 0, 0, 0), (.getfield 23, 0, 0), (.iconst 4, 4, 0), (.iaload, 0, 0), (.bipush 8, 8, 0)] (pc' := 123) (lo' := [some (.ref 66)]) (st' := [.int 8, .int (gA s4 70 4), .ref (100 + 4), .ref 66]) (σ' := s4) (by decide +kernel) rfl rfl ?_
                have hm : G x 131 [some (.ref 66)] [.int (b2i (decide (¬ (8 ≤ (gA s4 70 4))))), .ref (100 + 4), .ref 66] s4 := by
                  refine g_callV (rest := []) [.ref (100 + 4), .int (b2i (decide (¬ (8 ≤ (gA s4 70 4)))))] hx hc mk_m_begins ln_10_199 rfl (by decide +kernel) (by decide) (Nat.le_of_ble_eq_true rfl) (s_m_begins (by decide) (ok_b h)) (fun r5 s5 h => ?_)
                  refine g_ifb_eq hx (off := 10) (tgt := 144) (by decide +kernel) (by decide) (fun c134 => ?_) (fun c134 => ?_)
                  · have h := ok_f h c134
                    refine g_run hx [(.aload_n 0, 0, 0)] (pc' := 145) (lo' := [some (.ref 66)]) (st' := [.ref 66]) (σ' := s5) (by decide +kernel) rfl rfl ?_
                    refine g_ldcS (idx := 146) (sid := 5) hx hc (by decide) (by decide +kernel) ?_
                    refine g_run hx [(.aload_n 0, 0, 0), (.getfield 23, 0, 0), (.iconst 5, 5, 0), (.iaload, 0, 0), (.iconst 4, 4, 0)] (pc' := 154) (lo' := [some (.ref 66)]) (st' := [.int 4, .int (gA s5 70 5), .ref (100 + 5), .ref 66]) (σ' := s5) (by decide +kernel) rfl rfl ?_
                    have hm : G x 162 [some (.ref 66)] [.int (b2i (decide (¬ (4 ≤ (gA s5 70 5))))), .ref (100 + 5), .ref 66] s5 := by
                      refine g_callV (rest := []) [.ref (100 + 5), .int (b2i (decide (¬ (4 ≤ (gA s5 70 5)))))] hx hc mk_m_begins ln_10_199 rfl (by decide +kernel) (by decide) (Nat.le_of_ble_eq_true rfl) (s_m_begins (by decide) (ok_b h)) (fun r6 s6 h => ?_)
                      refine g_ifb_eq hx (off := 10) (tgt := 175) (by decide +kernel) (by decide) (fun c165 => ?_) (fun c165 => ?_)
                      · have h := ok_f h c165
                        refine g_run hx [(.aload_n 0, 0, 0)] (pc' := 176) (lo' := [some (.ref 66)]) (st' := [.ref 66]) (σ' := s6) (by decide +kernel) rfl rfl ?_
                        refine g_ldcS (idx := 148) (sid := 6) hx hc (by decide) (by decide +kernel) ?_
                        refine g_run hx [(.aload_n 0, 0, 0), (.getfield 23, 0, 0), (.bipush 6, 6, 0), (.iaload, 0, 0), (.bipush 6, 6, 0)] (pc' := 187) (lo' := [some (.ref 66)]) (st' := [.int 6, .int (gA s6 70 6), .ref (100 + 6), .ref 66]) (σ' := s6) (by decide +kernel) rfl rfl ?_
                        have hm : G x 195 [some (.ref 66)] [.int (b2i (decide (¬ (6 ≤ (gA s6 70 6))))), .ref (100 + 6), .ref 66] s6 := by
                          refine g_callV (rest := []) [.ref (100 + 6), .int (b2i (decide (¬ (6 ≤ (gA s6 70 6)))))] hx hc mk_m_begins ln_10_199 rfl (by decide +kernel) (by decide) (Nat.le_of_ble_eq_true rfl) (s_m_begins (by decide) (ok_b h)) (fun r7 s7 h => ?_)
                          refine g_ifb_eq hx (off := 10) (tgt := 208) (by decide +kernel) (by decide) (fun c198 => ?_) (fun c198 => ?_)
                          · have h := ok_f h c198
                            refine g_run hx [(.aload_n 0, 0, 0), (.iconst 1, 1, 0), (.aload_n 0, 0, 0), (.getfield 87, 0, 0)] (pc' := 214) (lo' := [some (.ref 66)]) (st' := [.int (gI s7 66 4), .int 1, .ref 66]) (σ' := s7) (by decide +kernel) rfl rfl ?_
                            refine g_callV (rest := []) [.int 1, .int (gI s7 66 4)] hx hc mk_m_wrong ln_10_133 rfl (by decide +kernel) (by decide) (Nat.le_of_ble_eq_true rfl) (s_m_wrong (ok_b h)) (fun r8 s8 h => ?_)
                            exact g_vret hx hr rfl () rfl (by decide +kernel) (ok_some h)
                          · have h := ok_t h c198
                            refine g_run hx [(.aload_n 0, 0, 0)] (pc' := 202) (lo' := [some (.ref 66)]) (st' := [.ref 66]) (σ' := s7) (by decide +kernel) rfl rfl ?_
                            refine g_callV (rest := []) [] hx hc mk_m_seenLine ln_10_218 rfl (by decide +kernel) (by decide) (Nat.le_of_ble_eq_true rfl) (s_m_seenLine (ok_b h)) (fun r9 s9 h => ?_)
                            refine g_goto hx (off := 12) (tgt := 217) (by decide +kernel) (by decide) ?_
                            exact g_vret hx hr rfl () rfl (by decide +kernel) (ok_some h)
                        refine g_ic_ge hx (off := 7) (tgt := 194) (by decide +kernel) (by decide) (fun c187 => ?_) (fun c187 => ?_)
                        · refine g_run hx [(.iconst 0, 0, 0)] (pc' := 195) (lo' := [some (.ref 66)]) (st' := [.int 0, .ref (100 + 6), .ref 66]) (σ' := s6) (by decide +kernel) rfl rfl ?_
                          exact g_bf (fun z => z c187) hm
                        · refine g_run hx [(.iconst 1, 1, 0)] (pc' := 191) (lo' := [some (.ref 66)]) (st' := [.int 1, .ref (100 + 6), .ref 66]) (σ' := s6) (by decide +kernel) rfl rfl ?_
                          refine g_goto hx (off := 4) (tgt := 195) (by decide +kernel) (by decide) ?_
                          exact g_bt c187 hm
                      · have h := ok_t h c165
                        refine g_run hx [(.aload_n 0, 0, 0)] (pc' := 169) (lo' := [some (.ref 66)]) (st' := [.ref 66]) (σ' := s6) (by decide +kernel) rfl rfl ?_
                        refine g_callV (rest := []) [] hx hc mk_m_unsureLine ln_10_215 rfl (by decide +kernel) (by decide) (Nat.le_of_ble_eq_true rfl) (s_m_unsureLine (ok_b h)) (fun r10 s10 h => ?_)
                        refine g_goto hx (off := 45) (tgt := 217) (by decide +kernel) (by decide) ?_
                        exact g_vret hx hr rfl () rfl (by decide +kernel) (ok_some h)
                    refine g_ic_ge hx (off := 7) (tgt := 161) (by decide +kernel) (by decide) (fun c154 => ?_) (fun c154 => ?_)
                    · refine g_run hx [(.iconst 0, 0, 0)] (pc' := 162) (lo' := [some (.ref 66)]) (st' := [.int 0, .ref (100 + 5), .ref 66]) (σ' := s5) (by decide +kernel) rfl rfl ?_
                      exact g_bf (fun z => z c154) hm
                    · refine g_run hx [(.iconst 1, 1, 0)] (pc' := 158) (lo' := [some (.ref 66)]) (st' := [.int 1, .ref (100 + 5), .ref 66]) (σ' := s5) (by decide +kernel) rfl rfl ?_
                      refine g_goto hx (off := 4) (tgt := 162) (by decide +kernel) (by decide) ?_
                      exact g_bt c154 hm
                  · have h := ok_t h c134
                    refine g_run hx [(.aload_n 0, 0, 0)] (pc' := 138) (lo' := [some (.ref 66)]) (st' := [.ref 66]) (σ' := s5) (by decide +kernel) rfl rfl ?_
                    refine g_callV (rest := []) [] hx hc mk_m_strideLine ln_10_212 rfl (by decide +kernel) (by decide) (Nat.le_of_ble_eq_true rfl) (s_m_strideLine (ok_b h)) (fun r11 s11 h => ?_)
                    refine g_goto hx (off := 76) (tgt := 217) (by decide +kernel) (by decide) ?_
                    exact g_vret hx hr rfl () rfl (by decide +kernel) (ok_some h)
                refine g_ic_ge hx (off := 7) (tgt := 130) (by decide +kernel) (by decide) (fun c123 => ?_) (fun c123 => ?_)
                · refine g_run hx [(.iconst 0, 0, 0)] (pc' := 131) (lo' := [some (.ref 66)]) (st' := [.int 0, .ref (100 + 4), .ref 66]) (σ' := s4) (by decide +kernel) rfl rfl ?_
                  exact g_bf (fun z => z c123) hm
                · refine g_run hx [(.iconst 1, 1, 0)] (pc' := 127) (lo' := [some (.ref 66)]) (st' := [.int 1, .ref (100 + 4), .ref 66]) (σ' := s4) (by decide +kernel) rfl rfl ?_
                  refine g_goto hx (off := 4) (tgt := 131) (by decide +kernel) (by decide) ?_
                  exact g_bt c123 hm
              · have h := ok_t h c102
                refine g_run hx [(.aload_n 0, 0, 0)] (pc' := 106) (lo' := [some (.ref 66)]) (st' := [.ref 66]) (σ' := s4) (by decide +kernel) rfl rfl ?_
                refine g_callV (rest := []) [] hx hc mk_m_placeLine ln_10_209 rfl (by decide +kernel) (by decide) (Nat.le_of_ble_eq_true rfl) (s_m_placeLine (ok_b h)) (fun r12 s12 h => ?_)
                refine g_goto hx (off := 108) (tgt := 217) (by decide +kernel) (by decide) ?_
                exact g_vret hx hr rfl () rfl (by decide +kernel) (ok_some h)
            refine g_ic_ge hx (off := 7) (tgt := 98) (by decide +kernel) (by decide) (fun c91 => ?_) (fun c91 => ?_)
            · refine g_run hx [(.iconst 0, 0, 0)] (pc' := 99) (lo' := [some (.ref 66)]) (st' := [.int 0, .ref (100 + 3), .ref 66]) (σ' := s3) (by decide +kernel) rfl rfl ?_
              exact g_bf (fun z => z c91) hm
            · refine g_run hx [(.iconst 1, 1, 0)] (pc' := 95) (lo' := [some (.ref 66)]) (st' := [.int 1, .ref (100 + 3), .ref 66]) (σ' := s3) (by decide +kernel) rfl rfl ?_
              refine g_goto hx (off := 4) (tgt := 99) (by decide +kernel) (by decide) ?_
              exact g_bt c91 hm
          · have h := ok_t h c70
            refine g_run hx [(.aload_n 0, 0, 0)] (pc' := 74) (lo' := [some (.ref 66)]) (st' := [.ref 66]) (σ' := s3) (by decide +kernel) rfl rfl ?_
            refine g_callV (rest := []) [] hx hc mk_m_bootsLine ln_10_206 rfl (by decide +kernel) (by decide) (Nat.le_of_ble_eq_true rfl) (s_m_bootsLine (ok_b h)) (fun r13 s13 h => ?_)
            refine g_goto hx (off := 140) (tgt := 217) (by decide +kernel) (by decide) ?_
            exact g_vret hx hr rfl () rfl (by decide +kernel) (ok_some h)
        refine g_ic_ge hx (off := 7) (tgt := 66) (by decide +kernel) (by decide) (fun c59 => ?_) (fun c59 => ?_)
        · refine g_run hx [(.iconst 0, 0, 0)] (pc' := 67) (lo' := [some (.ref 66)]) (st' := [.int 0, .ref (100 + 2), .ref 66]) (σ' := s2) (by decide +kernel) rfl rfl ?_
          exact g_bf (fun z => z c59) hm
        · refine g_run hx [(.iconst 1, 1, 0)] (pc' := 63) (lo' := [some (.ref 66)]) (st' := [.int 1, .ref (100 + 2), .ref 66]) (σ' := s2) (by decide +kernel) rfl rfl ?_
          refine g_goto hx (off := 4) (tgt := 67) (by decide +kernel) (by decide) ?_
          exact g_bt c59 hm
      · have h := ok_t h c39
        refine g_run hx [(.aload_n 0, 0, 0)] (pc' := 43) (lo' := [some (.ref 66)]) (st' := [.ref 66]) (σ' := s2) (by decide +kernel) rfl rfl ?_
        refine g_callV (rest := []) [] hx hc mk_m_groundLine ln_10_203 rfl (by decide +kernel) (by decide) (Nat.le_of_ble_eq_true rfl) (s_m_groundLine (ok_b h)) (fun r14 s14 h => ?_)
        refine g_goto hx (off := 171) (tgt := 217) (by decide +kernel) (by decide) ?_
        exact g_vret hx hr rfl () rfl (by decide +kernel) (ok_some h)
    refine g_ic_ge hx (off := 7) (tgt := 35) (by decide +kernel) (by decide) (fun c28 => ?_) (fun c28 => ?_)
    · refine g_run hx [(.iconst 0, 0, 0)] (pc' := 36) (lo' := [some (.ref 66)]) (st' := [.int 0, .ref (100 + 1), .ref 66]) (σ' := s1) (by decide +kernel) rfl rfl ?_
      exact g_bf (fun z => z c28) hm
    · refine g_run hx [(.iconst 1, 1, 0)] (pc' := 32) (lo' := [some (.ref 66)]) (st' := [.int 1, .ref (100 + 1), .ref 66]) (σ' := s1) (by decide +kernel) rfl rfl ?_
      refine g_goto hx (off := 4) (tgt := 36) (by decide +kernel) (by decide) ?_
      exact g_bt c28 hm
  · have h := ok_t h c6
    refine g_run hx [(.aload_n 0, 0, 0)] (pc' := 10) (lo' := [some (.ref 66)]) (st' := [.ref 66]) (σ' := s1) (by decide +kernel) rfl rfl ?_
    refine g_callV (rest := []) [] hx hc mk_m_landLine ln_10_196 rfl (by decide +kernel) (by decide) (Nat.le_of_ble_eq_true rfl) (s_m_landLine (ok_b h)) (fun r15 s15 h => ?_)
    refine g_goto hx (off := 204) (tgt := 217) (by decide +kernel) (by decide) ?_
    exact g_vret hx hr rfl () rfl (by decide +kernel) (ok_some h)
set_option maxRecDepth 100000 in
theorem s_m_copy_70_69_L3 {y : EX} {N : Nat} {x : CX} {P : Unit × Sg → Prop} (hx : Cx 10 prog_12_method_8_code x) (hc : Cc y 6 0 x) (hr : Cr M_m_copy rvN P x) : ∀ (n : Nat) (v1 : Int32) (v3 : Int32) (v4 : Int32) (v5 : Int32) (σ : Sg), ok (f_m_copy_L3 N 189 189 69 70 n v1 v3 v4 v5 σ) P → G x 3 [some (.ref 70), some (.int v1), some (.ref 69), some (.int v3), some (.int v4), some (.int v5)] [] σ := by
  intro n
  induction n with
  | zero => intro v1 v3 v4 v5 σ h; exact ok_none h
  | succ n ih =>
    intro v1 v3 v4 v5 σ h
    rw [f_m_copy_L3] at h
    refine g_run hx [(.iload 5, 0, 0), (.iload 4, 0, 0)] (pc' := 7) (lo' := [some (.ref 70), some (.int v1), some (.ref 69), some (.int v3), some (.int v4), some (.int v5)]) (st' := [.int v4, .int v5]) (σ' := σ) (by decide +kernel) rfl rfl ?_
    refine g_ic_ge hx (off := 21) (tgt := 28) (by decide +kernel) (by decide) (fun c7 => ?_) (fun c7 => ?_)
    · have h := ok_t h c7
      exact g_vret hx hr rfl () rfl (by decide +kernel) (ok_some h)
    · have h := ok_f h c7
      refine g_run hx [(.aload_n 2, 0, 0), (.iload_n 3, 0, 0), (.iload 5, 0, 0), (.iadd, 0, 0), (.aload_n 0, 0, 0), (.iload_n 1, 0, 0), (.iload 5, 0, 0), (.iadd, 0, 0)] (pc' := 20) (lo' := [some (.ref 70), some (.int v1), some (.ref 69), some (.int v3), some (.int v4), some (.int v5)]) (st' := [.int (v1 + v5), .ref 70, .int (v3 + v5), .ref 69]) (σ' := σ) (by decide +kernel) rfl rfl ?_
      obtain ⟨c20, h⟩ := ok_g h
      refine g_iald hx (by decide +kernel) (i := 70) (n := 189) rfl c20 ?_
      obtain ⟨c21, h⟩ := ok_g h
      refine g_iast hx (by decide +kernel) (i := 69) (n := 189) rfl c21 ?_
      refine g_run hx [(.iinc 5 1, 1, 0)] (pc' := 25) (lo' := [some (.ref 70), some (.int v1), some (.ref 69), some (.int v3), some (.int v4), some (.int (v5 + 1))]) (st' := []) (σ' := sA σ 69 (v3 + v5) (gA σ 70 (v1 + v5))) (by decide +kernel) rfl rfl ?_
      refine g_goto hx (off := (-22)) (tgt := 3) (by decide +kernel) (by decide) ?_
      exact ih _ _ _ _ _ h
set_option maxRecDepth 100000 in
theorem s_m_copy_70_69 {y : EX} {N : Nat} {v1 : Int32} {v3 : Int32} {v4 : Int32} {σ : Sg} {P : Unit × Sg → Prop} (h : ok (f_m_copy N 189 189 69 70 v1 v3 v4 σ) P) : Ev y M_m_copy 0 [.ref 70, .int v1, .ref 69, .int v3, .int v4] σ rvN P := by
  refine Ev.of mk_m_copy (Nat.le_of_ble_eq_true rfl) (fun x hx hc hr => ?_)
  have hx : Cx 10 prog_12_method_8_code x := hx
  have hc : Cc y 6 0 x := hc
  show G x 0 [some (.ref 70), some (.int v1), some (.ref 69), some (.int v3), some (.int v4), none] [] σ
  unfold f_m_copy at h
  refine g_run hx [(.iconst 0, 0, 0), (.istore 5, 0, 0)] (pc' := 3) (lo' := [some (.ref 70), some (.int v1), some (.ref 69), some (.int v3), some (.int v4), some (.int 0)]) (st' := []) (σ' := σ) (by decide +kernel) rfl rfl ?_
  refine s_m_copy_70_69_L3 hx hc hr N _ _ _ _ _ h
set_option maxRecDepth 100000 in
theorem s_m_copy_72_71_L3 {y : EX} {N : Nat} {x : CX} {P : Unit × Sg → Prop} (hx : Cx 10 prog_12_method_8_code x) (hc : Cc y 6 0 x) (hr : Cr M_m_copy rvN P x) : ∀ (n : Nat) (v1 : Int32) (v3 : Int32) (v4 : Int32) (v5 : Int32) (σ : Sg), ok (f_m_copy_L3 N 63 63 71 72 n v1 v3 v4 v5 σ) P → G x 3 [some (.ref 72), some (.int v1), some (.ref 71), some (.int v3), some (.int v4), some (.int v5)] [] σ := by
  intro n
  induction n with
  | zero => intro v1 v3 v4 v5 σ h; exact ok_none h
  | succ n ih =>
    intro v1 v3 v4 v5 σ h
    rw [f_m_copy_L3] at h
    refine g_run hx [(.iload 5, 0, 0), (.iload 4, 0, 0)] (pc' := 7) (lo' := [some (.ref 72), some (.int v1), some (.ref 71), some (.int v3), some (.int v4), some (.int v5)]) (st' := [.int v4, .int v5]) (σ' := σ) (by decide +kernel) rfl rfl ?_
    refine g_ic_ge hx (off := 21) (tgt := 28) (by decide +kernel) (by decide) (fun c7 => ?_) (fun c7 => ?_)
    · have h := ok_t h c7
      exact g_vret hx hr rfl () rfl (by decide +kernel) (ok_some h)
    · have h := ok_f h c7
      refine g_run hx [(.aload_n 2, 0, 0), (.iload_n 3, 0, 0), (.iload 5, 0, 0), (.iadd, 0, 0), (.aload_n 0, 0, 0), (.iload_n 1, 0, 0), (.iload 5, 0, 0), (.iadd, 0, 0)] (pc' := 20) (lo' := [some (.ref 72), some (.int v1), some (.ref 71), some (.int v3), some (.int v4), some (.int v5)]) (st' := [.int (v1 + v5), .ref 72, .int (v3 + v5), .ref 71]) (σ' := σ) (by decide +kernel) rfl rfl ?_
      obtain ⟨c20, h⟩ := ok_g h
      refine g_iald hx (by decide +kernel) (i := 72) (n := 63) rfl c20 ?_
      obtain ⟨c21, h⟩ := ok_g h
      refine g_iast hx (by decide +kernel) (i := 71) (n := 63) rfl c21 ?_
      refine g_run hx [(.iinc 5 1, 1, 0)] (pc' := 25) (lo' := [some (.ref 72), some (.int v1), some (.ref 71), some (.int v3), some (.int v4), some (.int (v5 + 1))]) (st' := []) (σ' := sA σ 71 (v3 + v5) (gA σ 72 (v1 + v5))) (by decide +kernel) rfl rfl ?_
      refine g_goto hx (off := (-22)) (tgt := 3) (by decide +kernel) (by decide) ?_
      exact ih _ _ _ _ _ h
set_option maxRecDepth 100000 in
theorem s_m_copy_72_71 {y : EX} {N : Nat} {v1 : Int32} {v3 : Int32} {v4 : Int32} {σ : Sg} {P : Unit × Sg → Prop} (h : ok (f_m_copy N 63 63 71 72 v1 v3 v4 σ) P) : Ev y M_m_copy 0 [.ref 72, .int v1, .ref 71, .int v3, .int v4] σ rvN P := by
  refine Ev.of mk_m_copy (Nat.le_of_ble_eq_true rfl) (fun x hx hc hr => ?_)
  have hx : Cx 10 prog_12_method_8_code x := hx
  have hc : Cc y 6 0 x := hc
  show G x 0 [some (.ref 72), some (.int v1), some (.ref 71), some (.int v3), some (.int v4), none] [] σ
  unfold f_m_copy at h
  refine g_run hx [(.iconst 0, 0, 0), (.istore 5, 0, 0)] (pc' := 3) (lo' := [some (.ref 72), some (.int v1), some (.ref 71), some (.int v3), some (.int v4), some (.int 0)]) (st' := []) (σ' := σ) (by decide +kernel) rfl rfl ?_
  refine s_m_copy_72_71_L3 hx hc hr N _ _ _ _ _ h
set_option maxRecDepth 100000 in
theorem s_m_copy_73_74_L3 {y : EX} {N : Nat} {x : CX} {P : Unit × Sg → Prop} (hx : Cx 10 prog_12_method_8_code x) (hc : Cc y 6 0 x) (hr : Cr M_m_copy rvN P x) : ∀ (n : Nat) (v1 : Int32) (v3 : Int32) (v4 : Int32) (v5 : Int32) (σ : Sg), ok (f_m_copy_L3 N 63 63 74 73 n v1 v3 v4 v5 σ) P → G x 3 [some (.ref 73), some (.int v1), some (.ref 74), some (.int v3), some (.int v4), some (.int v5)] [] σ := by
  intro n
  induction n with
  | zero => intro v1 v3 v4 v5 σ h; exact ok_none h
  | succ n ih =>
    intro v1 v3 v4 v5 σ h
    rw [f_m_copy_L3] at h
    refine g_run hx [(.iload 5, 0, 0), (.iload 4, 0, 0)] (pc' := 7) (lo' := [some (.ref 73), some (.int v1), some (.ref 74), some (.int v3), some (.int v4), some (.int v5)]) (st' := [.int v4, .int v5]) (σ' := σ) (by decide +kernel) rfl rfl ?_
    refine g_ic_ge hx (off := 21) (tgt := 28) (by decide +kernel) (by decide) (fun c7 => ?_) (fun c7 => ?_)
    · have h := ok_t h c7
      exact g_vret hx hr rfl () rfl (by decide +kernel) (ok_some h)
    · have h := ok_f h c7
      refine g_run hx [(.aload_n 2, 0, 0), (.iload_n 3, 0, 0), (.iload 5, 0, 0), (.iadd, 0, 0), (.aload_n 0, 0, 0), (.iload_n 1, 0, 0), (.iload 5, 0, 0), (.iadd, 0, 0)] (pc' := 20) (lo' := [some (.ref 73), some (.int v1), some (.ref 74), some (.int v3), some (.int v4), some (.int v5)]) (st' := [.int (v1 + v5), .ref 73, .int (v3 + v5), .ref 74]) (σ' := σ) (by decide +kernel) rfl rfl ?_
      obtain ⟨c20, h⟩ := ok_g h
      refine g_iald hx (by decide +kernel) (i := 73) (n := 63) rfl c20 ?_
      obtain ⟨c21, h⟩ := ok_g h
      refine g_iast hx (by decide +kernel) (i := 74) (n := 63) rfl c21 ?_
      refine g_run hx [(.iinc 5 1, 1, 0)] (pc' := 25) (lo' := [some (.ref 73), some (.int v1), some (.ref 74), some (.int v3), some (.int v4), some (.int (v5 + 1))]) (st' := []) (σ' := sA σ 74 (v3 + v5) (gA σ 73 (v1 + v5))) (by decide +kernel) rfl rfl ?_
      refine g_goto hx (off := (-22)) (tgt := 3) (by decide +kernel) (by decide) ?_
      exact ih _ _ _ _ _ h
set_option maxRecDepth 100000 in
theorem s_m_copy_73_74 {y : EX} {N : Nat} {v1 : Int32} {v3 : Int32} {v4 : Int32} {σ : Sg} {P : Unit × Sg → Prop} (h : ok (f_m_copy N 63 63 74 73 v1 v3 v4 σ) P) : Ev y M_m_copy 0 [.ref 73, .int v1, .ref 74, .int v3, .int v4] σ rvN P := by
  refine Ev.of mk_m_copy (Nat.le_of_ble_eq_true rfl) (fun x hx hc hr => ?_)
  have hx : Cx 10 prog_12_method_8_code x := hx
  have hc : Cc y 6 0 x := hc
  show G x 0 [some (.ref 73), some (.int v1), some (.ref 74), some (.int v3), some (.int v4), none] [] σ
  unfold f_m_copy at h
  refine g_run hx [(.iconst 0, 0, 0), (.istore 5, 0, 0)] (pc' := 3) (lo' := [some (.ref 73), some (.int v1), some (.ref 74), some (.int v3), some (.int v4), some (.int 0)]) (st' := []) (σ' := σ) (by decide +kernel) rfl rfl ?_
  refine s_m_copy_73_74_L3 hx hc hr N _ _ _ _ _ h
def f_m_land_L39 (N : Nat) : Nat → Int32 → Int32 → Sg → (Int32 → Sg → Option (Int32 × Sg)) → Option (Int32 × Sg)
  | 0, _, _, _, _ => none
  | n + 1, v1, v2, σ, k59 =>
    if 189 ≤ v2 then
      k59 v1 σ
    else
      if vin v2 189 then
      f_m_land_L39 N n v1 (v2 + 1) (sA σ 70 v2 0) k59
      else none
def f_m_land_L61 (N : Nat) : Nat → Int32 → Int32 → Sg → (Int32 → Sg → Option (Int32 × Sg)) → Option (Int32 × Sg)
  | 0, _, _, _, _ => none
  | n + 1, v1, v2, σ, k80 =>
    if 63 ≤ v2 then
      k80 v1 σ
    else
      if vin v2 63 then
      f_m_land_L61 N n v1 (v2 + 1) (sA σ 73 v2 0) k80
      else none
def f_m_land_L98 (N : Nat) : Nat → Sg → (Sg → Option (Int32 × Sg)) → Option (Int32 × Sg)
  | 0, _, _ => none
  | n + 1, σ, k125 =>
    if (gI σ 66 13) = 0 then
      if (gI σ 66 6) = 59 then
        (f_m_next N σ).bind fun q7 =>
        (f_m_readLine N q7.2).bind fun q8 =>
        f_m_land_L98 N n q8.2 k125
      else
        k125 σ
    else
      k125 σ
def f_m_land (N : Nat) (v1 : Int32) (σ : Sg) : Option (Int32 × Sg) :=
  (f_m_anew N σ).bind fun q1 =>
  (f_m_in N v1 0 (gI q1.2 66 2) q1.2).bind fun q2 =>
  if q2.1 = true then
    f_m_land_L39 N N v1 0 (sI (sI (sI q2.2 66 2 0) 66 9 0) 66 13 0)
      (fun (w1 : Int32) (t3 : Sg) =>
        f_m_land_L61 N N w1 0 t3
          (fun (w1 : Int32) (t4 : Sg) =>
            (f_m_next N (sI (sI t4 66 3 w1) 66 5 0)).bind fun q5 =>
            (f_m_readLine N q5.2).bind fun q6 =>
            f_m_land_L98 N N q6.2
              (fun (t9 : Sg) =>
                if (gI t9 66 13) = 0 then
                  if (gI t9 66 6) = 0 then
                    if (gI t9 66 13) = 0 then
                      if (gA t9 70 8) = 0 then
                        (f_m_wrong N 6 (gI t9 66 4) t9).bind fun q32 =>
                        if (gI q32.2 66 13) = 0 then
                          (f_m_copy N 189 189 69 70 0 0 189 q32.2).bind fun q33 =>
                          (f_m_copy N 63 63 71 72 0 0 63 q33.2).bind fun q34 =>
                          (f_m_copy N 63 63 74 73 0 0 63 q34.2).bind fun q35 =>
                          some ((gA (sI (sI (sI q35.2 66 14 1) 66 24 0) 66 25 0) 69 0), sI (sI (sI q35.2 66 14 1) 66 24 0) 66 25 0)
                        else
                          (f_m_no N 4 q32.2).bind fun q36 =>
                          some (q36.1, q36.2)
                      else
                        if (gA t9 70 2) = 0 then
                          (f_m_wrong N 6 (gI t9 66 4) t9).bind fun q41 =>
                          if (gI q41.2 66 13) = 0 then
                            (f_m_copy N 189 189 69 70 0 0 189 q41.2).bind fun q42 =>
                            (f_m_copy N 63 63 71 72 0 0 63 q42.2).bind fun q43 =>
                            (f_m_copy N 63 63 74 73 0 0 63 q43.2).bind fun q44 =>
                            some ((gA (sI (sI (sI q44.2 66 14 1) 66 24 0) 66 25 0) 69 0), sI (sI (sI q44.2 66 14 1) 66 24 0) 66 25 0)
                          else
                            (f_m_no N 4 q41.2).bind fun q45 =>
                            some (q45.1, q45.2)
                        else
                          if (gI t9 66 13) = 0 then
                            (f_m_copy N 189 189 69 70 0 0 189 t9).bind fun q37 =>
                            (f_m_copy N 63 63 71 72 0 0 63 q37.2).bind fun q38 =>
                            (f_m_copy N 63 63 74 73 0 0 63 q38.2).bind fun q39 =>
                            some ((gA (sI (sI (sI q39.2 66 14 1) 66 24 0) 66 25 0) 69 0), sI (sI (sI q39.2 66 14 1) 66 24 0) 66 25 0)
                          else
                            (f_m_no N 4 t9).bind fun q40 =>
                            some (q40.1, q40.2)
                    else
                      if (gI t9 66 13) = 0 then
                        (f_m_copy N 189 189 69 70 0 0 189 t9).bind fun q28 =>
                        (f_m_copy N 63 63 71 72 0 0 63 q28.2).bind fun q29 =>
                        (f_m_copy N 63 63 74 73 0 0 63 q29.2).bind fun q30 =>
                        some ((gA (sI (sI (sI q30.2 66 14 1) 66 24 0) 66 25 0) 69 0), sI (sI (sI q30.2 66 14 1) 66 24 0) 66 25 0)
                      else
                        (f_m_no N 4 t9).bind fun q31 =>
                        some (q31.1, q31.2)
                  else
                    (f_m_wrong N 1 (gI t9 66 4) t9).bind fun q46 =>
                    if (gI q46.2 66 13) = 0 then
                      if (gA q46.2 70 8) = 0 then
                        (f_m_wrong N 6 (gI q46.2 66 4) q46.2).bind fun q51 =>
                        if (gI q51.2 66 13) = 0 then
                          (f_m_copy N 189 189 69 70 0 0 189 q51.2).bind fun q52 =>
                          (f_m_copy N 63 63 71 72 0 0 63 q52.2).bind fun q53 =>
                          (f_m_copy N 63 63 74 73 0 0 63 q53.2).bind fun q54 =>
                          some ((gA (sI (sI (sI q54.2 66 14 1) 66 24 0) 66 25 0) 69 0), sI (sI (sI q54.2 66 14 1) 66 24 0) 66 25 0)
                        else
                          (f_m_no N 4 q51.2).bind fun q55 =>
                          some (q55.1, q55.2)
                      else
                        if (gA q46.2 70 2) = 0 then
                          (f_m_wrong N 6 (gI q46.2 66 4) q46.2).bind fun q60 =>
                          if (gI q60.2 66 13) = 0 then
                            (f_m_copy N 189 189 69 70 0 0 189 q60.2).bind fun q61 =>
                            (f_m_copy N 63 63 71 72 0 0 63 q61.2).bind fun q62 =>
                            (f_m_copy N 63 63 74 73 0 0 63 q62.2).bind fun q63 =>
                            some ((gA (sI (sI (sI q63.2 66 14 1) 66 24 0) 66 25 0) 69 0), sI (sI (sI q63.2 66 14 1) 66 24 0) 66 25 0)
                          else
                            (f_m_no N 4 q60.2).bind fun q64 =>
                            some (q64.1, q64.2)
                        else
                          if (gI q46.2 66 13) = 0 then
                            (f_m_copy N 189 189 69 70 0 0 189 q46.2).bind fun q56 =>
                            (f_m_copy N 63 63 71 72 0 0 63 q56.2).bind fun q57 =>
                            (f_m_copy N 63 63 74 73 0 0 63 q57.2).bind fun q58 =>
                            some ((gA (sI (sI (sI q58.2 66 14 1) 66 24 0) 66 25 0) 69 0), sI (sI (sI q58.2 66 14 1) 66 24 0) 66 25 0)
                          else
                            (f_m_no N 4 q46.2).bind fun q59 =>
                            some (q59.1, q59.2)
                    else
                      if (gI q46.2 66 13) = 0 then
                        (f_m_copy N 189 189 69 70 0 0 189 q46.2).bind fun q47 =>
                        (f_m_copy N 63 63 71 72 0 0 63 q47.2).bind fun q48 =>
                        (f_m_copy N 63 63 74 73 0 0 63 q48.2).bind fun q49 =>
                        some ((gA (sI (sI (sI q49.2 66 14 1) 66 24 0) 66 25 0) 69 0), sI (sI (sI q49.2 66 14 1) 66 24 0) 66 25 0)
                      else
                        (f_m_no N 4 q46.2).bind fun q50 =>
                        some (q50.1, q50.2)
                else
                  if (gI t9 66 13) = 0 then
                    if (gA t9 70 8) = 0 then
                      (f_m_wrong N 6 (gI t9 66 4) t9).bind fun q14 =>
                      if (gI q14.2 66 13) = 0 then
                        (f_m_copy N 189 189 69 70 0 0 189 q14.2).bind fun q15 =>
                        (f_m_copy N 63 63 71 72 0 0 63 q15.2).bind fun q16 =>
                        (f_m_copy N 63 63 74 73 0 0 63 q16.2).bind fun q17 =>
                        some ((gA (sI (sI (sI q17.2 66 14 1) 66 24 0) 66 25 0) 69 0), sI (sI (sI q17.2 66 14 1) 66 24 0) 66 25 0)
                      else
                        (f_m_no N 4 q14.2).bind fun q18 =>
                        some (q18.1, q18.2)
                    else
                      if (gA t9 70 2) = 0 then
                        (f_m_wrong N 6 (gI t9 66 4) t9).bind fun q23 =>
                        if (gI q23.2 66 13) = 0 then
                          (f_m_copy N 189 189 69 70 0 0 189 q23.2).bind fun q24 =>
                          (f_m_copy N 63 63 71 72 0 0 63 q24.2).bind fun q25 =>
                          (f_m_copy N 63 63 74 73 0 0 63 q25.2).bind fun q26 =>
                          some ((gA (sI (sI (sI q26.2 66 14 1) 66 24 0) 66 25 0) 69 0), sI (sI (sI q26.2 66 14 1) 66 24 0) 66 25 0)
                        else
                          (f_m_no N 4 q23.2).bind fun q27 =>
                          some (q27.1, q27.2)
                      else
                        if (gI t9 66 13) = 0 then
                          (f_m_copy N 189 189 69 70 0 0 189 t9).bind fun q19 =>
                          (f_m_copy N 63 63 71 72 0 0 63 q19.2).bind fun q20 =>
                          (f_m_copy N 63 63 74 73 0 0 63 q20.2).bind fun q21 =>
                          some ((gA (sI (sI (sI q21.2 66 14 1) 66 24 0) 66 25 0) 69 0), sI (sI (sI q21.2 66 14 1) 66 24 0) 66 25 0)
                        else
                          (f_m_no N 4 t9).bind fun q22 =>
                          some (q22.1, q22.2)
                  else
                    if (gI t9 66 13) = 0 then
                      (f_m_copy N 189 189 69 70 0 0 189 t9).bind fun q10 =>
                      (f_m_copy N 63 63 71 72 0 0 63 q10.2).bind fun q11 =>
                      (f_m_copy N 63 63 74 73 0 0 63 q11.2).bind fun q12 =>
                      some ((gA (sI (sI (sI q12.2 66 14 1) 66 24 0) 66 25 0) 69 0), sI (sI (sI q12.2 66 14 1) 66 24 0) 66 25 0)
                    else
                      (f_m_no N 4 t9).bind fun q13 =>
                      some (q13.1, q13.2))))
  else
    (f_m_no N 2 q2.2).bind fun q65 =>
    some (q65.1, q65.2)
set_option maxRecDepth 100000 in
theorem s_m_land_L39 {y : EX} {N : Nat} {x : CX} {P : Int32 × Sg → Prop} (hx : Cx 10 prog_12_method_27_code x) (hc : Cc y 3 10 x) (hr : Cr M_m_land rvI P x) : ∀ (n : Nat) (v1 : Int32) (v2 : Int32) (σ : Sg) (k59 : Int32 → Sg → Option (Int32 × Sg)) (hk59 : ∀ (w1 : Int32) (t : Sg), ok (k59 w1 t) P → G x 59 [some (.ref 66), some (.int w1), none] [] t), ok (f_m_land_L39 N n v1 v2 σ k59) P → G x 39 [some (.ref 66), some (.int v1), some (.int v2)] [] σ := by
  intro n
  induction n with
  | zero => intro v1 v2 σ k59 hk59 h; exact ok_none h
  | succ n ih =>
    intro v1 v2 σ k59 hk59 h
    rw [f_m_land_L39] at h
    refine g_run hx [(.iload_n 2, 0, 0), (.sipush 189, 189, 0)] (pc' := 43) (lo' := [some (.ref 66), some (.int v1), some (.int v2)]) (st' := [.int 189, .int v2]) (σ' := σ) (by decide +kernel) rfl rfl ?_
    refine g_ic_ge hx (off := 16) (tgt := 59) (by decide +kernel) (by decide) (fun c43 => ?_) (fun c43 => ?_)
    · have h := ok_t h c43
      refine g_wk (lo' := [some (.ref 66), some (.int v1), none]) ⟨rfl, ⟨rfl, trivial⟩⟩ ?_
      exact hk59 _ _ h
    · have h := ok_f h c43
      refine g_run hx [(.aload_n 0, 0, 0), (.getfield 23, 0, 0), (.iload_n 2, 0, 0), (.iconst 0, 0, 0)] (pc' := 52) (lo' := [some (.ref 66), some (.int v1), some (.int v2)]) (st' := [.int 0, .int v2, .ref 70]) (σ' := σ) (by decide +kernel) rfl rfl ?_
      obtain ⟨c52, h⟩ := ok_g h
      refine g_iast hx (by decide +kernel) (i := 70) (n := 189) rfl c52 ?_
      refine g_run hx [(.iinc 2 1, 1, 0)] (pc' := 56) (lo' := [some (.ref 66), some (.int v1), some (.int (v2 + 1))]) (st' := []) (σ' := sA σ 70 v2 0) (by decide +kernel) rfl rfl ?_
      refine g_goto hx (off := (-17)) (tgt := 39) (by decide +kernel) (by decide) ?_
      exact ih _ _ _ _ hk59 h
set_option maxRecDepth 100000 in
theorem s_m_land_L61 {y : EX} {N : Nat} {x : CX} {P : Int32 × Sg → Prop} (hx : Cx 10 prog_12_method_27_code x) (hc : Cc y 3 10 x) (hr : Cr M_m_land rvI P x) : ∀ (n : Nat) (v1 : Int32) (v2 : Int32) (σ : Sg) (k80 : Int32 → Sg → Option (Int32 × Sg)) (hk80 : ∀ (w1 : Int32) (t : Sg), ok (k80 w1 t) P → G x 80 [some (.ref 66), some (.int w1), none] [] t), ok (f_m_land_L61 N n v1 v2 σ k80) P → G x 61 [some (.ref 66), some (.int v1), some (.int v2)] [] σ := by
  intro n
  induction n with
  | zero => intro v1 v2 σ k80 hk80 h; exact ok_none h
  | succ n ih =>
    intro v1 v2 σ k80 hk80 h
    rw [f_m_land_L61] at h
    refine g_run hx [(.iload_n 2, 0, 0), (.bipush 63, 63, 0)] (pc' := 64) (lo' := [some (.ref 66), some (.int v1), some (.int v2)]) (st' := [.int 63, .int v2]) (σ' := σ) (by decide +kernel) rfl rfl ?_
    refine g_ic_ge hx (off := 16) (tgt := 80) (by decide +kernel) (by decide) (fun c64 => ?_) (fun c64 => ?_)
    · have h := ok_t h c64
      refine g_wk (lo' := [some (.ref 66), some (.int v1), none]) ⟨rfl, ⟨rfl, trivial⟩⟩ ?_
      exact hk80 _ _ h
    · have h := ok_f h c64
      refine g_run hx [(.aload_n 0, 0, 0), (.getfield 32, 0, 0), (.iload_n 2, 0, 0), (.iconst 0, 0, 0)] (pc' := 73) (lo' := [some (.ref 66), some (.int v1), some (.int v2)]) (st' := [.int 0, .int v2, .ref 73]) (σ' := σ) (by decide +kernel) rfl rfl ?_
      obtain ⟨c73, h⟩ := ok_g h
      refine g_iast hx (by decide +kernel) (i := 73) (n := 63) rfl c73 ?_
      refine g_run hx [(.iinc 2 1, 1, 0)] (pc' := 77) (lo' := [some (.ref 66), some (.int v1), some (.int (v2 + 1))]) (st' := []) (σ' := sA σ 73 v2 0) (by decide +kernel) rfl rfl ?_
      refine g_goto hx (off := (-16)) (tgt := 61) (by decide +kernel) (by decide) ?_
      exact ih _ _ _ _ hk80 h
set_option maxRecDepth 100000 in
theorem s_m_land_L98 {y : EX} {N : Nat} {x : CX} {P : Int32 × Sg → Prop} (hx : Cx 10 prog_12_method_27_code x) (hc : Cc y 3 10 x) (hr : Cr M_m_land rvI P x) : ∀ (n : Nat) (σ : Sg) (k125 : Sg → Option (Int32 × Sg)) (hk125 : ∀ (t : Sg), ok (k125 t) P → G x 125 [some (.ref 66), none, none] [] t), ok (f_m_land_L98 N n σ k125) P → G x 98 [some (.ref 66), none, none] [] σ := by
  intro n
  induction n with
  | zero => intro σ k125 hk125 h; exact ok_none h
  | succ n ih =>
    intro σ k125 hk125 h
    rw [f_m_land_L98] at h
    refine g_run hx [(.aload_n 0, 0, 0), (.getfield 106, 0, 0)] (pc' := 102) (lo' := [some (.ref 66), none, none]) (st' := [.int (gI σ 66 13)]) (σ' := σ) (by decide +kernel) rfl rfl ?_
    refine g_if_ne hx (off := 23) (tgt := 125) (by decide +kernel) (by decide) (fun c102 => ?_) (fun c102 => ?_)
    · have h := ok_f h c102
      exact hk125 _ h
    · have h := ok_t h c102
      refine g_run hx [(.aload_n 0, 0, 0), (.getfield 96, 0, 0), (.bipush 59, 59, 0)] (pc' := 111) (lo' := [some (.ref 66), none, none]) (st' := [.int 59, .int (gI σ 66 6)]) (σ' := σ) (by decide +kernel) rfl rfl ?_
      refine g_ic_ne hx (off := 14) (tgt := 125) (by decide +kernel) (by decide) (fun c111 => ?_) (fun c111 => ?_)
      · have h := ok_f h c111
        exact hk125 _ h
      · have h := ok_t h c111
        refine g_run hx [(.aload_n 0, 0, 0)] (pc' := 115) (lo' := [some (.ref 66), none, none]) (st' := [.ref 66]) (σ' := σ) (by decide +kernel) rfl rfl ?_
        refine g_callV (rest := []) [] hx hc mk_m_next ln_10_127 rfl (by decide +kernel) (by decide) (Nat.le_of_ble_eq_true rfl) (s_m_next (ok_b h)) (fun r7 s7 h => ?_)
        refine g_run hx [(.aload_n 0, 0, 0)] (pc' := 119) (lo' := [some (.ref 66), none, none]) (st' := [.ref 66]) (σ' := s7) (by decide +kernel) rfl rfl ?_
        refine g_callV (rest := []) [] hx hc mk_m_readLine ln_10_180 rfl (by decide +kernel) (by decide) (Nat.le_of_ble_eq_true rfl) (s_m_readLine (ok_b h)) (fun r8 s8 h => ?_)
        refine g_goto hx (off := (-24)) (tgt := 98) (by decide +kernel) (by decide) ?_
        exact ih _ _ hk125 h
set_option maxRecDepth 100000 in
theorem s_m_land {y : EX} {N : Nat} {v1 : Int32} {σ : Sg} {P : Int32 × Sg → Prop} (h : ok (f_m_land N v1 σ) P) : Ev y M_m_land 10 [.ref 66, .int v1] σ rvI P := by
  refine Ev.of mk_m_land (Nat.le_of_ble_eq_true rfl) (fun x hx hc hr => ?_)
  have hx : Cx 10 prog_12_method_27_code x := hx
  have hc : Cc y 3 10 x := hc
  show G x 0 [some (.ref 66), some (.int v1), none] [] σ
  unfold f_m_land at h
  refine g_run hx [(.aload_n 0, 0, 0)] (pc' := 1) (lo' := [some (.ref 66), some (.int v1), none]) (st' := [.ref 66]) (σ' := σ) (by decide +kernel) rfl rfl ?_
  refine g_callV (rest := []) [] hx hc mk_m_anew ln_10_174 rfl (by decide +kernel) (by decide) (Nat.le_of_ble_eq_true rfl) (s_m_anew (ok_b h)) (fun r1 s1 h => ?_)
  refine g_run hx [(.iload_n 1, 0, 0), (.iconst 0, 0, 0), (.aload_n 0, 0, 0), (.getfield 74, 0, 0)] (pc' := 10) (lo' := [some (.ref 66), some (.int v1), none]) (st' := [.int (gI s1 66 2), .int 0, .int v1]) (σ' := s1) (by decide +kernel) rfl rfl ?_
  refine g_callS (rest := []) [.int v1, .int 0, .int (gI s1 66 2)] hx hc mk_m_in ln_10_156 (by decide +kernel) (by decide) (Nat.le_of_ble_eq_true rfl) (s_m_in (ok_b h)) (fun r2 s2 h => ?_)
  refine g_ifb_ne hx (off := 9) (tgt := 22) (by decide +kernel) (by decide) (fun c13 => ?_) (fun c13 => ?_)
  · have h := ok_t h c13
    refine g_run hx [(.aload_n 0, 0, 0), (.iconst 0, 0, 0), (.putfield 74, 0, 0), (.aload_n 0, 0, 0), (.iconst 0, 0, 0), (.putfield 110, 0, 0), (.aload_n 0, 0, 0), (.iconst 0, 0, 0), (.putfield 106, 0, 0), (.iconst 0, 0, 0), (.istore_n 2, 0, 0)] (pc' := 39) (lo' := [some (.ref 66), some (.int v1), some (.int 0)]) (st' := []) (σ' := sI (sI (sI s2 66 2 0) 66 9 0) 66 13 0) (by decide +kernel) rfl rfl ?_
    refine s_m_land_L39 hx hc hr N _ _ _ _ (fun w1 t3 h => ?_) h
    refine g_run hx [(.iconst 0, 0, 0), (.istore_n 2, 0, 0)] (pc' := 61) (lo' := [some (.ref 66), some (.int w1), some (.int 0)]) (st' := []) (σ' := t3) (by decide +kernel) rfl rfl ?_
    refine s_m_land_L61 hx hc hr N _ _ _ _ (fun w1 t4 h => ?_) h
    refine g_run hx [(.aload_n 0, 0, 0), (.iload_n 1, 0, 0), (.putfield 77, 0, 0), (.aload_n 0, 0, 0), (.iconst 0, 0, 0), (.putfield 80, 0, 0), (.aload_n 0, 0, 0)] (pc' := 91) (lo' := [some (.ref 66), some (.int w1), none]) (st' := [.ref 66]) (σ' := sI (sI t4 66 3 w1) 66 5 0) (by decide +kernel) rfl rfl ?_
    refine g_callV (rest := []) [] hx hc mk_m_next ln_10_127 rfl (by decide +kernel) (by decide) (Nat.le_of_ble_eq_true rfl) (s_m_next (ok_b h)) (fun r5 s5 h => ?_)
    refine g_run hx [(.aload_n 0, 0, 0)] (pc' := 95) (lo' := [some (.ref 66), some (.int w1), none]) (st' := [.ref 66]) (σ' := s5) (by decide +kernel) rfl rfl ?_
    refine g_callV (rest := []) [] hx hc mk_m_readLine ln_10_180 rfl (by decide +kernel) (by decide) (Nat.le_of_ble_eq_true rfl) (s_m_readLine (ok_b h)) (fun r6 s6 h => ?_)
    refine g_wk (lo' := [some (.ref 66), none, none]) ⟨rfl, trivial⟩ ?_
    refine s_m_land_L98 hx hc hr N _ _ (fun t9 h => ?_) h
    refine g_run hx [(.aload_n 0, 0, 0), (.getfield 106, 0, 0)] (pc' := 129) (lo' := [some (.ref 66), none, none]) (st' := [.int (gI t9 66 13)]) (σ' := t9) (by decide +kernel) rfl rfl ?_
    refine g_if_ne hx (off := 19) (tgt := 148) (by decide +kernel) (by decide) (fun c129 => ?_) (fun c129 => ?_)
    · have h := ok_f h c129
      refine g_run hx [(.aload_n 0, 0, 0), (.getfield 106, 0, 0)] (pc' := 152) (lo' := [some (.ref 66), none, none]) (st' := [.int (gI t9 66 13)]) (σ' := t9) (by decide +kernel) rfl rfl ?_
      refine g_if_ne hx (off := 32) (tgt := 184) (by decide +kernel) (by decide) (fun c152 => ?_) (fun c152 => ?_)
      · have h := ok_f h c152
        refine g_run hx [(.aload_n 0, 0, 0), (.getfield 106, 0, 0)] (pc' := 188) (lo' := [some (.ref 66), none, none]) (st' := [.int (gI t9 66 13)]) (σ' := t9) (by decide +kernel) rfl rfl ?_
        refine g_if_eq hx (off := 9) (tgt := 197) (by decide +kernel) (by decide) (fun c188 => ?_) (fun c188 => ?_)
        · have h := ok_t h c188
          refine g_run hx [(.aload_n 0, 0, 0), (.getfield 23, 0, 0), (.iconst 0, 0, 0), (.aload_n 0, 0, 0), (.getfield 20, 0, 0), (.iconst 0, 0, 0), (.sipush 189, 189, 0)] (pc' := 210) (lo' := [some (.ref 66), none, none]) (st' := [.int 189, .int 0, .ref 69, .int 0, .ref 70]) (σ' := t9) (by decide +kernel) rfl rfl ?_
          refine g_callS (rest := []) [.ref 70, .int 0, .ref 69, .int 0, .int 189] hx hc mk_m_copy ln_10_183 (by decide +kernel) (by decide) (Nat.le_of_ble_eq_true rfl) (s_m_copy_70_69 (ok_b h)) (fun r10 s10 h => ?_)
          refine g_run hx [(.aload_n 0, 0, 0), (.getfield 29, 0, 0), (.iconst 0, 0, 0), (.aload_n 0, 0, 0), (.getfield 26, 0, 0), (.iconst 0, 0, 0), (.bipush 63, 63, 0)] (pc' := 225) (lo' := [some (.ref 66), none, none]) (st' := [.int 63, .int 0, .ref 71, .int 0, .ref 72]) (σ' := s10) (by decide +kernel) rfl rfl ?_
          refine g_callS (rest := []) [.ref 72, .int 0, .ref 71, .int 0, .int 63] hx hc mk_m_copy ln_10_183 (by decide +kernel) (by decide) (Nat.le_of_ble_eq_true rfl) (s_m_copy_72_71 (ok_b h)) (fun r11 s11 h => ?_)
          refine g_run hx [(.aload_n 0, 0, 0), (.getfield 32, 0, 0), (.iconst 0, 0, 0), (.aload_n 0, 0, 0), (.getfield 35, 0, 0), (.iconst 0, 0, 0), (.bipush 63, 63, 0)] (pc' := 240) (lo' := [some (.ref 66), none, none]) (st' := [.int 63, .int 0, .ref 74, .int 0, .ref 73]) (σ' := s11) (by decide +kernel) rfl rfl ?_
          refine g_callS (rest := []) [.ref 73, .int 0, .ref 74, .int 0, .int 63] hx hc mk_m_copy ln_10_183 (by decide +kernel) (by decide) (Nat.le_of_ble_eq_true rfl) (s_m_copy_73_74 (ok_b h)) (fun r12 s12 h => ?_)
          refine g_run hx [(.aload_n 0, 0, 0), (.iconst 1, 1, 0), (.putfield 187, 0, 0), (.aload_n 0, 0, 0), (.iconst 0, 0, 0), (.putfield 190, 0, 0), (.aload_n 0, 0, 0), (.iconst 0, 0, 0), (.putfield 193, 0, 0), (.aload_n 0, 0, 0), (.getfield 20, 0, 0), (.iconst 0, 0, 0), (.iaload, 0, 0)] (pc' := 264) (lo' := [some (.ref 66), none, none]) (st' := [.int (gA (sI (sI (sI s12 66 14 1) 66 24 0) 66 25 0) 69 0)]) (σ' := sI (sI (sI s12 66 14 1) 66 24 0) 66 25 0) (by decide +kernel) rfl rfl ?_
          exact g_iret hx hr rfl _ rfl (by decide +kernel) (ok_some h)
        · have h := ok_f h c188
          refine g_run hx [(.aload_n 0, 0, 0), (.iconst 4, 4, 0)] (pc' := 193) (lo' := [some (.ref 66), none, none]) (st' := [.int 4, .ref 66]) (σ' := t9) (by decide +kernel) rfl rfl ?_
          refine g_callV (rest := []) [.int 4] hx hc mk_m_no ln_10_177 rfl (by decide +kernel) (by decide) (Nat.le_of_ble_eq_true rfl) (s_m_no (ok_b h)) (fun r13 s13 h => ?_)
          exact g_iret hx hr rfl _ rfl (by decide +kernel) (ok_some h)
      · have h := ok_t h c152
        refine g_run hx [(.aload_n 0, 0, 0), (.getfield 23, 0, 0), (.bipush 8, 8, 0), (.iaload, 0, 0)] (pc' := 162) (lo' := [some (.ref 66), none, none]) (st' := [.int (gA t9 70 8)]) (σ' := t9) (by decide +kernel) rfl rfl ?_
        refine g_if_eq hx (off := 12) (tgt := 174) (by decide +kernel) (by decide) (fun c162 => ?_) (fun c162 => ?_)
        · have h := ok_t h c162
          refine g_run hx [(.aload_n 0, 0, 0), (.bipush 6, 6, 0), (.aload_n 0, 0, 0), (.getfield 87, 0, 0)] (pc' := 181) (lo' := [some (.ref 66), none, none]) (st' := [.int (gI t9 66 4), .int 6, .ref 66]) (σ' := t9) (by decide +kernel) rfl rfl ?_
          refine g_callV (rest := []) [.int 6, .int (gI t9 66 4)] hx hc mk_m_wrong ln_10_133 rfl (by decide +kernel) (by decide) (Nat.le_of_ble_eq_true rfl) (s_m_wrong (ok_b h)) (fun r14 s14 h => ?_)
          refine g_run hx [(.aload_n 0, 0, 0), (.getfield 106, 0, 0)] (pc' := 188) (lo' := [some (.ref 66), none, none]) (st' := [.int (gI s14 66 13)]) (σ' := s14) (by decide +kernel) rfl rfl ?_
          refine g_if_eq hx (off := 9) (tgt := 197) (by decide +kernel) (by decide) (fun c188 => ?_) (fun c188 => ?_)
          · have h := ok_t h c188
            refine g_run hx [(.aload_n 0, 0, 0), (.getfield 23, 0, 0), (.iconst 0, 0, 0), (.aload_n 0, 0, 0), (.getfield 20, 0, 0), (.iconst 0, 0, 0), (.sipush 189, 189, 0)] (pc' := 210) (lo' := [some (.ref 66), none, none]) (st' := [.int 189, .int 0, .ref 69, .int 0, .ref 70]) (σ' := s14) (by decide +kernel) rfl rfl ?_
            refine g_callS (rest := []) [.ref 70, .int 0, .ref 69, .int 0, .int 189] hx hc mk_m_copy ln_10_183 (by decide +kernel) (by decide) (Nat.le_of_ble_eq_true rfl) (s_m_copy_70_69 (ok_b h)) (fun r15 s15 h => ?_)
            refine g_run hx [(.aload_n 0, 0, 0), (.getfield 29, 0, 0), (.iconst 0, 0, 0), (.aload_n 0, 0, 0), (.getfield 26, 0, 0), (.iconst 0, 0, 0), (.bipush 63, 63, 0)] (pc' := 225) (lo' := [some (.ref 66), none, none]) (st' := [.int 63, .int 0, .ref 71, .int 0, .ref 72]) (σ' := s15) (by decide +kernel) rfl rfl ?_
            refine g_callS (rest := []) [.ref 72, .int 0, .ref 71, .int 0, .int 63] hx hc mk_m_copy ln_10_183 (by decide +kernel) (by decide) (Nat.le_of_ble_eq_true rfl) (s_m_copy_72_71 (ok_b h)) (fun r16 s16 h => ?_)
            refine g_run hx [(.aload_n 0, 0, 0), (.getfield 32, 0, 0), (.iconst 0, 0, 0), (.aload_n 0, 0, 0), (.getfield 35, 0, 0), (.iconst 0, 0, 0), (.bipush 63, 63, 0)] (pc' := 240) (lo' := [some (.ref 66), none, none]) (st' := [.int 63, .int 0, .ref 74, .int 0, .ref 73]) (σ' := s16) (by decide +kernel) rfl rfl ?_
            refine g_callS (rest := []) [.ref 73, .int 0, .ref 74, .int 0, .int 63] hx hc mk_m_copy ln_10_183 (by decide +kernel) (by decide) (Nat.le_of_ble_eq_true rfl) (s_m_copy_73_74 (ok_b h)) (fun r17 s17 h => ?_)
            refine g_run hx [(.aload_n 0, 0, 0), (.iconst 1, 1, 0), (.putfield 187, 0, 0), (.aload_n 0, 0, 0), (.iconst 0, 0, 0), (.putfield 190, 0, 0), (.aload_n 0, 0, 0), (.iconst 0, 0, 0), (.putfield 193, 0, 0), (.aload_n 0, 0, 0), (.getfield 20, 0, 0), (.iconst 0, 0, 0), (.iaload, 0, 0)] (pc' := 264) (lo' := [some (.ref 66), none, none]) (st' := [.int (gA (sI (sI (sI s17 66 14 1) 66 24 0) 66 25 0) 69 0)]) (σ' := sI (sI (sI s17 66 14 1) 66 24 0) 66 25 0) (by decide +kernel) rfl rfl ?_
            exact g_iret hx hr rfl _ rfl (by decide +kernel) (ok_some h)
          · have h := ok_f h c188
            refine g_run hx [(.aload_n 0, 0, 0), (.iconst 4, 4, 0)] (pc' := 193) (lo' := [some (.ref 66), none, none]) (st' := [.int 4, .ref 66]) (σ' := s14) (by decide +kernel) rfl rfl ?_
            refine g_callV (rest := []) [.int 4] hx hc mk_m_no ln_10_177 rfl (by decide +kernel) (by decide) (Nat.le_of_ble_eq_true rfl) (s_m_no (ok_b h)) (fun r18 s18 h => ?_)
            exact g_iret hx hr rfl _ rfl (by decide +kernel) (ok_some h)
        · have h := ok_f h c162
          refine g_run hx [(.aload_n 0, 0, 0), (.getfield 23, 0, 0), (.iconst 2, 2, 0), (.iaload, 0, 0)] (pc' := 171) (lo' := [some (.ref 66), none, none]) (st' := [.int (gA t9 70 2)]) (σ' := t9) (by decide +kernel) rfl rfl ?_
          refine g_if_ne hx (off := 13) (tgt := 184) (by decide +kernel) (by decide) (fun c171 => ?_) (fun c171 => ?_)
          · have h := ok_f h c171
            refine g_run hx [(.aload_n 0, 0, 0), (.getfield 106, 0, 0)] (pc' := 188) (lo' := [some (.ref 66), none, none]) (st' := [.int (gI t9 66 13)]) (σ' := t9) (by decide +kernel) rfl rfl ?_
            refine g_if_eq hx (off := 9) (tgt := 197) (by decide +kernel) (by decide) (fun c188 => ?_) (fun c188 => ?_)
            · have h := ok_t h c188
              refine g_run hx [(.aload_n 0, 0, 0), (.getfield 23, 0, 0), (.iconst 0, 0, 0), (.aload_n 0, 0, 0), (.getfield 20, 0, 0), (.iconst 0, 0, 0), (.sipush 189, 189, 0)] (pc' := 210) (lo' := [some (.ref 66), none, none]) (st' := [.int 189, .int 0, .ref 69, .int 0, .ref 70]) (σ' := t9) (by decide +kernel) rfl rfl ?_
              refine g_callS (rest := []) [.ref 70, .int 0, .ref 69, .int 0, .int 189] hx hc mk_m_copy ln_10_183 (by decide +kernel) (by decide) (Nat.le_of_ble_eq_true rfl) (s_m_copy_70_69 (ok_b h)) (fun r19 s19 h => ?_)
              refine g_run hx [(.aload_n 0, 0, 0), (.getfield 29, 0, 0), (.iconst 0, 0, 0), (.aload_n 0, 0, 0), (.getfield 26, 0, 0), (.iconst 0, 0, 0), (.bipush 63, 63, 0)] (pc' := 225) (lo' := [some (.ref 66), none, none]) (st' := [.int 63, .int 0, .ref 71, .int 0, .ref 72]) (σ' := s19) (by decide +kernel) rfl rfl ?_
              refine g_callS (rest := []) [.ref 72, .int 0, .ref 71, .int 0, .int 63] hx hc mk_m_copy ln_10_183 (by decide +kernel) (by decide) (Nat.le_of_ble_eq_true rfl) (s_m_copy_72_71 (ok_b h)) (fun r20 s20 h => ?_)
              refine g_run hx [(.aload_n 0, 0, 0), (.getfield 32, 0, 0), (.iconst 0, 0, 0), (.aload_n 0, 0, 0), (.getfield 35, 0, 0), (.iconst 0, 0, 0), (.bipush 63, 63, 0)] (pc' := 240) (lo' := [some (.ref 66), none, none]) (st' := [.int 63, .int 0, .ref 74, .int 0, .ref 73]) (σ' := s20) (by decide +kernel) rfl rfl ?_
              refine g_callS (rest := []) [.ref 73, .int 0, .ref 74, .int 0, .int 63] hx hc mk_m_copy ln_10_183 (by decide +kernel) (by decide) (Nat.le_of_ble_eq_true rfl) (s_m_copy_73_74 (ok_b h)) (fun r21 s21 h => ?_)
              refine g_run hx [(.aload_n 0, 0, 0), (.iconst 1, 1, 0), (.putfield 187, 0, 0), (.aload_n 0, 0, 0), (.iconst 0, 0, 0), (.putfield 190, 0, 0), (.aload_n 0, 0, 0), (.iconst 0, 0, 0), (.putfield 193, 0, 0), (.aload_n 0, 0, 0), (.getfield 20, 0, 0), (.iconst 0, 0, 0), (.iaload, 0, 0)] (pc' := 264) (lo' := [some (.ref 66), none, none]) (st' := [.int (gA (sI (sI (sI s21 66 14 1) 66 24 0) 66 25 0) 69 0)]) (σ' := sI (sI (sI s21 66 14 1) 66 24 0) 66 25 0) (by decide +kernel) rfl rfl ?_
              exact g_iret hx hr rfl _ rfl (by decide +kernel) (ok_some h)
            · have h := ok_f h c188
              refine g_run hx [(.aload_n 0, 0, 0), (.iconst 4, 4, 0)] (pc' := 193) (lo' := [some (.ref 66), none, none]) (st' := [.int 4, .ref 66]) (σ' := t9) (by decide +kernel) rfl rfl ?_
              refine g_callV (rest := []) [.int 4] hx hc mk_m_no ln_10_177 rfl (by decide +kernel) (by decide) (Nat.le_of_ble_eq_true rfl) (s_m_no (ok_b h)) (fun r22 s22 h => ?_)
              exact g_iret hx hr rfl _ rfl (by decide +kernel) (ok_some h)
          · have h := ok_t h c171
            refine g_run hx [(.aload_n 0, 0, 0), (.bipush 6, 6, 0), (.aload_n 0, 0, 0), (.getfield 87, 0, 0)] (pc' := 181) (lo' := [some (.ref 66), none, none]) (st' := [.int (gI t9 66 4), .int 6, .ref 66]) (σ' := t9) (by decide +kernel) rfl rfl ?_
            refine g_callV (rest := []) [.int 6, .int (gI t9 66 4)] hx hc mk_m_wrong ln_10_133 rfl (by decide +kernel) (by decide) (Nat.le_of_ble_eq_true rfl) (s_m_wrong (ok_b h)) (fun r23 s23 h => ?_)
            refine g_run hx [(.aload_n 0, 0, 0), (.getfield 106, 0, 0)] (pc' := 188) (lo' := [some (.ref 66), none, none]) (st' := [.int (gI s23 66 13)]) (σ' := s23) (by decide +kernel) rfl rfl ?_
            refine g_if_eq hx (off := 9) (tgt := 197) (by decide +kernel) (by decide) (fun c188 => ?_) (fun c188 => ?_)
            · have h := ok_t h c188
              refine g_run hx [(.aload_n 0, 0, 0), (.getfield 23, 0, 0), (.iconst 0, 0, 0), (.aload_n 0, 0, 0), (.getfield 20, 0, 0), (.iconst 0, 0, 0), (.sipush 189, 189, 0)] (pc' := 210) (lo' := [some (.ref 66), none, none]) (st' := [.int 189, .int 0, .ref 69, .int 0, .ref 70]) (σ' := s23) (by decide +kernel) rfl rfl ?_
              refine g_callS (rest := []) [.ref 70, .int 0, .ref 69, .int 0, .int 189] hx hc mk_m_copy ln_10_183 (by decide +kernel) (by decide) (Nat.le_of_ble_eq_true rfl) (s_m_copy_70_69 (ok_b h)) (fun r24 s24 h => ?_)
              refine g_run hx [(.aload_n 0, 0, 0), (.getfield 29, 0, 0), (.iconst 0, 0, 0), (.aload_n 0, 0, 0), (.getfield 26, 0, 0), (.iconst 0, 0, 0), (.bipush 63, 63, 0)] (pc' := 225) (lo' := [some (.ref 66), none, none]) (st' := [.int 63, .int 0, .ref 71, .int 0, .ref 72]) (σ' := s24) (by decide +kernel) rfl rfl ?_
              refine g_callS (rest := []) [.ref 72, .int 0, .ref 71, .int 0, .int 63] hx hc mk_m_copy ln_10_183 (by decide +kernel) (by decide) (Nat.le_of_ble_eq_true rfl) (s_m_copy_72_71 (ok_b h)) (fun r25 s25 h => ?_)
              refine g_run hx [(.aload_n 0, 0, 0), (.getfield 32, 0, 0), (.iconst 0, 0, 0), (.aload_n 0, 0, 0), (.getfield 35, 0, 0), (.iconst 0, 0, 0), (.bipush 63, 63, 0)] (pc' := 240) (lo' := [some (.ref 66), none, none]) (st' := [.int 63, .int 0, .ref 74, .int 0, .ref 73]) (σ' := s25) (by decide +kernel) rfl rfl ?_
              refine g_callS (rest := []) [.ref 73, .int 0, .ref 74, .int 0, .int 63] hx hc mk_m_copy ln_10_183 (by decide +kernel) (by decide) (Nat.le_of_ble_eq_true rfl) (s_m_copy_73_74 (ok_b h)) (fun r26 s26 h => ?_)
              refine g_run hx [(.aload_n 0, 0, 0), (.iconst 1, 1, 0), (.putfield 187, 0, 0), (.aload_n 0, 0, 0), (.iconst 0, 0, 0), (.putfield 190, 0, 0), (.aload_n 0, 0, 0), (.iconst 0, 0, 0), (.putfield 193, 0, 0), (.aload_n 0, 0, 0), (.getfield 20, 0, 0), (.iconst 0, 0, 0), (.iaload, 0, 0)] (pc' := 264) (lo' := [some (.ref 66), none, none]) (st' := [.int (gA (sI (sI (sI s26 66 14 1) 66 24 0) 66 25 0) 69 0)]) (σ' := sI (sI (sI s26 66 14 1) 66 24 0) 66 25 0) (by decide +kernel) rfl rfl ?_
              exact g_iret hx hr rfl _ rfl (by decide +kernel) (ok_some h)
            · have h := ok_f h c188
              refine g_run hx [(.aload_n 0, 0, 0), (.iconst 4, 4, 0)] (pc' := 193) (lo' := [some (.ref 66), none, none]) (st' := [.int 4, .ref 66]) (σ' := s23) (by decide +kernel) rfl rfl ?_
              refine g_callV (rest := []) [.int 4] hx hc mk_m_no ln_10_177 rfl (by decide +kernel) (by decide) (Nat.le_of_ble_eq_true rfl) (s_m_no (ok_b h)) (fun r27 s27 h => ?_)
              exact g_iret hx hr rfl _ rfl (by decide +kernel) (ok_some h)
    · have h := ok_t h c129
      refine g_run hx [(.aload_n 0, 0, 0), (.getfield 96, 0, 0)] (pc' := 136) (lo' := [some (.ref 66), none, none]) (st' := [.int (gI t9 66 6)]) (σ' := t9) (by decide +kernel) rfl rfl ?_
      refine g_if_eq hx (off := 12) (tgt := 148) (by decide +kernel) (by decide) (fun c136 => ?_) (fun c136 => ?_)
      · have h := ok_t h c136
        refine g_run hx [(.aload_n 0, 0, 0), (.getfield 106, 0, 0)] (pc' := 152) (lo' := [some (.ref 66), none, none]) (st' := [.int (gI t9 66 13)]) (σ' := t9) (by decide +kernel) rfl rfl ?_
        refine g_if_ne hx (off := 32) (tgt := 184) (by decide +kernel) (by decide) (fun c152 => ?_) (fun c152 => ?_)
        · have h := ok_f h c152
          refine g_run hx [(.aload_n 0, 0, 0), (.getfield 106, 0, 0)] (pc' := 188) (lo' := [some (.ref 66), none, none]) (st' := [.int (gI t9 66 13)]) (σ' := t9) (by decide +kernel) rfl rfl ?_
          refine g_if_eq hx (off := 9) (tgt := 197) (by decide +kernel) (by decide) (fun c188 => ?_) (fun c188 => ?_)
          · have h := ok_t h c188
            refine g_run hx [(.aload_n 0, 0, 0), (.getfield 23, 0, 0), (.iconst 0, 0, 0), (.aload_n 0, 0, 0), (.getfield 20, 0, 0), (.iconst 0, 0, 0), (.sipush 189, 189, 0)] (pc' := 210) (lo' := [some (.ref 66), none, none]) (st' := [.int 189, .int 0, .ref 69, .int 0, .ref 70]) (σ' := t9) (by decide +kernel) rfl rfl ?_
            refine g_callS (rest := []) [.ref 70, .int 0, .ref 69, .int 0, .int 189] hx hc mk_m_copy ln_10_183 (by decide +kernel) (by decide) (Nat.le_of_ble_eq_true rfl) (s_m_copy_70_69 (ok_b h)) (fun r28 s28 h => ?_)
            refine g_run hx [(.aload_n 0, 0, 0), (.getfield 29, 0, 0), (.iconst 0, 0, 0), (.aload_n 0, 0, 0), (.getfield 26, 0, 0), (.iconst 0, 0, 0), (.bipush 63, 63, 0)] (pc' := 225) (lo' := [some (.ref 66), none, none]) (st' := [.int 63, .int 0, .ref 71, .int 0, .ref 72]) (σ' := s28) (by decide +kernel) rfl rfl ?_
            refine g_callS (rest := []) [.ref 72, .int 0, .ref 71, .int 0, .int 63] hx hc mk_m_copy ln_10_183 (by decide +kernel) (by decide) (Nat.le_of_ble_eq_true rfl) (s_m_copy_72_71 (ok_b h)) (fun r29 s29 h => ?_)
            refine g_run hx [(.aload_n 0, 0, 0), (.getfield 32, 0, 0), (.iconst 0, 0, 0), (.aload_n 0, 0, 0), (.getfield 35, 0, 0), (.iconst 0, 0, 0), (.bipush 63, 63, 0)] (pc' := 240) (lo' := [some (.ref 66), none, none]) (st' := [.int 63, .int 0, .ref 74, .int 0, .ref 73]) (σ' := s29) (by decide +kernel) rfl rfl ?_
            refine g_callS (rest := []) [.ref 73, .int 0, .ref 74, .int 0, .int 63] hx hc mk_m_copy ln_10_183 (by decide +kernel) (by decide) (Nat.le_of_ble_eq_true rfl) (s_m_copy_73_74 (ok_b h)) (fun r30 s30 h => ?_)
            refine g_run hx [(.aload_n 0, 0, 0), (.iconst 1, 1, 0), (.putfield 187, 0, 0), (.aload_n 0, 0, 0), (.iconst 0, 0, 0), (.putfield 190, 0, 0), (.aload_n 0, 0, 0), (.iconst 0, 0, 0), (.putfield 193, 0, 0), (.aload_n 0, 0, 0), (.getfield 20, 0, 0), (.iconst 0, 0, 0), (.iaload, 0, 0)] (pc' := 264) (lo' := [some (.ref 66), none, none]) (st' := [.int (gA (sI (sI (sI s30 66 14 1) 66 24 0) 66 25 0) 69 0)]) (σ' := sI (sI (sI s30 66 14 1) 66 24 0) 66 25 0) (by decide +kernel) rfl rfl ?_
            exact g_iret hx hr rfl _ rfl (by decide +kernel) (ok_some h)
          · have h := ok_f h c188
            refine g_run hx [(.aload_n 0, 0, 0), (.iconst 4, 4, 0)] (pc' := 193) (lo' := [some (.ref 66), none, none]) (st' := [.int 4, .ref 66]) (σ' := t9) (by decide +kernel) rfl rfl ?_
            refine g_callV (rest := []) [.int 4] hx hc mk_m_no ln_10_177 rfl (by decide +kernel) (by decide) (Nat.le_of_ble_eq_true rfl) (s_m_no (ok_b h)) (fun r31 s31 h => ?_)
            exact g_iret hx hr rfl _ rfl (by decide +kernel) (ok_some h)
        · have h := ok_t h c152
          refine g_run hx [(.aload_n 0, 0, 0), (.getfield 23, 0, 0), (.bipush 8, 8, 0), (.iaload, 0, 0)] (pc' := 162) (lo' := [some (.ref 66), none, none]) (st' := [.int (gA t9 70 8)]) (σ' := t9) (by decide +kernel) rfl rfl ?_
          refine g_if_eq hx (off := 12) (tgt := 174) (by decide +kernel) (by decide) (fun c162 => ?_) (fun c162 => ?_)
          · have h := ok_t h c162
            refine g_run hx [(.aload_n 0, 0, 0), (.bipush 6, 6, 0), (.aload_n 0, 0, 0), (.getfield 87, 0, 0)] (pc' := 181) (lo' := [some (.ref 66), none, none]) (st' := [.int (gI t9 66 4), .int 6, .ref 66]) (σ' := t9) (by decide +kernel) rfl rfl ?_
            refine g_callV (rest := []) [.int 6, .int (gI t9 66 4)] hx hc mk_m_wrong ln_10_133 rfl (by decide +kernel) (by decide) (Nat.le_of_ble_eq_true rfl) (s_m_wrong (ok_b h)) (fun r32 s32 h => ?_)
            refine g_run hx [(.aload_n 0, 0, 0), (.getfield 106, 0, 0)] (pc' := 188) (lo' := [some (.ref 66), none, none]) (st' := [.int (gI s32 66 13)]) (σ' := s32) (by decide +kernel) rfl rfl ?_
            refine g_if_eq hx (off := 9) (tgt := 197) (by decide +kernel) (by decide) (fun c188 => ?_) (fun c188 => ?_)
            · have h := ok_t h c188
              refine g_run hx [(.aload_n 0, 0, 0), (.getfield 23, 0, 0), (.iconst 0, 0, 0), (.aload_n 0, 0, 0), (.getfield 20, 0, 0), (.iconst 0, 0, 0), (.sipush 189, 189, 0)] (pc' := 210) (lo' := [some (.ref 66), none, none]) (st' := [.int 189, .int 0, .ref 69, .int 0, .ref 70]) (σ' := s32) (by decide +kernel) rfl rfl ?_
              refine g_callS (rest := []) [.ref 70, .int 0, .ref 69, .int 0, .int 189] hx hc mk_m_copy ln_10_183 (by decide +kernel) (by decide) (Nat.le_of_ble_eq_true rfl) (s_m_copy_70_69 (ok_b h)) (fun r33 s33 h => ?_)
              refine g_run hx [(.aload_n 0, 0, 0), (.getfield 29, 0, 0), (.iconst 0, 0, 0), (.aload_n 0, 0, 0), (.getfield 26, 0, 0), (.iconst 0, 0, 0), (.bipush 63, 63, 0)] (pc' := 225) (lo' := [some (.ref 66), none, none]) (st' := [.int 63, .int 0, .ref 71, .int 0, .ref 72]) (σ' := s33) (by decide +kernel) rfl rfl ?_
              refine g_callS (rest := []) [.ref 72, .int 0, .ref 71, .int 0, .int 63] hx hc mk_m_copy ln_10_183 (by decide +kernel) (by decide) (Nat.le_of_ble_eq_true rfl) (s_m_copy_72_71 (ok_b h)) (fun r34 s34 h => ?_)
              refine g_run hx [(.aload_n 0, 0, 0), (.getfield 32, 0, 0), (.iconst 0, 0, 0), (.aload_n 0, 0, 0), (.getfield 35, 0, 0), (.iconst 0, 0, 0), (.bipush 63, 63, 0)] (pc' := 240) (lo' := [some (.ref 66), none, none]) (st' := [.int 63, .int 0, .ref 74, .int 0, .ref 73]) (σ' := s34) (by decide +kernel) rfl rfl ?_
              refine g_callS (rest := []) [.ref 73, .int 0, .ref 74, .int 0, .int 63] hx hc mk_m_copy ln_10_183 (by decide +kernel) (by decide) (Nat.le_of_ble_eq_true rfl) (s_m_copy_73_74 (ok_b h)) (fun r35 s35 h => ?_)
              refine g_run hx [(.aload_n 0, 0, 0), (.iconst 1, 1, 0), (.putfield 187, 0, 0), (.aload_n 0, 0, 0), (.iconst 0, 0, 0), (.putfield 190, 0, 0), (.aload_n 0, 0, 0), (.iconst 0, 0, 0), (.putfield 193, 0, 0), (.aload_n 0, 0, 0), (.getfield 20, 0, 0), (.iconst 0, 0, 0), (.iaload, 0, 0)] (pc' := 264) (lo' := [some (.ref 66), none, none]) (st' := [.int (gA (sI (sI (sI s35 66 14 1) 66 24 0) 66 25 0) 69 0)]) (σ' := sI (sI (sI s35 66 14 1) 66 24 0) 66 25 0) (by decide +kernel) rfl rfl ?_
              exact g_iret hx hr rfl _ rfl (by decide +kernel) (ok_some h)
            · have h := ok_f h c188
              refine g_run hx [(.aload_n 0, 0, 0), (.iconst 4, 4, 0)] (pc' := 193) (lo' := [some (.ref 66), none, none]) (st' := [.int 4, .ref 66]) (σ' := s32) (by decide +kernel) rfl rfl ?_
              refine g_callV (rest := []) [.int 4] hx hc mk_m_no ln_10_177 rfl (by decide +kernel) (by decide) (Nat.le_of_ble_eq_true rfl) (s_m_no (ok_b h)) (fun r36 s36 h => ?_)
              exact g_iret hx hr rfl _ rfl (by decide +kernel) (ok_some h)
          · have h := ok_f h c162
            refine g_run hx [(.aload_n 0, 0, 0), (.getfield 23, 0, 0), (.iconst 2, 2, 0), (.iaload, 0, 0)] (pc' := 171) (lo' := [some (.ref 66), none, none]) (st' := [.int (gA t9 70 2)]) (σ' := t9) (by decide +kernel) rfl rfl ?_
            refine g_if_ne hx (off := 13) (tgt := 184) (by decide +kernel) (by decide) (fun c171 => ?_) (fun c171 => ?_)
            · have h := ok_f h c171
              refine g_run hx [(.aload_n 0, 0, 0), (.getfield 106, 0, 0)] (pc' := 188) (lo' := [some (.ref 66), none, none]) (st' := [.int (gI t9 66 13)]) (σ' := t9) (by decide +kernel) rfl rfl ?_
              refine g_if_eq hx (off := 9) (tgt := 197) (by decide +kernel) (by decide) (fun c188 => ?_) (fun c188 => ?_)
              · have h := ok_t h c188
                refine g_run hx [(.aload_n 0, 0, 0), (.getfield 23, 0, 0), (.iconst 0, 0, 0), (.aload_n 0, 0, 0), (.getfield 20, 0, 0), (.iconst 0, 0, 0), (.sipush 189, 189, 0)] (pc' := 210) (lo' := [some (.ref 66), none, none]) (st' := [.int 189, .int 0, .ref 69, .int 0, .ref 70]) (σ' := t9) (by decide +kernel) rfl rfl ?_
                refine g_callS (rest := []) [.ref 70, .int 0, .ref 69, .int 0, .int 189] hx hc mk_m_copy ln_10_183 (by decide +kernel) (by decide) (Nat.le_of_ble_eq_true rfl) (s_m_copy_70_69 (ok_b h)) (fun r37 s37 h => ?_)
                refine g_run hx [(.aload_n 0, 0, 0), (.getfield 29, 0, 0), (.iconst 0, 0, 0), (.aload_n 0, 0, 0), (.getfield 26, 0, 0), (.iconst 0, 0, 0), (.bipush 63, 63, 0)] (pc' := 225) (lo' := [some (.ref 66), none, none]) (st' := [.int 63, .int 0, .ref 71, .int 0, .ref 72]) (σ' := s37) (by decide +kernel) rfl rfl ?_
                refine g_callS (rest := []) [.ref 72, .int 0, .ref 71, .int 0, .int 63] hx hc mk_m_copy ln_10_183 (by decide +kernel) (by decide) (Nat.le_of_ble_eq_true rfl) (s_m_copy_72_71 (ok_b h)) (fun r38 s38 h => ?_)
                refine g_run hx [(.aload_n 0, 0, 0), (.getfield 32, 0, 0), (.iconst 0, 0, 0), (.aload_n 0, 0, 0), (.getfield 35, 0, 0), (.iconst 0, 0, 0), (.bipush 63, 63, 0)] (pc' := 240) (lo' := [some (.ref 66), none, none]) (st' := [.int 63, .int 0, .ref 74, .int 0, .ref 73]) (σ' := s38) (by decide +kernel) rfl rfl ?_
                refine g_callS (rest := []) [.ref 73, .int 0, .ref 74, .int 0, .int 63] hx hc mk_m_copy ln_10_183 (by decide +kernel) (by decide) (Nat.le_of_ble_eq_true rfl) (s_m_copy_73_74 (ok_b h)) (fun r39 s39 h => ?_)
                refine g_run hx [(.aload_n 0, 0, 0), (.iconst 1, 1, 0), (.putfield 187, 0, 0), (.aload_n 0, 0, 0), (.iconst 0, 0, 0), (.putfield 190, 0, 0), (.aload_n 0, 0, 0), (.iconst 0, 0, 0), (.putfield 193, 0, 0), (.aload_n 0, 0, 0), (.getfield 20, 0, 0), (.iconst 0, 0, 0), (.iaload, 0, 0)] (pc' := 264) (lo' := [some (.ref 66), none, none]) (st' := [.int (gA (sI (sI (sI s39 66 14 1) 66 24 0) 66 25 0) 69 0)]) (σ' := sI (sI (sI s39 66 14 1) 66 24 0) 66 25 0) (by decide +kernel) rfl rfl ?_
                exact g_iret hx hr rfl _ rfl (by decide +kernel) (ok_some h)
              · have h := ok_f h c188
                refine g_run hx [(.aload_n 0, 0, 0), (.iconst 4, 4, 0)] (pc' := 193) (lo' := [some (.ref 66), none, none]) (st' := [.int 4, .ref 66]) (σ' := t9) (by decide +kernel) rfl rfl ?_
                refine g_callV (rest := []) [.int 4] hx hc mk_m_no ln_10_177 rfl (by decide +kernel) (by decide) (Nat.le_of_ble_eq_true rfl) (s_m_no (ok_b h)) (fun r40 s40 h => ?_)
                exact g_iret hx hr rfl _ rfl (by decide +kernel) (ok_some h)
            · have h := ok_t h c171
              refine g_run hx [(.aload_n 0, 0, 0), (.bipush 6, 6, 0), (.aload_n 0, 0, 0), (.getfield 87, 0, 0)] (pc' := 181) (lo' := [some (.ref 66), none, none]) (st' := [.int (gI t9 66 4), .int 6, .ref 66]) (σ' := t9) (by decide +kernel) rfl rfl ?_
              refine g_callV (rest := []) [.int 6, .int (gI t9 66 4)] hx hc mk_m_wrong ln_10_133 rfl (by decide +kernel) (by decide) (Nat.le_of_ble_eq_true rfl) (s_m_wrong (ok_b h)) (fun r41 s41 h => ?_)
              refine g_run hx [(.aload_n 0, 0, 0), (.getfield 106, 0, 0)] (pc' := 188) (lo' := [some (.ref 66), none, none]) (st' := [.int (gI s41 66 13)]) (σ' := s41) (by decide +kernel) rfl rfl ?_
              refine g_if_eq hx (off := 9) (tgt := 197) (by decide +kernel) (by decide) (fun c188 => ?_) (fun c188 => ?_)
              · have h := ok_t h c188
                refine g_run hx [(.aload_n 0, 0, 0), (.getfield 23, 0, 0), (.iconst 0, 0, 0), (.aload_n 0, 0, 0), (.getfield 20, 0, 0), (.iconst 0, 0, 0), (.sipush 189, 189, 0)] (pc' := 210) (lo' := [some (.ref 66), none, none]) (st' := [.int 189, .int 0, .ref 69, .int 0, .ref 70]) (σ' := s41) (by decide +kernel) rfl rfl ?_
                refine g_callS (rest := []) [.ref 70, .int 0, .ref 69, .int 0, .int 189] hx hc mk_m_copy ln_10_183 (by decide +kernel) (by decide) (Nat.le_of_ble_eq_true rfl) (s_m_copy_70_69 (ok_b h)) (fun r42 s42 h => ?_)
                refine g_run hx [(.aload_n 0, 0, 0), (.getfield 29, 0, 0), (.iconst 0, 0, 0), (.aload_n 0, 0, 0), (.getfield 26, 0, 0), (.iconst 0, 0, 0), (.bipush 63, 63, 0)] (pc' := 225) (lo' := [some (.ref 66), none, none]) (st' := [.int 63, .int 0, .ref 71, .int 0, .ref 72]) (σ' := s42) (by decide +kernel) rfl rfl ?_
                refine g_callS (rest := []) [.ref 72, .int 0, .ref 71, .int 0, .int 63] hx hc mk_m_copy ln_10_183 (by decide +kernel) (by decide) (Nat.le_of_ble_eq_true rfl) (s_m_copy_72_71 (ok_b h)) (fun r43 s43 h => ?_)
                refine g_run hx [(.aload_n 0, 0, 0), (.getfield 32, 0, 0), (.iconst 0, 0, 0), (.aload_n 0, 0, 0), (.getfield 35, 0, 0), (.iconst 0, 0, 0), (.bipush 63, 63, 0)] (pc' := 240) (lo' := [some (.ref 66), none, none]) (st' := [.int 63, .int 0, .ref 74, .int 0, .ref 73]) (σ' := s43) (by decide +kernel) rfl rfl ?_
                refine g_callS (rest := []) [.ref 73, .int 0, .ref 74, .int 0, .int 63] hx hc mk_m_copy ln_10_183 (by decide +kernel) (by decide) (Nat.le_of_ble_eq_true rfl) (s_m_copy_73_74 (ok_b h)) (fun r44 s44 h => ?_)
                refine g_run hx [(.aload_n 0, 0, 0), (.iconst 1, 1, 0), (.putfield 187, 0, 0), (.aload_n 0, 0, 0), (.iconst 0, 0, 0), (.putfield 190, 0, 0), (.aload_n 0, 0, 0), (.iconst 0, 0, 0), (.putfield 193, 0, 0), (.aload_n 0, 0, 0), (.getfield 20, 0, 0), (.iconst 0, 0, 0), (.iaload, 0, 0)] (pc' := 264) (lo' := [some (.ref 66), none, none]) (st' := [.int (gA (sI (sI (sI s44 66 14 1) 66 24 0) 66 25 0) 69 0)]) (σ' := sI (sI (sI s44 66 14 1) 66 24 0) 66 25 0) (by decide +kernel) rfl rfl ?_
                exact g_iret hx hr rfl _ rfl (by decide +kernel) (ok_some h)
              · have h := ok_f h c188
                refine g_run hx [(.aload_n 0, 0, 0), (.iconst 4, 4, 0)] (pc' := 193) (lo' := [some (.ref 66), none, none]) (st' := [.int 4, .ref 66]) (σ' := s41) (by decide +kernel) rfl rfl ?_
                refine g_callV (rest := []) [.int 4] hx hc mk_m_no ln_10_177 rfl (by decide +kernel) (by decide) (Nat.le_of_ble_eq_true rfl) (s_m_no (ok_b h)) (fun r45 s45 h => ?_)
                exact g_iret hx hr rfl _ rfl (by decide +kernel) (ok_some h)
      · have h := ok_f h c136
        refine g_run hx [(.aload_n 0, 0, 0), (.iconst 1, 1, 0), (.aload_n 0, 0, 0), (.getfield 87, 0, 0)] (pc' := 145) (lo' := [some (.ref 66), none, none]) (st' := [.int (gI t9 66 4), .int 1, .ref 66]) (σ' := t9) (by decide +kernel) rfl rfl ?_
        refine g_callV (rest := []) [.int 1, .int (gI t9 66 4)] hx hc mk_m_wrong ln_10_133 rfl (by decide +kernel) (by decide) (Nat.le_of_ble_eq_true rfl) (s_m_wrong (ok_b h)) (fun r46 s46 h => ?_)
        refine g_run hx [(.aload_n 0, 0, 0), (.getfield 106, 0, 0)] (pc' := 152) (lo' := [some (.ref 66), none, none]) (st' := [.int (gI s46 66 13)]) (σ' := s46) (by decide +kernel) rfl rfl ?_
        refine g_if_ne hx (off := 32) (tgt := 184) (by decide +kernel) (by decide) (fun c152 => ?_) (fun c152 => ?_)
        · have h := ok_f h c152
          refine g_run hx [(.aload_n 0, 0, 0), (.getfield 106, 0, 0)] (pc' := 188) (lo' := [some (.ref 66), none, none]) (st' := [.int (gI s46 66 13)]) (σ' := s46) (by decide +kernel) rfl rfl ?_
          refine g_if_eq hx (off := 9) (tgt := 197) (by decide +kernel) (by decide) (fun c188 => ?_) (fun c188 => ?_)
          · have h := ok_t h c188
            refine g_run hx [(.aload_n 0, 0, 0), (.getfield 23, 0, 0), (.iconst 0, 0, 0), (.aload_n 0, 0, 0), (.getfield 20, 0, 0), (.iconst 0, 0, 0), (.sipush 189, 189, 0)] (pc' := 210) (lo' := [some (.ref 66), none, none]) (st' := [.int 189, .int 0, .ref 69, .int 0, .ref 70]) (σ' := s46) (by decide +kernel) rfl rfl ?_
            refine g_callS (rest := []) [.ref 70, .int 0, .ref 69, .int 0, .int 189] hx hc mk_m_copy ln_10_183 (by decide +kernel) (by decide) (Nat.le_of_ble_eq_true rfl) (s_m_copy_70_69 (ok_b h)) (fun r47 s47 h => ?_)
            refine g_run hx [(.aload_n 0, 0, 0), (.getfield 29, 0, 0), (.iconst 0, 0, 0), (.aload_n 0, 0, 0), (.getfield 26, 0, 0), (.iconst 0, 0, 0), (.bipush 63, 63, 0)] (pc' := 225) (lo' := [some (.ref 66), none, none]) (st' := [.int 63, .int 0, .ref 71, .int 0, .ref 72]) (σ' := s47) (by decide +kernel) rfl rfl ?_
            refine g_callS (rest := []) [.ref 72, .int 0, .ref 71, .int 0, .int 63] hx hc mk_m_copy ln_10_183 (by decide +kernel) (by decide) (Nat.le_of_ble_eq_true rfl) (s_m_copy_72_71 (ok_b h)) (fun r48 s48 h => ?_)
            refine g_run hx [(.aload_n 0, 0, 0), (.getfield 32, 0, 0), (.iconst 0, 0, 0), (.aload_n 0, 0, 0), (.getfield 35, 0, 0), (.iconst 0, 0, 0), (.bipush 63, 63, 0)] (pc' := 240) (lo' := [some (.ref 66), none, none]) (st' := [.int 63, .int 0, .ref 74, .int 0, .ref 73]) (σ' := s48) (by decide +kernel) rfl rfl ?_
            refine g_callS (rest := []) [.ref 73, .int 0, .ref 74, .int 0, .int 63] hx hc mk_m_copy ln_10_183 (by decide +kernel) (by decide) (Nat.le_of_ble_eq_true rfl) (s_m_copy_73_74 (ok_b h)) (fun r49 s49 h => ?_)
            refine g_run hx [(.aload_n 0, 0, 0), (.iconst 1, 1, 0), (.putfield 187, 0, 0), (.aload_n 0, 0, 0), (.iconst 0, 0, 0), (.putfield 190, 0, 0), (.aload_n 0, 0, 0), (.iconst 0, 0, 0), (.putfield 193, 0, 0), (.aload_n 0, 0, 0), (.getfield 20, 0, 0), (.iconst 0, 0, 0), (.iaload, 0, 0)] (pc' := 264) (lo' := [some (.ref 66), none, none]) (st' := [.int (gA (sI (sI (sI s49 66 14 1) 66 24 0) 66 25 0) 69 0)]) (σ' := sI (sI (sI s49 66 14 1) 66 24 0) 66 25 0) (by decide +kernel) rfl rfl ?_
            exact g_iret hx hr rfl _ rfl (by decide +kernel) (ok_some h)
          · have h := ok_f h c188
            refine g_run hx [(.aload_n 0, 0, 0), (.iconst 4, 4, 0)] (pc' := 193) (lo' := [some (.ref 66), none, none]) (st' := [.int 4, .ref 66]) (σ' := s46) (by decide +kernel) rfl rfl ?_
            refine g_callV (rest := []) [.int 4] hx hc mk_m_no ln_10_177 rfl (by decide +kernel) (by decide) (Nat.le_of_ble_eq_true rfl) (s_m_no (ok_b h)) (fun r50 s50 h => ?_)
            exact g_iret hx hr rfl _ rfl (by decide +kernel) (ok_some h)
        · have h := ok_t h c152
          refine g_run hx [(.aload_n 0, 0, 0), (.getfield 23, 0, 0), (.bipush 8, 8, 0), (.iaload, 0, 0)] (pc' := 162) (lo' := [some (.ref 66), none, none]) (st' := [.int (gA s46 70 8)]) (σ' := s46) (by decide +kernel) rfl rfl ?_
          refine g_if_eq hx (off := 12) (tgt := 174) (by decide +kernel) (by decide) (fun c162 => ?_) (fun c162 => ?_)
          · have h := ok_t h c162
            refine g_run hx [(.aload_n 0, 0, 0), (.bipush 6, 6, 0), (.aload_n 0, 0, 0), (.getfield 87, 0, 0)] (pc' := 181) (lo' := [some (.ref 66), none, none]) (st' := [.int (gI s46 66 4), .int 6, .ref 66]) (σ' := s46) (by decide +kernel) rfl rfl ?_
            refine g_callV (rest := []) [.int 6, .int (gI s46 66 4)] hx hc mk_m_wrong ln_10_133 rfl (by decide +kernel) (by decide) (Nat.le_of_ble_eq_true rfl) (s_m_wrong (ok_b h)) (fun r51 s51 h => ?_)
            refine g_run hx [(.aload_n 0, 0, 0), (.getfield 106, 0, 0)] (pc' := 188) (lo' := [some (.ref 66), none, none]) (st' := [.int (gI s51 66 13)]) (σ' := s51) (by decide +kernel) rfl rfl ?_
            refine g_if_eq hx (off := 9) (tgt := 197) (by decide +kernel) (by decide) (fun c188 => ?_) (fun c188 => ?_)
            · have h := ok_t h c188
              refine g_run hx [(.aload_n 0, 0, 0), (.getfield 23, 0, 0), (.iconst 0, 0, 0), (.aload_n 0, 0, 0), (.getfield 20, 0, 0), (.iconst 0, 0, 0), (.sipush 189, 189, 0)] (pc' := 210) (lo' := [some (.ref 66), none, none]) (st' := [.int 189, .int 0, .ref 69, .int 0, .ref 70]) (σ' := s51) (by decide +kernel) rfl rfl ?_
              refine g_callS (rest := []) [.ref 70, .int 0, .ref 69, .int 0, .int 189] hx hc mk_m_copy ln_10_183 (by decide +kernel) (by decide) (Nat.le_of_ble_eq_true rfl) (s_m_copy_70_69 (ok_b h)) (fun r52 s52 h => ?_)
              refine g_run hx [(.aload_n 0, 0, 0), (.getfield 29, 0, 0), (.iconst 0, 0, 0), (.aload_n 0, 0, 0), (.getfield 26, 0, 0), (.iconst 0, 0, 0), (.bipush 63, 63, 0)] (pc' := 225) (lo' := [some (.ref 66), none, none]) (st' := [.int 63, .int 0, .ref 71, .int 0, .ref 72]) (σ' := s52) (by decide +kernel) rfl rfl ?_
              refine g_callS (rest := []) [.ref 72, .int 0, .ref 71, .int 0, .int 63] hx hc mk_m_copy ln_10_183 (by decide +kernel) (by decide) (Nat.le_of_ble_eq_true rfl) (s_m_copy_72_71 (ok_b h)) (fun r53 s53 h => ?_)
              refine g_run hx [(.aload_n 0, 0, 0), (.getfield 32, 0, 0), (.iconst 0, 0, 0), (.aload_n 0, 0, 0), (.getfield 35, 0, 0), (.iconst 0, 0, 0), (.bipush 63, 63, 0)] (pc' := 240) (lo' := [some (.ref 66), none, none]) (st' := [.int 63, .int 0, .ref 74, .int 0, .ref 73]) (σ' := s53) (by decide +kernel) rfl rfl ?_
              refine g_callS (rest := []) [.ref 73, .int 0, .ref 74, .int 0, .int 63] hx hc mk_m_copy ln_10_183 (by decide +kernel) (by decide) (Nat.le_of_ble_eq_true rfl) (s_m_copy_73_74 (ok_b h)) (fun r54 s54 h => ?_)
              refine g_run hx [(.aload_n 0, 0, 0), (.iconst 1, 1, 0), (.putfield 187, 0, 0), (.aload_n 0, 0, 0), (.iconst 0, 0, 0), (.putfield 190, 0, 0), (.aload_n 0, 0, 0), (.iconst 0, 0, 0), (.putfield 193, 0, 0), (.aload_n 0, 0, 0), (.getfield 20, 0, 0), (.iconst 0, 0, 0), (.iaload, 0, 0)] (pc' := 264) (lo' := [some (.ref 66), none, none]) (st' := [.int (gA (sI (sI (sI s54 66 14 1) 66 24 0) 66 25 0) 69 0)]) (σ' := sI (sI (sI s54 66 14 1) 66 24 0) 66 25 0) (by decide +kernel) rfl rfl ?_
              exact g_iret hx hr rfl _ rfl (by decide +kernel) (ok_some h)
            · have h := ok_f h c188
              refine g_run hx [(.aload_n 0, 0, 0), (.iconst 4, 4, 0)] (pc' := 193) (lo' := [some (.ref 66), none, none]) (st' := [.int 4, .ref 66]) (σ' := s51) (by decide +kernel) rfl rfl ?_
              refine g_callV (rest := []) [.int 4] hx hc mk_m_no ln_10_177 rfl (by decide +kernel) (by decide) (Nat.le_of_ble_eq_true rfl) (s_m_no (ok_b h)) (fun r55 s55 h => ?_)
              exact g_iret hx hr rfl _ rfl (by decide +kernel) (ok_some h)
          · have h := ok_f h c162
            refine g_run hx [(.aload_n 0, 0, 0), (.getfield 23, 0, 0), (.iconst 2, 2, 0), (.iaload, 0, 0)] (pc' := 171) (lo' := [some (.ref 66), none, none]) (st' := [.int (gA s46 70 2)]) (σ' := s46) (by decide +kernel) rfl rfl ?_
            refine g_if_ne hx (off := 13) (tgt := 184) (by decide +kernel) (by decide) (fun c171 => ?_) (fun c171 => ?_)
            · have h := ok_f h c171
              refine g_run hx [(.aload_n 0, 0, 0), (.getfield 106, 0, 0)] (pc' := 188) (lo' := [some (.ref 66), none, none]) (st' := [.int (gI s46 66 13)]) (σ' := s46) (by decide +kernel) rfl rfl ?_
              refine g_if_eq hx (off := 9) (tgt := 197) (by decide +kernel) (by decide) (fun c188 => ?_) (fun c188 => ?_)
              · have h := ok_t h c188
                refine g_run hx [(.aload_n 0, 0, 0), (.getfield 23, 0, 0), (.iconst 0, 0, 0), (.aload_n 0, 0, 0), (.getfield 20, 0, 0), (.iconst 0, 0, 0), (.sipush 189, 189, 0)] (pc' := 210) (lo' := [some (.ref 66), none, none]) (st' := [.int 189, .int 0, .ref 69, .int 0, .ref 70]) (σ' := s46) (by decide +kernel) rfl rfl ?_
                refine g_callS (rest := []) [.ref 70, .int 0, .ref 69, .int 0, .int 189] hx hc mk_m_copy ln_10_183 (by decide +kernel) (by decide) (Nat.le_of_ble_eq_true rfl) (s_m_copy_70_69 (ok_b h)) (fun r56 s56 h => ?_)
                refine g_run hx [(.aload_n 0, 0, 0), (.getfield 29, 0, 0), (.iconst 0, 0, 0), (.aload_n 0, 0, 0), (.getfield 26, 0, 0), (.iconst 0, 0, 0), (.bipush 63, 63, 0)] (pc' := 225) (lo' := [some (.ref 66), none, none]) (st' := [.int 63, .int 0, .ref 71, .int 0, .ref 72]) (σ' := s56) (by decide +kernel) rfl rfl ?_
                refine g_callS (rest := []) [.ref 72, .int 0, .ref 71, .int 0, .int 63] hx hc mk_m_copy ln_10_183 (by decide +kernel) (by decide) (Nat.le_of_ble_eq_true rfl) (s_m_copy_72_71 (ok_b h)) (fun r57 s57 h => ?_)
                refine g_run hx [(.aload_n 0, 0, 0), (.getfield 32, 0, 0), (.iconst 0, 0, 0), (.aload_n 0, 0, 0), (.getfield 35, 0, 0), (.iconst 0, 0, 0), (.bipush 63, 63, 0)] (pc' := 240) (lo' := [some (.ref 66), none, none]) (st' := [.int 63, .int 0, .ref 74, .int 0, .ref 73]) (σ' := s57) (by decide +kernel) rfl rfl ?_
                refine g_callS (rest := []) [.ref 73, .int 0, .ref 74, .int 0, .int 63] hx hc mk_m_copy ln_10_183 (by decide +kernel) (by decide) (Nat.le_of_ble_eq_true rfl) (s_m_copy_73_74 (ok_b h)) (fun r58 s58 h => ?_)
                refine g_run hx [(.aload_n 0, 0, 0), (.iconst 1, 1, 0), (.putfield 187, 0, 0), (.aload_n 0, 0, 0), (.iconst 0, 0, 0), (.putfield 190, 0, 0), (.aload_n 0, 0, 0), (.iconst 0, 0, 0), (.putfield 193, 0, 0), (.aload_n 0, 0, 0), (.getfield 20, 0, 0), (.iconst 0, 0, 0), (.iaload, 0, 0)] (pc' := 264) (lo' := [some (.ref 66), none, none]) (st' := [.int (gA (sI (sI (sI s58 66 14 1) 66 24 0) 66 25 0) 69 0)]) (σ' := sI (sI (sI s58 66 14 1) 66 24 0) 66 25 0) (by decide +kernel) rfl rfl ?_
                exact g_iret hx hr rfl _ rfl (by decide +kernel) (ok_some h)
              · have h := ok_f h c188
                refine g_run hx [(.aload_n 0, 0, 0), (.iconst 4, 4, 0)] (pc' := 193) (lo' := [some (.ref 66), none, none]) (st' := [.int 4, .ref 66]) (σ' := s46) (by decide +kernel) rfl rfl ?_
                refine g_callV (rest := []) [.int 4] hx hc mk_m_no ln_10_177 rfl (by decide +kernel) (by decide) (Nat.le_of_ble_eq_true rfl) (s_m_no (ok_b h)) (fun r59 s59 h => ?_)
                exact g_iret hx hr rfl _ rfl (by decide +kernel) (ok_some h)
            · have h := ok_t h c171
              refine g_run hx [(.aload_n 0, 0, 0), (.bipush 6, 6, 0), (.aload_n 0, 0, 0), (.getfield 87, 0, 0)] (pc' := 181) (lo' := [some (.ref 66), none, none]) (st' := [.int (gI s46 66 4), .int 6, .ref 66]) (σ' := s46) (by decide +kernel) rfl rfl ?_
              refine g_callV (rest := []) [.int 6, .int (gI s46 66 4)] hx hc mk_m_wrong ln_10_133 rfl (by decide +kernel) (by decide) (Nat.le_of_ble_eq_true rfl) (s_m_wrong (ok_b h)) (fun r60 s60 h => ?_)
              refine g_run hx [(.aload_n 0, 0, 0), (.getfield 106, 0, 0)] (pc' := 188) (lo' := [some (.ref 66), none, none]) (st' := [.int (gI s60 66 13)]) (σ' := s60) (by decide +kernel) rfl rfl ?_
              refine g_if_eq hx (off := 9) (tgt := 197) (by decide +kernel) (by decide) (fun c188 => ?_) (fun c188 => ?_)
              · have h := ok_t h c188
                refine g_run hx [(.aload_n 0, 0, 0), (.getfield 23, 0, 0), (.iconst 0, 0, 0), (.aload_n 0, 0, 0), (.getfield 20, 0, 0), (.iconst 0, 0, 0), (.sipush 189, 189, 0)] (pc' := 210) (lo' := [some (.ref 66), none, none]) (st' := [.int 189, .int 0, .ref 69, .int 0, .ref 70]) (σ' := s60) (by decide +kernel) rfl rfl ?_
                refine g_callS (rest := []) [.ref 70, .int 0, .ref 69, .int 0, .int 189] hx hc mk_m_copy ln_10_183 (by decide +kernel) (by decide) (Nat.le_of_ble_eq_true rfl) (s_m_copy_70_69 (ok_b h)) (fun r61 s61 h => ?_)
                refine g_run hx [(.aload_n 0, 0, 0), (.getfield 29, 0, 0), (.iconst 0, 0, 0), (.aload_n 0, 0, 0), (.getfield 26, 0, 0), (.iconst 0, 0, 0), (.bipush 63, 63, 0)] (pc' := 225) (lo' := [some (.ref 66), none, none]) (st' := [.int 63, .int 0, .ref 71, .int 0, .ref 72]) (σ' := s61) (by decide +kernel) rfl rfl ?_
                refine g_callS (rest := []) [.ref 72, .int 0, .ref 71, .int 0, .int 63] hx hc mk_m_copy ln_10_183 (by decide +kernel) (by decide) (Nat.le_of_ble_eq_true rfl) (s_m_copy_72_71 (ok_b h)) (fun r62 s62 h => ?_)
                refine g_run hx [(.aload_n 0, 0, 0), (.getfield 32, 0, 0), (.iconst 0, 0, 0), (.aload_n 0, 0, 0), (.getfield 35, 0, 0), (.iconst 0, 0, 0), (.bipush 63, 63, 0)] (pc' := 240) (lo' := [some (.ref 66), none, none]) (st' := [.int 63, .int 0, .ref 74, .int 0, .ref 73]) (σ' := s62) (by decide +kernel) rfl rfl ?_
                refine g_callS (rest := []) [.ref 73, .int 0, .ref 74, .int 0, .int 63] hx hc mk_m_copy ln_10_183 (by decide +kernel) (by decide) (Nat.le_of_ble_eq_true rfl) (s_m_copy_73_74 (ok_b h)) (fun r63 s63 h => ?_)
                refine g_run hx [(.aload_n 0, 0, 0), (.iconst 1, 1, 0), (.putfield 187, 0, 0), (.aload_n 0, 0, 0), (.iconst 0, 0, 0), (.putfield 190, 0, 0), (.aload_n 0, 0, 0), (.iconst 0, 0, 0), (.putfield 193, 0, 0), (.aload_n 0, 0, 0), (.getfield 20, 0, 0), (.iconst 0, 0, 0), (.iaload, 0, 0)] (pc' := 264) (lo' := [some (.ref 66), none, none]) (st' := [.int (gA (sI (sI (sI s63 66 14 1) 66 24 0) 66 25 0) 69 0)]) (σ' := sI (sI (sI s63 66 14 1) 66 24 0) 66 25 0) (by decide +kernel) rfl rfl ?_
                exact g_iret hx hr rfl _ rfl (by decide +kernel) (ok_some h)
              · have h := ok_f h c188
                refine g_run hx [(.aload_n 0, 0, 0), (.iconst 4, 4, 0)] (pc' := 193) (lo' := [some (.ref 66), none, none]) (st' := [.int 4, .ref 66]) (σ' := s60) (by decide +kernel) rfl rfl ?_
                refine g_callV (rest := []) [.int 4] hx hc mk_m_no ln_10_177 rfl (by decide +kernel) (by decide) (Nat.le_of_ble_eq_true rfl) (s_m_no (ok_b h)) (fun r64 s64 h => ?_)
                exact g_iret hx hr rfl _ rfl (by decide +kernel) (ok_some h)
  · have h := ok_f h c13
    refine g_run hx [(.aload_n 0, 0, 0), (.iconst 2, 2, 0)] (pc' := 18) (lo' := [some (.ref 66), some (.int v1), none]) (st' := [.int 2, .ref 66]) (σ' := s2) (by decide +kernel) rfl rfl ?_
    refine g_callV (rest := []) [.int 2] hx hc mk_m_no ln_10_177 rfl (by decide +kernel) (by decide) (Nat.le_of_ble_eq_true rfl) (s_m_no (ok_b h)) (fun r65 s65 h => ?_)
    exact g_iret hx hr rfl _ rfl (by decide +kernel) (ok_some h)
