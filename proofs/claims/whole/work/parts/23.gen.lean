def f_js_length (N : Nat) (w0 : Nat) (σ : Sg) : Option (Int32 × Sg) :=
  (f_js_coder N w0 σ).bind fun q1 =>
  some (((nI (strLen.getD w0 0)) >>> (q1.1 &&& 31)), q1.2)
set_option maxRecDepth 100000 in
theorem s_js_length {y : EX} {N : Nat} {w0 : Nat} (hw0 : w0 < 20) {σ : Sg} {P : Int32 × Sg → Prop} (h : ok (f_js_length N w0 σ) P) : Ev y M_js_length 1 [.ref (100 + w0)] σ rvI P := by
  refine Ev.of mk_js_length (Nat.le_of_ble_eq_true rfl) (fun x hx hc hr => ?_)
  have hx : Cx 15 prog_21_method_54_code x := hx
  have hc : Cc y 1 1 x := hc
  show G x 0 [some (.ref (100 + w0))] [] σ
  unfold f_js_length at h
  refine g_run hx [(.aload_n 0, 0, 0)] (pc' := 1) (lo' := [some (.ref (100 + w0))]) (st' := [.ref (100 + w0)]) (σ' := σ) (by decide +kernel) rfl rfl ?_
  refine g_sval hx hc hw0 (by decide +kernel) ?_
  refine g_slenA hx hc hw0 (by decide +kernel) ?_
  refine g_run hx [(.aload_n 0, 0, 0)] (pc' := 6) (lo' := [some (.ref (100 + w0))]) (st' := [.ref (100 + w0), .int (nI (strLen.getD w0 0))]) (σ' := σ) (by decide +kernel) rfl rfl ?_
  refine g_callT (w := w0) (rest := [.int (nI (strLen.getD w0 0))]) [] hx hc mk_js_coder rfl ln_15_335 hw0 (by decide +kernel) (by decide) (Nat.le_of_ble_eq_true rfl) (s_js_coder hw0 (ok_b h)) (fun r1 s1 h => ?_)
  refine g_run hx [(.ishr, 0, 0)] (pc' := 10) (lo' := [some (.ref (100 + w0))]) (st' := [.int ((nI (strLen.getD w0 0)) >>> (r1 &&& 31))]) (σ' := s1) (by decide +kernel) rfl rfl ?_
  exact g_iret hx hr rfl _ rfl (by decide +kernel) (ok_some h)
def f_js_isLatin1 (N : Nat) (w0 : Nat) (σ : Sg) : Option (Bool × Sg) :=
  some (true, σ)
set_option maxRecDepth 100000 in
theorem s_js_isLatin1 {y : EX} {N : Nat} {w0 : Nat} (hw0 : w0 < 20) {σ : Sg} {P : Bool × Sg → Prop} (h : ok (f_js_isLatin1 N w0 σ) P) : Ev y M_js_isLatin1 0 [.ref (100 + w0)] σ rvB P := by
  refine Ev.of mk_js_isLatin1 (Nat.le_of_ble_eq_true rfl) (fun x hx hc hr => ?_)
  have hx : Cx 15 prog_21_method_154_code x := hx
  have hc : Cc y 1 0 x := hc
  show G x 0 [some (.ref (100 + w0))] [] σ
  unfold f_js_isLatin1 at h
  refine g_scmp hx hc (by decide +kernel) ?_
  refine g_if_eq hx (off := 14) (tgt := 17) (by decide +kernel) (by decide) (fun c => absurd c (by decide)) (fun _ => ?_)
  refine g_run hx [(.aload_n 0, 0, 0)] (pc' := 7) (lo' := [some (.ref (100 + w0))]) (st' := [.ref (100 + w0)]) (σ' := σ) (by decide +kernel) rfl rfl ?_
  refine g_scod hx hc hw0 (by decide +kernel) ?_
  refine g_if_ne hx (off := 7) (tgt := 17) (by decide +kernel) (by decide) (fun c => absurd c (by decide)) (fun _ => ?_)
  refine g_run hx [(.iconst 1, 1, 0)] (pc' := 14) (lo' := [some (.ref (100 + w0))]) (st' := [.int 1]) (σ' := σ) (by decide +kernel) rfl rfl ?_
  refine g_goto hx (off := 4) (tgt := 18) (by decide +kernel) (by decide) ?_
  exact g_zret (b := true) hx hr rfl true rfl (by decide +kernel) (ok_some h)
def f_jp_checkIndex (N : Nat) (v0 : Int32) (v1 : Int32) (σ : Sg) : Option (Int32 × Sg) :=
  if v0 < 0 then
    none
  else
    if v0 < v1 then
      some (v0, σ)
    else
      none
set_option maxRecDepth 100000 in
theorem s_jp_checkIndex_null {y : EX} {N : Nat} {v0 : Int32} {v1 : Int32} {σ : Sg} {P : Int32 × Sg → Prop} (h : ok (f_jp_checkIndex N v0 v1 σ) P) : Ev y M_jp_checkIndex 0 [.int v0, .int v1, .null] σ rvI P := by
  refine Ev.of mk_jp_checkIndex (Nat.le_of_ble_eq_true rfl) (fun x hx hc hr => ?_)
  have hx : Cx 17 prog_28_method_11_code x := hx
  have hc : Cc y 3 0 x := hc
  show G x 0 [some (.int v0), some (.int v1), some (.null)] [] σ
  unfold f_jp_checkIndex at h
  refine g_run hx [(.iload_n 0, 0, 0)] (pc' := 1) (lo' := [some (.int v0), some (.int v1), some (.null)]) (st' := [.int v0]) (σ' := σ) (by decide +kernel) rfl rfl ?_
  refine g_if_lt hx (off := 8) (tgt := 9) (by decide +kernel) (by decide) (fun c1 => ?_) (fun c1 => ?_)
  · have h := ok_t h c1
    exact ok_none h
  · have h := ok_f h c1
    refine g_run hx [(.iload_n 0, 0, 0), (.iload_n 1, 0, 0)] (pc' := 6) (lo' := [some (.int v0), some (.int v1), some (.null)]) (st' := [.int v1, .int v0]) (σ' := σ) (by decide +kernel) rfl rfl ?_
    refine g_ic_lt hx (off := 10) (tgt := 16) (by decide +kernel) (by decide) (fun c6 => ?_) (fun c6 => ?_)
    · have h := ok_t h c6
      refine g_run hx [(.iload_n 0, 0, 0)] (pc' := 17) (lo' := [some (.int v0), some (.int v1), some (.null)]) (st' := [.int v0]) (σ' := σ) (by decide +kernel) rfl rfl ?_
      exact g_iret hx hr rfl _ rfl (by decide +kernel) (ok_some h)
    · have h := ok_f h c6
      exact ok_none h
set_option maxRecDepth 100000 in
theorem s_jp_checkIndex_91 {y : EX} {N : Nat} {v0 : Int32} {v1 : Int32} {σ : Sg} {P : Int32 × Sg → Prop} (h : ok (f_jp_checkIndex N v0 v1 σ) P) : Ev y M_jp_checkIndex 0 [.int v0, .int v1, .ref 91] σ rvI P := by
  refine Ev.of mk_jp_checkIndex (Nat.le_of_ble_eq_true rfl) (fun x hx hc hr => ?_)
  have hx : Cx 17 prog_28_method_11_code x := hx
  have hc : Cc y 3 0 x := hc
  show G x 0 [some (.int v0), some (.int v1), some (.ref 91)] [] σ
  unfold f_jp_checkIndex at h
  refine g_run hx [(.iload_n 0, 0, 0)] (pc' := 1) (lo' := [some (.int v0), some (.int v1), some (.ref 91)]) (st' := [.int v0]) (σ' := σ) (by decide +kernel) rfl rfl ?_
  refine g_if_lt hx (off := 8) (tgt := 9) (by decide +kernel) (by decide) (fun c1 => ?_) (fun c1 => ?_)
  · have h := ok_t h c1
    exact ok_none h
  · have h := ok_f h c1
    refine g_run hx [(.iload_n 0, 0, 0), (.iload_n 1, 0, 0)] (pc' := 6) (lo' := [some (.int v0), some (.int v1), some (.ref 91)]) (st' := [.int v1, .int v0]) (σ' := σ) (by decide +kernel) rfl rfl ?_
    refine g_ic_lt hx (off := 10) (tgt := 16) (by decide +kernel) (by decide) (fun c6 => ?_) (fun c6 => ?_)
    · have h := ok_t h c6
      refine g_run hx [(.iload_n 0, 0, 0)] (pc' := 17) (lo' := [some (.int v0), some (.int v1), some (.ref 91)]) (st' := [.int v0]) (σ' := σ) (by decide +kernel) rfl rfl ?_
      exact g_iret hx hr rfl _ rfl (by decide +kernel) (ok_some h)
    · have h := ok_f h c6
      exact ok_none h
def f_js_checkIndex (N : Nat) (v0 : Int32) (v1 : Int32) (σ : Sg) : Option (Unit × Sg) :=
  (f_jp_checkIndex N v0 v1 σ).bind fun q1 =>
  some ((), q1.2)
set_option maxRecDepth 100000 in
theorem s_js_checkIndex {y : EX} {N : Nat} {v0 : Int32} {v1 : Int32} {σ : Sg} {P : Unit × Sg → Prop} (h : ok (f_js_checkIndex N v0 v1 σ) P) : Ev y M_js_checkIndex 1 [.int v0, .int v1] σ rvN P := by
  refine Ev.of mk_js_checkIndex (Nat.le_of_ble_eq_true rfl) (fun x hx hc hr => ?_)
  have hx : Cx 15 prog_21_method_155_code x := hx
  have hc : Cc y 2 1 x := hc
  show G x 0 [some (.int v0), some (.int v1)] [] σ
  unfold f_js_checkIndex at h
  refine g_run hx [(.iload_n 0, 0, 0), (.iload_n 1, 0, 0)] (pc' := 2) (lo' := [some (.int v0), some (.int v1)]) (st' := [.int v1, .int v0]) (σ' := σ) (by decide +kernel) rfl rfl ?_
  refine g_sfmt hx hc (by decide +kernel) ?_ ?_
  · refine g_callS (rest := []) [.int v0, .int v1, .null] hx hc mk_jp_checkIndex ln_15_1059 (by decide +kernel) (by decide) (Nat.le_of_ble_eq_true rfl) (s_jp_checkIndex_null (ok_b h)) (fun r1 s1 h => ?_)
    refine g_run hx [(.pop, 0, 0)] (pc' := 9) (lo' := [some (.int v0), some (.int v1)]) (st' := []) (σ' := s1) (by decide +kernel) rfl rfl ?_
    exact g_vret hx hr rfl () rfl (by decide +kernel) (ok_some h)
  · refine g_callS (rest := []) [.int v0, .int v1, .ref 91] hx hc mk_jp_checkIndex ln_15_1059 (by decide +kernel) (by decide) (Nat.le_of_ble_eq_true rfl) (s_jp_checkIndex_91 (ok_b h)) (fun r1 s1 h => ?_)
    refine g_run hx [(.pop, 0, 0)] (pc' := 9) (lo' := [some (.int v0), some (.int v1)]) (st' := []) (σ' := s1) (by decide +kernel) rfl rfl ?_
    exact g_vret hx hr rfl () rfl (by decide +kernel) (ok_some h)
def f_jsl_charAt (N : Nat) (w0 : Nat) (v1 : Int32) (σ : Sg) : Option (Int32 × Sg) :=
  (f_js_checkIndex N v1 (nI (strLen.getD w0 0)) σ).bind fun q1 =>
  if vin v1 (strLen.getD w0 0) then
  some ((UInt32.toInt32 (Int32.toUInt32 ((sbyt w0 v1) &&& 255) % 65536)), q1.2)
  else none
set_option maxRecDepth 100000 in
theorem s_jsl_charAt {y : EX} {N : Nat} {w0 : Nat} (hw0 : w0 < 20) {v1 : Int32} {σ : Sg} {P : Int32 × Sg → Prop} (h : ok (f_jsl_charAt N w0 v1 σ) P) : Ev y M_jsl_charAt 2 [.ref (200 + w0), .int v1] σ rvI P := by
  refine Ev.of mk_jsl_charAt (Nat.le_of_ble_eq_true rfl) (fun x hx hc hr => ?_)
  have hx : Cx 16 prog_22_method_2_code x := hx
  have hc : Cc y 2 2 x := hc
  show G x 0 [some (.ref (200 + w0)), some (.int v1)] [] σ
  unfold f_jsl_charAt at h
  refine g_run hx [(.iload_n 1, 0, 0), (.aload_n 0, 0, 0)] (pc' := 2) (lo' := [some (.ref (200 + w0)), some (.int v1)]) (st' := [.ref (200 + w0), .int v1]) (σ' := σ) (by decide +kernel) rfl rfl ?_
  refine g_slenA hx hc hw0 (by decide +kernel) ?_
  refine g_callS (rest := []) [.int v1, .int (nI (strLen.getD w0 0))] hx hc mk_js_checkIndex ln_16_9 (by decide +kernel) (by decide) (Nat.le_of_ble_eq_true rfl) (s_js_checkIndex (ok_b h)) (fun r1 s1 h => ?_)
  refine g_run hx [(.aload_n 0, 0, 0), (.iload_n 1, 0, 0)] (pc' := 8) (lo' := [some (.ref (200 + w0)), some (.int v1)]) (st' := [.int v1, .ref (200 + w0)]) (σ' := s1) (by decide +kernel) rfl rfl ?_
  obtain ⟨c8, h⟩ := ok_g h
  refine g_sbald hx hc hw0 c8 (by decide +kernel) ?_
  refine g_run hx [(.sipush 255, 255, 0), (.iand, 0, 0), (.i2c, 0, 0)] (pc' := 14) (lo' := [some (.ref (200 + w0)), some (.int v1)]) (st' := [.int (UInt32.toInt32 (Int32.toUInt32 ((sbyt w0 v1) &&& 255) % 65536))]) (σ' := s1) (by decide +kernel) rfl rfl ?_
  exact g_cret hx hr rfl (pk_nc _) _ rfl (by decide +kernel) (ok_some h)
def f_js_charAt (N : Nat) (w0 : Nat) (v1 : Int32) (σ : Sg) : Option (Int32 × Sg) :=
  (f_js_isLatin1 N w0 σ).bind fun q1 =>
  if q1.1 = true then
    (f_jsl_charAt N w0 v1 q1.2).bind fun q2 =>
    if narrow .char (.int q2.1) = .int q2.1 then
    some (q2.1, q2.2)
    else none
  else
    none
set_option maxRecDepth 100000 in
theorem s_js_charAt {y : EX} {N : Nat} {w0 : Nat} (hw0 : w0 < 20) {v1 : Int32} {σ : Sg} {P : Int32 × Sg → Prop} (h : ok (f_js_charAt N w0 v1 σ) P) : Ev y M_js_charAt 3 [.ref (100 + w0), .int v1] σ rvI P := by
  refine Ev.of mk_js_charAt (Nat.le_of_ble_eq_true rfl) (fun x hx hc hr => ?_)
  have hx : Cx 15 prog_21_method_56_code x := hx
  have hc : Cc y 2 3 x := hc
  show G x 0 [some (.ref (100 + w0)), some (.int v1)] [] σ
  unfold f_js_charAt at h
  refine g_run hx [(.aload_n 0, 0, 0)] (pc' := 1) (lo' := [some (.ref (100 + w0)), some (.int v1)]) (st' := [.ref (100 + w0)]) (σ' := σ) (by decide +kernel) rfl rfl ?_
  refine g_callT (w := w0) (rest := []) [] hx hc mk_js_isLatin1 rfl ln_15_492 hw0 (by decide +kernel) (by decide) (Nat.le_of_ble_eq_true rfl) (s_js_isLatin1 hw0 (ok_b h)) (fun r1 s1 h => ?_)
  refine g_ifb_eq hx (off := 12) (tgt := 16) (by decide +kernel) (by decide) (fun c4 => ?_) (fun c4 => ?_)
  · have h := ok_f h c4
    exact ok_none h
  · have h := ok_t h c4
    refine g_run hx [(.aload_n 0, 0, 0)] (pc' := 8) (lo' := [some (.ref (100 + w0)), some (.int v1)]) (st' := [.ref (100 + w0)]) (σ' := s1) (by decide +kernel) rfl rfl ?_
    refine g_sval hx hc hw0 (by decide +kernel) ?_
    refine g_run hx [(.iload_n 1, 0, 0)] (pc' := 12) (lo' := [some (.ref (100 + w0)), some (.int v1)]) (st' := [.int v1, .ref (200 + w0)]) (σ' := s1) (by decide +kernel) rfl rfl ?_
    refine g_callS (rest := []) [.ref (200 + w0), .int v1] hx hc mk_jsl_charAt ln_15_495 (by decide +kernel) (by decide) (Nat.le_of_ble_eq_true rfl) (s_jsl_charAt hw0 (ok_b h)) (fun r2 s2 h => ?_)
    obtain ⟨cz, h⟩ := ok_g h
    exact g_cret hx hr rfl cz _ rfl (by decide +kernel) (ok_some h)
def f_m_isWord_L32 (N : Nat) (w1 : Nat) : Nat → Int32 → Int32 → Sg → Option (Bool × Sg)
  | 0, _, _, _ => none
  | n + 1, v2, v3, σ =>
    if (gI σ 66 8) ≤ v3 then
      if v2 = 0 ∨ v2 = 1 then
      some (decide (v2 = 1), σ)
      else none
    else
      if v2 = 0 then
        f_m_isWord_L32 N w1 n 0 (v3 + 1) σ
      else
        if vin v3 8 then
        (f_js_charAt N w1 v3 σ).bind fun q2 =>
        if (gA σ 68 v3) = q2.1 then
          f_m_isWord_L32 N w1 n 1 (v3 + 1) q2.2
        else
          f_m_isWord_L32 N w1 n 0 (v3 + 1) q2.2
        else none
def f_m_isWord (N : Nat) (w1 : Nat) (σ : Sg) : Option (Bool × Sg) :=
  if (gI σ 66 13) = 0 then
    if (gI σ 66 6) = 2 then
      (f_js_length N w1 σ).bind fun q1 =>
      if (gI σ 66 8) = q1.1 then
        f_m_isWord_L32 N w1 N 1 0 q1.2
      else
        some (false, q1.2)
    else
      some (false, σ)
  else
    some (false, σ)
set_option maxRecDepth 100000 in
theorem s_m_isWord_L32 {y : EX} {N : Nat} {x : CX} {P : Bool × Sg → Prop} (hx : Cx 10 prog_12_method_16_code x) (hc : Cc y 4 4 x) (hr : Cr M_m_isWord rvB P x) {w1 : Nat} (hw1 : w1 < 20) : ∀ (n : Nat) (v2 : Int32) (v3 : Int32) (σ : Sg), ok (f_m_isWord_L32 N w1 n v2 v3 σ) P → G x 32 [some (.ref 66), some (.ref (100 + w1)), some (.int v2), some (.int v3)] [] σ := by
  intro n
  induction n with
  | zero => intro v2 v3 σ h; exact ok_none h
  | succ n ih =>
    intro v2 v3 σ h
    rw [f_m_isWord_L32] at h
    refine g_run hx [(.iload_n 3, 0, 0), (.aload_n 0, 0, 0), (.getfield 90, 0, 0)] (pc' := 37) (lo' := [some (.ref 66), some (.ref (100 + w1)), some (.int v2), some (.int v3)]) (st' := [.int (gI σ 66 8), .int v3]) (σ' := σ) (by decide +kernel) rfl rfl ?_
    refine g_ic_ge hx (off := 33) (tgt := 70) (by decide +kernel) (by decide) (fun c37 => ?_) (fun c37 => ?_)
    · have h := ok_t h c37
      refine g_run hx [(.iload_n 2, 0, 0)] (pc' := 71) (lo' := [some (.ref 66), some (.ref (100 + w1)), some (.int v2), some (.int v3)]) (st' := [.int v2]) (σ' := σ) (by decide +kernel) rfl rfl ?_
      obtain ⟨cz, h⟩ := ok_g h
      exact g_zretI hx hr rfl cz _ rfl (by decide +kernel) (ok_some h)
    · have h := ok_f h c37
      refine g_run hx [(.iload_n 2, 0, 0)] (pc' := 41) (lo' := [some (.ref 66), some (.ref (100 + w1)), some (.int v2), some (.int v3)]) (st' := [.int v2]) (σ' := σ) (by decide +kernel) rfl rfl ?_
      refine g_if_eq hx (off := 21) (tgt := 62) (by decide +kernel) (by decide) (fun c41 => ?_) (fun c41 => ?_)
      · have h := ok_t h c41
        refine g_run hx [(.iconst 0, 0, 0), (.istore_n 2, 0, 0), (.iinc 3 1, 1, 0)] (pc' := 67) (lo' := [some (.ref 66), some (.ref (100 + w1)), some (.int 0), some (.int (v3 + 1))]) (st' := []) (σ' := σ) (by decide +kernel) rfl rfl ?_
        refine g_goto hx (off := (-35)) (tgt := 32) (by decide +kernel) (by decide) ?_
        exact ih _ _ _ h
      · have h := ok_f h c41
        refine g_run hx [(.aload_n 0, 0, 0), (.getfield 17, 0, 0), (.iload_n 3, 0, 0)] (pc' := 49) (lo' := [some (.ref 66), some (.ref (100 + w1)), some (.int v2), some (.int v3)]) (st' := [.int v3, .ref 68]) (σ' := σ) (by decide +kernel) rfl rfl ?_
        obtain ⟨c49, h⟩ := ok_g h
        refine g_iald hx (by decide +kernel) (i := 68) (n := 8) rfl c49 ?_
        refine g_run hx [(.aload_n 1, 0, 0), (.iload_n 3, 0, 0)] (pc' := 52) (lo' := [some (.ref 66), some (.ref (100 + w1)), some (.int v2), some (.int v3)]) (st' := [.int v3, .ref (100 + w1), .int (gA σ 68 v3)]) (σ' := σ) (by decide +kernel) rfl rfl ?_
        refine g_callT (w := w1) (rest := [.int (gA σ 68 v3)]) [.int v3] hx hc mk_js_charAt rfl ln_10_119 hw1 (by decide +kernel) (by decide) (Nat.le_of_ble_eq_true rfl) (s_js_charAt hw1 (ok_b h)) (fun r2 s2 h => ?_)
        refine g_ic_ne hx (off := 7) (tgt := 62) (by decide +kernel) (by decide) (fun c55 => ?_) (fun c55 => ?_)
        · have h := ok_f h c55
          refine g_run hx [(.iconst 0, 0, 0), (.istore_n 2, 0, 0), (.iinc 3 1, 1, 0)] (pc' := 67) (lo' := [some (.ref 66), some (.ref (100 + w1)), some (.int 0), some (.int (v3 + 1))]) (st' := []) (σ' := s2) (by decide +kernel) rfl rfl ?_
          refine g_goto hx (off := (-35)) (tgt := 32) (by decide +kernel) (by decide) ?_
          exact ih _ _ _ h
        · have h := ok_t h c55
          refine g_run hx [(.iconst 1, 1, 0)] (pc' := 59) (lo' := [some (.ref 66), some (.ref (100 + w1)), some (.int v2), some (.int v3)]) (st' := [.int 1]) (σ' := s2) (by decide +kernel) rfl rfl ?_
          refine g_goto hx (off := 4) (tgt := 63) (by decide +kernel) (by decide) ?_
          refine g_run hx [(.istore_n 2, 0, 0), (.iinc 3 1, 1, 0)] (pc' := 67) (lo' := [some (.ref 66), some (.ref (100 + w1)), some (.int 1), some (.int (v3 + 1))]) (st' := []) (σ' := s2) (by decide +kernel) rfl rfl ?_
          refine g_goto hx (off := (-35)) (tgt := 32) (by decide +kernel) (by decide) ?_
          exact ih _ _ _ h
set_option maxRecDepth 100000 in
theorem s_m_isWord {y : EX} {N : Nat} {w1 : Nat} (hw1 : w1 < 20) {σ : Sg} {P : Bool × Sg → Prop} (h : ok (f_m_isWord N w1 σ) P) : Ev y M_m_isWord 4 [.ref 66, .ref (100 + w1)] σ rvB P := by
  refine Ev.of mk_m_isWord (Nat.le_of_ble_eq_true rfl) (fun x hx hc hr => ?_)
  have hx : Cx 10 prog_12_method_16_code x := hx
  have hc : Cc y 4 4 x := hc
  show G x 0 [some (.ref 66), some (.ref (100 + w1)), none, none] [] σ
  unfold f_m_isWord at h
  refine g_run hx [(.aload_n 0, 0, 0), (.getfield 106, 0, 0)] (pc' := 4) (lo' := [some (.ref 66), some (.ref (100 + w1)), none, none]) (st' := [.int (gI σ 66 13)]) (σ' := σ) (by decide +kernel) rfl rfl ?_
  refine g_if_ne hx (off := 22) (tgt := 26) (by decide +kernel) (by decide) (fun c4 => ?_) (fun c4 => ?_)
  · have h := ok_f h c4
    refine g_run hx [(.iconst 0, 0, 0)] (pc' := 27) (lo' := [some (.ref 66), some (.ref (100 + w1)), none, none]) (st' := [.int 0]) (σ' := σ) (by decide +kernel) rfl rfl ?_
    exact g_zret (b := false) hx hr rfl false rfl (by decide +kernel) (ok_some h)
  · have h := ok_t h c4
    refine g_run hx [(.aload_n 0, 0, 0), (.getfield 96, 0, 0), (.iconst 2, 2, 0)] (pc' := 12) (lo' := [some (.ref 66), some (.ref (100 + w1)), none, none]) (st' := [.int 2, .int (gI σ 66 6)]) (σ' := σ) (by decide +kernel) rfl rfl ?_
    refine g_ic_ne hx (off := 14) (tgt := 26) (by decide +kernel) (by decide) (fun c12 => ?_) (fun c12 => ?_)
    · have h := ok_f h c12
      refine g_run hx [(.iconst 0, 0, 0)] (pc' := 27) (lo' := [some (.ref 66), some (.ref (100 + w1)), none, none]) (st' := [.int 0]) (σ' := σ) (by decide +kernel) rfl rfl ?_
      exact g_zret (b := false) hx hr rfl false rfl (by decide +kernel) (ok_some h)
    · have h := ok_t h c12
      refine g_run hx [(.aload_n 0, 0, 0), (.getfield 90, 0, 0), (.aload_n 1, 0, 0)] (pc' := 20) (lo' := [some (.ref 66), some (.ref (100 + w1)), none, none]) (st' := [.ref (100 + w1), .int (gI σ 66 8)]) (σ' := σ) (by decide +kernel) rfl rfl ?_
      refine g_callT (w := w1) (rest := [.int (gI σ 66 8)]) [] hx hc mk_js_length rfl ln_10_113 hw1 (by decide +kernel) (by decide) (Nat.le_of_ble_eq_true rfl) (s_js_length hw1 (ok_b h)) (fun r1 s1 h => ?_)
      refine g_ic_eq hx (off := 5) (tgt := 28) (by decide +kernel) (by decide) (fun c23 => ?_) (fun c23 => ?_)
      · have h := ok_t h c23
        refine g_run hx [(.iconst 1, 1, 0), (.istore_n 2, 0, 0), (.iconst 0, 0, 0), (.istore_n 3, 0, 0)] (pc' := 32) (lo' := [some (.ref 66), some (.ref (100 + w1)), some (.int 1), some (.int 0)]) (st' := []) (σ' := s1) (by decide +kernel) rfl rfl ?_
        refine s_m_isWord_L32 hx hc hr hw1 N _ _ _ h
      · have h := ok_f h c23
        refine g_run hx [(.iconst 0, 0, 0)] (pc' := 27) (lo' := [some (.ref 66), some (.ref (100 + w1)), none, none]) (st' := [.int 0]) (σ' := s1) (by decide +kernel) rfl rfl ?_
        exact g_zret (b := false) hx hr rfl false rfl (by decide +kernel) (ok_some h)
def f_m_pass (N : Nat) (σ : Sg) : Option (Unit × Sg) :=
  if (gI σ 66 13) = 0 then
    (f_m_next N σ).bind fun q1 =>
    some ((), q1.2)
  else
    some ((), σ)
set_option maxRecDepth 100000 in
theorem s_m_pass {y : EX} {N : Nat} {σ : Sg} {P : Unit × Sg → Prop} (h : ok (f_m_pass N σ) P) : Ev y M_m_pass 2 [.ref 66] σ rvN P := by
  refine Ev.of mk_m_pass (Nat.le_of_ble_eq_true rfl) (fun x hx hc hr => ?_)
  have hx : Cx 10 prog_12_method_22_code x := hx
  have hc : Cc y 1 2 x := hc
  show G x 0 [some (.ref 66)] [] σ
  unfold f_m_pass at h
  refine g_run hx [(.aload_n 0, 0, 0), (.getfield 106, 0, 0)] (pc' := 4) (lo' := [some (.ref 66)]) (st' := [.int (gI σ 66 13)]) (σ' := σ) (by decide +kernel) rfl rfl ?_
  refine g_if_ne hx (off := 7) (tgt := 11) (by decide +kernel) (by decide) (fun c4 => ?_) (fun c4 => ?_)
  · have h := ok_f h c4
    exact g_vret hx hr rfl () rfl (by decide +kernel) (ok_some h)
  · have h := ok_t h c4
    refine g_run hx [(.aload_n 0, 0, 0)] (pc' := 8) (lo' := [some (.ref 66)]) (st' := [.ref 66]) (σ' := σ) (by decide +kernel) rfl rfl ?_
    refine g_callV (rest := []) [] hx hc mk_m_next ln_10_127 rfl (by decide +kernel) (by decide) (Nat.le_of_ble_eq_true rfl) (s_m_next (ok_b h)) (fun r1 s1 h => ?_)
    exact g_vret hx hr rfl () rfl (by decide +kernel) (ok_some h)
def f_m_wrong (N : Nat) (v1 : Int32) (v2 : Int32) (σ : Sg) : Option (Unit × Sg) :=
  if (gI σ 66 13) = 0 then
    some ((), sI (sI (sI σ 66 13 1) 66 9 v1) 66 10 v2)
  else
    some ((), σ)
set_option maxRecDepth 100000 in
theorem s_m_wrong {y : EX} {N : Nat} {v1 : Int32} {v2 : Int32} {σ : Sg} {P : Unit × Sg → Prop} (h : ok (f_m_wrong N v1 v2 σ) P) : Ev y M_m_wrong 0 [.ref 66, .int v1, .int v2] σ rvN P := by
  refine Ev.of mk_m_wrong (Nat.le_of_ble_eq_true rfl) (fun x hx hc hr => ?_)
  have hx : Cx 10 prog_12_method_15_code x := hx
  have hc : Cc y 3 0 x := hc
  show G x 0 [some (.ref 66), some (.int v1), some (.int v2)] [] σ
  unfold f_m_wrong at h
  refine g_run hx [(.aload_n 0, 0, 0), (.getfield 106, 0, 0)] (pc' := 4) (lo' := [some (.ref 66), some (.int v1), some (.int v2)]) (st' := [.int (gI σ 66 13)]) (σ' := σ) (by decide +kernel) rfl rfl ?_
  refine g_if_eq hx (off := 4) (tgt := 8) (by decide +kernel) (by decide) (fun c4 => ?_) (fun c4 => ?_)
  · have h := ok_t h c4
    refine g_run hx [(.aload_n 0, 0, 0), (.iconst 1, 1, 0), (.putfield 106, 0, 0), (.aload_n 0, 0, 0), (.iload_n 1, 0, 0), (.putfield 110, 0, 0), (.aload_n 0, 0, 0), (.iload_n 2, 0, 0), (.putfield 13, 0, 0)] (pc' := 23) (lo' := [some (.ref 66), some (.int v1), some (.int v2)]) (st' := []) (σ' := sI (sI (sI σ 66 13 1) 66 9 v1) 66 10 v2) (by decide +kernel) rfl rfl ?_
    exact g_vret hx hr rfl () rfl (by decide +kernel) (ok_some h)
  · have h := ok_f h c4
    exact g_vret hx hr rfl () rfl (by decide +kernel) (ok_some h)
def f_m_begins (N : Nat) (w1 : Nat) (v2 : Int32) (σ : Sg) : Option (Bool × Sg) :=
  (f_m_isWord N w1 σ).bind fun q1 =>
  if q1.1 = true then
    if v2 = 0 then
      (f_m_wrong N 5 (gI q1.2 66 4) q1.2).bind fun q13 =>
      if (gA q13.2 70 8) = 0 then
        (f_m_wrong N 6 (gI q13.2 66 4) q13.2).bind fun q19 =>
        (f_m_isWord N 1 q19.2).bind fun q20 =>
        if q20.1 = true then
          if (gA q20.2 70 4) ≤ 0 then
            (f_m_pass N q20.2).bind fun q22 =>
            some (true, q22.2)
          else
            (f_m_wrong N 8 (gI q20.2 66 4) q20.2).bind fun q23 =>
            (f_m_pass N q23.2).bind fun q24 =>
            some (true, q24.2)
        else
          (f_m_pass N q20.2).bind fun q21 =>
          some (true, q21.2)
      else
        (f_m_isWord N 1 q13.2).bind fun q14 =>
        if q14.1 = true then
          if (gA q14.2 70 4) ≤ 0 then
            (f_m_pass N q14.2).bind fun q16 =>
            some (true, q16.2)
          else
            (f_m_wrong N 8 (gI q14.2 66 4) q14.2).bind fun q17 =>
            (f_m_pass N q17.2).bind fun q18 =>
            some (true, q18.2)
        else
          (f_m_pass N q14.2).bind fun q15 =>
          some (true, q15.2)
    else
      if (gA q1.2 70 8) = 0 then
        (f_m_wrong N 6 (gI q1.2 66 4) q1.2).bind fun q7 =>
        (f_m_isWord N 1 q7.2).bind fun q8 =>
        if q8.1 = true then
          if (gA q8.2 70 4) ≤ 0 then
            (f_m_pass N q8.2).bind fun q10 =>
            some (true, q10.2)
          else
            (f_m_wrong N 8 (gI q8.2 66 4) q8.2).bind fun q11 =>
            (f_m_pass N q11.2).bind fun q12 =>
            some (true, q12.2)
        else
          (f_m_pass N q8.2).bind fun q9 =>
          some (true, q9.2)
      else
        (f_m_isWord N 1 q1.2).bind fun q2 =>
        if q2.1 = true then
          if (gA q2.2 70 4) ≤ 0 then
            (f_m_pass N q2.2).bind fun q4 =>
            some (true, q4.2)
          else
            (f_m_wrong N 8 (gI q2.2 66 4) q2.2).bind fun q5 =>
            (f_m_pass N q5.2).bind fun q6 =>
            some (true, q6.2)
        else
          (f_m_pass N q2.2).bind fun q3 =>
          some (true, q3.2)
  else
    some (false, q1.2)
set_option maxRecDepth 100000 in
theorem s_m_begins {y : EX} {N : Nat} {w1 : Nat} (hw1 : w1 < 20) {v2 : Int32} {σ : Sg} {P : Bool × Sg → Prop} (h : ok (f_m_begins N w1 v2 σ) P) : Ev y M_m_begins 5 [.ref 66, .ref (100 + w1), .int v2] σ rvB P := by
  refine Ev.of mk_m_begins (Nat.le_of_ble_eq_true rfl) (fun x hx hc hr => ?_)
  have hx : Cx 10 prog_12_method_28_code x := hx
  have hc : Cc y 3 5 x := hc
  show G x 0 [some (.ref 66), some (.ref (100 + w1)), some (.int v2)] [] σ
  unfold f_m_begins at h
  refine g_run hx [(.aload_n 0, 0, 0), (.aload_n 1, 0, 0)] (pc' := 2) (lo' := [some (.ref 66), some (.ref (100 + w1)), some (.int v2)]) (st' := [.ref (100 + w1), .ref 66]) (σ' := σ) (by decide +kernel) rfl rfl ?_
  refine g_callV (rest := []) [.ref (100 + w1)] hx hc mk_m_isWord ln_10_123 rfl (by decide +kernel) (by decide) (Nat.le_of_ble_eq_true rfl) (s_m_isWord hw1 (ok_b h)) (fun r1 s1 h => ?_)
  refine g_ifb_ne hx (off := 5) (tgt := 10) (by decide +kernel) (by decide) (fun c5 => ?_) (fun c5 => ?_)
  · have h := ok_t h c5
    refine g_run hx [(.iload_n 2, 0, 0)] (pc' := 11) (lo' := [some (.ref 66), some (.ref (100 + w1)), some (.int v2)]) (st' := [.int v2]) (σ' := s1) (by decide +kernel) rfl rfl ?_
    refine g_if_ne hx (off := 12) (tgt := 23) (by decide +kernel) (by decide) (fun c11 => ?_) (fun c11 => ?_)
    · have h := ok_f h c11
      refine g_run hx [(.aload_n 0, 0, 0), (.getfield 23, 0, 0), (.bipush 8, 8, 0), (.iaload, 0, 0)] (pc' := 30) (lo' := [some (.ref 66), some (.ref (100 + w1)), some (.int v2)]) (st' := [.int (gA s1 70 8)]) (σ' := s1) (by decide +kernel) rfl rfl ?_
      refine g_if_ne hx (off := 13) (tgt := 43) (by decide +kernel) (by decide) (fun c30 => ?_) (fun c30 => ?_)
      · have h := ok_f h c30
        refine g_run hx [(.aload_n 0, 0, 0)] (pc' := 44) (lo' := [some (.ref 66), some (.ref (100 + w1)), some (.int v2)]) (st' := [.ref 66]) (σ' := s1) (by decide +kernel) rfl rfl ?_
        refine g_ldcS (idx := 139) (sid := 1) hx hc (by decide) (by decide +kernel) ?_
        refine g_callV (rest := []) [.ref (100 + 1)] hx hc mk_m_isWord ln_10_123 rfl (by decide +kernel) (by decide) (Nat.le_of_ble_eq_true rfl) (s_m_isWord (by decide) (ok_b h)) (fun r2 s2 h => ?_)
        refine g_ifb_eq hx (off := 22) (tgt := 71) (by decide +kernel) (by decide) (fun c49 => ?_) (fun c49 => ?_)
        · have h := ok_f h c49
          refine g_run hx [(.aload_n 0, 0, 0)] (pc' := 72) (lo' := [some (.ref 66), some (.ref (100 + w1)), some (.int v2)]) (st' := [.ref 66]) (σ' := s2) (by decide +kernel) rfl rfl ?_
          refine g_callV (rest := []) [] hx hc mk_m_pass ln_10_164 rfl (by decide +kernel) (by decide) (Nat.le_of_ble_eq_true rfl) (s_m_pass (ok_b h)) (fun r3 s3 h => ?_)
          refine g_run hx [(.iconst 1, 1, 0)] (pc' := 76) (lo' := [some (.ref 66), some (.ref (100 + w1)), some (.int v2)]) (st' := [.int 1]) (σ' := s3) (by decide +kernel) rfl rfl ?_
          exact g_zret (b := true) hx hr rfl true rfl (by decide +kernel) (ok_some h)
        · have h := ok_t h c49
          refine g_run hx [(.aload_n 0, 0, 0), (.getfield 23, 0, 0), (.iconst 4, 4, 0), (.iaload, 0, 0)] (pc' := 58) (lo' := [some (.ref 66), some (.ref (100 + w1)), some (.int v2)]) (st' := [.int (gA s2 70 4)]) (σ' := s2) (by decide +kernel) rfl rfl ?_
          refine g_if_le hx (off := 13) (tgt := 71) (by decide +kernel) (by decide) (fun c58 => ?_) (fun c58 => ?_)
          · have h := ok_t h c58
            refine g_run hx [(.aload_n 0, 0, 0)] (pc' := 72) (lo' := [some (.ref 66), some (.ref (100 + w1)), some (.int v2)]) (st' := [.ref 66]) (σ' := s2) (by decide +kernel) rfl rfl ?_
            refine g_callV (rest := []) [] hx hc mk_m_pass ln_10_164 rfl (by decide +kernel) (by decide) (Nat.le_of_ble_eq_true rfl) (s_m_pass (ok_b h)) (fun r4 s4 h => ?_)
            refine g_run hx [(.iconst 1, 1, 0)] (pc' := 76) (lo' := [some (.ref 66), some (.ref (100 + w1)), some (.int v2)]) (st' := [.int 1]) (σ' := s4) (by decide +kernel) rfl rfl ?_
            exact g_zret (b := true) hx hr rfl true rfl (by decide +kernel) (ok_some h)
          · have h := ok_f h c58
            refine g_run hx [(.aload_n 0, 0, 0), (.bipush 8, 8, 0), (.aload_n 0, 0, 0), (.getfield 87, 0, 0)] (pc' := 68) (lo' := [some (.ref 66), some (.ref (100 + w1)), some (.int v2)]) (st' := [.int (gI s2 66 4), .int 8, .ref 66]) (σ' := s2) (by decide +kernel) rfl rfl ?_
            refine g_callV (rest := []) [.int 8, .int (gI s2 66 4)] hx hc mk_m_wrong ln_10_133 rfl (by decide +kernel) (by decide) (Nat.le_of_ble_eq_true rfl) (s_m_wrong (ok_b h)) (fun r5 s5 h => ?_)
            refine g_run hx [(.aload_n 0, 0, 0)] (pc' := 72) (lo' := [some (.ref 66), some (.ref (100 + w1)), some (.int v2)]) (st' := [.ref 66]) (σ' := s5) (by decide +kernel) rfl rfl ?_
            refine g_callV (rest := []) [] hx hc mk_m_pass ln_10_164 rfl (by decide +kernel) (by decide) (Nat.le_of_ble_eq_true rfl) (s_m_pass (ok_b h)) (fun r6 s6 h => ?_)
            refine g_run hx [(.iconst 1, 1, 0)] (pc' := 76) (lo' := [some (.ref 66), some (.ref (100 + w1)), some (.int v2)]) (st' := [.int 1]) (σ' := s6) (by decide +kernel) rfl rfl ?_
            exact g_zret (b := true) hx hr rfl true rfl (by decide +kernel) (ok_some h)
      · have h := ok_t h c30
        refine g_run hx [(.aload_n 0, 0, 0), (.bipush 6, 6, 0), (.aload_n 0, 0, 0), (.getfield 87, 0, 0)] (pc' := 40) (lo' := [some (.ref 66), some (.ref (100 + w1)), some (.int v2)]) (st' := [.int (gI s1 66 4), .int 6, .ref 66]) (σ' := s1) (by decide +kernel) rfl rfl ?_
        refine g_callV (rest := []) [.int 6, .int (gI s1 66 4)] hx hc mk_m_wrong ln_10_133 rfl (by decide +kernel) (by decide) (Nat.le_of_ble_eq_true rfl) (s_m_wrong (ok_b h)) (fun r7 s7 h => ?_)
        refine g_run hx [(.aload_n 0, 0, 0)] (pc' := 44) (lo' := [some (.ref 66), some (.ref (100 + w1)), some (.int v2)]) (st' := [.ref 66]) (σ' := s7) (by decide +kernel) rfl rfl ?_
        refine g_ldcS (idx := 139) (sid := 1) hx hc (by decide) (by decide +kernel) ?_
        refine g_callV (rest := []) [.ref (100 + 1)] hx hc mk_m_isWord ln_10_123 rfl (by decide +kernel) (by decide) (Nat.le_of_ble_eq_true rfl) (s_m_isWord (by decide) (ok_b h)) (fun r8 s8 h => ?_)
        refine g_ifb_eq hx (off := 22) (tgt := 71) (by decide +kernel) (by decide) (fun c49 => ?_) (fun c49 => ?_)
        · have h := ok_f h c49
          refine g_run hx [(.aload_n 0, 0, 0)] (pc' := 72) (lo' := [some (.ref 66), some (.ref (100 + w1)), some (.int v2)]) (st' := [.ref 66]) (σ' := s8) (by decide +kernel) rfl rfl ?_
          refine g_callV (rest := []) [] hx hc mk_m_pass ln_10_164 rfl (by decide +kernel) (by decide) (Nat.le_of_ble_eq_true rfl) (s_m_pass (ok_b h)) (fun r9 s9 h => ?_)
          refine g_run hx [(.iconst 1, 1, 0)] (pc' := 76) (lo' := [some (.ref 66), some (.ref (100 + w1)), some (.int v2)]) (st' := [.int 1]) (σ' := s9) (by decide +kernel) rfl rfl ?_
          exact g_zret (b := true) hx hr rfl true rfl (by decide +kernel) (ok_some h)
        · have h := ok_t h c49
          refine g_run hx [(.aload_n 0, 0, 0), (.getfield 23, 0, 0), (.iconst 4, 4, 0), (.iaload, 0, 0)] (pc' := 58) (lo' := [some (.ref 66), some (.ref (100 + w1)), some (.int v2)]) (st' := [.int (gA s8 70 4)]) (σ' := s8) (by decide +kernel) rfl rfl ?_
          refine g_if_le hx (off := 13) (tgt := 71) (by decide +kernel) (by decide) (fun c58 => ?_) (fun c58 => ?_)
          · have h := ok_t h c58
            refine g_run hx [(.aload_n 0, 0, 0)] (pc' := 72) (lo' := [some (.ref 66), some (.ref (100 + w1)), some (.int v2)]) (st' := [.ref 66]) (σ' := s8) (by decide +kernel) rfl rfl ?_
            refine g_callV (rest := []) [] hx hc mk_m_pass ln_10_164 rfl (by decide +kernel) (by decide) (Nat.le_of_ble_eq_true rfl) (s_m_pass (ok_b h)) (fun r10 s10 h => ?_)
            refine g_run hx [(.iconst 1, 1, 0)] (pc' := 76) (lo' := [some (.ref 66), some (.ref (100 + w1)), some (.int v2)]) (st' := [.int 1]) (σ' := s10) (by decide +kernel) rfl rfl ?_
            exact g_zret (b := true) hx hr rfl true rfl (by decide +kernel) (ok_some h)
          · have h := ok_f h c58
            refine g_run hx [(.aload_n 0, 0, 0), (.bipush 8, 8, 0), (.aload_n 0, 0, 0), (.getfield 87, 0, 0)] (pc' := 68) (lo' := [some (.ref 66), some (.ref (100 + w1)), some (.int v2)]) (st' := [.int (gI s8 66 4), .int 8, .ref 66]) (σ' := s8) (by decide +kernel) rfl rfl ?_
            refine g_callV (rest := []) [.int 8, .int (gI s8 66 4)] hx hc mk_m_wrong ln_10_133 rfl (by decide +kernel) (by decide) (Nat.le_of_ble_eq_true rfl) (s_m_wrong (ok_b h)) (fun r11 s11 h => ?_)
            refine g_run hx [(.aload_n 0, 0, 0)] (pc' := 72) (lo' := [some (.ref 66), some (.ref (100 + w1)), some (.int v2)]) (st' := [.ref 66]) (σ' := s11) (by decide +kernel) rfl rfl ?_
            refine g_callV (rest := []) [] hx hc mk_m_pass ln_10_164 rfl (by decide +kernel) (by decide) (Nat.le_of_ble_eq_true rfl) (s_m_pass (ok_b h)) (fun r12 s12 h => ?_)
            refine g_run hx [(.iconst 1, 1, 0)] (pc' := 76) (lo' := [some (.ref 66), some (.ref (100 + w1)), some (.int v2)]) (st' := [.int 1]) (σ' := s12) (by decide +kernel) rfl rfl ?_
            exact g_zret (b := true) hx hr rfl true rfl (by decide +kernel) (ok_some h)
    · have h := ok_t h c11
      refine g_run hx [(.aload_n 0, 0, 0), (.iconst 5, 5, 0), (.aload_n 0, 0, 0), (.getfield 87, 0, 0)] (pc' := 20) (lo' := [some (.ref 66), some (.ref (100 + w1)), some (.int v2)]) (st' := [.int (gI s1 66 4), .int 5, .ref 66]) (σ' := s1) (by decide +kernel) rfl rfl ?_
      refine g_callV (rest := []) [.int 5, .int (gI s1 66 4)] hx hc mk_m_wrong ln_10_133 rfl (by decide +kernel) (by decide) (Nat.le_of_ble_eq_true rfl) (s_m_wrong (ok_b h)) (fun r13 s13 h => ?_)
      refine g_run hx [(.aload_n 0, 0, 0), (.getfield 23, 0, 0), (.bipush 8, 8, 0), (.iaload, 0, 0)] (pc' := 30) (lo' := [some (.ref 66), some (.ref (100 + w1)), some (.int v2)]) (st' := [.int (gA s13 70 8)]) (σ' := s13) (by decide +kernel) rfl rfl ?_
      refine g_if_ne hx (off := 13) (tgt := 43) (by decide +kernel) (by decide) (fun c30 => ?_) (fun c30 => ?_)
      · have h := ok_f h c30
        refine g_run hx [(.aload_n 0, 0, 0)] (pc' := 44) (lo' := [some (.ref 66), some (.ref (100 + w1)), some (.int v2)]) (st' := [.ref 66]) (σ' := s13) (by decide +kernel) rfl rfl ?_
        refine g_ldcS (idx := 139) (sid := 1) hx hc (by decide) (by decide +kernel) ?_
        refine g_callV (rest := []) [.ref (100 + 1)] hx hc mk_m_isWord ln_10_123 rfl (by decide +kernel) (by decide) (Nat.le_of_ble_eq_true rfl) (s_m_isWord (by decide) (ok_b h)) (fun r14 s14 h => ?_)
        refine g_ifb_eq hx (off := 22) (tgt := 71) (by decide +kernel) (by decide) (fun c49 => ?_) (fun c49 => ?_)
        · have h := ok_f h c49
          refine g_run hx [(.aload_n 0, 0, 0)] (pc' := 72) (lo' := [some (.ref 66), some (.ref (100 + w1)), some (.int v2)]) (st' := [.ref 66]) (σ' := s14) (by decide +kernel) rfl rfl ?_
          refine g_callV (rest := []) [] hx hc mk_m_pass ln_10_164 rfl (by decide +kernel) (by decide) (Nat.le_of_ble_eq_true rfl) (s_m_pass (ok_b h)) (fun r15 s15 h => ?_)
          refine g_run hx [(.iconst 1, 1, 0)] (pc' := 76) (lo' := [some (.ref 66), some (.ref (100 + w1)), some (.int v2)]) (st' := [.int 1]) (σ' := s15) (by decide +kernel) rfl rfl ?_
          exact g_zret (b := true) hx hr rfl true rfl (by decide +kernel) (ok_some h)
        · have h := ok_t h c49
          refine g_run hx [(.aload_n 0, 0, 0), (.getfield 23, 0, 0), (.iconst 4, 4, 0), (.iaload, 0, 0)] (pc' := 58) (lo' := [some (.ref 66), some (.ref (100 + w1)), some (.int v2)]) (st' := [.int (gA s14 70 4)]) (σ' := s14) (by decide +kernel) rfl rfl ?_
          refine g_if_le hx (off := 13) (tgt := 71) (by decide +kernel) (by decide) (fun c58 => ?_) (fun c58 => ?_)
          · have h := ok_t h c58
            refine g_run hx [(.aload_n 0, 0, 0)] (pc' := 72) (lo' := [some (.ref 66), some (.ref (100 + w1)), some (.int v2)]) (st' := [.ref 66]) (σ' := s14) (by decide +kernel) rfl rfl ?_
            refine g_callV (rest := []) [] hx hc mk_m_pass ln_10_164 rfl (by decide +kernel) (by decide) (Nat.le_of_ble_eq_true rfl) (s_m_pass (ok_b h)) (fun r16 s16 h => ?_)
            refine g_run hx [(.iconst 1, 1, 0)] (pc' := 76) (lo' := [some (.ref 66), some (.ref (100 + w1)), some (.int v2)]) (st' := [.int 1]) (σ' := s16) (by decide +kernel) rfl rfl ?_
            exact g_zret (b := true) hx hr rfl true rfl (by decide +kernel) (ok_some h)
          · have h := ok_f h c58
            refine g_run hx [(.aload_n 0, 0, 0), (.bipush 8, 8, 0), (.aload_n 0, 0, 0), (.getfield 87, 0, 0)] (pc' := 68) (lo' := [some (.ref 66), some (.ref (100 + w1)), some (.int v2)]) (st' := [.int (gI s14 66 4), .int 8, .ref 66]) (σ' := s14) (by decide +kernel) rfl rfl ?_
            refine g_callV (rest := []) [.int 8, .int (gI s14 66 4)] hx hc mk_m_wrong ln_10_133 rfl (by decide +kernel) (by decide) (Nat.le_of_ble_eq_true rfl) (s_m_wrong (ok_b h)) (fun r17 s17 h => ?_)
            refine g_run hx [(.aload_n 0, 0, 0)] (pc' := 72) (lo' := [some (.ref 66), some (.ref (100 + w1)), some (.int v2)]) (st' := [.ref 66]) (σ' := s17) (by decide +kernel) rfl rfl ?_
            refine g_callV (rest := []) [] hx hc mk_m_pass ln_10_164 rfl (by decide +kernel) (by decide) (Nat.le_of_ble_eq_true rfl) (s_m_pass (ok_b h)) (fun r18 s18 h => ?_)
            refine g_run hx [(.iconst 1, 1, 0)] (pc' := 76) (lo' := [some (.ref 66), some (.ref (100 + w1)), some (.int v2)]) (st' := [.int 1]) (σ' := s18) (by decide +kernel) rfl rfl ?_
            exact g_zret (b := true) hx hr rfl true rfl (by decide +kernel) (ok_some h)
      · have h := ok_t h c30
        refine g_run hx [(.aload_n 0, 0, 0), (.bipush 6, 6, 0), (.aload_n 0, 0, 0), (.getfield 87, 0, 0)] (pc' := 40) (lo' := [some (.ref 66), some (.ref (100 + w1)), some (.int v2)]) (st' := [.int (gI s13 66 4), .int 6, .ref 66]) (σ' := s13) (by decide +kernel) rfl rfl ?_
        refine g_callV (rest := []) [.int 6, .int (gI s13 66 4)] hx hc mk_m_wrong ln_10_133 rfl (by decide +kernel) (by decide) (Nat.le_of_ble_eq_true rfl) (s_m_wrong (ok_b h)) (fun r19 s19 h => ?_)
        refine g_run hx [(.aload_n 0, 0, 0)] (pc' := 44) (lo' := [some (.ref 66), some (.ref (100 + w1)), some (.int v2)]) (st' := [.ref 66]) (σ' := s19) (by decide +kernel) rfl rfl ?_
        refine g_ldcS (idx := 139) (sid := 1) hx hc (by decide) (by decide +kernel) ?_
        refine g_callV (rest := []) [.ref (100 + 1)] hx hc mk_m_isWord ln_10_123 rfl (by decide +kernel) (by decide) (Nat.le_of_ble_eq_true rfl) (s_m_isWord (by decide) (ok_b h)) (fun r20 s20 h => ?_)
        refine g_ifb_eq hx (off := 22) (tgt := 71) (by decide +kernel) (by decide) (fun c49 => ?_) (fun c49 => ?_)
        · have h := ok_f h c49
          refine g_run hx [(.aload_n 0, 0, 0)] (pc' := 72) (lo' := [some (.ref 66), some (.ref (100 + w1)), some (.int v2)]) (st' := [.ref 66]) (σ' := s20) (by decide +kernel) rfl rfl ?_
          refine g_callV (rest := []) [] hx hc mk_m_pass ln_10_164 rfl (by decide +kernel) (by decide) (Nat.le_of_ble_eq_true rfl) (s_m_pass (ok_b h)) (fun r21 s21 h => ?_)
          refine g_run hx [(.iconst 1, 1, 0)] (pc' := 76) (lo' := [some (.ref 66), some (.ref (100 + w1)), some (.int v2)]) (st' := [.int 1]) (σ' := s21) (by decide +kernel) rfl rfl ?_
          exact g_zret (b := true) hx hr rfl true rfl (by decide +kernel) (ok_some h)
        · have h := ok_t h c49
          refine g_run hx [(.aload_n 0, 0, 0), (.getfield 23, 0, 0), (.iconst 4, 4, 0), (.iaload, 0, 0)] (pc' := 58) (lo' := [some (.ref 66), some (.ref (100 + w1)), some (.int v2)]) (st' := [.int (gA s20 70 4)]) (σ' := s20) (by decide +kernel) rfl rfl ?_
          refine g_if_le hx (off := 13) (tgt := 71) (by decide +kernel) (by decide) (fun c58 => ?_) (fun c58 => ?_)
          · have h := ok_t h c58
            refine g_run hx [(.aload_n 0, 0, 0)] (pc' := 72) (lo' := [some (.ref 66), some (.ref (100 + w1)), some (.int v2)]) (st' := [.ref 66]) (σ' := s20) (by decide +kernel) rfl rfl ?_
            refine g_callV (rest := []) [] hx hc mk_m_pass ln_10_164 rfl (by decide +kernel) (by decide) (Nat.le_of_ble_eq_true rfl) (s_m_pass (ok_b h)) (fun r22 s22 h => ?_)
            refine g_run hx [(.iconst 1, 1, 0)] (pc' := 76) (lo' := [some (.ref 66), some (.ref (100 + w1)), some (.int v2)]) (st' := [.int 1]) (σ' := s22) (by decide +kernel) rfl rfl ?_
            exact g_zret (b := true) hx hr rfl true rfl (by decide +kernel) (ok_some h)
          · have h := ok_f h c58
            refine g_run hx [(.aload_n 0, 0, 0), (.bipush 8, 8, 0), (.aload_n 0, 0, 0), (.getfield 87, 0, 0)] (pc' := 68) (lo' := [some (.ref 66), some (.ref (100 + w1)), some (.int v2)]) (st' := [.int (gI s20 66 4), .int 8, .ref 66]) (σ' := s20) (by decide +kernel) rfl rfl ?_
            refine g_callV (rest := []) [.int 8, .int (gI s20 66 4)] hx hc mk_m_wrong ln_10_133 rfl (by decide +kernel) (by decide) (Nat.le_of_ble_eq_true rfl) (s_m_wrong (ok_b h)) (fun r23 s23 h => ?_)
            refine g_run hx [(.aload_n 0, 0, 0)] (pc' := 72) (lo' := [some (.ref 66), some (.ref (100 + w1)), some (.int v2)]) (st' := [.ref 66]) (σ' := s23) (by decide +kernel) rfl rfl ?_
            refine g_callV (rest := []) [] hx hc mk_m_pass ln_10_164 rfl (by decide +kernel) (by decide) (Nat.le_of_ble_eq_true rfl) (s_m_pass (ok_b h)) (fun r24 s24 h => ?_)
            refine g_run hx [(.iconst 1, 1, 0)] (pc' := 76) (lo' := [some (.ref 66), some (.ref (100 + w1)), some (.int v2)]) (st' := [.int 1]) (σ' := s24) (by decide +kernel) rfl rfl ?_
            exact g_zret (b := true) hx hr rfl true rfl (by decide +kernel) (ok_some h)
  · have h := ok_f h c5
    refine g_run hx [(.iconst 0, 0, 0)] (pc' := 9) (lo' := [some (.ref 66), some (.ref (100 + w1)), some (.int v2)]) (st' := [.int 0]) (σ' := s1) (by decide +kernel) rfl rfl ?_
    exact g_zret (b := false) hx hr rfl false rfl (by decide +kernel) (ok_some h)
def f_m_numberHere (N : Nat) (v1 : Int32) (v2 : Int32) (σ : Sg) : Option (Int32 × Sg) :=
  if (gI σ 66 13) = 0 then
    if (gI σ 66 6) = 3 then
      (f_m_in N (gI σ 66 7) v1 v2 σ).bind fun q1 =>
      if q1.1 = true then
        if (gI q1.2 66 13) = 0 then
          some ((gI q1.2 66 7), q1.2)
        else
          some (v1, q1.2)
      else
        (f_m_wrong N 4 (gI q1.2 66 4) q1.2).bind fun q2 =>
        if (gI q2.2 66 13) = 0 then
          some ((gI q2.2 66 7), q2.2)
        else
          some (v1, q2.2)
    else
      (f_m_wrong N 1 (gI σ 66 4) σ).bind fun q3 =>
      if (gI q3.2 66 13) = 0 then
        some ((gI q3.2 66 7), q3.2)
      else
        some (v1, q3.2)
  else
    some (v1, σ)
set_option maxRecDepth 100000 in
theorem s_m_numberHere {y : EX} {N : Nat} {v1 : Int32} {v2 : Int32} {σ : Sg} {P : Int32 × Sg → Prop} (h : ok (f_m_numberHere N v1 v2 σ) P) : Ev y M_m_numberHere 1 [.ref 66, .int v1, .int v2] σ rvI P := by
  refine Ev.of mk_m_numberHere (Nat.le_of_ble_eq_true rfl) (fun x hx hc hr => ?_)
  have hx : Cx 10 prog_12_method_23_code x := hx
  have hc : Cc y 3 1 x := hc
  show G x 0 [some (.ref 66), some (.int v1), some (.int v2)] [] σ
  unfold f_m_numberHere at h
  refine g_run hx [(.aload_n 0, 0, 0), (.getfield 106, 0, 0)] (pc' := 4) (lo' := [some (.ref 66), some (.int v1), some (.int v2)]) (st' := [.int (gI σ 66 13)]) (σ' := σ) (by decide +kernel) rfl rfl ?_
  refine g_if_eq hx (off := 5) (tgt := 9) (by decide +kernel) (by decide) (fun c4 => ?_) (fun c4 => ?_)
  · have h := ok_t h c4
    refine g_run hx [(.aload_n 0, 0, 0), (.getfield 96, 0, 0), (.iconst 3, 3, 0)] (pc' := 14) (lo' := [some (.ref 66), some (.int v1), some (.int v2)]) (st' := [.int 3, .int (gI σ 66 6)]) (σ' := σ) (by decide +kernel) rfl rfl ?_
    refine g_ic_eq hx (off := 15) (tgt := 29) (by decide +kernel) (by decide) (fun c14 => ?_) (fun c14 => ?_)
    · have h := ok_t h c14
      refine g_run hx [(.aload_n 0, 0, 0), (.getfield 93, 0, 0), (.iload_n 1, 0, 0), (.iload_n 2, 0, 0)] (pc' := 35) (lo' := [some (.ref 66), some (.int v1), some (.int v2)]) (st' := [.int v2, .int v1, .int (gI σ 66 7)]) (σ' := σ) (by decide +kernel) rfl rfl ?_
      refine g_callS (rest := []) [.int (gI σ 66 7), .int v1, .int v2] hx hc mk_m_in ln_10_156 (by decide +kernel) (by decide) (Nat.le_of_ble_eq_true rfl) (s_m_in (ok_b h)) (fun r1 s1 h => ?_)
      refine g_ifb_ne hx (off := 12) (tgt := 50) (by decide +kernel) (by decide) (fun c38 => ?_) (fun c38 => ?_)
      · have h := ok_t h c38
        refine g_run hx [(.aload_n 0, 0, 0), (.getfield 106, 0, 0)] (pc' := 54) (lo' := [some (.ref 66), some (.int v1), some (.int v2)]) (st' := [.int (gI s1 66 13)]) (σ' := s1) (by decide +kernel) rfl rfl ?_
        refine g_if_eq hx (off := 7) (tgt := 61) (by decide +kernel) (by decide) (fun c54 => ?_) (fun c54 => ?_)
        · have h := ok_t h c54
          refine g_run hx [(.aload_n 0, 0, 0), (.getfield 93, 0, 0)] (pc' := 65) (lo' := [some (.ref 66), some (.int v1), some (.int v2)]) (st' := [.int (gI s1 66 7)]) (σ' := s1) (by decide +kernel) rfl rfl ?_
          exact g_iret hx hr rfl _ rfl (by decide +kernel) (ok_some h)
        · have h := ok_f h c54
          refine g_run hx [(.iload_n 1, 0, 0)] (pc' := 58) (lo' := [some (.ref 66), some (.int v1), some (.int v2)]) (st' := [.int v1]) (σ' := s1) (by decide +kernel) rfl rfl ?_
          refine g_goto hx (off := 7) (tgt := 65) (by decide +kernel) (by decide) ?_
          exact g_iret hx hr rfl _ rfl (by decide +kernel) (ok_some h)
      · have h := ok_f h c38
        refine g_run hx [(.aload_n 0, 0, 0), (.iconst 4, 4, 0), (.aload_n 0, 0, 0), (.getfield 87, 0, 0)] (pc' := 47) (lo' := [some (.ref 66), some (.int v1), some (.int v2)]) (st' := [.int (gI s1 66 4), .int 4, .ref 66]) (σ' := s1) (by decide +kernel) rfl rfl ?_
        refine g_callV (rest := []) [.int 4, .int (gI s1 66 4)] hx hc mk_m_wrong ln_10_133 rfl (by decide +kernel) (by decide) (Nat.le_of_ble_eq_true rfl) (s_m_wrong (ok_b h)) (fun r2 s2 h => ?_)
        refine g_run hx [(.aload_n 0, 0, 0), (.getfield 106, 0, 0)] (pc' := 54) (lo' := [some (.ref 66), some (.int v1), some (.int v2)]) (st' := [.int (gI s2 66 13)]) (σ' := s2) (by decide +kernel) rfl rfl ?_
        refine g_if_eq hx (off := 7) (tgt := 61) (by decide +kernel) (by decide) (fun c54 => ?_) (fun c54 => ?_)
        · have h := ok_t h c54
          refine g_run hx [(.aload_n 0, 0, 0), (.getfield 93, 0, 0)] (pc' := 65) (lo' := [some (.ref 66), some (.int v1), some (.int v2)]) (st' := [.int (gI s2 66 7)]) (σ' := s2) (by decide +kernel) rfl rfl ?_
          exact g_iret hx hr rfl _ rfl (by decide +kernel) (ok_some h)
        · have h := ok_f h c54
          refine g_run hx [(.iload_n 1, 0, 0)] (pc' := 58) (lo' := [some (.ref 66), some (.int v1), some (.int v2)]) (st' := [.int v1]) (σ' := s2) (by decide +kernel) rfl rfl ?_
          refine g_goto hx (off := 7) (tgt := 65) (by decide +kernel) (by decide) ?_
          exact g_iret hx hr rfl _ rfl (by decide +kernel) (ok_some h)
    · have h := ok_f h c14
      refine g_run hx [(.aload_n 0, 0, 0), (.iconst 1, 1, 0), (.aload_n 0, 0, 0), (.getfield 87, 0, 0)] (pc' := 23) (lo' := [some (.ref 66), some (.int v1), some (.int v2)]) (st' := [.int (gI σ 66 4), .int 1, .ref 66]) (σ' := σ) (by decide +kernel) rfl rfl ?_
      refine g_callV (rest := []) [.int 1, .int (gI σ 66 4)] hx hc mk_m_wrong ln_10_133 rfl (by decide +kernel) (by decide) (Nat.le_of_ble_eq_true rfl) (s_m_wrong (ok_b h)) (fun r3 s3 h => ?_)
      refine g_goto hx (off := 24) (tgt := 50) (by decide +kernel) (by decide) ?_
      refine g_run hx [(.aload_n 0, 0, 0), (.getfield 106, 0, 0)] (pc' := 54) (lo' := [some (.ref 66), some (.int v1), some (.int v2)]) (st' := [.int (gI s3 66 13)]) (σ' := s3) (by decide +kernel) rfl rfl ?_
      refine g_if_eq hx (off := 7) (tgt := 61) (by decide +kernel) (by decide) (fun c54 => ?_) (fun c54 => ?_)
      · have h := ok_t h c54
        refine g_run hx [(.aload_n 0, 0, 0), (.getfield 93, 0, 0)] (pc' := 65) (lo' := [some (.ref 66), some (.int v1), some (.int v2)]) (st' := [.int (gI s3 66 7)]) (σ' := s3) (by decide +kernel) rfl rfl ?_
        exact g_iret hx hr rfl _ rfl (by decide +kernel) (ok_some h)
      · have h := ok_f h c54
        refine g_run hx [(.iload_n 1, 0, 0)] (pc' := 58) (lo' := [some (.ref 66), some (.int v1), some (.int v2)]) (st' := [.int v1]) (σ' := s3) (by decide +kernel) rfl rfl ?_
        refine g_goto hx (off := 7) (tgt := 65) (by decide +kernel) (by decide) ?_
        exact g_iret hx hr rfl _ rfl (by decide +kernel) (ok_some h)
  · have h := ok_f h c4
    refine g_run hx [(.iload_n 1, 0, 0)] (pc' := 8) (lo' := [some (.ref 66), some (.int v1), some (.int v2)]) (st' := [.int v1]) (σ' := σ) (by decide +kernel) rfl rfl ?_
    exact g_iret hx hr rfl _ rfl (by decide +kernel) (ok_some h)
def f_m_cellHere (N : Nat) (σ : Sg) : Option (Int32 × Sg) :=
  (f_m_numberHere N 0 ((gA σ 70 0) - 1) σ).bind fun q1 =>
  some (q1.1, q1.2)
set_option maxRecDepth 100000 in
theorem s_m_cellHere {y : EX} {N : Nat} {σ : Sg} {P : Int32 × Sg → Prop} (h : ok (f_m_cellHere N σ) P) : Ev y M_m_cellHere 2 [.ref 66] σ rvI P := by
  refine Ev.of mk_m_cellHere (Nat.le_of_ble_eq_true rfl) (fun x hx hc hr => ?_)
  have hx : Cx 10 prog_12_method_26_code x := hx
  have hc : Cc y 1 2 x := hc
  show G x 0 [some (.ref 66)] [] σ
  unfold f_m_cellHere at h
  refine g_run hx [(.aload_n 0, 0, 0), (.iconst 0, 0, 0), (.aload_n 0, 0, 0), (.getfield 23, 0, 0), (.iconst 0, 0, 0), (.iaload, 0, 0), (.iconst 1, 1, 0), (.isub, 0, 0)] (pc' := 10) (lo' := [some (.ref 66)]) (st' := [.int ((gA σ 70 0) - 1), .int 0, .ref 66]) (σ' := σ) (by decide +kernel) rfl rfl ?_
  refine g_callV (rest := []) [.int 0, .int ((gA σ 70 0) - 1)] hx hc mk_m_numberHere ln_10_160 rfl (by decide +kernel) (by decide) (Nat.le_of_ble_eq_true rfl) (s_m_numberHere (ok_b h)) (fun r1 s1 h => ?_)
  exact g_iret hx hr rfl _ rfl (by decide +kernel) (ok_some h)
def f_m_seenLine_L28 (N : Nat) : Nat → Int32 → Int32 → Int32 → Sg → (Int32 → Int32 → Sg → Option (Unit × Sg)) → Option (Unit × Sg)
  | 0, _, _, _, _, _ => none
  | n + 1, v1, v2, v3, σ, k76 =>
    if (gA σ 70 6) ≤ v3 then
      k76 v1 v2 σ
    else
      if (gI σ 66 13) = 0 then
        if vin (36 + (2 * v3)) 189 then
        if (gA σ 70 (36 + (2 * v3))) = v2 then
          (f_m_wrong N 3 (gI σ 66 4) σ).bind fun q2 =>
          f_m_seenLine_L28 N n v1 v2 (v3 + 1) q2.2 k76
        else
          f_m_seenLine_L28 N n v1 v2 (v3 + 1) σ k76
        else none
      else
        f_m_seenLine_L28 N n v1 v2 (v3 + 1) σ k76
def f_m_seenLine (N : Nat) (σ : Sg) : Option (Unit × Sg) :=
  if (gI σ 66 13) = 0 then
    (f_m_cellHere N σ).bind fun q1 =>
    f_m_seenLine_L28 N N (36 + (2 * (gA σ 70 6))) q1.1 0 q1.2
      (fun (w1 : Int32) (w2 : Int32) (t3 : Sg) =>
        (f_m_pass N t3).bind fun q4 =>
        (f_m_isWord N 18 q4.2).bind fun q5 =>
        if q5.1 = true then
          (f_m_pass N q5.2).bind fun q10 =>
          if (gI q10.2 66 13) = 0 then
            if vin w1 189 then
            if vin (w1 + 1) 189 then
            some ((), sA (sA (sA q10.2 70 w1 w2) 70 (w1 + 1) 1) 70 6 ((gA (sA (sA q10.2 70 w1 w2) 70 (w1 + 1) 1) 70 6) + 1))
            else none
            else none
          else
            some ((), q10.2)
        else
          (f_m_isWord N 19 q5.2).bind fun q6 =>
          if q6.1 = true then
            (f_m_pass N q6.2).bind fun q9 =>
            if (gI q9.2 66 13) = 0 then
              if vin w1 189 then
              if vin (w1 + 1) 189 then
              some ((), sA (sA (sA q9.2 70 w1 w2) 70 (w1 + 1) 0) 70 6 ((gA (sA (sA q9.2 70 w1 w2) 70 (w1 + 1) 0) 70 6) + 1))
              else none
              else none
            else
              some ((), q9.2)
          else
            (f_m_wrong N 1 (gI q6.2 66 4) q6.2).bind fun q7 =>
            (f_m_pass N q7.2).bind fun q8 =>
            if (gI q8.2 66 13) = 0 then
              if vin w1 189 then
              if vin (w1 + 1) 189 then
              some ((), sA (sA (sA q8.2 70 w1 w2) 70 (w1 + 1) (-1)) 70 6 ((gA (sA (sA q8.2 70 w1 w2) 70 (w1 + 1) (-1)) 70 6) + 1))
              else none
              else none
            else
              some ((), q8.2))
  else
    some ((), σ)
set_option maxRecDepth 100000 in
theorem s_m_seenLine_L28 {y : EX} {N : Nat} {x : CX} {P : Unit × Sg → Prop} (hx : Cx 10 prog_12_method_36_code x) (hc : Cc y 4 5 x) (hr : Cr M_m_seenLine rvN P x) : ∀ (n : Nat) (v1 : Int32) (v2 : Int32) (v3 : Int32) (σ : Sg) (k76 : Int32 → Int32 → Sg → Option (Unit × Sg)) (hk76 : ∀ (w1 : Int32) (w2 : Int32) (t : Sg), ok (k76 w1 w2 t) P → G x 76 [some (.ref 66), some (.int w1), some (.int w2), none] [] t), ok (f_m_seenLine_L28 N n v1 v2 v3 σ k76) P → G x 28 [some (.ref 66), some (.int v1), some (.int v2), some (.int v3)] [] σ := by
  intro n
  induction n with
  | zero => intro v1 v2 v3 σ k76 hk76 h; exact ok_none h
  | succ n ih =>
    intro v1 v2 v3 σ k76 hk76 h
    rw [f_m_seenLine_L28] at h
    refine g_run hx [(.iload_n 3, 0, 0), (.aload_n 0, 0, 0), (.getfield 23, 0, 0), (.bipush 6, 6, 0), (.iaload, 0, 0)] (pc' := 36) (lo' := [some (.ref 66), some (.int v1), some (.int v2), some (.int v3)]) (st' := [.int (gA σ 70 6), .int v3]) (σ' := σ) (by decide +kernel) rfl rfl ?_
    refine g_ic_ge hx (off := 40) (tgt := 76) (by decide +kernel) (by decide) (fun c36 => ?_) (fun c36 => ?_)
    · have h := ok_t h c36
      refine g_wk (lo' := [some (.ref 66), some (.int v1), some (.int v2), none]) ⟨rfl, ⟨rfl, ⟨rfl, trivial⟩⟩⟩ ?_
      exact hk76 _ _ _ h
    · have h := ok_f h c36
      refine g_run hx [(.aload_n 0, 0, 0), (.getfield 106, 0, 0)] (pc' := 43) (lo' := [some (.ref 66), some (.int v1), some (.int v2), some (.int v3)]) (st' := [.int (gI σ 66 13)]) (σ' := σ) (by decide +kernel) rfl rfl ?_
      refine g_if_ne hx (off := 27) (tgt := 70) (by decide +kernel) (by decide) (fun c43 => ?_) (fun c43 => ?_)
      · have h := ok_f h c43
        refine g_run hx [(.iinc 3 1, 1, 0)] (pc' := 73) (lo' := [some (.ref 66), some (.int v1), some (.int v2), some (.int (v3 + 1))]) (st' := []) (σ' := σ) (by decide +kernel) rfl rfl ?_
        refine g_goto hx (off := (-45)) (tgt := 28) (by decide +kernel) (by decide) ?_
        exact ih _ _ _ _ _ hk76 h
      · have h := ok_t h c43
        refine g_run hx [(.aload_n 0, 0, 0), (.getfield 23, 0, 0), (.bipush 36, 36, 0), (.iconst 2, 2, 0), (.iload_n 3, 0, 0), (.imul, 0, 0), (.iadd, 0, 0)] (pc' := 56) (lo' := [some (.ref 66), some (.int v1), some (.int v2), some (.int v3)]) (st' := [.int (36 + (2 * v3)), .ref 70]) (σ' := σ) (by decide +kernel) rfl rfl ?_
        obtain ⟨c56, h⟩ := ok_g h
        refine g_iald hx (by decide +kernel) (i := 70) (n := 189) rfl c56 ?_
        refine g_run hx [(.iload_n 2, 0, 0)] (pc' := 58) (lo' := [some (.ref 66), some (.int v1), some (.int v2), some (.int v3)]) (st' := [.int v2, .int (gA σ 70 (36 + (2 * v3)))]) (σ' := σ) (by decide +kernel) rfl rfl ?_
        refine g_ic_ne hx (off := 12) (tgt := 70) (by decide +kernel) (by decide) (fun c58 => ?_) (fun c58 => ?_)
        · have h := ok_f h c58
          refine g_run hx [(.iinc 3 1, 1, 0)] (pc' := 73) (lo' := [some (.ref 66), some (.int v1), some (.int v2), some (.int (v3 + 1))]) (st' := []) (σ' := σ) (by decide +kernel) rfl rfl ?_
          refine g_goto hx (off := (-45)) (tgt := 28) (by decide +kernel) (by decide) ?_
          exact ih _ _ _ _ _ hk76 h
        · have h := ok_t h c58
          refine g_run hx [(.aload_n 0, 0, 0), (.iconst 3, 3, 0), (.aload_n 0, 0, 0), (.getfield 87, 0, 0)] (pc' := 67) (lo' := [some (.ref 66), some (.int v1), some (.int v2), some (.int v3)]) (st' := [.int (gI σ 66 4), .int 3, .ref 66]) (σ' := σ) (by decide +kernel) rfl rfl ?_
          refine g_callV (rest := []) [.int 3, .int (gI σ 66 4)] hx hc mk_m_wrong ln_10_133 rfl (by decide +kernel) (by decide) (Nat.le_of_ble_eq_true rfl) (s_m_wrong (ok_b h)) (fun r2 s2 h => ?_)
          refine g_run hx [(.iinc 3 1, 1, 0)] (pc' := 73) (lo' := [some (.ref 66), some (.int v1), some (.int v2), some (.int (v3 + 1))]) (st' := []) (σ' := s2) (by decide +kernel) rfl rfl ?_
          refine g_goto hx (off := (-45)) (tgt := 28) (by decide +kernel) (by decide) ?_
          exact ih _ _ _ _ _ hk76 h
set_option maxRecDepth 100000 in
theorem s_m_seenLine {y : EX} {N : Nat} {σ : Sg} {P : Unit × Sg → Prop} (h : ok (f_m_seenLine N σ) P) : Ev y M_m_seenLine 5 [.ref 66] σ rvN P := by
  refine Ev.of mk_m_seenLine (Nat.le_of_ble_eq_true rfl) (fun x hx hc hr => ?_)
  have hx : Cx 10 prog_12_method_36_code x := hx
  have hc : Cc y 4 5 x := hc
  show G x 0 [some (.ref 66), none, none, none] [] σ
  unfold f_m_seenLine at h
  refine g_run hx [(.aload_n 0, 0, 0), (.getfield 106, 0, 0)] (pc' := 4) (lo' := [some (.ref 66), none, none, none]) (st' := [.int (gI σ 66 13)]) (σ' := σ) (by decide +kernel) rfl rfl ?_
  refine g_if_eq hx (off := 4) (tgt := 8) (by decide +kernel) (by decide) (fun c4 => ?_) (fun c4 => ?_)
  · have h := ok_t h c4
    refine g_run hx [(.bipush 36, 36, 0), (.iconst 2, 2, 0), (.aload_n 0, 0, 0), (.getfield 23, 0, 0), (.bipush 6, 6, 0), (.iaload, 0, 0), (.imul, 0, 0), (.iadd, 0, 0), (.istore_n 1, 0, 0), (.aload_n 0, 0, 0)] (pc' := 22) (lo' := [some (.ref 66), some (.int (36 + (2 * (gA σ 70 6)))), none, none]) (st' := [.ref 66]) (σ' := σ) (by decide +kernel) rfl rfl ?_
    refine g_callV (rest := []) [] hx hc mk_m_cellHere ln_10_244 rfl (by decide +kernel) (by decide) (Nat.le_of_ble_eq_true rfl) (s_m_cellHere (ok_b h)) (fun r1 s1 h => ?_)
    refine g_run hx [(.istore_n 2, 0, 0), (.iconst 0, 0, 0), (.istore_n 3, 0, 0)] (pc' := 28) (lo' := [some (.ref 66), some (.int (36 + (2 * (gA σ 70 6)))), some (.int r1), some (.int 0)]) (st' := []) (σ' := s1) (by decide +kernel) rfl rfl ?_
    refine s_m_seenLine_L28 hx hc hr N _ _ _ _ _ (fun w1 w2 t3 h => ?_) h
    refine g_run hx [(.aload_n 0, 0, 0)] (pc' := 77) (lo' := [some (.ref 66), some (.int w1), some (.int w2), none]) (st' := [.ref 66]) (σ' := t3) (by decide +kernel) rfl rfl ?_
    refine g_callV (rest := []) [] hx hc mk_m_pass ln_10_164 rfl (by decide +kernel) (by decide) (Nat.le_of_ble_eq_true rfl) (s_m_pass (ok_b h)) (fun r4 s4 h => ?_)
    refine g_run hx [(.aload_n 0, 0, 0)] (pc' := 81) (lo' := [some (.ref 66), some (.int w1), some (.int w2), none]) (st' := [.ref 66]) (σ' := s4) (by decide +kernel) rfl rfl ?_
    refine g_ldcW (idx := 257) (sid := 18) hx hc (by decide) (by decide +kernel) ?_
    refine g_callV (rest := []) [.ref (100 + 18)] hx hc mk_m_isWord ln_10_123 rfl (by decide +kernel) (by decide) (Nat.le_of_ble_eq_true rfl) (s_m_isWord (by decide) (ok_b h)) (fun r5 s5 h => ?_)
    refine g_ifb_eq hx (off := 7) (tgt := 94) (by decide +kernel) (by decide) (fun c87 => ?_) (fun c87 => ?_)
    · have h := ok_f h c87
      refine g_run hx [(.aload_n 0, 0, 0)] (pc' := 95) (lo' := [some (.ref 66), some (.int w1), some (.int w2), none]) (st' := [.ref 66]) (σ' := s5) (by decide +kernel) rfl rfl ?_
      refine g_ldcW (idx := 259) (sid := 19) hx hc (by decide) (by decide +kernel) ?_
      refine g_callV (rest := []) [.ref (100 + 19)] hx hc mk_m_isWord ln_10_123 rfl (by decide +kernel) (by decide) (Nat.le_of_ble_eq_true rfl) (s_m_isWord (by decide) (ok_b h)) (fun r6 s6 h => ?_)
      refine g_ifb_eq hx (off := 7) (tgt := 108) (by decide +kernel) (by decide) (fun c101 => ?_) (fun c101 => ?_)
      · have h := ok_f h c101
        refine g_run hx [(.iconst (-1), (-1), 0), (.istore_n 3, 0, 0), (.iload_n 3, 0, 0)] (pc' := 111) (lo' := [some (.ref 66), some (.int w1), some (.int w2), some (.int (-1))]) (st' := [.int (-1)]) (σ' := s6) (by decide +kernel) rfl rfl ?_
        refine g_if_ge hx (off := 12) (tgt := 123) (by decide +kernel) (by decide) (fun c => absurd c (by decide)) (fun _ => ?_)
        refine g_run hx [(.aload_n 0, 0, 0), (.iconst 1, 1, 0), (.aload_n 0, 0, 0), (.getfield 87, 0, 0)] (pc' := 120) (lo' := [some (.ref 66), some (.int w1), some (.int w2), some (.int (-1))]) (st' := [.int (gI s6 66 4), .int 1, .ref 66]) (σ' := s6) (by decide +kernel) rfl rfl ?_
        refine g_callV (rest := []) [.int 1, .int (gI s6 66 4)] hx hc mk_m_wrong ln_10_133 rfl (by decide +kernel) (by decide) (Nat.le_of_ble_eq_true rfl) (s_m_wrong (ok_b h)) (fun r7 s7 h => ?_)
        refine g_run hx [(.aload_n 0, 0, 0)] (pc' := 124) (lo' := [some (.ref 66), some (.int w1), some (.int w2), some (.int (-1))]) (st' := [.ref 66]) (σ' := s7) (by decide +kernel) rfl rfl ?_
        refine g_callV (rest := []) [] hx hc mk_m_pass ln_10_164 rfl (by decide +kernel) (by decide) (Nat.le_of_ble_eq_true rfl) (s_m_pass (ok_b h)) (fun r8 s8 h => ?_)
        refine g_run hx [(.aload_n 0, 0, 0), (.getfield 106, 0, 0)] (pc' := 131) (lo' := [some (.ref 66), some (.int w1), some (.int w2), some (.int (-1))]) (st' := [.int (gI s8 66 13)]) (σ' := s8) (by decide +kernel) rfl rfl ?_
        refine g_if_eq hx (off := 4) (tgt := 135) (by decide +kernel) (by decide) (fun c131 => ?_) (fun c131 => ?_)
        · have h := ok_t h c131
          refine g_run hx [(.aload_n 0, 0, 0), (.getfield 23, 0, 0), (.iload_n 1, 0, 0), (.iload_n 2, 0, 0)] (pc' := 141) (lo' := [some (.ref 66), some (.int w1), some (.int w2), some (.int (-1))]) (st' := [.int w2, .int w1, .ref 70]) (σ' := s8) (by decide +kernel) rfl rfl ?_
          obtain ⟨c141, h⟩ := ok_g h
          refine g_iast hx (by decide +kernel) (i := 70) (n := 189) rfl c141 ?_
          refine g_run hx [(.aload_n 0, 0, 0), (.getfield 23, 0, 0), (.iload_n 1, 0, 0), (.iconst 1, 1, 0), (.iadd, 0, 0), (.iload_n 3, 0, 0)] (pc' := 150) (lo' := [some (.ref 66), some (.int w1), some (.int w2), some (.int (-1))]) (st' := [.int (-1), .int (w1 + 1), .ref 70]) (σ' := sA s8 70 w1 w2) (by decide +kernel) rfl rfl ?_
          obtain ⟨c150, h⟩ := ok_g h
          refine g_iast hx (by decide +kernel) (i := 70) (n := 189) rfl c150 ?_
          refine g_run hx [(.aload_n 0, 0, 0), (.getfield 23, 0, 0), (.bipush 6, 6, 0), (.dup2, 0, 0), (.iaload, 0, 0), (.iconst 1, 1, 0), (.iadd, 0, 0), (.iastore, 0, 0)] (pc' := 162) (lo' := [some (.ref 66), some (.int w1), some (.int w2), some (.int (-1))]) (st' := []) (σ' := sA (sA (sA s8 70 w1 w2) 70 (w1 + 1) (-1)) 70 6 ((gA (sA (sA s8 70 w1 w2) 70 (w1 + 1) (-1)) 70 6) + 1)) (by decide +kernel) rfl rfl ?_
          exact g_vret hx hr rfl () rfl (by decide +kernel) (ok_some h)
        · have h := ok_f h c131
          exact g_vret hx hr rfl () rfl (by decide +kernel) (ok_some h)
      · have h := ok_t h c101
        refine g_run hx [(.iconst 0, 0, 0)] (pc' := 105) (lo' := [some (.ref 66), some (.int w1), some (.int w2), none]) (st' := [.int 0]) (σ' := s6) (by decide +kernel) rfl rfl ?_
        refine g_goto hx (off := 4) (tgt := 109) (by decide +kernel) (by decide) ?_
        refine g_run hx [(.istore_n 3, 0, 0), (.iload_n 3, 0, 0)] (pc' := 111) (lo' := [some (.ref 66), some (.int w1), some (.int w2), some (.int 0)]) (st' := [.int 0]) (σ' := s6) (by decide +kernel) rfl rfl ?_
        refine g_if_ge hx (off := 12) (tgt := 123) (by decide +kernel) (by decide) (fun _ => ?_) (fun c => absurd c (by decide))
        refine g_run hx [(.aload_n 0, 0, 0)] (pc' := 124) (lo' := [some (.ref 66), some (.int w1), some (.int w2), some (.int 0)]) (st' := [.ref 66]) (σ' := s6) (by decide +kernel) rfl rfl ?_
        refine g_callV (rest := []) [] hx hc mk_m_pass ln_10_164 rfl (by decide +kernel) (by decide) (Nat.le_of_ble_eq_true rfl) (s_m_pass (ok_b h)) (fun r9 s9 h => ?_)
        refine g_run hx [(.aload_n 0, 0, 0), (.getfield 106, 0, 0)] (pc' := 131) (lo' := [some (.ref 66), some (.int w1), some (.int w2), some (.int 0)]) (st' := [.int (gI s9 66 13)]) (σ' := s9) (by decide +kernel) rfl rfl ?_
        refine g_if_eq hx (off := 4) (tgt := 135) (by decide +kernel) (by decide) (fun c131 => ?_) (fun c131 => ?_)
        · have h := ok_t h c131
          refine g_run hx [(.aload_n 0, 0, 0), (.getfield 23, 0, 0), (.iload_n 1, 0, 0), (.iload_n 2, 0, 0)] (pc' := 141) (lo' := [some (.ref 66), some (.int w1), some (.int w2), some (.int 0)]) (st' := [.int w2, .int w1, .ref 70]) (σ' := s9) (by decide +kernel) rfl rfl ?_
          obtain ⟨c141, h⟩ := ok_g h
          refine g_iast hx (by decide +kernel) (i := 70) (n := 189) rfl c141 ?_
          refine g_run hx [(.aload_n 0, 0, 0), (.getfield 23, 0, 0), (.iload_n 1, 0, 0), (.iconst 1, 1, 0), (.iadd, 0, 0), (.iload_n 3, 0, 0)] (pc' := 150) (lo' := [some (.ref 66), some (.int w1), some (.int w2), some (.int 0)]) (st' := [.int 0, .int (w1 + 1), .ref 70]) (σ' := sA s9 70 w1 w2) (by decide +kernel) rfl rfl ?_
          obtain ⟨c150, h⟩ := ok_g h
          refine g_iast hx (by decide +kernel) (i := 70) (n := 189) rfl c150 ?_
          refine g_run hx [(.aload_n 0, 0, 0), (.getfield 23, 0, 0), (.bipush 6, 6, 0), (.dup2, 0, 0), (.iaload, 0, 0), (.iconst 1, 1, 0), (.iadd, 0, 0), (.iastore, 0, 0)] (pc' := 162) (lo' := [some (.ref 66), some (.int w1), some (.int w2), some (.int 0)]) (st' := []) (σ' := sA (sA (sA s9 70 w1 w2) 70 (w1 + 1) 0) 70 6 ((gA (sA (sA s9 70 w1 w2) 70 (w1 + 1) 0) 70 6) + 1)) (by decide +kernel) rfl rfl ?_
          exact g_vret hx hr rfl () rfl (by decide +kernel) (ok_some h)
        · have h := ok_f h c131
          exact g_vret hx hr rfl () rfl (by decide +kernel) (ok_some h)
    · have h := ok_t h c87
      refine g_run hx [(.iconst 1, 1, 0)] (pc' := 91) (lo' := [some (.ref 66), some (.int w1), some (.int w2), none]) (st' := [.int 1]) (σ' := s5) (by decide +kernel) rfl rfl ?_
      refine g_goto hx (off := 18) (tgt := 109) (by decide +kernel) (by decide) ?_
      refine g_run hx [(.istore_n 3, 0, 0), (.iload_n 3, 0, 0)] (pc' := 111) (lo' := [some (.ref 66), some (.int w1), some (.int w2), some (.int 1)]) (st' := [.int 1]) (σ' := s5) (by decide +kernel) rfl rfl ?_
      refine g_if_ge hx (off := 12) (tgt := 123) (by decide +kernel) (by decide) (fun _ => ?_) (fun c => absurd c (by decide))
      refine g_run hx [(.aload_n 0, 0, 0)] (pc' := 124) (lo' := [some (.ref 66), some (.int w1), some (.int w2), some (.int 1)]) (st' := [.ref 66]) (σ' := s5) (by decide +kernel) rfl rfl ?_
      refine g_callV (rest := []) [] hx hc mk_m_pass ln_10_164 rfl (by decide +kernel) (by decide) (Nat.le_of_ble_eq_true rfl) (s_m_pass (ok_b h)) (fun r10 s10 h => ?_)
      refine g_run hx [(.aload_n 0, 0, 0), (.getfield 106, 0, 0)] (pc' := 131) (lo' := [some (.ref 66), some (.int w1), some (.int w2), some (.int 1)]) (st' := [.int (gI s10 66 13)]) (σ' := s10) (by decide +kernel) rfl rfl ?_
      refine g_if_eq hx (off := 4) (tgt := 135) (by decide +kernel) (by decide) (fun c131 => ?_) (fun c131 => ?_)
      · have h := ok_t h c131
        refine g_run hx [(.aload_n 0, 0, 0), (.getfield 23, 0, 0), (.iload_n 1, 0, 0), (.iload_n 2, 0, 0)] (pc' := 141) (lo' := [some (.ref 66), some (.int w1), some (.int w2), some (.int 1)]) (st' := [.int w2, .int w1, .ref 70]) (σ' := s10) (by decide +kernel) rfl rfl ?_
        obtain ⟨c141, h⟩ := ok_g h
        refine g_iast hx (by decide +kernel) (i := 70) (n := 189) rfl c141 ?_
        refine g_run hx [(.aload_n 0, 0, 0), (.getfield 23, 0, 0), (.iload_n 1, 0, 0), (.iconst 1, 1, 0), (.iadd, 0, 0), (.iload_n 3, 0, 0)] (pc' := 150) (lo' := [some (.ref 66), some (.int w1), some (.int w2), some (.int 1)]) (st' := [.int 1, .int (w1 + 1), .ref 70]) (σ' := sA s10 70 w1 w2) (by decide +kernel) rfl rfl ?_
        obtain ⟨c150, h⟩ := ok_g h
        refine g_iast hx (by decide +kernel) (i := 70) (n := 189) rfl c150 ?_
        refine g_run hx [(.aload_n 0, 0, 0), (.getfield 23, 0, 0), (.bipush 6, 6, 0), (.dup2, 0, 0), (.iaload, 0, 0), (.iconst 1, 1, 0), (.iadd, 0, 0), (.iastore, 0, 0)] (pc' := 162) (lo' := [some (.ref 66), some (.int w1), some (.int w2), some (.int 1)]) (st' := []) (σ' := sA (sA (sA s10 70 w1 w2) 70 (w1 + 1) 1) 70 6 ((gA (sA (sA s10 70 w1 w2) 70 (w1 + 1) 1) 70 6) + 1)) (by decide +kernel) rfl rfl ?_
        exact g_vret hx hr rfl () rfl (by decide +kernel) (ok_some h)
      · have h := ok_f h c131
        exact g_vret hx hr rfl () rfl (by decide +kernel) (ok_some h)
  · have h := ok_f h c4
    exact g_vret hx hr rfl () rfl (by decide +kernel) (ok_some h)
def f_m_unsureLine_L22 (N : Nat) : Nat → Int32 → Int32 → Sg → (Int32 → Sg → Option (Unit × Sg)) → Option (Unit × Sg)
  | 0, _, _, _, _ => none
  | n + 1, v1, v2, σ, k67 =>
    if (gA σ 70 5) ≤ v2 then
      k67 v1 σ
    else
      if (gI σ 66 13) = 0 then
        if vin (32 + v2) 189 then
        if (gA σ 70 (32 + v2)) = v1 then
          (f_m_wrong N 3 (gI σ 66 4) σ).bind fun q2 =>
          f_m_unsureLine_L22 N n v1 (v2 + 1) q2.2 k67
        else
          f_m_unsureLine_L22 N n v1 (v2 + 1) σ k67
        else none
      else
        f_m_unsureLine_L22 N n v1 (v2 + 1) σ k67
def f_m_unsureLine (N : Nat) (σ : Sg) : Option (Unit × Sg) :=
  if (gI σ 66 13) = 0 then
    (f_m_numberHere N 1 (gA σ 70 4) σ).bind fun q1 =>
    f_m_unsureLine_L22 N N q1.1 0 q1.2
      (fun (w1 : Int32) (t3 : Sg) =>
        (f_m_pass N t3).bind fun q4 =>
        if (gI q4.2 66 13) = 0 then
          if vin (32 + (gA q4.2 70 5)) 189 then
          some ((), sA (sA q4.2 70 (32 + (gA q4.2 70 5)) w1) 70 5 ((gA (sA q4.2 70 (32 + (gA q4.2 70 5)) w1) 70 5) + 1))
          else none
        else
          some ((), q4.2))
  else
    some ((), σ)
set_option maxRecDepth 100000 in
theorem s_m_unsureLine_L22 {y : EX} {N : Nat} {x : CX} {P : Unit × Sg → Prop} (hx : Cx 10 prog_12_method_35_code x) (hc : Cc y 3 3 x) (hr : Cr M_m_unsureLine rvN P x) : ∀ (n : Nat) (v1 : Int32) (v2 : Int32) (σ : Sg) (k67 : Int32 → Sg → Option (Unit × Sg)) (hk67 : ∀ (w1 : Int32) (t : Sg), ok (k67 w1 t) P → G x 67 [some (.ref 66), some (.int w1), none] [] t), ok (f_m_unsureLine_L22 N n v1 v2 σ k67) P → G x 22 [some (.ref 66), some (.int v1), some (.int v2)] [] σ := by
  intro n
  induction n with
  | zero => intro v1 v2 σ k67 hk67 h; exact ok_none h
  | succ n ih =>
    intro v1 v2 σ k67 hk67 h
    rw [f_m_unsureLine_L22] at h
    refine g_run hx [(.iload_n 2, 0, 0), (.aload_n 0, 0, 0), (.getfield 23, 0, 0), (.iconst 5, 5, 0), (.iaload, 0, 0)] (pc' := 29) (lo' := [some (.ref 66), some (.int v1), some (.int v2)]) (st' := [.int (gA σ 70 5), .int v2]) (σ' := σ) (by decide +kernel) rfl rfl ?_
    refine g_ic_ge hx (off := 38) (tgt := 67) (by decide +kernel) (by decide) (fun c29 => ?_) (fun c29 => ?_)
    · have h := ok_t h c29
      refine g_wk (lo' := [some (.ref 66), some (.int v1), none]) ⟨rfl, ⟨rfl, trivial⟩⟩ ?_
      exact hk67 _ _ h
    · have h := ok_f h c29
      refine g_run hx [(.aload_n 0, 0, 0), (.getfield 106, 0, 0)] (pc' := 36) (lo' := [some (.ref 66), some (.int v1), some (.int v2)]) (st' := [.int (gI σ 66 13)]) (σ' := σ) (by decide +kernel) rfl rfl ?_
      refine g_if_ne hx (off := 25) (tgt := 61) (by decide +kernel) (by decide) (fun c36 => ?_) (fun c36 => ?_)
      · have h := ok_f h c36
        refine g_run hx [(.iinc 2 1, 1, 0)] (pc' := 64) (lo' := [some (.ref 66), some (.int v1), some (.int (v2 + 1))]) (st' := []) (σ' := σ) (by decide +kernel) rfl rfl ?_
        refine g_goto hx (off := (-42)) (tgt := 22) (by decide +kernel) (by decide) ?_
        exact ih _ _ _ _ hk67 h
      · have h := ok_t h c36
        refine g_run hx [(.aload_n 0, 0, 0), (.getfield 23, 0, 0), (.bipush 32, 32, 0), (.iload_n 2, 0, 0), (.iadd, 0, 0)] (pc' := 47) (lo' := [some (.ref 66), some (.int v1), some (.int v2)]) (st' := [.int (32 + v2), .ref 70]) (σ' := σ) (by decide +kernel) rfl rfl ?_
        obtain ⟨c47, h⟩ := ok_g h
        refine g_iald hx (by decide +kernel) (i := 70) (n := 189) rfl c47 ?_
        refine g_run hx [(.iload_n 1, 0, 0)] (pc' := 49) (lo' := [some (.ref 66), some (.int v1), some (.int v2)]) (st' := [.int v1, .int (gA σ 70 (32 + v2))]) (σ' := σ) (by decide +kernel) rfl rfl ?_
        refine g_ic_ne hx (off := 12) (tgt := 61) (by decide +kernel) (by decide) (fun c49 => ?_) (fun c49 => ?_)
        · have h := ok_f h c49
          refine g_run hx [(.iinc 2 1, 1, 0)] (pc' := 64) (lo' := [some (.ref 66), some (.int v1), some (.int (v2 + 1))]) (st' := []) (σ' := σ) (by decide +kernel) rfl rfl ?_
          refine g_goto hx (off := (-42)) (tgt := 22) (by decide +kernel) (by decide) ?_
          exact ih _ _ _ _ hk67 h
        · have h := ok_t h c49
          refine g_run hx [(.aload_n 0, 0, 0), (.iconst 3, 3, 0), (.aload_n 0, 0, 0), (.getfield 87, 0, 0)] (pc' := 58) (lo' := [some (.ref 66), some (.int v1), some (.int v2)]) (st' := [.int (gI σ 66 4), .int 3, .ref 66]) (σ' := σ) (by decide +kernel) rfl rfl ?_
          refine g_callV (rest := []) [.int 3, .int (gI σ 66 4)] hx hc mk_m_wrong ln_10_133 rfl (by decide +kernel) (by decide) (Nat.le_of_ble_eq_true rfl) (s_m_wrong (ok_b h)) (fun r2 s2 h => ?_)
          refine g_run hx [(.iinc 2 1, 1, 0)] (pc' := 64) (lo' := [some (.ref 66), some (.int v1), some (.int (v2 + 1))]) (st' := []) (σ' := s2) (by decide +kernel) rfl rfl ?_
          refine g_goto hx (off := (-42)) (tgt := 22) (by decide +kernel) (by decide) ?_
          exact ih _ _ _ _ hk67 h
set_option maxRecDepth 100000 in
theorem s_m_unsureLine {y : EX} {N : Nat} {σ : Sg} {P : Unit × Sg → Prop} (h : ok (f_m_unsureLine N σ) P) : Ev y M_m_unsureLine 3 [.ref 66] σ rvN P := by
  refine Ev.of mk_m_unsureLine (Nat.le_of_ble_eq_true rfl) (fun x hx hc hr => ?_)
  have hx : Cx 10 prog_12_method_35_code x := hx
  have hc : Cc y 3 3 x := hc
  show G x 0 [some (.ref 66), none, none] [] σ
  unfold f_m_unsureLine at h
  refine g_run hx [(.aload_n 0, 0, 0), (.getfield 106, 0, 0)] (pc' := 4) (lo' := [some (.ref 66), none, none]) (st' := [.int (gI σ 66 13)]) (σ' := σ) (by decide +kernel) rfl rfl ?_
  refine g_if_eq hx (off := 4) (tgt := 8) (by decide +kernel) (by decide) (fun c4 => ?_) (fun c4 => ?_)
  · have h := ok_t h c4
    refine g_run hx [(.aload_n 0, 0, 0), (.iconst 1, 1, 0), (.aload_n 0, 0, 0), (.getfield 23, 0, 0), (.iconst 4, 4, 0), (.iaload, 0, 0)] (pc' := 16) (lo' := [some (.ref 66), none, none]) (st' := [.int (gA σ 70 4), .int 1, .ref 66]) (σ' := σ) (by decide +kernel) rfl rfl ?_
    refine g_callV (rest := []) [.int 1, .int (gA σ 70 4)] hx hc mk_m_numberHere ln_10_160 rfl (by decide +kernel) (by decide) (Nat.le_of_ble_eq_true rfl) (s_m_numberHere (ok_b h)) (fun r1 s1 h => ?_)
    refine g_run hx [(.istore_n 1, 0, 0), (.iconst 0, 0, 0), (.istore_n 2, 0, 0)] (pc' := 22) (lo' := [some (.ref 66), some (.int r1), some (.int 0)]) (st' := []) (σ' := s1) (by decide +kernel) rfl rfl ?_
    refine s_m_unsureLine_L22 hx hc hr N _ _ _ _ (fun w1 t3 h => ?_) h
    refine g_run hx [(.aload_n 0, 0, 0)] (pc' := 68) (lo' := [some (.ref 66), some (.int w1), none]) (st' := [.ref 66]) (σ' := t3) (by decide +kernel) rfl rfl ?_
    refine g_callV (rest := []) [] hx hc mk_m_pass ln_10_164 rfl (by decide +kernel) (by decide) (Nat.le_of_ble_eq_true rfl) (s_m_pass (ok_b h)) (fun r4 s4 h => ?_)
    refine g_run hx [(.aload_n 0, 0, 0), (.getfield 106, 0, 0)] (pc' := 75) (lo' := [some (.ref 66), some (.int w1), none]) (st' := [.int (gI s4 66 13)]) (σ' := s4) (by decide +kernel) rfl rfl ?_
    refine g_if_eq hx (off := 4) (tgt := 79) (by decide +kernel) (by decide) (fun c75 => ?_) (fun c75 => ?_)
    · have h := ok_t h c75
      refine g_run hx [(.aload_n 0, 0, 0), (.getfield 23, 0, 0), (.bipush 32, 32, 0), (.aload_n 0, 0, 0), (.getfield 23, 0, 0), (.iconst 5, 5, 0), (.iaload, 0, 0), (.iadd, 0, 0), (.iload_n 1, 0, 0)] (pc' := 93) (lo' := [some (.ref 66), some (.int w1), none]) (st' := [.int w1, .int (32 + (gA s4 70 5)), .ref 70]) (σ' := s4) (by decide +kernel) rfl rfl ?_
      obtain ⟨c93, h⟩ := ok_g h
      refine g_iast hx (by decide +kernel) (i := 70) (n := 189) rfl c93 ?_
      refine g_run hx [(.aload_n 0, 0, 0), (.getfield 23, 0, 0), (.iconst 5, 5, 0), (.dup2, 0, 0), (.iaload, 0, 0), (.iconst 1, 1, 0), (.iadd, 0, 0), (.iastore, 0, 0)] (pc' := 104) (lo' := [some (.ref 66), some (.int w1), none]) (st' := []) (σ' := sA (sA s4 70 (32 + (gA s4 70 5)) w1) 70 5 ((gA (sA s4 70 (32 + (gA s4 70 5)) w1) 70 5) + 1)) (by decide +kernel) rfl rfl ?_
      exact g_vret hx hr rfl () rfl (by decide +kernel) (ok_some h)
    · have h := ok_f h c75
      exact g_vret hx hr rfl () rfl (by decide +kernel) (ok_some h)
  · have h := ok_f h c4
    exact g_vret hx hr rfl () rfl (by decide +kernel) (ok_some h)
def f_m_mustName (N : Nat) (σ : Sg) : Option (Unit × Sg) :=
  if (gI σ 66 6) = 2 then
    (f_m_isWord N 0 σ).bind fun q2 =>
    if q2.1 = true then
      (f_m_wrong N 1 (gI q2.2 66 4) q2.2).bind fun q3 =>
      some ((), q3.2)
    else
      (f_m_isWord N 1 q2.2).bind fun q4 =>
      if q4.1 = true then
        (f_m_wrong N 1 (gI q4.2 66 4) q4.2).bind fun q5 =>
        some ((), q5.2)
      else
        (f_m_isWord N 2 q4.2).bind fun q6 =>
        if q6.1 = true then
          (f_m_wrong N 1 (gI q6.2 66 4) q6.2).bind fun q7 =>
          some ((), q7.2)
        else
          (f_m_isWord N 3 q6.2).bind fun q8 =>
          if q8.1 = true then
            (f_m_wrong N 1 (gI q8.2 66 4) q8.2).bind fun q9 =>
            some ((), q9.2)
          else
            (f_m_isWord N 4 q8.2).bind fun q10 =>
            if q10.1 = true then
              (f_m_wrong N 1 (gI q10.2 66 4) q10.2).bind fun q11 =>
              some ((), q11.2)
            else
              (f_m_isWord N 5 q10.2).bind fun q12 =>
              if q12.1 = true then
                (f_m_wrong N 1 (gI q12.2 66 4) q12.2).bind fun q13 =>
                some ((), q13.2)
              else
                (f_m_isWord N 6 q12.2).bind fun q14 =>
                if q14.1 = true then
                  (f_m_wrong N 1 (gI q14.2 66 4) q14.2).bind fun q15 =>
                  some ((), q15.2)
                else
                  some ((), q14.2)
  else
    (f_m_wrong N 1 (gI σ 66 4) σ).bind fun q1 =>
    some ((), q1.2)
set_option maxRecDepth 100000 in
theorem s_m_mustName {y : EX} {N : Nat} {σ : Sg} {P : Unit × Sg → Prop} (h : ok (f_m_mustName N σ) P) : Ev y M_m_mustName 5 [.ref 66] σ rvN P := by
  refine Ev.of mk_m_mustName (Nat.le_of_ble_eq_true rfl) (fun x hx hc hr => ?_)
  have hx : Cx 10 prog_12_method_19_code x := hx
  have hc : Cc y 1 5 x := hc
  show G x 0 [some (.ref 66)] [] σ
  unfold f_m_mustName at h
  refine g_run hx [(.aload_n 0, 0, 0), (.getfield 96, 0, 0), (.iconst 2, 2, 0)] (pc' := 5) (lo' := [some (.ref 66)]) (st' := [.int 2, .int (gI σ 66 6)]) (σ' := σ) (by decide +kernel) rfl rfl ?_
  refine g_ic_ne hx (off := 66) (tgt := 71) (by decide +kernel) (by decide) (fun c5 => ?_) (fun c5 => ?_)
  · have h := ok_f h c5
    refine g_run hx [(.aload_n 0, 0, 0), (.iconst 1, 1, 0), (.aload_n 0, 0, 0), (.getfield 87, 0, 0)] (pc' := 77) (lo' := [some (.ref 66)]) (st' := [.int (gI σ 66 4), .int 1, .ref 66]) (σ' := σ) (by decide +kernel) rfl rfl ?_
    refine g_callV (rest := []) [.int 1, .int (gI σ 66 4)] hx hc mk_m_wrong ln_10_133 rfl (by decide +kernel) (by decide) (Nat.le_of_ble_eq_true rfl) (s_m_wrong (ok_b h)) (fun r1 s1 h => ?_)
    exact g_vret hx hr rfl () rfl (by decide +kernel) (ok_some h)
  · have h := ok_t h c5
    refine g_run hx [(.aload_n 0, 0, 0)] (pc' := 9) (lo' := [some (.ref 66)]) (st' := [.ref 66]) (σ' := σ) (by decide +kernel) rfl rfl ?_
    refine g_ldcS (idx := 137) (sid := 0) hx hc (by decide) (by decide +kernel) ?_
    refine g_callV (rest := []) [.ref (100 + 0)] hx hc mk_m_isWord ln_10_123 rfl (by decide +kernel) (by decide) (Nat.le_of_ble_eq_true rfl) (s_m_isWord (by decide) (ok_b h)) (fun r2 s2 h => ?_)
    refine g_ifb_ne hx (off := 57) (tgt := 71) (by decide +kernel) (by decide) (fun c14 => ?_) (fun c14 => ?_)
    · have h := ok_t h c14
      refine g_run hx [(.aload_n 0, 0, 0), (.iconst 1, 1, 0), (.aload_n 0, 0, 0), (.getfield 87, 0, 0)] (pc' := 77) (lo' := [some (.ref 66)]) (st' := [.int (gI s2 66 4), .int 1, .ref 66]) (σ' := s2) (by decide +kernel) rfl rfl ?_
      refine g_callV (rest := []) [.int 1, .int (gI s2 66 4)] hx hc mk_m_wrong ln_10_133 rfl (by decide +kernel) (by decide) (Nat.le_of_ble_eq_true rfl) (s_m_wrong (ok_b h)) (fun r3 s3 h => ?_)
      exact g_vret hx hr rfl () rfl (by decide +kernel) (ok_some h)
    · have h := ok_f h c14
      refine g_run hx [(.aload_n 0, 0, 0)] (pc' := 18) (lo' := [some (.ref 66)]) (st' := [.ref 66]) (σ' := s2) (by decide +kernel) rfl rfl ?_
      refine g_ldcS (idx := 139) (sid := 1) hx hc (by decide) (by decide +kernel) ?_
      refine g_callV (rest := []) [.ref (100 + 1)] hx hc mk_m_isWord ln_10_123 rfl (by decide +kernel) (by decide) (Nat.le_of_ble_eq_true rfl) (s_m_isWord (by decide) (ok_b h)) (fun r4 s4 h => ?_)
      refine g_ifb_ne hx (off := 48) (tgt := 71) (by decide +kernel) (by decide) (fun c23 => ?_) (fun c23 => ?_)
      · have h := ok_t h c23
        refine g_run hx [(.aload_n 0, 0, 0), (.iconst 1, 1, 0), (.aload_n 0, 0, 0), (.getfield 87, 0, 0)] (pc' := 77) (lo' := [some (.ref 66)]) (st' := [.int (gI s4 66 4), .int 1, .ref 66]) (σ' := s4) (by decide +kernel) rfl rfl ?_
        refine g_callV (rest := []) [.int 1, .int (gI s4 66 4)] hx hc mk_m_wrong ln_10_133 rfl (by decide +kernel) (by decide) (Nat.le_of_ble_eq_true rfl) (s_m_wrong (ok_b h)) (fun r5 s5 h => ?_)
        exact g_vret hx hr rfl () rfl (by decide +kernel) (ok_some h)
      · have h := ok_f h c23
        refine g_run hx [(.aload_n 0, 0, 0)] (pc' := 27) (lo' := [some (.ref 66)]) (st' := [.ref 66]) (σ' := s4) (by decide +kernel) rfl rfl ?_
        refine g_ldcS (idx := 141) (sid := 2) hx hc (by decide) (by decide +kernel) ?_
        refine g_callV (rest := []) [.ref (100 + 2)] hx hc mk_m_isWord ln_10_123 rfl (by decide +kernel) (by decide) (Nat.le_of_ble_eq_true rfl) (s_m_isWord (by decide) (ok_b h)) (fun r6 s6 h => ?_)
        refine g_ifb_ne hx (off := 39) (tgt := 71) (by decide +kernel) (by decide) (fun c32 => ?_) (fun c32 => ?_)
        · have h := ok_t h c32
          refine g_run hx [(.aload_n 0, 0, 0), (.iconst 1, 1, 0), (.aload_n 0, 0, 0), (.getfield 87, 0, 0)] (pc' := 77) (lo' := [some (.ref 66)]) (st' := [.int (gI s6 66 4), .int 1, .ref 66]) (σ' := s6) (by decide +kernel) rfl rfl ?_
          refine g_callV (rest := []) [.int 1, .int (gI s6 66 4)] hx hc mk_m_wrong ln_10_133 rfl (by decide +kernel) (by decide) (Nat.le_of_ble_eq_true rfl) (s_m_wrong (ok_b h)) (fun r7 s7 h => ?_)
          exact g_vret hx hr rfl () rfl (by decide +kernel) (ok_some h)
        · have h := ok_f h c32
          refine g_run hx [(.aload_n 0, 0, 0)] (pc' := 36) (lo' := [some (.ref 66)]) (st' := [.ref 66]) (σ' := s6) (by decide +kernel) rfl rfl ?_
          refine g_ldcS (idx := 143) (sid := 3) hx hc (by decide) (by decide +kernel) ?_
          refine g_callV (rest := []) [.ref (100 + 3)] hx hc mk_m_isWord ln_10_123 rfl (by decide +kernel) (by decide) (Nat.le_of_ble_eq_true rfl) (s_m_isWord (by decide) (ok_b h)) (fun r8 s8 h => ?_)
          refine g_ifb_ne hx (off := 30) (tgt := 71) (by decide +kernel) (by decide) (fun c41 => ?_) (fun c41 => ?_)
          · have h := ok_t h c41
            refine g_run hx [(.aload_n 0, 0, 0), (.iconst 1, 1, 0), (.aload_n 0, 0, 0), (.getfield 87, 0, 0)] (pc' := 77) (lo' := [some (.ref 66)]) (st' := [.int (gI s8 66 4), .int 1, .ref 66]) (σ' := s8) (by decide +kernel) rfl rfl ?_
            refine g_callV (rest := []) [.int 1, .int (gI s8 66 4)] hx hc mk_m_wrong ln_10_133 rfl (by decide +kernel) (by decide) (Nat.le_of_ble_eq_true rfl) (s_m_wrong (ok_b h)) (fun r9 s9 h => ?_)
            exact g_vret hx hr rfl () rfl (by decide +kernel) (ok_some h)
          · have h := ok_f h c41
            refine g_run hx [(.aload_n 0, 0, 0)] (pc' := 45) (lo' := [some (.ref 66)]) (st' := [.ref 66]) (σ' := s8) (by decide +kernel) rfl rfl ?_
            refine g_ldcS (idx := 144) (sid := 4) hx hc (by decide) (by decide +kernel) ?_
            refine g_callV (rest := []) [.ref (100 + 4)] hx hc mk_m_isWord ln_10_123 rfl (by decide +kernel) (by decide) (Nat.le_of_ble_eq_true rfl) (s_m_isWord (by decide) (ok_b h)) (fun r10 s10 h => ?_)
            refine g_ifb_ne hx (off := 21) (tgt := 71) (by decide +kernel) (by decide) (fun c50 => ?_) (fun c50 => ?_)
            · have h := ok_t h c50
              refine g_run hx [(.aload_n 0, 0, 0), (.iconst 1, 1, 0), (.aload_n 0, 0, 0), (.getfield 87, 0, 0)] (pc' := 77) (lo' := [some (.ref 66)]) (st' := [.int (gI s10 66 4), .int 1, .ref 66]) (σ' := s10) (by decide +kernel) rfl rfl ?_
              refine g_callV (rest := []) [.int 1, .int (gI s10 66 4)] hx hc mk_m_wrong ln_10_133 rfl (by decide +kernel) (by decide) (Nat.le_of_ble_eq_true rfl) (s_m_wrong (ok_b h)) (fun r11 s11 h => ?_)
              exact g_vret hx hr rfl () rfl (by decide +kernel) (ok_some h)
            · have h := ok_f h c50
              refine g_run hx [(.aload_n 0, 0, 0)] (pc' := 54) (lo' := [some (.ref 66)]) (st' := [.ref 66]) (σ' := s10) (by decide +kernel) rfl rfl ?_
              refine g_ldcS (idx := 146) (sid := 5) hx hc (by decide) (by decide +kernel) ?_
              refine g_callV (rest := []) [.ref (100 + 5)] hx hc mk_m_isWord ln_10_123 rfl (by decide +kernel) (by decide) (Nat.le_of_ble_eq_true rfl) (s_m_isWord (by decide) (ok_b h)) (fun r12 s12 h => ?_)
              refine g_ifb_ne hx (off := 12) (tgt := 71) (by decide +kernel) (by decide) (fun c59 => ?_) (fun c59 => ?_)
              · have h := ok_t h c59
                refine g_run hx [(.aload_n 0, 0, 0), (.iconst 1, 1, 0), (.aload_n 0, 0, 0), (.getfield 87, 0, 0)] (pc' := 77) (lo' := [some (.ref 66)]) (st' := [.int (gI s12 66 4), .int 1, .ref 66]) (σ' := s12) (by decide +kernel) rfl rfl ?_
                refine g_callV (rest := []) [.int 1, .int (gI s12 66 4)] hx hc mk_m_wrong ln_10_133 rfl (by decide +kernel) (by decide) (Nat.le_of_ble_eq_true rfl) (s_m_wrong (ok_b h)) (fun r13 s13 h => ?_)
                exact g_vret hx hr rfl () rfl (by decide +kernel) (ok_some h)
              · have h := ok_f h c59
                refine g_run hx [(.aload_n 0, 0, 0)] (pc' := 63) (lo' := [some (.ref 66)]) (st' := [.ref 66]) (σ' := s12) (by decide +kernel) rfl rfl ?_
                refine g_ldcS (idx := 148) (sid := 6) hx hc (by decide) (by decide +kernel) ?_
                refine g_callV (rest := []) [.ref (100 + 6)] hx hc mk_m_isWord ln_10_123 rfl (by decide +kernel) (by decide) (Nat.le_of_ble_eq_true rfl) (s_m_isWord (by decide) (ok_b h)) (fun r14 s14 h => ?_)
                refine g_ifb_eq hx (off := 12) (tgt := 80) (by decide +kernel) (by decide) (fun c68 => ?_) (fun c68 => ?_)
                · have h := ok_f h c68
                  exact g_vret hx hr rfl () rfl (by decide +kernel) (ok_some h)
                · have h := ok_t h c68
                  refine g_run hx [(.aload_n 0, 0, 0), (.iconst 1, 1, 0), (.aload_n 0, 0, 0), (.getfield 87, 0, 0)] (pc' := 77) (lo' := [some (.ref 66)]) (st' := [.int (gI s14 66 4), .int 1, .ref 66]) (σ' := s14) (by decide +kernel) rfl rfl ?_
                  refine g_callV (rest := []) [.int 1, .int (gI s14 66 4)] hx hc mk_m_wrong ln_10_133 rfl (by decide +kernel) (by decide) (Nat.le_of_ble_eq_true rfl) (s_m_wrong (ok_b h)) (fun r15 s15 h => ?_)
                  exact g_vret hx hr rfl () rfl (by decide +kernel) (ok_some h)
