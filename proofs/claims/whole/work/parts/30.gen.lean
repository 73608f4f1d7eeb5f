def f_reader_isWord_L28 (N : Nat) (w1 : Nat) : Nat → Int32 → Sg → Option (Bool × Sg)
  | 0, _, _ => none
  | n + 1, v2, σ =>
    (f_js_length N w1 σ).bind fun q2 =>
    if q2.1 ≤ v2 then
      some (true, q2.2)
    else
      (f_reader_byteAt N ((gI q2.2 1 4) + v2) q2.2).bind fun q3 =>
      (f_js_charAt N w1 v2 q3.2).bind fun q4 =>
      if q3.1 = q4.1 then
        f_reader_isWord_L28 N w1 n (v2 + 1) q4.2
      else
        some (false, q4.2)
def f_reader_isWord (N : Nat) (w1 : Nat) (σ : Sg) : Option (Bool × Sg) :=
  if (gI σ 1 3) = 1 then
    (f_js_length N w1 σ).bind fun q1 =>
    if q1.1 = ((gI q1.2 1 5) - (gI q1.2 1 4)) then
      f_reader_isWord_L28 N w1 N 0 q1.2
    else
      some (false, q1.2)
  else
    some (false, σ)
set_option maxRecDepth 100000 in
theorem s_reader_isWord_L28 {y : EX} {N : Nat} {x : CX} {P : Bool × Sg → Prop} (hx : Cx 5 prog_7_method_23_code x) (hc : Cc y 3 4 x) (hr : Cr M_reader_isWord rvB P x) {w1 : Nat} (hw1 : w1 < 20) : ∀ (n : Nat) (v2 : Int32) (σ : Sg), ok (f_reader_isWord_L28 N w1 n v2 σ) P → G x 28 [some (.ref 1), some (.ref (100 + w1)), some (.int v2)] [] σ := by
  intro n
  induction n with
  | zero => intro v2 σ h; exact ok_none h
  | succ n ih =>
    intro v2 σ h
    rw [f_reader_isWord_L28] at h
    refine g_run hx [(.iload_n 2, 0, 0), (.aload_n 1, 0, 0)] (pc' := 30) (lo' := [some (.ref 1), some (.ref (100 + w1)), some (.int v2)]) (st' := [.ref (100 + w1), .int v2]) (σ' := σ) (by decide +kernel) rfl rfl ?_
    refine g_callT (w := w1) (rest := [.int v2]) [] hx hc mk_js_length rfl ln_5_257 hw1 (by decide +kernel) (by decide) (Nat.le_of_ble_eq_true rfl) (s_js_length hw1 (ok_b h)) (fun r2 s2 h => ?_)
    refine g_ic_ge hx (off := 29) (tgt := 62) (by decide +kernel) (by decide) (fun c33 => ?_) (fun c33 => ?_)
    · have h := ok_t h c33
      refine g_run hx [(.iconst 1, 1, 0)] (pc' := 63) (lo' := [some (.ref 1), some (.ref (100 + w1)), some (.int v2)]) (st' := [.int 1]) (σ' := s2) (by decide +kernel) rfl rfl ?_
      exact g_zret (b := true) hx hr rfl true rfl (by decide +kernel) (ok_some h)
    · have h := ok_f h c33
      refine g_run hx [(.aload_n 0, 0, 0), (.aload_n 0, 0, 0), (.getfield 25, 0, 0), (.iload_n 2, 0, 0), (.iadd, 0, 0)] (pc' := 43) (lo' := [some (.ref 1), some (.ref (100 + w1)), some (.int v2)]) (st' := [.int ((gI s2 1 4) + v2), .ref 1]) (σ' := s2) (by decide +kernel) rfl rfl ?_
      refine g_callV (rest := []) [.int ((gI s2 1 4) + v2)] hx hc mk_reader_byteAt ln_5_242 rfl (by decide +kernel) (by decide) (Nat.le_of_ble_eq_true rfl) (s_reader_byteAt (ok_b h)) (fun r3 s3 h => ?_)
      refine g_run hx [(.aload_n 1, 0, 0), (.iload_n 2, 0, 0)] (pc' := 48) (lo' := [some (.ref 1), some (.ref (100 + w1)), some (.int v2)]) (st' := [.int v2, .ref (100 + w1), .int r3]) (σ' := s3) (by decide +kernel) rfl rfl ?_
      refine g_callT (w := w1) (rest := [.int r3]) [.int v2] hx hc mk_js_charAt rfl ln_5_262 hw1 (by decide +kernel) (by decide) (Nat.le_of_ble_eq_true rfl) (s_js_charAt hw1 (ok_b h)) (fun r4 s4 h => ?_)
      refine g_ic_eq hx (off := 5) (tgt := 56) (by decide +kernel) (by decide) (fun c51 => ?_) (fun c51 => ?_)
      · have h := ok_t h c51
        refine g_run hx [(.iinc 2 1, 1, 0)] (pc' := 59) (lo' := [some (.ref 1), some (.ref (100 + w1)), some (.int (v2 + 1))]) (st' := []) (σ' := s4) (by decide +kernel) rfl rfl ?_
        refine g_goto hx (off := (-31)) (tgt := 28) (by decide +kernel) (by decide) ?_
        exact ih _ _ h
      · have h := ok_f h c51
        refine g_run hx [(.iconst 0, 0, 0)] (pc' := 55) (lo' := [some (.ref 1), some (.ref (100 + w1)), some (.int v2)]) (st' := [.int 0]) (σ' := s4) (by decide +kernel) rfl rfl ?_
        exact g_zret (b := false) hx hr rfl false rfl (by decide +kernel) (ok_some h)
set_option maxRecDepth 100000 in
theorem s_reader_isWord {y : EX} {N : Nat} {w1 : Nat} (hw1 : w1 < 20) {σ : Sg} {P : Bool × Sg → Prop} (h : ok (f_reader_isWord N w1 σ) P) : Ev y M_reader_isWord 4 [.ref 1, .ref (100 + w1)] σ rvB P := by
  refine Ev.of mk_reader_isWord (Nat.le_of_ble_eq_true rfl) (fun x hx hc hr => ?_)
  have hx : Cx 5 prog_7_method_23_code x := hx
  have hc : Cc y 3 4 x := hc
  show G x 0 [some (.ref 1), some (.ref (100 + w1)), none] [] σ
  unfold f_reader_isWord at h
  refine g_run hx [(.aload_n 0, 0, 0), (.getfield 22, 0, 0), (.iconst 1, 1, 0)] (pc' := 5) (lo' := [some (.ref 1), some (.ref (100 + w1)), none]) (st' := [.int 1, .int (gI σ 1 3)]) (σ' := σ) (by decide +kernel) rfl rfl ?_
  refine g_ic_ne hx (off := 19) (tgt := 24) (by decide +kernel) (by decide) (fun c5 => ?_) (fun c5 => ?_)
  · have h := ok_f h c5
    refine g_run hx [(.iconst 0, 0, 0)] (pc' := 25) (lo' := [some (.ref 1), some (.ref (100 + w1)), none]) (st' := [.int 0]) (σ' := σ) (by decide +kernel) rfl rfl ?_
    exact g_zret (b := false) hx hr rfl false rfl (by decide +kernel) (ok_some h)
  · have h := ok_t h c5
    refine g_run hx [(.aload_n 1, 0, 0)] (pc' := 9) (lo' := [some (.ref 1), some (.ref (100 + w1)), none]) (st' := [.ref (100 + w1)]) (σ' := σ) (by decide +kernel) rfl rfl ?_
    refine g_callT (w := w1) (rest := []) [] hx hc mk_js_length rfl ln_5_257 hw1 (by decide +kernel) (by decide) (Nat.le_of_ble_eq_true rfl) (s_js_length hw1 (ok_b h)) (fun r1 s1 h => ?_)
    refine g_run hx [(.aload_n 0, 0, 0), (.getfield 28, 0, 0), (.aload_n 0, 0, 0), (.getfield 25, 0, 0), (.isub, 0, 0)] (pc' := 21) (lo' := [some (.ref 1), some (.ref (100 + w1)), none]) (st' := [.int ((gI s1 1 5) - (gI s1 1 4)), .int r1]) (σ' := s1) (by decide +kernel) rfl rfl ?_
    refine g_ic_eq hx (off := 5) (tgt := 26) (by decide +kernel) (by decide) (fun c21 => ?_) (fun c21 => ?_)
    · have h := ok_t h c21
      refine g_run hx [(.iconst 0, 0, 0), (.istore_n 2, 0, 0)] (pc' := 28) (lo' := [some (.ref 1), some (.ref (100 + w1)), some (.int 0)]) (st' := []) (σ' := s1) (by decide +kernel) rfl rfl ?_
      refine s_reader_isWord_L28 hx hc hr hw1 N _ _ h
    · have h := ok_f h c21
      refine g_run hx [(.iconst 0, 0, 0)] (pc' := 25) (lo' := [some (.ref 1), some (.ref (100 + w1)), none]) (st' := [.int 0]) (σ' := s1) (by decide +kernel) rfl rfl ?_
      exact g_zret (b := false) hx hr rfl false rfl (by decide +kernel) (ok_some h)
def f_reader_sortHere (N : Nat) (σ : Sg) : Option (Int32 × Sg) :=
  if (gI σ 1 3) = 1 then
    (f_reader_isWord N 0 σ).bind fun q1 =>
    if q1.1 = true then
      some (0, q1.2)
    else
      (f_reader_isWord N 1 q1.2).bind fun q2 =>
      if q2.1 = true then
        some (1, q2.2)
      else
        (f_reader_isWord N 2 q2.2).bind fun q3 =>
        if q3.1 = true then
          some (2, q3.2)
        else
          (f_reader_isWord N 3 q3.2).bind fun q4 =>
          if q4.1 = true then
            some (3, q4.2)
          else
            (f_reader_isWord N 4 q4.2).bind fun q5 =>
            if q5.1 = true then
              some (4, q5.2)
            else
              (f_reader_isWord N 5 q5.2).bind fun q6 =>
              if q6.1 = true then
                some (5, q6.2)
              else
                (f_reader_isWord N 6 q6.2).bind fun q7 =>
                if q7.1 = true then
                  some (6, q7.2)
                else
                  some ((-1), q7.2)
  else
    some ((-2), σ)
set_option maxRecDepth 100000 in
theorem s_reader_sortHere {y : EX} {N : Nat} {σ : Sg} {P : Int32 × Sg → Prop} (h : ok (f_reader_sortHere N σ) P) : Ev y M_reader_sortHere 5 [.ref 1] σ rvI P := by
  refine Ev.of mk_reader_sortHere (Nat.le_of_ble_eq_true rfl) (fun x hx hc hr => ?_)
  have hx : Cx 5 prog_7_method_22_code x := hx
  have hc : Cc y 1 5 x := hc
  show G x 0 [some (.ref 1)] [] σ
  unfold f_reader_sortHere at h
  refine g_run hx [(.aload_n 0, 0, 0), (.getfield 22, 0, 0), (.iconst 1, 1, 0)] (pc' := 5) (lo' := [some (.ref 1)]) (st' := [.int 1, .int (gI σ 1 3)]) (σ' := σ) (by decide +kernel) rfl rfl ?_
  refine g_ic_eq hx (off := 6) (tgt := 11) (by decide +kernel) (by decide) (fun c5 => ?_) (fun c5 => ?_)
  · have h := ok_t h c5
    refine g_run hx [(.aload_n 0, 0, 0)] (pc' := 12) (lo' := [some (.ref 1)]) (st' := [.ref 1]) (σ' := σ) (by decide +kernel) rfl rfl ?_
    refine g_ldcS (idx := 245) (sid := 0) hx hc (by decide) (by decide +kernel) ?_
    refine g_callV (rest := []) [.ref (100 + 0)] hx hc mk_reader_isWord ln_5_163 rfl (by decide +kernel) (by decide) (Nat.le_of_ble_eq_true rfl) (s_reader_isWord (by decide) (ok_b h)) (fun r1 s1 h => ?_)
    refine g_ifb_eq hx (off := 5) (tgt := 22) (by decide +kernel) (by decide) (fun c17 => ?_) (fun c17 => ?_)
    · have h := ok_f h c17
      refine g_run hx [(.aload_n 0, 0, 0)] (pc' := 23) (lo' := [some (.ref 1)]) (st' := [.ref 1]) (σ' := s1) (by decide +kernel) rfl rfl ?_
      refine g_ldcS (idx := 247) (sid := 1) hx hc (by decide) (by decide +kernel) ?_
      refine g_callV (rest := []) [.ref (100 + 1)] hx hc mk_reader_isWord ln_5_163 rfl (by decide +kernel) (by decide) (Nat.le_of_ble_eq_true rfl) (s_reader_isWord (by decide) (ok_b h)) (fun r2 s2 h => ?_)
      refine g_ifb_eq hx (off := 5) (tgt := 33) (by decide +kernel) (by decide) (fun c28 => ?_) (fun c28 => ?_)
      · have h := ok_f h c28
        refine g_run hx [(.aload_n 0, 0, 0)] (pc' := 34) (lo' := [some (.ref 1)]) (st' := [.ref 1]) (σ' := s2) (by decide +kernel) rfl rfl ?_
        refine g_ldcS (idx := 249) (sid := 2) hx hc (by decide) (by decide +kernel) ?_
        refine g_callV (rest := []) [.ref (100 + 2)] hx hc mk_reader_isWord ln_5_163 rfl (by decide +kernel) (by decide) (Nat.le_of_ble_eq_true rfl) (s_reader_isWord (by decide) (ok_b h)) (fun r3 s3 h => ?_)
        refine g_ifb_eq hx (off := 5) (tgt := 44) (by decide +kernel) (by decide) (fun c39 => ?_) (fun c39 => ?_)
        · have h := ok_f h c39
          refine g_run hx [(.aload_n 0, 0, 0)] (pc' := 45) (lo' := [some (.ref 1)]) (st' := [.ref 1]) (σ' := s3) (by decide +kernel) rfl rfl ?_
          refine g_ldcS (idx := 250) (sid := 3) hx hc (by decide) (by decide +kernel) ?_
          refine g_callV (rest := []) [.ref (100 + 3)] hx hc mk_reader_isWord ln_5_163 rfl (by decide +kernel) (by decide) (Nat.le_of_ble_eq_true rfl) (s_reader_isWord (by decide) (ok_b h)) (fun r4 s4 h => ?_)
          refine g_ifb_eq hx (off := 5) (tgt := 55) (by decide +kernel) (by decide) (fun c50 => ?_) (fun c50 => ?_)
          · have h := ok_f h c50
            refine g_run hx [(.aload_n 0, 0, 0)] (pc' := 56) (lo' := [some (.ref 1)]) (st' := [.ref 1]) (σ' := s4) (by decide +kernel) rfl rfl ?_
            refine g_ldcS (idx := 252) (sid := 4) hx hc (by decide) (by decide +kernel) ?_
            refine g_callV (rest := []) [.ref (100 + 4)] hx hc mk_reader_isWord ln_5_163 rfl (by decide +kernel) (by decide) (Nat.le_of_ble_eq_true rfl) (s_reader_isWord (by decide) (ok_b h)) (fun r5 s5 h => ?_)
            refine g_ifb_eq hx (off := 5) (tgt := 66) (by decide +kernel) (by decide) (fun c61 => ?_) (fun c61 => ?_)
            · have h := ok_f h c61
              refine g_run hx [(.aload_n 0, 0, 0)] (pc' := 67) (lo' := [some (.ref 1)]) (st' := [.ref 1]) (σ' := s5) (by decide +kernel) rfl rfl ?_
              refine g_ldcS (idx := 254) (sid := 5) hx hc (by decide) (by decide +kernel) ?_
              refine g_callV (rest := []) [.ref (100 + 5)] hx hc mk_reader_isWord ln_5_163 rfl (by decide +kernel) (by decide) (Nat.le_of_ble_eq_true rfl) (s_reader_isWord (by decide) (ok_b h)) (fun r6 s6 h => ?_)
              refine g_ifb_eq hx (off := 5) (tgt := 77) (by decide +kernel) (by decide) (fun c72 => ?_) (fun c72 => ?_)
              · have h := ok_f h c72
                refine g_run hx [(.aload_n 0, 0, 0)] (pc' := 78) (lo' := [some (.ref 1)]) (st' := [.ref 1]) (σ' := s6) (by decide +kernel) rfl rfl ?_
                refine g_ldcS (idx := 255) (sid := 6) hx hc (by decide) (by decide +kernel) ?_
                refine g_callV (rest := []) [.ref (100 + 6)] hx hc mk_reader_isWord ln_5_163 rfl (by decide +kernel) (by decide) (Nat.le_of_ble_eq_true rfl) (s_reader_isWord (by decide) (ok_b h)) (fun r7 s7 h => ?_)
                refine g_ifb_eq hx (off := 8) (tgt := 91) (by decide +kernel) (by decide) (fun c83 => ?_) (fun c83 => ?_)
                · have h := ok_f h c83
                  refine g_run hx [(.iconst (-1), (-1), 0)] (pc' := 92) (lo' := [some (.ref 1)]) (st' := [.int (-1)]) (σ' := s7) (by decide +kernel) rfl rfl ?_
                  exact g_iret hx hr rfl _ rfl (by decide +kernel) (ok_some h)
                · have h := ok_t h c83
                  refine g_run hx [(.bipush 6, 6, 0)] (pc' := 88) (lo' := [some (.ref 1)]) (st' := [.int 6]) (σ' := s7) (by decide +kernel) rfl rfl ?_
                  refine g_goto hx (off := 4) (tgt := 92) (by decide +kernel) (by decide) ?_
                  exact g_iret hx hr rfl _ rfl (by decide +kernel) (ok_some h)
              · have h := ok_t h c72
                refine g_run hx [(.iconst 5, 5, 0)] (pc' := 76) (lo' := [some (.ref 1)]) (st' := [.int 5]) (σ' := s6) (by decide +kernel) rfl rfl ?_
                exact g_iret hx hr rfl _ rfl (by decide +kernel) (ok_some h)
            · have h := ok_t h c61
              refine g_run hx [(.iconst 4, 4, 0)] (pc' := 65) (lo' := [some (.ref 1)]) (st' := [.int 4]) (σ' := s5) (by decide +kernel) rfl rfl ?_
              exact g_iret hx hr rfl _ rfl (by decide +kernel) (ok_some h)
          · have h := ok_t h c50
            refine g_run hx [(.iconst 3, 3, 0)] (pc' := 54) (lo' := [some (.ref 1)]) (st' := [.int 3]) (σ' := s4) (by decide +kernel) rfl rfl ?_
            exact g_iret hx hr rfl _ rfl (by decide +kernel) (ok_some h)
        · have h := ok_t h c39
          refine g_run hx [(.iconst 2, 2, 0)] (pc' := 43) (lo' := [some (.ref 1)]) (st' := [.int 2]) (σ' := s3) (by decide +kernel) rfl rfl ?_
          exact g_iret hx hr rfl _ rfl (by decide +kernel) (ok_some h)
      · have h := ok_t h c28
        refine g_run hx [(.iconst 1, 1, 0)] (pc' := 32) (lo' := [some (.ref 1)]) (st' := [.int 1]) (σ' := s2) (by decide +kernel) rfl rfl ?_
        exact g_iret hx hr rfl _ rfl (by decide +kernel) (ok_some h)
    · have h := ok_t h c17
      refine g_run hx [(.iconst 0, 0, 0)] (pc' := 21) (lo' := [some (.ref 1)]) (st' := [.int 0]) (σ' := s1) (by decide +kernel) rfl rfl ?_
      exact g_iret hx hr rfl _ rfl (by decide +kernel) (ok_some h)
  · have h := ok_f h c5
    refine g_run hx [(.bipush (-2), (-2), 0)] (pc' := 10) (lo' := [some (.ref 1)]) (st' := [.int (-2)]) (σ' := σ) (by decide +kernel) rfl rfl ?_
    exact g_iret hx hr rfl _ rfl (by decide +kernel) (ok_some h)
def f_reader_fail (N : Nat) (v1 : Int32) (σ : Sg) : Option (Bool × Sg) :=
  some (false, sI (sI σ 1 12 v1) 1 13 (gI (sI σ 1 12 v1) 1 4))
set_option maxRecDepth 100000 in
theorem s_reader_fail {y : EX} {N : Nat} {v1 : Int32} {σ : Sg} {P : Bool × Sg → Prop} (h : ok (f_reader_fail N v1 σ) P) : Ev y M_reader_fail 0 [.ref 1, .int v1] σ rvB P := by
  refine Ev.of mk_reader_fail (Nat.le_of_ble_eq_true rfl) (fun x hx hc hr => ?_)
  have hx : Cx 5 prog_7_method_15_code x := hx
  have hc : Cc y 2 0 x := hc
  show G x 0 [some (.ref 1), some (.int v1)] [] σ
  unfold f_reader_fail at h
  refine g_run hx [(.aload_n 0, 0, 0), (.iload_n 1, 0, 0), (.putfield 60, 0, 0), (.aload_n 0, 0, 0), (.aload_n 0, 0, 0), (.getfield 25, 0, 0), (.putfield 63, 0, 0), (.iconst 0, 0, 0)] (pc' := 14) (lo' := [some (.ref 1), some (.int v1)]) (st' := [.int 0]) (σ' := sI (sI σ 1 12 v1) 1 13 (gI (sI σ 1 12 v1) 1 4)) (by decide +kernel) rfl rfl ?_
  exact g_zret (b := false) hx hr rfl false rfl (by decide +kernel) (ok_some h)
def f_reader_headFits (N : Nat) (v1 : Int32) (σ : Sg) : Option (Bool × Sg) :=
  if v1 < 0 then
    (f_reader_fail N 1 σ).bind fun q1 =>
    some (q1.1, q1.2)
  else
    if (nI 7) ≤ v1 then
      (f_reader_fail N 1 σ).bind fun q2 =>
      some (q2.1, q2.2)
    else
      if v1 < (nI 7) then
        if vin v1 7 then
        if vin v1 7 then
        if (gA σ 3 v1) < (roomV v1) then
          if v1 = 0 then
            if v1 = 1 then
              if (gA σ 3 4) ≤ 0 then
                if vin v1 7 then
                if vin v1 7 then
                some (true, sA σ 3 v1 ((gA σ 3 v1) + 1))
                else none
                else none
              else
                (f_reader_fail N 8 σ).bind fun q3 =>
                some (q3.1, q3.2)
            else
              if vin v1 7 then
              if vin v1 7 then
              some (true, sA σ 3 v1 ((gA σ 3 v1) + 1))
              else none
              else none
          else
            if (gA σ 3 0) = 0 then
              (f_reader_fail N 6 σ).bind fun q5 =>
              some (q5.1, q5.2)
            else
              if v1 = 1 then
                if (gA σ 3 4) ≤ 0 then
                  if vin v1 7 then
                  if vin v1 7 then
                  some (true, sA σ 3 v1 ((gA σ 3 v1) + 1))
                  else none
                  else none
                else
                  (f_reader_fail N 8 σ).bind fun q4 =>
                  some (q4.1, q4.2)
              else
                if vin v1 7 then
                if vin v1 7 then
                some (true, sA σ 3 v1 ((gA σ 3 v1) + 1))
                else none
                else none
        else
          if v1 = 0 then
            (f_reader_fail N 3 σ).bind fun q7 =>
            some (q7.1, q7.2)
          else
            (f_reader_fail N 5 σ).bind fun q6 =>
            some (q6.1, q6.2)
        else none
        else none
      else
        (f_reader_fail N 1 σ).bind fun q8 =>
        some (q8.1, q8.2)
set_option maxRecDepth 100000 in
theorem s_reader_headFits {y : EX} {N : Nat} {v1 : Int32} {σ : Sg} {P : Bool × Sg → Prop} (h : ok (f_reader_headFits N v1 σ) P) : Ev y M_reader_headFits 1 [.ref 1, .int v1] σ rvB P := by
  refine Ev.of mk_reader_headFits (Nat.le_of_ble_eq_true rfl) (fun x hx hc hr => ?_)
  have hx : Cx 5 prog_7_method_7_code x := hx
  have hc : Cc y 3 1 x := hc
  show G x 0 [some (.ref 1), some (.int v1), none] [] σ
  unfold f_reader_headFits at h
  refine g_run hx [(.iload_n 1, 0, 0)] (pc' := 1) (lo' := [some (.ref 1), some (.int v1), none]) (st' := [.int v1]) (σ' := σ) (by decide +kernel) rfl rfl ?_
  refine g_if_lt hx (off := 20) (tgt := 21) (by decide +kernel) (by decide) (fun c1 => ?_) (fun c1 => ?_)
  · have h := ok_t h c1
    refine g_run hx [(.aload_n 0, 0, 0), (.iconst 1, 1, 0)] (pc' := 23) (lo' := [some (.ref 1), some (.int v1), none]) (st' := [.int 1, .ref 1]) (σ' := σ) (by decide +kernel) rfl rfl ?_
    refine g_callV (rest := []) [.int 1] hx hc mk_reader_fail ln_5_91 rfl (by decide +kernel) (by decide) (Nat.le_of_ble_eq_true rfl) (s_reader_fail (ok_b h)) (fun r1 s1 h => ?_)
    exact g_zret hx hr rfl _ rfl (by decide +kernel) (ok_some h)
  · have h := ok_f h c1
    refine g_run hx [(.iload_n 1, 0, 0), (.aload_n 0, 0, 0), (.getfield 41, 0, 0), (.arraylength, 0, 0)] (pc' := 10) (lo' := [some (.ref 1), some (.int v1), none]) (st' := [.int (nI 7), .int v1]) (σ' := σ) (by decide +kernel) rfl rfl ?_
    refine g_ic_ge hx (off := 11) (tgt := 21) (by decide +kernel) (by decide) (fun c10 => ?_) (fun c10 => ?_)
    · have h := ok_t h c10
      refine g_run hx [(.aload_n 0, 0, 0), (.iconst 1, 1, 0)] (pc' := 23) (lo' := [some (.ref 1), some (.int v1), none]) (st' := [.int 1, .ref 1]) (σ' := σ) (by decide +kernel) rfl rfl ?_
      refine g_callV (rest := []) [.int 1] hx hc mk_reader_fail ln_5_91 rfl (by decide +kernel) (by decide) (Nat.le_of_ble_eq_true rfl) (s_reader_fail (ok_b h)) (fun r2 s2 h => ?_)
      exact g_zret hx hr rfl _ rfl (by decide +kernel) (ok_some h)
    · have h := ok_f h c10
      refine g_run hx [(.iload_n 1, 0, 0)] (pc' := 14) (lo' := [some (.ref 1), some (.int v1), none]) (st' := [.int v1]) (σ' := σ) (by decide +kernel) rfl rfl ?_
      refine g_room hx hc (by decide +kernel) ?_
      refine g_roomlen hx hc (by decide +kernel) ?_
      refine g_ic_lt hx (off := 9) (tgt := 27) (by decide +kernel) (by decide) (fun c18 => ?_) (fun c18 => ?_)
      · have h := ok_t h c18
        refine g_run hx [(.aload_n 0, 0, 0), (.getfield 41, 0, 0), (.iload_n 1, 0, 0)] (pc' := 32) (lo' := [some (.ref 1), some (.int v1), none]) (st' := [.int v1, .ref 3]) (σ' := σ) (by decide +kernel) rfl rfl ?_
        obtain ⟨c32, h⟩ := ok_g h
        refine g_iald hx (by decide +kernel) (i := 3) (n := 7) rfl c32 ?_
        refine g_room hx hc (by decide +kernel) ?_
        refine g_run hx [(.iload_n 1, 0, 0)] (pc' := 37) (lo' := [some (.ref 1), some (.int v1), none]) (st' := [.int v1, .ref 90, .int (gA σ 3 v1)]) (σ' := σ) (by decide +kernel) rfl rfl ?_
        obtain ⟨c37, h⟩ := ok_g h
        refine g_roomald hx hc c37 (by decide +kernel) ?_
        refine g_ic_lt hx (off := 7) (tgt := 45) (by decide +kernel) (by decide) (fun c38 => ?_) (fun c38 => ?_)
        · have h := ok_t h c38
          refine g_run hx [(.iconst 0, 0, 0), (.istore_n 2, 0, 0), (.iload_n 2, 0, 0)] (pc' := 48) (lo' := [some (.ref 1), some (.int v1), some (.int 0)]) (st' := [.int 0]) (σ' := σ) (by decide +kernel) rfl rfl ?_
          refine g_if_eq hx (off := 17) (tgt := 65) (by decide +kernel) (by decide) (fun _ => ?_) (fun c => absurd c (by decide))
          refine g_run hx [(.iload_n 1, 0, 0)] (pc' := 66) (lo' := [some (.ref 1), some (.int v1), some (.int 0)]) (st' := [.int v1]) (σ' := σ) (by decide +kernel) rfl rfl ?_
          refine g_if_eq hx (off := 19) (tgt := 85) (by decide +kernel) (by decide) (fun c66 => ?_) (fun c66 => ?_)
          · have h := ok_t h c66
            refine g_run hx [(.iload_n 1, 0, 0), (.iconst 1, 1, 0)] (pc' := 87) (lo' := [some (.ref 1), some (.int v1), some (.int 0)]) (st' := [.int 1, .int v1]) (σ' := σ) (by decide +kernel) rfl rfl ?_
            refine g_ic_ne hx (off := 19) (tgt := 106) (by decide +kernel) (by decide) (fun c87 => ?_) (fun c87 => ?_)
            · have h := ok_f h c87
              refine g_run hx [(.aload_n 0, 0, 0), (.getfield 41, 0, 0), (.iload_n 1, 0, 0), (.dup2, 0, 0)] (pc' := 112) (lo' := [some (.ref 1), some (.int v1), some (.int 0)]) (st' := [.int v1, .ref 3, .int v1, .ref 3]) (σ' := σ) (by decide +kernel) rfl rfl ?_
              obtain ⟨c112, h⟩ := ok_g h
              refine g_iald hx (by decide +kernel) (i := 3) (n := 7) rfl c112 ?_
              refine g_run hx [(.iconst 1, 1, 0), (.iadd, 0, 0)] (pc' := 115) (lo' := [some (.ref 1), some (.int v1), some (.int 0)]) (st' := [.int ((gA σ 3 v1) + 1), .int v1, .ref 3]) (σ' := σ) (by decide +kernel) rfl rfl ?_
              obtain ⟨c115, h⟩ := ok_g h
              refine g_iast hx (by decide +kernel) (i := 3) (n := 7) rfl c115 ?_
              refine g_run hx [(.iconst 1, 1, 0)] (pc' := 117) (lo' := [some (.ref 1), some (.int v1), some (.int 0)]) (st' := [.int 1]) (σ' := sA σ 3 v1 ((gA σ 3 v1) + 1)) (by decide +kernel) rfl rfl ?_
              exact g_zret (b := true) hx hr rfl true rfl (by decide +kernel) (ok_some h)
            · have h := ok_t h c87
              refine g_run hx [(.aload_n 0, 0, 0), (.getfield 41, 0, 0), (.iconst 4, 4, 0), (.iaload, 0, 0)] (pc' := 96) (lo' := [some (.ref 1), some (.int v1), some (.int 0)]) (st' := [.int (gA σ 3 4)]) (σ' := σ) (by decide +kernel) rfl rfl ?_
              refine g_if_le hx (off := 10) (tgt := 106) (by decide +kernel) (by decide) (fun c96 => ?_) (fun c96 => ?_)
              · have h := ok_t h c96
                refine g_run hx [(.aload_n 0, 0, 0), (.getfield 41, 0, 0), (.iload_n 1, 0, 0), (.dup2, 0, 0)] (pc' := 112) (lo' := [some (.ref 1), some (.int v1), some (.int 0)]) (st' := [.int v1, .ref 3, .int v1, .ref 3]) (σ' := σ) (by decide +kernel) rfl rfl ?_
                obtain ⟨c112, h⟩ := ok_g h
                refine g_iald hx (by decide +kernel) (i := 3) (n := 7) rfl c112 ?_
                refine g_run hx [(.iconst 1, 1, 0), (.iadd, 0, 0)] (pc' := 115) (lo' := [some (.ref 1), some (.int v1), some (.int 0)]) (st' := [.int ((gA σ 3 v1) + 1), .int v1, .ref 3]) (σ' := σ) (by decide +kernel) rfl rfl ?_
                obtain ⟨c115, h⟩ := ok_g h
                refine g_iast hx (by decide +kernel) (i := 3) (n := 7) rfl c115 ?_
                refine g_run hx [(.iconst 1, 1, 0)] (pc' := 117) (lo' := [some (.ref 1), some (.int v1), some (.int 0)]) (st' := [.int 1]) (σ' := sA σ 3 v1 ((gA σ 3 v1) + 1)) (by decide +kernel) rfl rfl ?_
                exact g_zret (b := true) hx hr rfl true rfl (by decide +kernel) (ok_some h)
              · have h := ok_f h c96
                refine g_run hx [(.aload_n 0, 0, 0), (.bipush 8, 8, 0)] (pc' := 102) (lo' := [some (.ref 1), some (.int v1), some (.int 0)]) (st' := [.int 8, .ref 1]) (σ' := σ) (by decide +kernel) rfl rfl ?_
                refine g_callV (rest := []) [.int 8] hx hc mk_reader_fail ln_5_91 rfl (by decide +kernel) (by decide) (Nat.le_of_ble_eq_true rfl) (s_reader_fail (ok_b h)) (fun r3 s3 h => ?_)
                exact g_zret hx hr rfl _ rfl (by decide +kernel) (ok_some h)
          · have h := ok_f h c66
            refine g_run hx [(.aload_n 0, 0, 0), (.getfield 41, 0, 0), (.iconst 0, 0, 0), (.iaload, 0, 0)] (pc' := 75) (lo' := [some (.ref 1), some (.int v1), some (.int 0)]) (st' := [.int (gA σ 3 0)]) (σ' := σ) (by decide +kernel) rfl rfl ?_
            refine g_if_ne hx (off := 10) (tgt := 85) (by decide +kernel) (by decide) (fun c75 => ?_) (fun c75 => ?_)
            · have h := ok_f h c75
              refine g_run hx [(.iload_n 1, 0, 0), (.iconst 1, 1, 0)] (pc' := 87) (lo' := [some (.ref 1), some (.int v1), some (.int 0)]) (st' := [.int 1, .int v1]) (σ' := σ) (by decide +kernel) rfl rfl ?_
              refine g_ic_ne hx (off := 19) (tgt := 106) (by decide +kernel) (by decide) (fun c87 => ?_) (fun c87 => ?_)
              · have h := ok_f h c87
                refine g_run hx [(.aload_n 0, 0, 0), (.getfield 41, 0, 0), (.iload_n 1, 0, 0), (.dup2, 0, 0)] (pc' := 112) (lo' := [some (.ref 1), some (.int v1), some (.int 0)]) (st' := [.int v1, .ref 3, .int v1, .ref 3]) (σ' := σ) (by decide +kernel) rfl rfl ?_
                obtain ⟨c112, h⟩ := ok_g h
                refine g_iald hx (by decide +kernel) (i := 3) (n := 7) rfl c112 ?_
                refine g_run hx [(.iconst 1, 1, 0), (.iadd, 0, 0)] (pc' := 115) (lo' := [some (.ref 1), some (.int v1), some (.int 0)]) (st' := [.int ((gA σ 3 v1) + 1), .int v1, .ref 3]) (σ' := σ) (by decide +kernel) rfl rfl ?_
                obtain ⟨c115, h⟩ := ok_g h
                refine g_iast hx (by decide +kernel) (i := 3) (n := 7) rfl c115 ?_
                refine g_run hx [(.iconst 1, 1, 0)] (pc' := 117) (lo' := [some (.ref 1), some (.int v1), some (.int 0)]) (st' := [.int 1]) (σ' := sA σ 3 v1 ((gA σ 3 v1) + 1)) (by decide +kernel) rfl rfl ?_
                exact g_zret (b := true) hx hr rfl true rfl (by decide +kernel) (ok_some h)
              · have h := ok_t h c87
                refine g_run hx [(.aload_n 0, 0, 0), (.getfield 41, 0, 0), (.iconst 4, 4, 0), (.iaload, 0, 0)] (pc' := 96) (lo' := [some (.ref 1), some (.int v1), some (.int 0)]) (st' := [.int (gA σ 3 4)]) (σ' := σ) (by decide +kernel) rfl rfl ?_
                refine g_if_le hx (off := 10) (tgt := 106) (by decide +kernel) (by decide) (fun c96 => ?_) (fun c96 => ?_)
                · have h := ok_t h c96
                  refine g_run hx [(.aload_n 0, 0, 0), (.getfield 41, 0, 0), (.iload_n 1, 0, 0), (.dup2, 0, 0)] (pc' := 112) (lo' := [some (.ref 1), some (.int v1), some (.int 0)]) (st' := [.int v1, .ref 3, .int v1, .ref 3]) (σ' := σ) (by decide +kernel) rfl rfl ?_
                  obtain ⟨c112, h⟩ := ok_g h
                  refine g_iald hx (by decide +kernel) (i := 3) (n := 7) rfl c112 ?_
                  refine g_run hx [(.iconst 1, 1, 0), (.iadd, 0, 0)] (pc' := 115) (lo' := [some (.ref 1), some (.int v1), some (.int 0)]) (st' := [.int ((gA σ 3 v1) + 1), .int v1, .ref 3]) (σ' := σ) (by decide +kernel) rfl rfl ?_
                  obtain ⟨c115, h⟩ := ok_g h
                  refine g_iast hx (by decide +kernel) (i := 3) (n := 7) rfl c115 ?_
                  refine g_run hx [(.iconst 1, 1, 0)] (pc' := 117) (lo' := [some (.ref 1), some (.int v1), some (.int 0)]) (st' := [.int 1]) (σ' := sA σ 3 v1 ((gA σ 3 v1) + 1)) (by decide +kernel) rfl rfl ?_
                  exact g_zret (b := true) hx hr rfl true rfl (by decide +kernel) (ok_some h)
                · have h := ok_f h c96
                  refine g_run hx [(.aload_n 0, 0, 0), (.bipush 8, 8, 0)] (pc' := 102) (lo' := [some (.ref 1), some (.int v1), some (.int 0)]) (st' := [.int 8, .ref 1]) (σ' := σ) (by decide +kernel) rfl rfl ?_
                  refine g_callV (rest := []) [.int 8] hx hc mk_reader_fail ln_5_91 rfl (by decide +kernel) (by decide) (Nat.le_of_ble_eq_true rfl) (s_reader_fail (ok_b h)) (fun r4 s4 h => ?_)
                  exact g_zret hx hr rfl _ rfl (by decide +kernel) (ok_some h)
            · have h := ok_t h c75
              refine g_run hx [(.aload_n 0, 0, 0), (.bipush 6, 6, 0)] (pc' := 81) (lo' := [some (.ref 1), some (.int v1), some (.int 0)]) (st' := [.int 6, .ref 1]) (σ' := σ) (by decide +kernel) rfl rfl ?_
              refine g_callV (rest := []) [.int 6] hx hc mk_reader_fail ln_5_91 rfl (by decide +kernel) (by decide) (Nat.le_of_ble_eq_true rfl) (s_reader_fail (ok_b h)) (fun r5 s5 h => ?_)
              exact g_zret hx hr rfl _ rfl (by decide +kernel) (ok_some h)
        · have h := ok_f h c38
          refine g_run hx [(.iconst 1, 1, 0)] (pc' := 42) (lo' := [some (.ref 1), some (.int v1), none]) (st' := [.int 1]) (σ' := σ) (by decide +kernel) rfl rfl ?_
          refine g_goto hx (off := 4) (tgt := 46) (by decide +kernel) (by decide) ?_
          refine g_run hx [(.istore_n 2, 0, 0), (.iload_n 2, 0, 0)] (pc' := 48) (lo' := [some (.ref 1), some (.int v1), some (.int 1)]) (st' := [.int 1]) (σ' := σ) (by decide +kernel) rfl rfl ?_
          refine g_if_eq hx (off := 17) (tgt := 65) (by decide +kernel) (by decide) (fun c => absurd c (by decide)) (fun _ => ?_)
          refine g_run hx [(.aload_n 0, 0, 0), (.iload_n 1, 0, 0)] (pc' := 53) (lo' := [some (.ref 1), some (.int v1), some (.int 1)]) (st' := [.int v1, .ref 1]) (σ' := σ) (by decide +kernel) rfl rfl ?_
          refine g_if_ne hx (off := 7) (tgt := 60) (by decide +kernel) (by decide) (fun c53 => ?_) (fun c53 => ?_)
          · have h := ok_f h c53
            refine g_run hx [(.iconst 5, 5, 0)] (pc' := 61) (lo' := [some (.ref 1), some (.int v1), some (.int 1)]) (st' := [.int 5, .ref 1]) (σ' := σ) (by decide +kernel) rfl rfl ?_
            refine g_callV (rest := []) [.int 5] hx hc mk_reader_fail ln_5_91 rfl (by decide +kernel) (by decide) (Nat.le_of_ble_eq_true rfl) (s_reader_fail (ok_b h)) (fun r6 s6 h => ?_)
            exact g_zret hx hr rfl _ rfl (by decide +kernel) (ok_some h)
          · have h := ok_t h c53
            refine g_run hx [(.iconst 3, 3, 0)] (pc' := 57) (lo' := [some (.ref 1), some (.int v1), some (.int 1)]) (st' := [.int 3, .ref 1]) (σ' := σ) (by decide +kernel) rfl rfl ?_
            refine g_goto hx (off := 4) (tgt := 61) (by decide +kernel) (by decide) ?_
            refine g_callV (rest := []) [.int 3] hx hc mk_reader_fail ln_5_91 rfl (by decide +kernel) (by decide) (Nat.le_of_ble_eq_true rfl) (s_reader_fail (ok_b h)) (fun r7 s7 h => ?_)
            exact g_zret hx hr rfl _ rfl (by decide +kernel) (ok_some h)
      · have h := ok_f h c18
        refine g_run hx [(.aload_n 0, 0, 0), (.iconst 1, 1, 0)] (pc' := 23) (lo' := [some (.ref 1), some (.int v1), none]) (st' := [.int 1, .ref 1]) (σ' := σ) (by decide +kernel) rfl rfl ?_
        refine g_callV (rest := []) [.int 1] hx hc mk_reader_fail ln_5_91 rfl (by decide +kernel) (by decide) (Nat.le_of_ble_eq_true rfl) (s_reader_fail (ok_b h)) (fun r8 s8 h => ?_)
        exact g_zret hx hr rfl _ rfl (by decide +kernel) (ok_some h)
def f_reader_expect (N : Nat) (w1 : Nat) (σ : Sg) : Option (Bool × Sg) :=
  (f_reader_nextToken N σ).bind fun q1 =>
  (f_reader_isWord N w1 q1.2).bind fun q2 =>
  if q2.1 = true then
    some (true, q2.2)
  else
    (f_reader_fail N 1 q2.2).bind fun q3 =>
    if q3.1 = true then
      some (true, q3.2)
    else
      some (false, q3.2)
set_option maxRecDepth 100000 in
theorem s_reader_expect {y : EX} {N : Nat} {w1 : Nat} (hw1 : w1 < 20) {σ : Sg} {P : Bool × Sg → Prop} (h : ok (f_reader_expect N w1 σ) P) : Ev y M_reader_expect 5 [.ref 1, .ref (100 + w1)] σ rvB P := by
  refine Ev.of mk_reader_expect (Nat.le_of_ble_eq_true rfl) (fun x hx hc hr => ?_)
  have hx : Cx 5 prog_7_method_16_code x := hx
  have hc : Cc y 2 5 x := hc
  show G x 0 [some (.ref 1), some (.ref (100 + w1))] [] σ
  unfold f_reader_expect at h
  refine g_run hx [(.aload_n 0, 0, 0)] (pc' := 1) (lo' := [some (.ref 1), some (.ref (100 + w1))]) (st' := [.ref 1]) (σ' := σ) (by decide +kernel) rfl rfl ?_
  refine g_callV (rest := []) [] hx hc mk_reader_nextToken ln_5_69 rfl (by decide +kernel) (by decide) (Nat.le_of_ble_eq_true rfl) (s_reader_nextToken (ok_b h)) (fun r1 s1 h => ?_)
  refine g_run hx [(.aload_n 0, 0, 0), (.aload_n 1, 0, 0)] (pc' := 6) (lo' := [some (.ref 1), some (.ref (100 + w1))]) (st' := [.ref (100 + w1), .ref 1]) (σ' := s1) (by decide +kernel) rfl rfl ?_
  refine g_callV (rest := []) [.ref (100 + w1)] hx hc mk_reader_isWord ln_5_163 rfl (by decide +kernel) (by decide) (Nat.le_of_ble_eq_true rfl) (s_reader_isWord hw1 (ok_b h)) (fun r2 s2 h => ?_)
  refine g_ifb_ne hx (off := 11) (tgt := 20) (by decide +kernel) (by decide) (fun c9 => ?_) (fun c9 => ?_)
  · have h := ok_t h c9
    refine g_run hx [(.iconst 1, 1, 0)] (pc' := 21) (lo' := [some (.ref 1), some (.ref (100 + w1))]) (st' := [.int 1]) (σ' := s2) (by decide +kernel) rfl rfl ?_
    refine g_goto hx (off := 4) (tgt := 25) (by decide +kernel) (by decide) ?_
    exact g_zret (b := true) hx hr rfl true rfl (by decide +kernel) (ok_some h)
  · have h := ok_f h c9
    refine g_run hx [(.aload_n 0, 0, 0), (.iconst 1, 1, 0)] (pc' := 14) (lo' := [some (.ref 1), some (.ref (100 + w1))]) (st' := [.int 1, .ref 1]) (σ' := s2) (by decide +kernel) rfl rfl ?_
    refine g_callV (rest := []) [.int 1] hx hc mk_reader_fail ln_5_91 rfl (by decide +kernel) (by decide) (Nat.le_of_ble_eq_true rfl) (s_reader_fail (ok_b h)) (fun r3 s3 h => ?_)
    refine g_ifb_eq hx (off := 7) (tgt := 24) (by decide +kernel) (by decide) (fun c17 => ?_) (fun c17 => ?_)
    · have h := ok_f h c17
      refine g_run hx [(.iconst 0, 0, 0)] (pc' := 25) (lo' := [some (.ref 1), some (.ref (100 + w1))]) (st' := [.int 0]) (σ' := s3) (by decide +kernel) rfl rfl ?_
      exact g_zret (b := false) hx hr rfl false rfl (by decide +kernel) (ok_some h)
    · have h := ok_t h c17
      refine g_run hx [(.iconst 1, 1, 0)] (pc' := 21) (lo' := [some (.ref 1), some (.ref (100 + w1))]) (st' := [.int 1]) (σ' := s3) (by decide +kernel) rfl rfl ?_
      refine g_goto hx (off := 4) (tgt := 25) (by decide +kernel) (by decide) ?_
      exact g_zret (b := true) hx hr rfl true rfl (by decide +kernel) (ok_some h)
def f_reader_expectWhole (N : Nat) (v1 : Int32) (v2 : Int32) (σ : Sg) : Option (Bool × Sg) :=
  (f_reader_nextToken N σ).bind fun q1 =>
  if (gI q1.2 1 3) = 2 then
    if (gI q1.2 1 6) < v1 then
      (f_reader_fail N 4 q1.2).bind fun q2 =>
      if q2.1 = true then
        some (true, q2.2)
      else
        some (false, q2.2)
    else
      if (gI q1.2 1 6) ≤ v2 then
        some (true, q1.2)
      else
        (f_reader_fail N 4 q1.2).bind fun q3 =>
        if q3.1 = true then
          some (true, q3.2)
        else
          some (false, q3.2)
  else
    (f_reader_fail N 1 q1.2).bind fun q4 =>
    some (q4.1, q4.2)
set_option maxRecDepth 100000 in
theorem s_reader_expectWhole {y : EX} {N : Nat} {v1 : Int32} {v2 : Int32} {σ : Sg} {P : Bool × Sg → Prop} (h : ok (f_reader_expectWhole N v1 v2 σ) P) : Ev y M_reader_expectWhole 2 [.ref 1, .int v1, .int v2] σ rvB P := by
  refine Ev.of mk_reader_expectWhole (Nat.le_of_ble_eq_true rfl) (fun x hx hc hr => ?_)
  have hx : Cx 5 prog_7_method_17_code x := hx
  have hc : Cc y 3 2 x := hc
  show G x 0 [some (.ref 1), some (.int v1), some (.int v2)] [] σ
  unfold f_reader_expectWhole at h
  refine g_run hx [(.aload_n 0, 0, 0)] (pc' := 1) (lo' := [some (.ref 1), some (.int v1), some (.int v2)]) (st' := [.ref 1]) (σ' := σ) (by decide +kernel) rfl rfl ?_
  refine g_callV (rest := []) [] hx hc mk_reader_nextToken ln_5_69 rfl (by decide +kernel) (by decide) (Nat.le_of_ble_eq_true rfl) (s_reader_nextToken (ok_b h)) (fun r1 s1 h => ?_)
  refine g_run hx [(.aload_n 0, 0, 0), (.getfield 22, 0, 0), (.iconst 2, 2, 0)] (pc' := 9) (lo' := [some (.ref 1), some (.int v1), some (.int v2)]) (st' := [.int 2, .int (gI s1 1 3)]) (σ' := s1) (by decide +kernel) rfl rfl ?_
  refine g_ic_eq hx (off := 9) (tgt := 18) (by decide +kernel) (by decide) (fun c9 => ?_) (fun c9 => ?_)
  · have h := ok_t h c9
    refine g_run hx [(.aload_n 0, 0, 0), (.getfield 31, 0, 0), (.iload_n 1, 0, 0)] (pc' := 23) (lo' := [some (.ref 1), some (.int v1), some (.int v2)]) (st' := [.int v1, .int (gI s1 1 6)]) (σ' := s1) (by decide +kernel) rfl rfl ?_
    refine g_ic_lt hx (off := 11) (tgt := 34) (by decide +kernel) (by decide) (fun c23 => ?_) (fun c23 => ?_)
    · have h := ok_t h c23
      refine g_run hx [(.aload_n 0, 0, 0), (.iconst 4, 4, 0)] (pc' := 36) (lo' := [some (.ref 1), some (.int v1), some (.int v2)]) (st' := [.int 4, .ref 1]) (σ' := s1) (by decide +kernel) rfl rfl ?_
      refine g_callV (rest := []) [.int 4] hx hc mk_reader_fail ln_5_91 rfl (by decide +kernel) (by decide) (Nat.le_of_ble_eq_true rfl) (s_reader_fail (ok_b h)) (fun r2 s2 h => ?_)
      refine g_ifb_eq hx (off := 7) (tgt := 46) (by decide +kernel) (by decide) (fun c39 => ?_) (fun c39 => ?_)
      · have h := ok_f h c39
        refine g_run hx [(.iconst 0, 0, 0)] (pc' := 47) (lo' := [some (.ref 1), some (.int v1), some (.int v2)]) (st' := [.int 0]) (σ' := s2) (by decide +kernel) rfl rfl ?_
        exact g_zret (b := false) hx hr rfl false rfl (by decide +kernel) (ok_some h)
      · have h := ok_t h c39
        refine g_run hx [(.iconst 1, 1, 0)] (pc' := 43) (lo' := [some (.ref 1), some (.int v1), some (.int v2)]) (st' := [.int 1]) (σ' := s2) (by decide +kernel) rfl rfl ?_
        refine g_goto hx (off := 4) (tgt := 47) (by decide +kernel) (by decide) ?_
        exact g_zret (b := true) hx hr rfl true rfl (by decide +kernel) (ok_some h)
    · have h := ok_f h c23
      refine g_run hx [(.aload_n 0, 0, 0), (.getfield 31, 0, 0), (.iload_n 2, 0, 0)] (pc' := 31) (lo' := [some (.ref 1), some (.int v1), some (.int v2)]) (st' := [.int v2, .int (gI s1 1 6)]) (σ' := s1) (by decide +kernel) rfl rfl ?_
      refine g_ic_le hx (off := 11) (tgt := 42) (by decide +kernel) (by decide) (fun c31 => ?_) (fun c31 => ?_)
      · have h := ok_t h c31
        refine g_run hx [(.iconst 1, 1, 0)] (pc' := 43) (lo' := [some (.ref 1), some (.int v1), some (.int v2)]) (st' := [.int 1]) (σ' := s1) (by decide +kernel) rfl rfl ?_
        refine g_goto hx (off := 4) (tgt := 47) (by decide +kernel) (by decide) ?_
        exact g_zret (b := true) hx hr rfl true rfl (by decide +kernel) (ok_some h)
      · have h := ok_f h c31
        refine g_run hx [(.aload_n 0, 0, 0), (.iconst 4, 4, 0)] (pc' := 36) (lo' := [some (.ref 1), some (.int v1), some (.int v2)]) (st' := [.int 4, .ref 1]) (σ' := s1) (by decide +kernel) rfl rfl ?_
        refine g_callV (rest := []) [.int 4] hx hc mk_reader_fail ln_5_91 rfl (by decide +kernel) (by decide) (Nat.le_of_ble_eq_true rfl) (s_reader_fail (ok_b h)) (fun r3 s3 h => ?_)
        refine g_ifb_eq hx (off := 7) (tgt := 46) (by decide +kernel) (by decide) (fun c39 => ?_) (fun c39 => ?_)
        · have h := ok_f h c39
          refine g_run hx [(.iconst 0, 0, 0)] (pc' := 47) (lo' := [some (.ref 1), some (.int v1), some (.int v2)]) (st' := [.int 0]) (σ' := s3) (by decide +kernel) rfl rfl ?_
          exact g_zret (b := false) hx hr rfl false rfl (by decide +kernel) (ok_some h)
        · have h := ok_t h c39
          refine g_run hx [(.iconst 1, 1, 0)] (pc' := 43) (lo' := [some (.ref 1), some (.int v1), some (.int v2)]) (st' := [.int 1]) (σ' := s3) (by decide +kernel) rfl rfl ?_
          refine g_goto hx (off := 4) (tgt := 47) (by decide +kernel) (by decide) ?_
          exact g_zret (b := true) hx hr rfl true rfl (by decide +kernel) (ok_some h)
  · have h := ok_f h c9
    refine g_run hx [(.aload_n 0, 0, 0), (.iconst 1, 1, 0)] (pc' := 14) (lo' := [some (.ref 1), some (.int v1), some (.int v2)]) (st' := [.int 1, .ref 1]) (σ' := s1) (by decide +kernel) rfl rfl ?_
    refine g_callV (rest := []) [.int 1] hx hc mk_reader_fail ln_5_91 rfl (by decide +kernel) (by decide) (Nat.le_of_ble_eq_true rfl) (s_reader_fail (ok_b h)) (fun r4 s4 h => ?_)
    exact g_zret hx hr rfl _ rfl (by decide +kernel) (ok_some h)
def f_reader_expectCell (N : Nat) (v1 : Int32) (σ : Sg) : Option (Bool × Sg) :=
  (f_reader_expectWhole N v1 ((gI σ 25 0) - 1) σ).bind fun q1 =>
  some (q1.1, q1.2)
set_option maxRecDepth 100000 in
theorem s_reader_expectCell {y : EX} {N : Nat} {v1 : Int32} {σ : Sg} {P : Bool × Sg → Prop} (h : ok (f_reader_expectCell N v1 σ) P) : Ev y M_reader_expectCell 3 [.ref 1, .int v1] σ rvB P := by
  refine Ev.of mk_reader_expectCell (Nat.le_of_ble_eq_true rfl) (fun x hx hc hr => ?_)
  have hx : Cx 5 prog_7_method_18_code x := hx
  have hc : Cc y 2 3 x := hc
  show G x 0 [some (.ref 1), some (.int v1)] [] σ
  unfold f_reader_expectCell at h
  refine g_run hx [(.aload_n 0, 0, 0), (.iload_n 1, 0, 0), (.aload_n 0, 0, 0), (.getfield 37, 0, 0), (.getfield 139, 0, 0), (.iconst 1, 1, 0), (.isub, 0, 0)] (pc' := 11) (lo' := [some (.ref 1), some (.int v1)]) (st' := [.int ((gI σ 25 0) - 1), .int v1, .ref 1]) (σ' := σ) (by decide +kernel) rfl rfl ?_
  refine g_callV (rest := []) [.int v1, .int ((gI σ 25 0) - 1)] hx hc mk_reader_expectWhole ln_5_135 rfl (by decide +kernel) (by decide) (Nat.le_of_ble_eq_true rfl) (s_reader_expectWhole (ok_b h)) (fun r1 s1 h => ?_)
  exact g_zret hx hr rfl _ rfl (by decide +kernel) (ok_some h)
def f_reader_readLand (N : Nat) (σ : Sg) : Option (Bool × Sg) :=
  (f_reader_expect N 7 σ).bind fun q1 =>
  if q1.1 = true then
    (f_reader_expectWhole N 8 60 q1.2).bind fun q2 =>
    if q2.1 = true then
      (f_reader_expect N 8 (sI q2.2 25 0 (gI q2.2 1 6))).bind fun q3 =>
      if q3.1 = true then
        (f_reader_expectCell N 0 q3.2).bind fun q4 =>
        if q4.1 = true then
          (f_reader_expect N 9 (sI (sI q4.2 25 2 (gI q4.2 1 6)) 25 13 (gI (sI q4.2 25 2 (gI q4.2 1 6)) 1 6))).bind fun q5 =>
          if q5.1 = true then
            (f_reader_expectCell N 0 q5.2).bind fun q6 =>
            if q6.1 = true then
              (f_reader_expect N 10 (sI q6.2 25 3 (gI q6.2 1 6))).bind fun q7 =>
              if q7.1 = true then
                (f_reader_expectWhole N 0 100 q7.2).bind fun q8 =>
                if q8.1 = true then
                  some (true, sI q8.2 25 1 (gI q8.2 1 6))
                else
                  some (false, q8.2)
              else
                some (false, q7.2)
            else
              some (false, q6.2)
          else
            some (false, q5.2)
        else
          some (false, q4.2)
      else
        some (false, q3.2)
    else
      some (false, q2.2)
  else
    some (false, q1.2)
set_option maxRecDepth 100000 in
theorem s_reader_readLand {y : EX} {N : Nat} {σ : Sg} {P : Bool × Sg → Prop} (h : ok (f_reader_readLand N σ) P) : Ev y M_reader_readLand 6 [.ref 1] σ rvB P := by
  refine Ev.of mk_reader_readLand (Nat.le_of_ble_eq_true rfl) (fun x hx hc hr => ?_)
  have hx : Cx 5 prog_7_method_8_code x := hx
  have hc : Cc y 1 6 x := hc
  show G x 0 [some (.ref 1)] [] σ
  unfold f_reader_readLand at h
  refine g_run hx [(.aload_n 0, 0, 0)] (pc' := 1) (lo' := [some (.ref 1)]) (st' := [.ref 1]) (σ' := σ) (by decide +kernel) rfl rfl ?_
  refine g_ldcS (idx := 129) (sid := 7) hx hc (by decide) (by decide +kernel) ?_
  refine g_callV (rest := []) [.ref (100 + 7)] hx hc mk_reader_expect ln_5_131 rfl (by decide +kernel) (by decide) (Nat.le_of_ble_eq_true rfl) (s_reader_expect (by decide) (ok_b h)) (fun r1 s1 h => ?_)
  refine g_ifb_eq hx (off := 14) (tgt := 20) (by decide +kernel) (by decide) (fun c6 => ?_) (fun c6 => ?_)
  · have h := ok_f h c6
    refine g_run hx [(.iconst 0, 0, 0)] (pc' := 21) (lo' := [some (.ref 1)]) (st' := [.int 0]) (σ' := s1) (by decide +kernel) rfl rfl ?_
    exact g_zret (b := false) hx hr rfl false rfl (by decide +kernel) (ok_some h)
  · have h := ok_t h c6
    refine g_run hx [(.aload_n 0, 0, 0), (.bipush 8, 8, 0), (.bipush 60, 60, 0)] (pc' := 14) (lo' := [some (.ref 1)]) (st' := [.int 60, .int 8, .ref 1]) (σ' := s1) (by decide +kernel) rfl rfl ?_
    refine g_callV (rest := []) [.int 8, .int 60] hx hc mk_reader_expectWhole ln_5_135 rfl (by decide +kernel) (by decide) (Nat.le_of_ble_eq_true rfl) (s_reader_expectWhole (ok_b h)) (fun r2 s2 h => ?_)
    refine g_ifb_ne hx (off := 5) (tgt := 22) (by decide +kernel) (by decide) (fun c17 => ?_) (fun c17 => ?_)
    · have h := ok_t h c17
      refine g_run hx [(.aload_n 0, 0, 0), (.getfield 37, 0, 0), (.aload_n 0, 0, 0), (.getfield 31, 0, 0), (.putfield 139, 0, 0), (.aload_n 0, 0, 0)] (pc' := 34) (lo' := [some (.ref 1)]) (st' := [.ref 1]) (σ' := sI s2 25 0 (gI s2 1 6)) (by decide +kernel) rfl rfl ?_
      refine g_ldcS (idx := 141) (sid := 8) hx hc (by decide) (by decide +kernel) ?_
      refine g_callV (rest := []) [.ref (100 + 8)] hx hc mk_reader_expect ln_5_131 rfl (by decide +kernel) (by decide) (Nat.le_of_ble_eq_true rfl) (s_reader_expect (by decide) (ok_b h)) (fun r3 s3 h => ?_)
      refine g_ifb_eq hx (off := 11) (tgt := 50) (by decide +kernel) (by decide) (fun c39 => ?_) (fun c39 => ?_)
      · have h := ok_f h c39
        refine g_run hx [(.iconst 0, 0, 0)] (pc' := 51) (lo' := [some (.ref 1)]) (st' := [.int 0]) (σ' := s3) (by decide +kernel) rfl rfl ?_
        exact g_zret (b := false) hx hr rfl false rfl (by decide +kernel) (ok_some h)
      · have h := ok_t h c39
        refine g_run hx [(.aload_n 0, 0, 0), (.iconst 0, 0, 0)] (pc' := 44) (lo' := [some (.ref 1)]) (st' := [.int 0, .ref 1]) (σ' := s3) (by decide +kernel) rfl rfl ?_
        refine g_callV (rest := []) [.int 0] hx hc mk_reader_expectCell ln_5_143 rfl (by decide +kernel) (by decide) (Nat.le_of_ble_eq_true rfl) (s_reader_expectCell (ok_b h)) (fun r4 s4 h => ?_)
        refine g_ifb_ne hx (off := 5) (tgt := 52) (by decide +kernel) (by decide) (fun c47 => ?_) (fun c47 => ?_)
        · have h := ok_t h c47
          refine g_run hx [(.aload_n 0, 0, 0), (.getfield 37, 0, 0), (.aload_n 0, 0, 0), (.getfield 31, 0, 0), (.putfield 146, 0, 0), (.aload_n 0, 0, 0), (.getfield 37, 0, 0), (.aload_n 0, 0, 0), (.getfield 31, 0, 0), (.putfield 149, 0, 0), (.aload_n 0, 0, 0)] (pc' := 75) (lo' := [some (.ref 1)]) (st' := [.ref 1]) (σ' := sI (sI s4 25 2 (gI s4 1 6)) 25 13 (gI (sI s4 25 2 (gI s4 1 6)) 1 6)) (by decide +kernel) rfl rfl ?_
          refine g_ldcS (idx := 152) (sid := 9) hx hc (by decide) (by decide +kernel) ?_
          refine g_callV (rest := []) [.ref (100 + 9)] hx hc mk_reader_expect ln_5_131 rfl (by decide +kernel) (by decide) (Nat.le_of_ble_eq_true rfl) (s_reader_expect (by decide) (ok_b h)) (fun r5 s5 h => ?_)
          refine g_ifb_eq hx (off := 11) (tgt := 91) (by decide +kernel) (by decide) (fun c80 => ?_) (fun c80 => ?_)
          · have h := ok_f h c80
            refine g_run hx [(.iconst 0, 0, 0)] (pc' := 92) (lo' := [some (.ref 1)]) (st' := [.int 0]) (σ' := s5) (by decide +kernel) rfl rfl ?_
            exact g_zret (b := false) hx hr rfl false rfl (by decide +kernel) (ok_some h)
          · have h := ok_t h c80
            refine g_run hx [(.aload_n 0, 0, 0), (.iconst 0, 0, 0)] (pc' := 85) (lo' := [some (.ref 1)]) (st' := [.int 0, .ref 1]) (σ' := s5) (by decide +kernel) rfl rfl ?_
            refine g_callV (rest := []) [.int 0] hx hc mk_reader_expectCell ln_5_143 rfl (by decide +kernel) (by decide) (Nat.le_of_ble_eq_true rfl) (s_reader_expectCell (ok_b h)) (fun r6 s6 h => ?_)
            refine g_ifb_ne hx (off := 5) (tgt := 93) (by decide +kernel) (by decide) (fun c88 => ?_) (fun c88 => ?_)
            · have h := ok_t h c88
              refine g_run hx [(.aload_n 0, 0, 0), (.getfield 37, 0, 0), (.aload_n 0, 0, 0), (.getfield 31, 0, 0), (.putfield 154, 0, 0), (.aload_n 0, 0, 0)] (pc' := 105) (lo' := [some (.ref 1)]) (st' := [.ref 1]) (σ' := sI s6 25 3 (gI s6 1 6)) (by decide +kernel) rfl rfl ?_
              refine g_ldcS (idx := 157) (sid := 10) hx hc (by decide) (by decide +kernel) ?_
              refine g_callV (rest := []) [.ref (100 + 10)] hx hc mk_reader_expect ln_5_131 rfl (by decide +kernel) (by decide) (Nat.le_of_ble_eq_true rfl) (s_reader_expect (by decide) (ok_b h)) (fun r7 s7 h => ?_)
              refine g_ifb_eq hx (off := 13) (tgt := 123) (by decide +kernel) (by decide) (fun c110 => ?_) (fun c110 => ?_)
              · have h := ok_f h c110
                refine g_run hx [(.iconst 0, 0, 0)] (pc' := 124) (lo' := [some (.ref 1)]) (st' := [.int 0]) (σ' := s7) (by decide +kernel) rfl rfl ?_
                exact g_zret (b := false) hx hr rfl false rfl (by decide +kernel) (ok_some h)
              · have h := ok_t h c110
                refine g_run hx [(.aload_n 0, 0, 0), (.iconst 0, 0, 0), (.bipush 100, 100, 0)] (pc' := 117) (lo' := [some (.ref 1)]) (st' := [.int 100, .int 0, .ref 1]) (σ' := s7) (by decide +kernel) rfl rfl ?_
                refine g_callV (rest := []) [.int 0, .int 100] hx hc mk_reader_expectWhole ln_5_135 rfl (by decide +kernel) (by decide) (Nat.le_of_ble_eq_true rfl) (s_reader_expectWhole (ok_b h)) (fun r8 s8 h => ?_)
                refine g_ifb_ne hx (off := 5) (tgt := 125) (by decide +kernel) (by decide) (fun c120 => ?_) (fun c120 => ?_)
                · have h := ok_t h c120
                  refine g_run hx [(.aload_n 0, 0, 0), (.getfield 37, 0, 0), (.aload_n 0, 0, 0), (.getfield 31, 0, 0), (.putfield 159, 0, 0), (.iconst 1, 1, 0)] (pc' := 137) (lo' := [some (.ref 1)]) (st' := [.int 1]) (σ' := sI s8 25 1 (gI s8 1 6)) (by decide +kernel) rfl rfl ?_
                  exact g_zret (b := true) hx hr rfl true rfl (by decide +kernel) (ok_some h)
                · have h := ok_f h c120
                  refine g_run hx [(.iconst 0, 0, 0)] (pc' := 124) (lo' := [some (.ref 1)]) (st' := [.int 0]) (σ' := s8) (by decide +kernel) rfl rfl ?_
                  exact g_zret (b := false) hx hr rfl false rfl (by decide +kernel) (ok_some h)
            · have h := ok_f h c88
              refine g_run hx [(.iconst 0, 0, 0)] (pc' := 92) (lo' := [some (.ref 1)]) (st' := [.int 0]) (σ' := s6) (by decide +kernel) rfl rfl ?_
              exact g_zret (b := false) hx hr rfl false rfl (by decide +kernel) (ok_some h)
        · have h := ok_f h c47
          refine g_run hx [(.iconst 0, 0, 0)] (pc' := 51) (lo' := [some (.ref 1)]) (st' := [.int 0]) (σ' := s4) (by decide +kernel) rfl rfl ?_
          exact g_zret (b := false) hx hr rfl false rfl (by decide +kernel) (ok_some h)
    · have h := ok_f h c17
      refine g_run hx [(.iconst 0, 0, 0)] (pc' := 21) (lo' := [some (.ref 1)]) (st' := [.int 0]) (σ' := s2) (by decide +kernel) rfl rfl ?_
      exact g_zret (b := false) hx hr rfl false rfl (by decide +kernel) (ok_some h)
def f_country_setGround (N : Nat) (v1 : Int32) (v2 : Int64) (σ : Sg) : Option (Unit × Sg) :=
  if v1 = 1 then
    if v1 = 2 then
      some ((), sL (sL σ 25 4 ((gL σ 25 4) ||| v2)) 25 5 ((gL (sL σ 25 4 ((gL σ 25 4) ||| v2)) 25 5) ||| v2))
    else
      some ((), sL (sL σ 25 4 ((gL σ 25 4) ||| v2)) 25 5 ((gL (sL σ 25 4 ((gL σ 25 4) ||| v2)) 25 5) &&& (v2 ^^^ (-1))))
  else
    if v1 = 2 then
      some ((), sL (sL σ 25 4 ((gL σ 25 4) &&& (v2 ^^^ (-1)))) 25 5 ((gL (sL σ 25 4 ((gL σ 25 4) &&& (v2 ^^^ (-1)))) 25 5) ||| v2))
    else
      some ((), sL (sL σ 25 4 ((gL σ 25 4) &&& (v2 ^^^ (-1)))) 25 5 ((gL (sL σ 25 4 ((gL σ 25 4) &&& (v2 ^^^ (-1)))) 25 5) &&& (v2 ^^^ (-1))))
set_option maxRecDepth 100000 in
theorem s_country_setGround {y : EX} {N : Nat} {v1 : Int32} {v2 : Int64} {σ : Sg} {P : Unit × Sg → Prop} (h : ok (f_country_setGround N v1 v2 σ) P) : Ev y M_country_setGround 0 [.ref 25, .int v1, .long v2] σ rvN P := by
  refine Ev.of mk_country_setGround (Nat.le_of_ble_eq_true rfl) (fun x hx hc hr => ?_)
  have hx : Cx 1 prog_3_method_4_code x := hx
  have hc : Cc y 4 0 x := hc
  show G x 0 [some (.ref 25), some (.int v1), some (.long v2), none] [] σ
  unfold f_country_setGround at h
  refine g_run hx [(.aload_n 0, 0, 0), (.iload_n 1, 0, 0), (.iconst 1, 1, 0)] (pc' := 3) (lo' := [some (.ref 25), some (.int v1), some (.long v2), none]) (st' := [.int 1, .int v1, .ref 25]) (σ' := σ) (by decide +kernel) rfl rfl ?_
  refine g_ic_ne hx (off := 12) (tgt := 15) (by decide +kernel) (by decide) (fun c3 => ?_) (fun c3 => ?_)
  · have h := ok_f h c3
    refine g_run hx [(.aload_n 0, 0, 0), (.getfield 24, 0, 0), (.lload_n 2, 0, 0), (.ldc2_w 71, 0, (-1)), (.lxor, 0, 0), (.land, 0, 0), (.putfield 24, 0, 0), (.aload_n 0, 0, 0), (.iload_n 1, 0, 0), (.iconst 2, 2, 0)] (pc' := 31) (lo' := [some (.ref 25), some (.int v1), some (.long v2), none]) (st' := [.int 2, .int v1, .ref 25]) (σ' := sL σ 25 4 ((gL σ 25 4) &&& (v2 ^^^ (-1)))) (by decide +kernel) rfl rfl ?_
    refine g_ic_ne hx (off := 12) (tgt := 43) (by decide +kernel) (by decide) (fun c31 => ?_) (fun c31 => ?_)
    · have h := ok_f h c31
      refine g_run hx [(.aload_n 0, 0, 0), (.getfield 28, 0, 0), (.lload_n 2, 0, 0), (.ldc2_w 71, 0, (-1)), (.lxor, 0, 0), (.land, 0, 0), (.putfield 28, 0, 0)] (pc' := 56) (lo' := [some (.ref 25), some (.int v1), some (.long v2), none]) (st' := []) (σ' := sL (sL σ 25 4 ((gL σ 25 4) &&& (v2 ^^^ (-1)))) 25 5 ((gL (sL σ 25 4 ((gL σ 25 4) &&& (v2 ^^^ (-1)))) 25 5) &&& (v2 ^^^ (-1)))) (by decide +kernel) rfl rfl ?_
      exact g_vret hx hr rfl () rfl (by decide +kernel) (ok_some h)
    · have h := ok_t h c31
      refine g_run hx [(.aload_n 0, 0, 0), (.getfield 28, 0, 0), (.lload_n 2, 0, 0), (.lor, 0, 0)] (pc' := 40) (lo' := [some (.ref 25), some (.int v1), some (.long v2), none]) (st' := [.long ((gL (sL σ 25 4 ((gL σ 25 4) &&& (v2 ^^^ (-1)))) 25 5) ||| v2), .ref 25]) (σ' := sL σ 25 4 ((gL σ 25 4) &&& (v2 ^^^ (-1)))) (by decide +kernel) rfl rfl ?_
      refine g_goto hx (off := 13) (tgt := 53) (by decide +kernel) (by decide) ?_
      refine g_run hx [(.putfield 28, 0, 0)] (pc' := 56) (lo' := [some (.ref 25), some (.int v1), some (.long v2), none]) (st' := []) (σ' := sL (sL σ 25 4 ((gL σ 25 4) &&& (v2 ^^^ (-1)))) 25 5 ((gL (sL σ 25 4 ((gL σ 25 4) &&& (v2 ^^^ (-1)))) 25 5) ||| v2)) (by decide +kernel) rfl rfl ?_
      exact g_vret hx hr rfl () rfl (by decide +kernel) (ok_some h)
  · have h := ok_t h c3
    refine g_run hx [(.aload_n 0, 0, 0), (.getfield 24, 0, 0), (.lload_n 2, 0, 0), (.lor, 0, 0)] (pc' := 12) (lo' := [some (.ref 25), some (.int v1), some (.long v2), none]) (st' := [.long ((gL σ 25 4) ||| v2), .ref 25]) (σ' := σ) (by decide +kernel) rfl rfl ?_
    refine g_goto hx (off := 13) (tgt := 25) (by decide +kernel) (by decide) ?_
    refine g_run hx [(.putfield 24, 0, 0), (.aload_n 0, 0, 0), (.iload_n 1, 0, 0), (.iconst 2, 2, 0)] (pc' := 31) (lo' := [some (.ref 25), some (.int v1), some (.long v2), none]) (st' := [.int 2, .int v1, .ref 25]) (σ' := sL σ 25 4 ((gL σ 25 4) ||| v2)) (by decide +kernel) rfl rfl ?_
    refine g_ic_ne hx (off := 12) (tgt := 43) (by decide +kernel) (by decide) (fun c31 => ?_) (fun c31 => ?_)
    · have h := ok_f h c31
      refine g_run hx [(.aload_n 0, 0, 0), (.getfield 28, 0, 0), (.lload_n 2, 0, 0), (.ldc2_w 71, 0, (-1)), (.lxor, 0, 0), (.land, 0, 0), (.putfield 28, 0, 0)] (pc' := 56) (lo' := [some (.ref 25), some (.int v1), some (.long v2), none]) (st' := []) (σ' := sL (sL σ 25 4 ((gL σ 25 4) ||| v2)) 25 5 ((gL (sL σ 25 4 ((gL σ 25 4) ||| v2)) 25 5) &&& (v2 ^^^ (-1)))) (by decide +kernel) rfl rfl ?_
      exact g_vret hx hr rfl () rfl (by decide +kernel) (ok_some h)
    · have h := ok_t h c31
      refine g_run hx [(.aload_n 0, 0, 0), (.getfield 28, 0, 0), (.lload_n 2, 0, 0), (.lor, 0, 0)] (pc' := 40) (lo' := [some (.ref 25), some (.int v1), some (.long v2), none]) (st' := [.long ((gL (sL σ 25 4 ((gL σ 25 4) ||| v2)) 25 5) ||| v2), .ref 25]) (σ' := sL σ 25 4 ((gL σ 25 4) ||| v2)) (by decide +kernel) rfl rfl ?_
      refine g_goto hx (off := 13) (tgt := 53) (by decide +kernel) (by decide) ?_
      refine g_run hx [(.putfield 28, 0, 0)] (pc' := 56) (lo' := [some (.ref 25), some (.int v1), some (.long v2), none]) (st' := []) (σ' := sL (sL σ 25 4 ((gL σ 25 4) ||| v2)) 25 5 ((gL (sL σ 25 4 ((gL σ 25 4) ||| v2)) 25 5) ||| v2)) (by decide +kernel) rfl rfl ?_
      exact g_vret hx hr rfl () rfl (by decide +kernel) (ok_some h)
def f_reader_readGround (N : Nat) (σ : Sg) : Option (Bool × Sg) :=
  (f_reader_nextToken N σ).bind fun q1 =>
  (f_reader_isWord N 11 q1.2).bind fun q2 =>
  if q2.1 = true then
    (f_reader_expectCell N 0 q2.2).bind fun q14 =>
    if q14.1 = true then
      (f_reader_expectCell N (gI q14.2 1 6) q14.2).bind fun q15 =>
      if q15.1 = true then
        (f_x_span N (gI q14.2 1 6) (gI q15.2 1 6) q15.2).bind fun q16 =>
        (f_country_setGround N 0 q16.1 q16.2).bind fun q17 =>
        some (true, q17.2)
      else
        some (false, q15.2)
    else
      some (false, q14.2)
  else
    (f_reader_isWord N 12 q2.2).bind fun q3 =>
    if q3.1 = true then
      (f_reader_expectCell N 0 q3.2).bind fun q10 =>
      if q10.1 = true then
        (f_reader_expectCell N (gI q10.2 1 6) q10.2).bind fun q11 =>
        if q11.1 = true then
          (f_x_span N (gI q10.2 1 6) (gI q11.2 1 6) q11.2).bind fun q12 =>
          (f_country_setGround N 1 q12.1 q12.2).bind fun q13 =>
          some (true, q13.2)
        else
          some (false, q11.2)
      else
        some (false, q10.2)
    else
      (f_reader_isWord N 13 q3.2).bind fun q4 =>
      if q4.1 = true then
        (f_reader_expectCell N 0 q4.2).bind fun q6 =>
        if q6.1 = true then
          (f_reader_expectCell N (gI q6.2 1 6) q6.2).bind fun q7 =>
          if q7.1 = true then
            (f_x_span N (gI q6.2 1 6) (gI q7.2 1 6) q7.2).bind fun q8 =>
            (f_country_setGround N 2 q8.1 q8.2).bind fun q9 =>
            some (true, q9.2)
          else
            some (false, q7.2)
        else
          some (false, q6.2)
      else
        (f_reader_fail N 1 q4.2).bind fun q5 =>
        some (q5.1, q5.2)
set_option maxRecDepth 100000 in
theorem s_reader_readGround {y : EX} {N : Nat} {σ : Sg} {P : Bool × Sg → Prop} (h : ok (f_reader_readGround N σ) P) : Ev y M_reader_readGround 5 [.ref 1] σ rvB P := by
  refine Ev.of mk_reader_readGround (Nat.le_of_ble_eq_true rfl) (fun x hx hc hr => ?_)
  have hx : Cx 5 prog_7_method_9_code x := hx
  have hc : Cc y 3 5 x := hc
  show G x 0 [some (.ref 1), none, none] [] σ
  unfold f_reader_readGround at h
  refine g_run hx [(.aload_n 0, 0, 0)] (pc' := 1) (lo' := [some (.ref 1), none, none]) (st' := [.ref 1]) (σ' := σ) (by decide +kernel) rfl rfl ?_
  refine g_callV (rest := []) [] hx hc mk_reader_nextToken ln_5_69 rfl (by decide +kernel) (by decide) (Nat.le_of_ble_eq_true rfl) (s_reader_nextToken (ok_b h)) (fun r1 s1 h => ?_)
  refine g_run hx [(.aload_n 0, 0, 0)] (pc' := 5) (lo' := [some (.ref 1), none, none]) (st' := [.ref 1]) (σ' := s1) (by decide +kernel) rfl rfl ?_
  refine g_ldcS (idx := 161) (sid := 11) hx hc (by decide) (by decide +kernel) ?_
  refine g_callV (rest := []) [.ref (100 + 11)] hx hc mk_reader_isWord ln_5_163 rfl (by decide +kernel) (by decide) (Nat.le_of_ble_eq_true rfl) (s_reader_isWord (by decide) (ok_b h)) (fun r2 s2 h => ?_)
  refine g_ifb_eq hx (off := 7) (tgt := 17) (by decide +kernel) (by decide) (fun c10 => ?_) (fun c10 => ?_)
  · have h := ok_f h c10
    refine g_run hx [(.aload_n 0, 0, 0)] (pc' := 18) (lo' := [some (.ref 1), none, none]) (st' := [.ref 1]) (σ' := s2) (by decide +kernel) rfl rfl ?_
    refine g_ldcS (idx := 166) (sid := 12) hx hc (by decide) (by decide +kernel) ?_
    refine g_callV (rest := []) [.ref (100 + 12)] hx hc mk_reader_isWord ln_5_163 rfl (by decide +kernel) (by decide) (Nat.le_of_ble_eq_true rfl) (s_reader_isWord (by decide) (ok_b h)) (fun r3 s3 h => ?_)
    refine g_ifb_eq hx (off := 7) (tgt := 30) (by decide +kernel) (by decide) (fun c23 => ?_) (fun c23 => ?_)
    · have h := ok_f h c23
      refine g_run hx [(.aload_n 0, 0, 0)] (pc' := 31) (lo' := [some (.ref 1), none, none]) (st' := [.ref 1]) (σ' := s3) (by decide +kernel) rfl rfl ?_
      refine g_ldcS (idx := 168) (sid := 13) hx hc (by decide) (by decide +kernel) ?_
      refine g_callV (rest := []) [.ref (100 + 13)] hx hc mk_reader_isWord ln_5_163 rfl (by decide +kernel) (by decide) (Nat.le_of_ble_eq_true rfl) (s_reader_isWord (by decide) (ok_b h)) (fun r4 s4 h => ?_)
      refine g_ifb_eq hx (off := 7) (tgt := 43) (by decide +kernel) (by decide) (fun c36 => ?_) (fun c36 => ?_)
      · have h := ok_f h c36
        refine g_run hx [(.bipush (-2), (-2), 0), (.istore_n 1, 0, 0), (.iload_n 1, 0, 0), (.bipush (-2), (-2), 0)] (pc' := 49) (lo' := [some (.ref 1), some (.int (-2)), none]) (st' := [.int (-2), .int (-2)]) (σ' := s4) (by decide +kernel) rfl rfl ?_
        refine g_ic_ne hx (off := 9) (tgt := 58) (by decide +kernel) (by decide) (fun c => absurd c (by decide)) (fun _ => ?_)
        refine g_run hx [(.aload_n 0, 0, 0), (.iconst 1, 1, 0)] (pc' := 54) (lo' := [some (.ref 1), some (.int (-2)), none]) (st' := [.int 1, .ref 1]) (σ' := s4) (by decide +kernel) rfl rfl ?_
        refine g_callV (rest := []) [.int 1] hx hc mk_reader_fail ln_5_91 rfl (by decide +kernel) (by decide) (Nat.le_of_ble_eq_true rfl) (s_reader_fail (ok_b h)) (fun r5 s5 h => ?_)
        exact g_zret hx hr rfl _ rfl (by decide +kernel) (ok_some h)
      · have h := ok_t h c36
        refine g_run hx [(.iconst 2, 2, 0)] (pc' := 40) (lo' := [some (.ref 1), none, none]) (st' := [.int 2]) (σ' := s4) (by decide +kernel) rfl rfl ?_
        refine g_goto hx (off := 5) (tgt := 45) (by decide +kernel) (by decide) ?_
        refine g_run hx [(.istore_n 1, 0, 0), (.iload_n 1, 0, 0), (.bipush (-2), (-2), 0)] (pc' := 49) (lo' := [some (.ref 1), some (.int 2), none]) (st' := [.int (-2), .int 2]) (σ' := s4) (by decide +kernel) rfl rfl ?_
        refine g_ic_ne hx (off := 9) (tgt := 58) (by decide +kernel) (by decide) (fun _ => ?_) (fun c => absurd c (by decide))
        refine g_run hx [(.aload_n 0, 0, 0), (.iconst 0, 0, 0)] (pc' := 60) (lo' := [some (.ref 1), some (.int 2), none]) (st' := [.int 0, .ref 1]) (σ' := s4) (by decide +kernel) rfl rfl ?_
        refine g_callV (rest := []) [.int 0] hx hc mk_reader_expectCell ln_5_143 rfl (by decide +kernel) (by decide) (Nat.le_of_ble_eq_true rfl) (s_reader_expectCell (ok_b h)) (fun r6 s6 h => ?_)
        refine g_ifb_ne hx (off := 5) (tgt := 68) (by decide +kernel) (by decide) (fun c63 => ?_) (fun c63 => ?_)
        · have h := ok_t h c63
          refine g_run hx [(.aload_n 0, 0, 0), (.getfield 31, 0, 0), (.istore_n 2, 0, 0), (.aload_n 0, 0, 0), (.iload_n 2, 0, 0)] (pc' := 75) (lo' := [some (.ref 1), some (.int 2), some (.int (gI s6 1 6))]) (st' := [.int (gI s6 1 6), .ref 1]) (σ' := s6) (by decide +kernel) rfl rfl ?_
          refine g_callV (rest := []) [.int (gI s6 1 6)] hx hc mk_reader_expectCell ln_5_143 rfl (by decide +kernel) (by decide) (Nat.le_of_ble_eq_true rfl) (s_reader_expectCell (ok_b h)) (fun r7 s7 h => ?_)
          refine g_ifb_ne hx (off := 5) (tgt := 83) (by decide +kernel) (by decide) (fun c78 => ?_) (fun c78 => ?_)
          · have h := ok_t h c78
            refine g_run hx [(.aload_n 0, 0, 0), (.getfield 37, 0, 0), (.iload_n 1, 0, 0), (.iload_n 2, 0, 0), (.aload_n 0, 0, 0), (.getfield 31, 0, 0)] (pc' := 93) (lo' := [some (.ref 1), some (.int 2), some (.int (gI s6 1 6))]) (st' := [.int (gI s7 1 6), .int (gI s6 1 6), .int 2, .ref 25]) (σ' := s7) (by decide +kernel) rfl rfl ?_
            refine g_callN (rest := [.int 2, .ref 25]) [.int (gI s6 1 6), .int (gI s7 1 6)] hx hc mk_x_span ln_5_170 (by decide +kernel) (by decide) (Nat.le_of_ble_eq_true rfl) (s_x_span (ok_b h)) (fun r8 s8 h => ?_)
            refine g_callV (rest := []) [.int 2, .long r8] hx hc mk_country_setGround ln_5_174 rfl (by decide +kernel) (by decide) (Nat.le_of_ble_eq_true rfl) (s_country_setGround (ok_b h)) (fun r9 s9 h => ?_)
            refine g_run hx [(.iconst 1, 1, 0)] (pc' := 100) (lo' := [some (.ref 1), some (.int 2), some (.int (gI s6 1 6))]) (st' := [.int 1]) (σ' := s9) (by decide +kernel) rfl rfl ?_
            exact g_zret (b := true) hx hr rfl true rfl (by decide +kernel) (ok_some h)
          · have h := ok_f h c78
            refine g_run hx [(.iconst 0, 0, 0)] (pc' := 82) (lo' := [some (.ref 1), some (.int 2), some (.int (gI s6 1 6))]) (st' := [.int 0]) (σ' := s7) (by decide +kernel) rfl rfl ?_
            exact g_zret (b := false) hx hr rfl false rfl (by decide +kernel) (ok_some h)
        · have h := ok_f h c63
          refine g_run hx [(.iconst 0, 0, 0)] (pc' := 67) (lo' := [some (.ref 1), some (.int 2), none]) (st' := [.int 0]) (σ' := s6) (by decide +kernel) rfl rfl ?_
          exact g_zret (b := false) hx hr rfl false rfl (by decide +kernel) (ok_some h)
    · have h := ok_t h c23
      refine g_run hx [(.iconst 1, 1, 0)] (pc' := 27) (lo' := [some (.ref 1), none, none]) (st' := [.int 1]) (σ' := s3) (by decide +kernel) rfl rfl ?_
      refine g_goto hx (off := 18) (tgt := 45) (by decide +kernel) (by decide) ?_
      refine g_run hx [(.istore_n 1, 0, 0), (.iload_n 1, 0, 0), (.bipush (-2), (-2), 0)] (pc' := 49) (lo' := [some (.ref 1), some (.int 1), none]) (st' := [.int (-2), .int 1]) (σ' := s3) (by decide +kernel) rfl rfl ?_
      refine g_ic_ne hx (off := 9) (tgt := 58) (by decide +kernel) (by decide) (fun _ => ?_) (fun c => absurd c (by decide))
      refine g_run hx [(.aload_n 0, 0, 0), (.iconst 0, 0, 0)] (pc' := 60) (lo' := [some (.ref 1), some (.int 1), none]) (st' := [.int 0, .ref 1]) (σ' := s3) (by decide +kernel) rfl rfl ?_
      refine g_callV (rest := []) [.int 0] hx hc mk_reader_expectCell ln_5_143 rfl (by decide +kernel) (by decide) (Nat.le_of_ble_eq_true rfl) (s_reader_expectCell (ok_b h)) (fun r10 s10 h => ?_)
      refine g_ifb_ne hx (off := 5) (tgt := 68) (by decide +kernel) (by decide) (fun c63 => ?_) (fun c63 => ?_)
      · have h := ok_t h c63
        refine g_run hx [(.aload_n 0, 0, 0), (.getfield 31, 0, 0), (.istore_n 2, 0, 0), (.aload_n 0, 0, 0), (.iload_n 2, 0, 0)] (pc' := 75) (lo' := [some (.ref 1), some (.int 1), some (.int (gI s10 1 6))]) (st' := [.int (gI s10 1 6), .ref 1]) (σ' := s10) (by decide +kernel) rfl rfl ?_
        refine g_callV (rest := []) [.int (gI s10 1 6)] hx hc mk_reader_expectCell ln_5_143 rfl (by decide +kernel) (by decide) (Nat.le_of_ble_eq_true rfl) (s_reader_expectCell (ok_b h)) (fun r11 s11 h => ?_)
        refine g_ifb_ne hx (off := 5) (tgt := 83) (by decide +kernel) (by decide) (fun c78 => ?_) (fun c78 => ?_)
        · have h := ok_t h c78
          refine g_run hx [(.aload_n 0, 0, 0), (.getfield 37, 0, 0), (.iload_n 1, 0, 0), (.iload_n 2, 0, 0), (.aload_n 0, 0, 0), (.getfield 31, 0, 0)] (pc' := 93) (lo' := [some (.ref 1), some (.int 1), some (.int (gI s10 1 6))]) (st' := [.int (gI s11 1 6), .int (gI s10 1 6), .int 1, .ref 25]) (σ' := s11) (by decide +kernel) rfl rfl ?_
          refine g_callN (rest := [.int 1, .ref 25]) [.int (gI s10 1 6), .int (gI s11 1 6)] hx hc mk_x_span ln_5_170 (by decide +kernel) (by decide) (Nat.le_of_ble_eq_true rfl) (s_x_span (ok_b h)) (fun r12 s12 h => ?_)
          refine g_callV (rest := []) [.int 1, .long r12] hx hc mk_country_setGround ln_5_174 rfl (by decide +kernel) (by decide) (Nat.le_of_ble_eq_true rfl) (s_country_setGround (ok_b h)) (fun r13 s13 h => ?_)
          refine g_run hx [(.iconst 1, 1, 0)] (pc' := 100) (lo' := [some (.ref 1), some (.int 1), some (.int (gI s10 1 6))]) (st' := [.int 1]) (σ' := s13) (by decide +kernel) rfl rfl ?_
          exact g_zret (b := true) hx hr rfl true rfl (by decide +kernel) (ok_some h)
        · have h := ok_f h c78
          refine g_run hx [(.iconst 0, 0, 0)] (pc' := 82) (lo' := [some (.ref 1), some (.int 1), some (.int (gI s10 1 6))]) (st' := [.int 0]) (σ' := s11) (by decide +kernel) rfl rfl ?_
          exact g_zret (b := false) hx hr rfl false rfl (by decide +kernel) (ok_some h)
      · have h := ok_f h c63
        refine g_run hx [(.iconst 0, 0, 0)] (pc' := 67) (lo' := [some (.ref 1), some (.int 1), none]) (st' := [.int 0]) (σ' := s10) (by decide +kernel) rfl rfl ?_
        exact g_zret (b := false) hx hr rfl false rfl (by decide +kernel) (ok_some h)
  · have h := ok_t h c10
    refine g_run hx [(.iconst 0, 0, 0)] (pc' := 14) (lo' := [some (.ref 1), none, none]) (st' := [.int 0]) (σ' := s2) (by decide +kernel) rfl rfl ?_
    refine g_goto hx (off := 31) (tgt := 45) (by decide +kernel) (by decide) ?_
    refine g_run hx [(.istore_n 1, 0, 0), (.iload_n 1, 0, 0), (.bipush (-2), (-2), 0)] (pc' := 49) (lo' := [some (.ref 1), some (.int 0), none]) (st' := [.int (-2), .int 0]) (σ' := s2) (by decide +kernel) rfl rfl ?_
    refine g_ic_ne hx (off := 9) (tgt := 58) (by decide +kernel) (by decide) (fun _ => ?_) (fun c => absurd c (by decide))
    refine g_run hx [(.aload_n 0, 0, 0), (.iconst 0, 0, 0)] (pc' := 60) (lo' := [some (.ref 1), some (.int 0), none]) (st' := [.int 0, .ref 1]) (σ' := s2) (by decide +kernel) rfl rfl ?_
    refine g_callV (rest := []) [.int 0] hx hc mk_reader_expectCell ln_5_143 rfl (by decide +kernel) (by decide) (Nat.le_of_ble_eq_true rfl) (s_reader_expectCell (ok_b h)) (fun r14 s14 h => ?_)
    refine g_ifb_ne hx (off := 5) (tgt := 68) (by decide +kernel) (by decide) (fun c63 => ?_) (fun c63 => ?_)
    · have h := ok_t h c63
      refine g_run hx [(.aload_n 0, 0, 0), (.getfield 31, 0, 0), (.istore_n 2, 0, 0), (.aload_n 0, 0, 0), (.iload_n 2, 0, 0)] (pc' := 75) (lo' := [some (.ref 1), some (.int 0), some (.int (gI s14 1 6))]) (st' := [.int (gI s14 1 6), .ref 1]) (σ' := s14) (by decide +kernel) rfl rfl ?_
      refine g_callV (rest := []) [.int (gI s14 1 6)] hx hc mk_reader_expectCell ln_5_143 rfl (by decide +kernel) (by decide) (Nat.le_of_ble_eq_true rfl) (s_reader_expectCell (ok_b h)) (fun r15 s15 h => ?_)
      refine g_ifb_ne hx (off := 5) (tgt := 83) (by decide +kernel) (by decide) (fun c78 => ?_) (fun c78 => ?_)
      · have h := ok_t h c78
        refine g_run hx [(.aload_n 0, 0, 0), (.getfield 37, 0, 0), (.iload_n 1, 0, 0), (.iload_n 2, 0, 0), (.aload_n 0, 0, 0), (.getfield 31, 0, 0)] (pc' := 93) (lo' := [some (.ref 1), some (.int 0), some (.int (gI s14 1 6))]) (st' := [.int (gI s15 1 6), .int (gI s14 1 6), .int 0, .ref 25]) (σ' := s15) (by decide +kernel) rfl rfl ?_
        refine g_callN (rest := [.int 0, .ref 25]) [.int (gI s14 1 6), .int (gI s15 1 6)] hx hc mk_x_span ln_5_170 (by decide +kernel) (by decide) (Nat.le_of_ble_eq_true rfl) (s_x_span (ok_b h)) (fun r16 s16 h => ?_)
        refine g_callV (rest := []) [.int 0, .long r16] hx hc mk_country_setGround ln_5_174 rfl (by decide +kernel) (by decide) (Nat.le_of_ble_eq_true rfl) (s_country_setGround (ok_b h)) (fun r17 s17 h => ?_)
        refine g_run hx [(.iconst 1, 1, 0)] (pc' := 100) (lo' := [some (.ref 1), some (.int 0), some (.int (gI s14 1 6))]) (st' := [.int 1]) (σ' := s17) (by decide +kernel) rfl rfl ?_
        exact g_zret (b := true) hx hr rfl true rfl (by decide +kernel) (ok_some h)
      · have h := ok_f h c78
        refine g_run hx [(.iconst 0, 0, 0)] (pc' := 82) (lo' := [some (.ref 1), some (.int 0), some (.int (gI s14 1 6))]) (st' := [.int 0]) (σ' := s15) (by decide +kernel) rfl rfl ?_
        exact g_zret (b := false) hx hr rfl false rfl (by decide +kernel) (ok_some h)
    · have h := ok_f h c63
      refine g_run hx [(.iconst 0, 0, 0)] (pc' := 67) (lo' := [some (.ref 1), some (.int 0), none]) (st' := [.int 0]) (σ' := s14) (by decide +kernel) rfl rfl ?_
      exact g_zret (b := false) hx hr rfl false rfl (by decide +kernel) (ok_some h)
set_option maxRecDepth 100000 in
theorem s_numbers_at_4 {y : EX} {N : Nat} {v1 : Int32} {σ : Sg} {P : Int32 × Sg → Prop} (h : ok (f_numbers_at N 4 9 5 v1 σ) P) : Ev y M_numbers_at 0 [.ref 4, .int v1] σ rvI P := by
  refine Ev.of mk_numbers_at (Nat.le_of_ble_eq_true rfl) (fun x hx hc hr => ?_)
  have hx : Cx 3 prog_5_method_3_code x := hx
  have hc : Cc y 2 0 x := hc
  show G x 0 [some (.ref 4), some (.int v1)] [] σ
  unfold f_numbers_at at h
  refine g_run hx [(.iload_n 1, 0, 0)] (pc' := 1) (lo' := [some (.ref 4), some (.int v1)]) (st' := [.int v1]) (σ' := σ) (by decide +kernel) rfl rfl ?_
  refine g_if_lt hx (off := 29) (tgt := 30) (by decide +kernel) (by decide) (fun c1 => ?_) (fun c1 => ?_)
  · have h := ok_t h c1
    refine g_run hx [(.iconst (-1), (-1), 0)] (pc' := 31) (lo' := [some (.ref 4), some (.int v1)]) (st' := [.int (-1)]) (σ' := σ) (by decide +kernel) rfl rfl ?_
    exact g_iret hx hr rfl _ rfl (by decide +kernel) (ok_some h)
  · have h := ok_f h c1
    refine g_run hx [(.iload_n 1, 0, 0), (.aload_n 0, 0, 0), (.getfield 9, 0, 0)] (pc' := 9) (lo' := [some (.ref 4), some (.int v1)]) (st' := [.int (gI σ 4 1), .int v1]) (σ' := σ) (by decide +kernel) rfl rfl ?_
    refine g_ic_ge hx (off := 21) (tgt := 30) (by decide +kernel) (by decide) (fun c9 => ?_) (fun c9 => ?_)
    · have h := ok_t h c9
      refine g_run hx [(.iconst (-1), (-1), 0)] (pc' := 31) (lo' := [some (.ref 4), some (.int v1)]) (st' := [.int (-1)]) (σ' := σ) (by decide +kernel) rfl rfl ?_
      exact g_iret hx hr rfl _ rfl (by decide +kernel) (ok_some h)
    · have h := ok_f h c9
      refine g_run hx [(.iload_n 1, 0, 0), (.aload_n 0, 0, 0), (.getfield 21, 0, 0), (.arraylength, 0, 0)] (pc' := 18) (lo' := [some (.ref 4), some (.int v1)]) (st' := [.int (nI 9), .int v1]) (σ' := σ) (by decide +kernel) rfl rfl ?_
      refine g_ic_ge hx (off := 12) (tgt := 30) (by decide +kernel) (by decide) (fun c18 => ?_) (fun c18 => ?_)
      · have h := ok_t h c18
        refine g_run hx [(.iconst (-1), (-1), 0)] (pc' := 31) (lo' := [some (.ref 4), some (.int v1)]) (st' := [.int (-1)]) (σ' := σ) (by decide +kernel) rfl rfl ?_
        exact g_iret hx hr rfl _ rfl (by decide +kernel) (ok_some h)
      · have h := ok_f h c18
        refine g_run hx [(.aload_n 0, 0, 0), (.getfield 21, 0, 0), (.iload_n 1, 0, 0)] (pc' := 26) (lo' := [some (.ref 4), some (.int v1)]) (st' := [.int v1, .ref 5]) (σ' := σ) (by decide +kernel) rfl rfl ?_
        obtain ⟨c26, h⟩ := ok_g h
        refine g_iald hx (by decide +kernel) (i := 5) (n := 9) rfl c26 ?_
        refine g_goto hx (off := 4) (tgt := 31) (by decide +kernel) (by decide) ?_
        exact g_iret hx hr rfl _ rfl (by decide +kernel) (ok_some h)
set_option maxRecDepth 100000 in
theorem s_numbers_at_6 {y : EX} {N : Nat} {v1 : Int32} {σ : Sg} {P : Int32 × Sg → Prop} (h : ok (f_numbers_at N 6 9 7 v1 σ) P) : Ev y M_numbers_at 0 [.ref 6, .int v1] σ rvI P := by
  refine Ev.of mk_numbers_at (Nat.le_of_ble_eq_true rfl) (fun x hx hc hr => ?_)
  have hx : Cx 3 prog_5_method_3_code x := hx
  have hc : Cc y 2 0 x := hc
  show G x 0 [some (.ref 6), some (.int v1)] [] σ
  unfold f_numbers_at at h
  refine g_run hx [(.iload_n 1, 0, 0)] (pc' := 1) (lo' := [some (.ref 6), some (.int v1)]) (st' := [.int v1]) (σ' := σ) (by decide +kernel) rfl rfl ?_
  refine g_if_lt hx (off := 29) (tgt := 30) (by decide +kernel) (by decide) (fun c1 => ?_) (fun c1 => ?_)
  · have h := ok_t h c1
    refine g_run hx [(.iconst (-1), (-1), 0)] (pc' := 31) (lo' := [some (.ref 6), some (.int v1)]) (st' := [.int (-1)]) (σ' := σ) (by decide +kernel) rfl rfl ?_
    exact g_iret hx hr rfl _ rfl (by decide +kernel) (ok_some h)
  · have h := ok_f h c1
    refine g_run hx [(.iload_n 1, 0, 0), (.aload_n 0, 0, 0), (.getfield 9, 0, 0)] (pc' := 9) (lo' := [some (.ref 6), some (.int v1)]) (st' := [.int (gI σ 6 1), .int v1]) (σ' := σ) (by decide +kernel) rfl rfl ?_
    refine g_ic_ge hx (off := 21) (tgt := 30) (by decide +kernel) (by decide) (fun c9 => ?_) (fun c9 => ?_)
    · have h := ok_t h c9
      refine g_run hx [(.iconst (-1), (-1), 0)] (pc' := 31) (lo' := [some (.ref 6), some (.int v1)]) (st' := [.int (-1)]) (σ' := σ) (by decide +kernel) rfl rfl ?_
      exact g_iret hx hr rfl _ rfl (by decide +kernel) (ok_some h)
    · have h := ok_f h c9
      refine g_run hx [(.iload_n 1, 0, 0), (.aload_n 0, 0, 0), (.getfield 21, 0, 0), (.arraylength, 0, 0)] (pc' := 18) (lo' := [some (.ref 6), some (.int v1)]) (st' := [.int (nI 9), .int v1]) (σ' := σ) (by decide +kernel) rfl rfl ?_
      refine g_ic_ge hx (off := 12) (tgt := 30) (by decide +kernel) (by decide) (fun c18 => ?_) (fun c18 => ?_)
      · have h := ok_t h c18
        refine g_run hx [(.iconst (-1), (-1), 0)] (pc' := 31) (lo' := [some (.ref 6), some (.int v1)]) (st' := [.int (-1)]) (σ' := σ) (by decide +kernel) rfl rfl ?_
        exact g_iret hx hr rfl _ rfl (by decide +kernel) (ok_some h)
      · have h := ok_f h c18
        refine g_run hx [(.aload_n 0, 0, 0), (.getfield 21, 0, 0), (.iload_n 1, 0, 0)] (pc' := 26) (lo' := [some (.ref 6), some (.int v1)]) (st' := [.int v1, .ref 7]) (σ' := σ) (by decide +kernel) rfl rfl ?_
        obtain ⟨c26, h⟩ := ok_g h
        refine g_iald hx (by decide +kernel) (i := 7) (n := 9) rfl c26 ?_
        refine g_goto hx (off := 4) (tgt := 31) (by decide +kernel) (by decide) ?_
        exact g_iret hx hr rfl _ rfl (by decide +kernel) (ok_some h)
def f_reader_isLike_L19 (N : Nat) : Nat → Int32 → Int32 → Sg → Option (Bool × Sg)
  | 0, _, _, _ => none
  | n + 1, v1, v3, σ =>
    if ((gI σ 1 5) - (gI σ 1 4)) ≤ v3 then
      some (true, σ)
    else
      (f_reader_byteAt N (v1 + v3) σ).bind fun q1 =>
      (f_reader_byteAt N ((gI q1.2 1 4) + v3) q1.2).bind fun q2 =>
      if q1.1 = q2.1 then
        f_reader_isLike_L19 N n v1 (v3 + 1) q2.2
      else
        some (false, q2.2)
def f_reader_isLike (N : Nat) (v1 : Int32) (v2 : Int32) (σ : Sg) : Option (Bool × Sg) :=
  if (v2 - v1) = ((gI σ 1 5) - (gI σ 1 4)) then
    f_reader_isLike_L19 N N v1 0 σ
  else
    some (false, σ)
set_option maxRecDepth 100000 in
theorem s_reader_isLike_L19 {y : EX} {N : Nat} {x : CX} {P : Bool × Sg → Prop} (hx : Cx 5 prog_7_method_21_code x) (hc : Cc y 4 1 x) (hr : Cr M_reader_isLike rvB P x) : ∀ (n : Nat) (v1 : Int32) (v3 : Int32) (σ : Sg), ok (f_reader_isLike_L19 N n v1 v3 σ) P → G x 19 [some (.ref 1), some (.int v1), none, some (.int v3)] [] σ := by
  intro n
  induction n with
  | zero => intro v1 v3 σ h; exact ok_none h
  | succ n ih =>
    intro v1 v3 σ h
    rw [f_reader_isLike_L19] at h
    refine g_run hx [(.iload_n 3, 0, 0), (.aload_n 0, 0, 0), (.getfield 28, 0, 0), (.aload_n 0, 0, 0), (.getfield 25, 0, 0), (.isub, 0, 0)] (pc' := 29) (lo' := [some (.ref 1), some (.int v1), none, some (.int v3)]) (st' := [.int ((gI σ 1 5) - (gI σ 1 4)), .int v3]) (σ' := σ) (by decide +kernel) rfl rfl ?_
    refine g_ic_ge hx (off := 31) (tgt := 60) (by decide +kernel) (by decide) (fun c29 => ?_) (fun c29 => ?_)
    · have h := ok_t h c29
      refine g_run hx [(.iconst 1, 1, 0)] (pc' := 61) (lo' := [some (.ref 1), some (.int v1), none, some (.int v3)]) (st' := [.int 1]) (σ' := σ) (by decide +kernel) rfl rfl ?_
      exact g_zret (b := true) hx hr rfl true rfl (by decide +kernel) (ok_some h)
    · have h := ok_f h c29
      refine g_run hx [(.aload_n 0, 0, 0), (.iload_n 1, 0, 0), (.iload_n 3, 0, 0), (.iadd, 0, 0)] (pc' := 36) (lo' := [some (.ref 1), some (.int v1), none, some (.int v3)]) (st' := [.int (v1 + v3), .ref 1]) (σ' := σ) (by decide +kernel) rfl rfl ?_
      refine g_callV (rest := []) [.int (v1 + v3)] hx hc mk_reader_byteAt ln_5_242 rfl (by decide +kernel) (by decide) (Nat.le_of_ble_eq_true rfl) (s_reader_byteAt (ok_b h)) (fun r1 s1 h => ?_)
      refine g_run hx [(.aload_n 0, 0, 0), (.aload_n 0, 0, 0), (.getfield 25, 0, 0), (.iload_n 3, 0, 0), (.iadd, 0, 0)] (pc' := 46) (lo' := [some (.ref 1), some (.int v1), none, some (.int v3)]) (st' := [.int ((gI s1 1 4) + v3), .ref 1, .int r1]) (σ' := s1) (by decide +kernel) rfl rfl ?_
      refine g_callV (rest := [.int r1]) [.int ((gI s1 1 4) + v3)] hx hc mk_reader_byteAt ln_5_242 rfl (by decide +kernel) (by decide) (Nat.le_of_ble_eq_true rfl) (s_reader_byteAt (ok_b h)) (fun r2 s2 h => ?_)
      refine g_ic_eq hx (off := 5) (tgt := 54) (by decide +kernel) (by decide) (fun c49 => ?_) (fun c49 => ?_)
      · have h := ok_t h c49
        refine g_run hx [(.iinc 3 1, 1, 0)] (pc' := 57) (lo' := [some (.ref 1), some (.int v1), none, some (.int (v3 + 1))]) (st' := []) (σ' := s2) (by decide +kernel) rfl rfl ?_
        refine g_goto hx (off := (-38)) (tgt := 19) (by decide +kernel) (by decide) ?_
        exact ih _ _ _ h
      · have h := ok_f h c49
        refine g_run hx [(.iconst 0, 0, 0)] (pc' := 53) (lo' := [some (.ref 1), some (.int v1), none, some (.int v3)]) (st' := [.int 0]) (σ' := s2) (by decide +kernel) rfl rfl ?_
        exact g_zret (b := false) hx hr rfl false rfl (by decide +kernel) (ok_some h)
set_option maxRecDepth 100000 in
theorem s_reader_isLike {y : EX} {N : Nat} {v1 : Int32} {v2 : Int32} {σ : Sg} {P : Bool × Sg → Prop} (h : ok (f_reader_isLike N v1 v2 σ) P) : Ev y M_reader_isLike 1 [.ref 1, .int v1, .int v2] σ rvB P := by
  refine Ev.of mk_reader_isLike (Nat.le_of_ble_eq_true rfl) (fun x hx hc hr => ?_)
  have hx : Cx 5 prog_7_method_21_code x := hx
  have hc : Cc y 4 1 x := hc
  show G x 0 [some (.ref 1), some (.int v1), some (.int v2), none] [] σ
  unfold f_reader_isLike at h
  refine g_run hx [(.iload_n 2, 0, 0), (.iload_n 1, 0, 0), (.isub, 0, 0), (.aload_n 0, 0, 0), (.getfield 28, 0, 0), (.aload_n 0, 0, 0), (.getfield 25, 0, 0), (.isub, 0, 0)] (pc' := 12) (lo' := [some (.ref 1), some (.int v1), some (.int v2), none]) (st' := [.int ((gI σ 1 5) - (gI σ 1 4)), .int (v2 - v1)]) (σ' := σ) (by decide +kernel) rfl rfl ?_
  refine g_ic_eq hx (off := 5) (tgt := 17) (by decide +kernel) (by decide) (fun c12 => ?_) (fun c12 => ?_)
  · have h := ok_t h c12
    refine g_run hx [(.iconst 0, 0, 0), (.istore_n 3, 0, 0)] (pc' := 19) (lo' := [some (.ref 1), some (.int v1), some (.int v2), some (.int 0)]) (st' := []) (σ' := σ) (by decide +kernel) rfl rfl ?_
    refine g_wk (lo' := [some (.ref 1), some (.int v1), none, some (.int 0)]) ⟨rfl, ⟨rfl, ⟨rfl, trivial⟩⟩⟩ ?_
    refine s_reader_isLike_L19 hx hc hr N _ _ _ h
  · have h := ok_f h c12
    refine g_run hx [(.iconst 0, 0, 0)] (pc' := 16) (lo' := [some (.ref 1), some (.int v1), some (.int v2), none]) (st' := [.int 0]) (σ' := σ) (by decide +kernel) rfl rfl ?_
    exact g_zret (b := false) hx hr rfl false rfl (by decide +kernel) (ok_some h)
