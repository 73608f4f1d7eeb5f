set_option maxRecDepth 100000 in
theorem w_f_m_strideOn {N : Nat} {a0 : Nat} {a1 : Nat} {a2 : Nat} {a3 : Nat} {v2 : Int32} {v3 : Int32} {σ : Sg} {z : Bool × Sg} (h : f_m_strideOn N a0 a1 a2 a3 v2 v3 σ = some z) : Fr [(a0, none)] σ z.2 := by
  unfold f_m_strideOn at h
  obtain ⟨q1, e_q1, h⟩ := bind_some_inv h
  have h_q1 : Fr [(a0, none)] _ q1.2 := (Fr.tr Fr.rf (Fr.mono (w_f_m_leadOf e_q1) rfl))
  rcases ite_some_inv h with h | h
  · rcases ite_some_inv h with h | h
    · rcases ite_some_inv h with h | h
      · exact (Fr.tr h_q1 (Fr.monoP (w_f_m_strideOn_L62 _ _ _ _ _ _ h) (by simp)))
      · exact (Fr.tr h_q1 (Fr.monoP (w_f_m_strideOn_L62 _ _ _ _ _ _ h) (by simp)))
    · rcases ite_some_inv h with h | h
      · exact (Fr.tr h_q1 (Fr.monoP (w_f_m_strideOn_L62 _ _ _ _ _ _ h) (by simp)))
      · exact (Fr.tr h_q1 (Fr.monoP (w_f_m_strideOn_L62 _ _ _ _ _ _ h) (by simp)))
  · cases h
    exact h_q1
set_option maxRecDepth 100000 in
theorem w_f_m_wrongBy_L40 {N : Nat} {W : WL} (hW : ∀ e ∈ ([] : WL), e ∈ W) : ∀ (n : Nat) (v1 : Int32) (v2 : Int32) (v3 : Int32) (v4 : Int32) (σ : Sg) (k86 : (Int32 → Int32 → Int32 → Sg → Option (Int32 × Sg))) (z : Int32 × Sg) (h_k86 : ∀ (u0 : Int32) (u1 : Int32) (u2 : Int32) (u3 : Sg) z, k86 u0 u1 u2 u3 = some z → Fr W u3 z.2), f_m_wrongBy_L40 N n v1 v2 v3 v4 σ k86 = some z → Fr W σ z.2 := by
  intro n
  induction n with
  | zero => intro v1 v2 v3 v4 σ k86 z h_k86 h; exact nomatch (show (none : Option (Int32 × Sg)) = some z from h)
  | succ n ih =>
    intro v1 v2 v3 v4 σ k86 z h_k86 h
    unfold f_m_wrongBy_L40 at h
    rcases ite_some_inv h with h | h
    · exact (Fr.tr Fr.rf (h_k86 _ _ _ _ _ h))
    · obtain ⟨q2, e_q2, h⟩ := bind_some_inv h
      have h_q2 : Fr W _ q2.2 := (Fr.tr Fr.rf (Fr.monoP (Fr.mono (w_f_m_hasBit e_q2) rfl) hW))
      rcases ite_some_inv h with h | h
      · rcases ite_some_inv h with h | h
        · rcases ite_some_inv h with h | h
          · exact (Fr.tr h_q2 (ih _ _ _ _ _ _ _ h_k86 h))
          · exact (Fr.tr h_q2 (ih _ _ _ _ _ _ _ h_k86 h))
        · cases h
      · exact (Fr.tr h_q2 (ih _ _ _ _ _ _ _ h_k86 h))
set_option maxRecDepth 100000 in
theorem w_f_m_wrongBy_L17 {N : Nat} {W : WL} (hW : ∀ e ∈ ([(75, none)] : WL), e ∈ W) : ∀ (n : Nat) (v1 : Int32) (v2 : Int32) (σ : Sg) (k116 : (Sg → Option (Int32 × Sg))) (z : Int32 × Sg) (h_k116 : ∀ (u0 : Sg) z, k116 u0 = some z → Fr W u0 z.2), f_m_wrongBy_L17 N n v1 v2 σ k116 = some z → Fr W σ z.2 := by
  intro n
  induction n with
  | zero => intro v1 v2 σ k116 z h_k116 h; exact nomatch (show (none : Option (Int32 × Sg)) = some z from h)
  | succ n ih =>
    intro v1 v2 σ k116 z h_k116 h
    unfold f_m_wrongBy_L17 at h
    rcases ite_some_inv h with h | h
    · exact (Fr.tr Fr.rf (h_k116 _ _ h))
    · rcases ite_some_inv h with h | h
      · exact (Fr.tr Fr.rf (w_f_m_wrongBy_L40 (W := W) (fun e he => by cases he)  _ _ _ _ _ _ _ _ (fun w1 w2 w3 t3 z h => by
            obtain ⟨q4, e_q4, h⟩ := bind_some_inv h
            have h_q4 : Fr W _ q4.2 := (Fr.tr Fr.rf (Fr.monoP (Fr.mono (w_f_m_strideOn e_q4) rfl) hW))
            rcases ite_some_inv h with h | h
            · exact (Fr.tr h_q4 (ih _ _ _ _ _ h_k116 h))
            · cases h
              exact h_q4
          ) h))
      · cases h
set_option maxRecDepth 100000 in
theorem w_f_m_wrongBy_L118 {N : Nat} : ∀ (n : Nat) (v2 : Int32) (σ : Sg) (z : Int32 × Sg), f_m_wrongBy_L118 N n v2 σ = some z → Fr [] σ z.2 := by
  intro n
  induction n with
  | zero => intro v2 σ z  h; exact nomatch (show (none : Option (Int32 × Sg)) = some z from h)
  | succ n ih =>
    intro v2 σ z  h
    unfold f_m_wrongBy_L118 at h
    rcases ite_some_inv h with h | h
    · cases h
      exact Fr.rf
    · rcases ite_some_inv h with h | h
      · rcases ite_some_inv h with h | h
        · rcases ite_some_inv h with h | h
          · rcases ite_some_inv h with h | h
            · exact (Fr.tr Fr.rf (ih _ _ _ h))
            · cases h
              exact Fr.rf
          · cases h
        · cases h
      · cases h
set_option maxRecDepth 100000 in
theorem w_f_m_wrongBy {N : Nat} {v1 : Int32} {σ : Sg} {z : Int32 × Sg} (h : f_m_wrongBy N v1 σ = some z) : Fr [(75, none)] σ z.2 := by
  unfold f_m_wrongBy at h
  obtain ⟨q1, e_q1, h⟩ := bind_some_inv h
  have h_q1 : Fr [(75, none)] _ q1.2 := (Fr.tr Fr.rf (Fr.mono (w_f_m_copy e_q1) rfl))
  exact (Fr.tr h_q1 (w_f_m_wrongBy_L17 (W := [(75, none)]) (fun e he => List.mem_of_elem_eq_true (List.all_eq_true.mp (show ([(75, none)] : WL).all (fun e => List.elem e [(75, none)]) = true from rfl) e he))  _ _ _ _ _ _ (fun t5 z h => by
      exact (Fr.tr Fr.rf (Fr.mono (w_f_m_wrongBy_L118 _ _ _ _ h) rfl))
    ) h))
set_option maxRecDepth 100000 in
theorem w_f_m_seekSets_L28 {N : Nat} {W : WL} (hW : ∀ e ∈ ([(84, none)] : WL), e ∈ W) : ∀ (n : Nat) (v1 : Int32) (v2 : Int32) (v3 : Int32) (σ : Sg) (k46 : (Int32 → Int32 → Sg → Option (Int32 × Sg))) (z : Int32 × Sg) (h_k46 : ∀ (u0 : Int32) (u1 : Int32) (u2 : Sg) z, k46 u0 u1 u2 = some z → Fr W u2 z.2), f_m_seekSets_L28 N n v1 v2 v3 σ k46 = some z → Fr W σ z.2 := by
  intro n
  induction n with
  | zero => intro v1 v2 v3 σ k46 z h_k46 h; exact nomatch (show (none : Option (Int32 × Sg)) = some z from h)
  | succ n ih =>
    intro v1 v2 v3 σ k46 z h_k46 h
    unfold f_m_seekSets_L28 at h
    rcases ite_some_inv h with h | h
    · exact (Fr.tr Fr.rf (h_k46 _ _ _ _ h))
    · rcases ite_some_inv h with h | h
      · exact (Fr.tr (Fr.wA Fr.rf (hW _ (List.elem_iff.mp rfl))) (ih _ _ _ _ _ _ h_k46 h))
      · cases h
set_option maxRecDepth 100000 in
theorem w_f_m_seekSets_L116 {N : Nat} {W : WL} (hW : ∀ e ∈ ([(84, none)] : WL), e ∈ W) : ∀ (n : Nat) (v1 : Int32) (v2 : Int32) (v3 : Int32) (v4 : Int32) (σ : Sg) (k149 : (Int32 → Int32 → Int32 → Sg → Option (Int32 × Sg))) (z : Int32 × Sg) (h_k149 : ∀ (u0 : Int32) (u1 : Int32) (u2 : Int32) (u3 : Sg) z, k149 u0 u1 u2 u3 = some z → Fr W u3 z.2), f_m_seekSets_L116 N n v1 v2 v3 v4 σ k149 = some z → Fr W σ z.2 := by
  intro n
  induction n with
  | zero => intro v1 v2 v3 v4 σ k149 z h_k149 h; exact nomatch (show (none : Option (Int32 × Sg)) = some z from h)
  | succ n ih =>
    intro v1 v2 v3 v4 σ k149 z h_k149 h
    unfold f_m_seekSets_L116 at h
    rcases ite_some_inv h with h | h
    · exact (Fr.tr Fr.rf (h_k149 _ _ _ _ _ h))
    · rcases ite_some_inv h with h | h
      · rcases ite_some_inv h with h | h
        · exact (Fr.tr (Fr.wA Fr.rf (hW _ (List.elem_iff.mp rfl))) (ih _ _ _ _ _ _ _ h_k149 h))
        · cases h
      · cases h
set_option maxRecDepth 100000 in
theorem w_f_m_seekSets_L48 {N : Nat} : ∀ (n : Nat) (v1 : Int32) (v2 : Int32) (v3 : Int32) (σ : Sg) (z : Int32 × Sg), f_m_seekSets_L48 N n v1 v2 v3 σ = some z → Fr [(66, some 45), (66, some 46), (66, some 47), (75, none), (84, none)] σ z.2 := by
  intro n
  induction n with
  | zero => intro v1 v2 v3 σ z  h; exact nomatch (show (none : Option (Int32 × Sg)) = some z from h)
  | succ n ih =>
    intro v1 v2 v3 σ z  h
    unfold f_m_seekSets_L48 at h
    rcases ite_some_inv h with h | h
    · rcases ite_some_inv h with h | h
      · cases h
        exact (Fr.wI Fr.rf (List.elem_iff.mp rfl))
      · cases h
        exact Fr.rf
    · obtain ⟨q2, e_q2, h⟩ := bind_some_inv h
      have h_q2 : Fr [(66, some 45), (66, some 46), (66, some 47), (75, none), (84, none)] _ q2.2 := (Fr.tr Fr.rf (Fr.mono (w_f_m_wrongBy e_q2) rfl))
      rcases ite_some_inv h with h | h
      · rcases ite_some_inv h with h | h
        · exact (Fr.tr (Fr.wI (Fr.wI (Fr.wI h_q2 (List.elem_iff.mp rfl)) (List.elem_iff.mp rfl)) (List.elem_iff.mp rfl)) (w_f_m_seekSets_L116 (W := [(66, some 45), (66, some 46), (66, some 47), (75, none), (84, none)]) (fun e he => List.mem_of_elem_eq_true (List.all_eq_true.mp (show ([(84, none)] : WL).all (fun e => List.elem e [(66, some 45), (66, some 46), (66, some 47), (75, none), (84, none)]) = true from rfl) e he))  _ _ _ _ _ _ _ _ (fun w1 w2 w3 t4 z h => by
              exact (Fr.tr Fr.rf (ih _ _ _ _ _ h))
            ) h))
        · exact (Fr.tr (Fr.wI (Fr.wI (Fr.wI h_q2 (List.elem_iff.mp rfl)) (List.elem_iff.mp rfl)) (List.elem_iff.mp rfl)) (w_f_m_seekSets_L116 (W := [(66, some 45), (66, some 46), (66, some 47), (75, none), (84, none)]) (fun e he => List.mem_of_elem_eq_true (List.all_eq_true.mp (show ([(84, none)] : WL).all (fun e => List.elem e [(66, some 45), (66, some 46), (66, some 47), (75, none), (84, none)]) = true from rfl) e he))  _ _ _ _ _ _ _ _ (fun w1 w2 w3 t3 z h => by
              exact (Fr.tr Fr.rf (ih _ _ _ _ _ h))
            ) h))
      · exact (Fr.tr h_q2 (ih _ _ _ _ _ h))
set_option maxRecDepth 100000 in
theorem w_f_m_seekSets {N : Nat} {v1 : Int32} {σ : Sg} {z : Int32 × Sg} (h : f_m_seekSets N v1 σ = some z) : Fr [(66, some 45), (66, some 46), (66, some 47), (75, none), (84, none)] σ z.2 := by
  unfold f_m_seekSets at h
  exact (Fr.tr (Fr.wI (Fr.wI (Fr.wI Fr.rf (List.elem_iff.mp rfl)) (List.elem_iff.mp rfl)) (List.elem_iff.mp rfl)) (w_f_m_seekSets_L28 (W := [(66, some 45), (66, some 46), (66, some 47), (75, none), (84, none)]) (fun e he => List.mem_of_elem_eq_true (List.all_eq_true.mp (show ([(84, none)] : WL).all (fun e => List.elem e [(66, some 45), (66, some 46), (66, some 47), (75, none), (84, none)]) = true from rfl) e he))  _ _ _ _ _ _ _ (fun w1 w2 t1 z h => by
      exact (Fr.tr Fr.rf (Fr.mono (w_f_m_seekSets_L48 _ _ _ _ _ _ h) rfl))
    ) h))
set_option maxRecDepth 100000 in
theorem w_f_m_leavesOf {N : Nat} {v1 : Int32} {σ : Sg} {z : Int32 × Sg} (h : f_m_leavesOf N v1 σ = some z) : Fr [] σ z.2 := by
  unfold f_m_leavesOf at h
  rcases ite_some_inv h with h | h
  · rcases ite_some_inv h with h | h
    · rcases ite_some_inv h with h | h
      · rcases ite_some_inv h with h | h
        · cases h
          exact Fr.rf
        · cases h
      · rcases ite_some_inv h with h | h
        · cases h
          exact Fr.rf
        · cases h
    · cases h
  · cases h
set_option maxRecDepth 100000 in
theorem w_f_m_askOf_L11 {N : Nat} : ∀ (n : Nat) (v1 : Int32) (v2 : Int32) (σ : Sg) (z : Int32 × Sg), f_m_askOf_L11 N n v1 v2 σ = some z → Fr [] σ z.2 := by
  intro n
  induction n with
  | zero => intro v1 v2 σ z  h; exact nomatch (show (none : Option (Int32 × Sg)) = some z from h)
  | succ n ih =>
    intro v1 v2 σ z  h
    unfold f_m_askOf_L11 at h
    rcases ite_some_inv h with h | h
    · cases h
      exact Fr.rf
    · rcases ite_some_inv h with h | h
      · cases h
        exact Fr.rf
      · rcases ite_some_inv h with h | h
        · exact (Fr.tr Fr.rf (ih _ _ _ _ h))
        · obtain ⟨q2, e_q2, h⟩ := bind_some_inv h
          have h_q2 : Fr [] _ q2.2 := (Fr.tr Fr.rf (Fr.mono (w_f_m_leavesOf e_q2) rfl))
          obtain ⟨q3, e_q3, h⟩ := bind_some_inv h
          have h_q3 : Fr [] _ q3.2 := (Fr.tr h_q2 (Fr.mono (w_f_m_leavesOf e_q3) rfl))
          rcases ite_some_inv h with h | h
          · exact (Fr.tr h_q3 (ih _ _ _ _ h))
          · exact (Fr.tr h_q3 (ih _ _ _ _ h))
set_option maxRecDepth 100000 in
theorem w_f_m_askOf {N : Nat} {σ : Sg} {z : Int32 × Sg} (h : f_m_askOf N σ = some z) : Fr [(66, some 45), (66, some 46), (66, some 47), (75, none), (84, none)] σ z.2 := by
  unfold f_m_askOf at h
  obtain ⟨q1, e_q1, h⟩ := bind_some_inv h
  have h_q1 : Fr [(66, some 45), (66, some 46), (66, some 47), (75, none), (84, none)] _ q1.2 := (Fr.tr Fr.rf (Fr.mono (w_f_m_seekSets e_q1) rfl))
  exact (Fr.tr h_q1 (Fr.mono (w_f_m_askOf_L11 _ _ _ _ _ h) rfl))
set_option maxRecDepth 100000 in
theorem w_f_m_ask {N : Nat} {σ : Sg} {z : Int32 × Sg} (h : f_m_ask N σ = some z) : Fr [(66, some 0), (66, some 11), (66, some 45), (66, some 46), (66, some 47), (75, none), (84, none)] σ z.2 := by
  unfold f_m_ask at h
  obtain ⟨q1, e_q1, h⟩ := bind_some_inv h
  have h_q1 : Fr [(66, some 0), (66, some 11), (66, some 45), (66, some 46), (66, some 47), (75, none), (84, none)] _ q1.2 := (Fr.tr Fr.rf (Fr.mono (w_f_m_anew e_q1) rfl))
  rcases ite_some_inv h with h | h
  · obtain ⟨q2, e_q2, h⟩ := bind_some_inv h
    have h_q2 : Fr [(66, some 0), (66, some 11), (66, some 45), (66, some 46), (66, some 47), (75, none), (84, none)] _ q2.2 := (Fr.tr h_q1 (Fr.mono (w_f_m_no e_q2) rfl))
    cases h
    exact h_q2
  · obtain ⟨q3, e_q3, h⟩ := bind_some_inv h
    have h_q3 : Fr [(66, some 0), (66, some 11), (66, some 45), (66, some 46), (66, some 47), (75, none), (84, none)] _ q3.2 := (Fr.tr h_q1 (Fr.mono (w_f_m_askOf e_q3) rfl))
    cases h
    exact h_q3
set_option maxRecDepth 100000 in
theorem w_f_m_askLeaves {N : Nat} {σ : Sg} {z : Int32 × Sg} (h : f_m_askLeaves N σ = some z) : Fr [(66, some 0), (66, some 11), (66, some 45), (66, some 46), (66, some 47), (75, none), (84, none)] σ z.2 := by
  unfold f_m_askLeaves at h
  obtain ⟨q1, e_q1, h⟩ := bind_some_inv h
  have h_q1 : Fr [(66, some 0), (66, some 11), (66, some 45), (66, some 46), (66, some 47), (75, none), (84, none)] _ q1.2 := (Fr.tr Fr.rf (Fr.mono (w_f_m_anew e_q1) rfl))
  rcases ite_some_inv h with h | h
  · obtain ⟨q4, e_q4, h⟩ := bind_some_inv h
    have h_q4 : Fr [(66, some 0), (66, some 11), (66, some 45), (66, some 46), (66, some 47), (75, none), (84, none)] _ q4.2 := (Fr.tr h_q1 (Fr.mono (w_f_m_no e_q4) rfl))
    cases h
    exact h_q4
  · obtain ⟨q2, e_q2, h⟩ := bind_some_inv h
    have h_q2 : Fr [(66, some 0), (66, some 11), (66, some 45), (66, some 46), (66, some 47), (75, none), (84, none)] _ q2.2 := (Fr.tr h_q1 (Fr.mono (w_f_m_askOf e_q2) rfl))
    rcases ite_some_inv h with h | h
    · obtain ⟨q3, e_q3, h⟩ := bind_some_inv h
      have h_q3 : Fr [(66, some 0), (66, some 11), (66, some 45), (66, some 46), (66, some 47), (75, none), (84, none)] _ q3.2 := (Fr.tr h_q2 (Fr.mono (w_f_m_leavesOf e_q3) rfl))
      cases h
      exact h_q3
    · cases h
      exact h_q2
set_option maxRecDepth 100000 in
theorem w_f_m_isNot {N : Nat} {v1 : Int32} {σ : Sg} {z : Bool × Sg} (h : f_m_isNot N v1 σ = some z) : Fr [(66, some 11)] σ z.2 := by
  unfold f_m_isNot at h
  cases h
  exact (Fr.wI Fr.rf (List.elem_iff.mp rfl))
set_option maxRecDepth 100000 in
theorem w_f_m_back {N : Nat} {v1 : Int32} {σ : Sg} {z : Bool × Sg} (h : f_m_back N v1 σ = some z) : Fr [(66, some 0), (66, some 11), (66, some 24), (74, none)] σ z.2 := by
  unfold f_m_back at h
  obtain ⟨q1, e_q1, h⟩ := bind_some_inv h
  have h_q1 : Fr [(66, some 0), (66, some 11), (66, some 24), (74, none)] _ q1.2 := (Fr.tr Fr.rf (Fr.mono (w_f_m_anew e_q1) rfl))
  obtain ⟨q2, e_q2, h⟩ := bind_some_inv h
  have h_q2 : Fr [(66, some 0), (66, some 11), (66, some 24), (74, none)] _ q2.2 := (Fr.tr h_q1 (Fr.mono (w_f_m_in e_q2) rfl))
  rcases ite_some_inv h with h | h
  · obtain ⟨q3, e_q3, h⟩ := bind_some_inv h
    have h_q3 : Fr [(66, some 0), (66, some 11), (66, some 24), (74, none)] _ q3.2 := (Fr.tr h_q2 (Fr.mono (w_f_m_copy e_q3) rfl))
    cases h
    exact (Fr.wI h_q3 (List.elem_iff.mp rfl))
  · obtain ⟨q4, e_q4, h⟩ := bind_some_inv h
    have h_q4 : Fr [(66, some 0), (66, some 11), (66, some 24), (74, none)] _ q4.2 := (Fr.tr h_q2 (Fr.mono (w_f_m_isNot e_q4) rfl))
    cases h
    exact h_q4
set_option maxRecDepth 100000 in
theorem w_f_m_isCell {N : Nat} {v1 : Int32} {σ : Sg} {z : Bool × Sg} (h : f_m_isCell N v1 σ = some z) : Fr [] σ z.2 := by
  unfold f_m_isCell at h
  rcases ite_some_inv h with h | h
  · cases h
    exact Fr.rf
  · obtain ⟨q1, e_q1, h⟩ := bind_some_inv h
    have h_q1 : Fr [] _ q1.2 := (Fr.tr Fr.rf (Fr.mono (w_f_m_in e_q1) rfl))
    rcases ite_some_inv h with h | h
    · cases h
      exact h_q1
    · cases h
      exact h_q1
set_option maxRecDepth 100000 in
theorem w_f_m_begin {N : Nat} {σ : Sg} {z : Unit × Sg} (h : f_m_begin N σ = some z) : Fr [(75, none)] σ z.2 := by
  unfold f_m_begin at h
  obtain ⟨q1, e_q1, h⟩ := bind_some_inv h
  have h_q1 : Fr [(75, none)] _ q1.2 := (Fr.tr Fr.rf (Fr.mono (w_f_m_copy e_q1) rfl))
  cases h
  exact h_q1
set_option maxRecDepth 100000 in
theorem w_f_m_yearOn_L9 {N : Nat} {a0 : Nat} {a1 : Nat} {a2 : Nat} {a3 : Nat} {a4 : Nat} {a5 : Nat} {a6 : Nat} {W : WL} (hW : ∀ e ∈ ([(a3, none)] : WL), e ∈ W) : ∀ (n : Nat) (v2 : Int32) (v3 : Int32) (σ : Sg) (k34 : (Int32 → Sg → Option (Int32 × Sg))) (z : Int32 × Sg) (h_k34 : ∀ (u0 : Int32) (u1 : Sg) z, k34 u0 u1 = some z → Fr W u1 z.2), f_m_yearOn_L9 N a0 a1 a2 a3 a4 a5 a6 n v2 v3 σ k34 = some z → Fr W σ z.2 := by
  intro n
  induction n with
  | zero => intro v2 v3 σ k34 z h_k34 h; exact nomatch (show (none : Option (Int32 × Sg)) = some z from h)
  | succ n ih =>
    intro v2 v3 σ k34 z h_k34 h
    unfold f_m_yearOn_L9 at h
    rcases ite_some_inv h with h | h
    · exact (Fr.tr Fr.rf (h_k34 _ _ _ h))
    · rcases ite_some_inv h with h | h
      · rcases ite_some_inv h with h | h
        · exact (Fr.tr (Fr.wA Fr.rf (hW _ (by simp))) (ih _ _ _ _ _ h_k34 h))
        · cases h
      · cases h
set_option maxRecDepth 100000 in
theorem w_f_m_yearOn_L36 {N : Nat} {a0 : Nat} {a1 : Nat} {a2 : Nat} {a3 : Nat} {a4 : Nat} {a5 : Nat} {a6 : Nat} : ∀ (n : Nat) (v2 : Int32) (v3 : Int32) (σ : Sg) (z : Int32 × Sg), f_m_yearOn_L36 N a0 a1 a2 a3 a4 a5 a6 n v2 v3 σ = some z → Fr [(a4, none), (a6, some 27)] σ z.2 := by
  intro n
  induction n with
  | zero => intro v2 v3 σ z  h; exact nomatch (show (none : Option (Int32 × Sg)) = some z from h)
  | succ n ih =>
    intro v2 v3 σ z  h
    unfold f_m_yearOn_L36 at h
    rcases ite_some_inv h with h | h
    · cases h
      exact (Fr.wA Fr.rf (by simp))
    · rcases ite_some_inv h with h | h
      · rcases ite_some_inv h with h | h
        · rcases ite_some_inv h with h | h
          · rcases ite_some_inv h with h | h
            · exact (Fr.tr Fr.rf (ih _ _ _ _ h))
            · exact (Fr.tr Fr.rf (ih _ _ _ _ h))
          · cases h
        · rcases ite_some_inv h with h | h
          · rcases ite_some_inv h with h | h
            · rcases ite_some_inv h with h | h
              · rcases ite_some_inv h with h | h
                · exact (Fr.tr Fr.rf (ih _ _ _ _ h))
                · rcases ite_some_inv h with h | h
                  · rcases ite_some_inv h with h | h
                    · exact (Fr.tr Fr.rf (ih _ _ _ _ h))
                    · rcases ite_some_inv h with h | h
                      · rcases ite_some_inv h with h | h
                        · rcases ite_some_inv h with h | h
                          · rcases ite_some_inv h with h | h
                            · exact (Fr.tr (Fr.wI (Fr.wA Fr.rf (by simp)) (by simp)) (ih _ _ _ _ h))
                            · exact (Fr.tr (Fr.wI (Fr.wA Fr.rf (by simp)) (by simp)) (ih _ _ _ _ h))
                          · cases h
                        · cases h
                      · cases h
                  · cases h
              · cases h
            · rcases ite_some_inv h with h | h
              · rcases ite_some_inv h with h | h
                · exact (Fr.tr Fr.rf (ih _ _ _ _ h))
                · exact (Fr.tr Fr.rf (ih _ _ _ _ h))
              · cases h
          · cases h
      · rcases ite_some_inv h with h | h
        · rcases ite_some_inv h with h | h
          · rcases ite_some_inv h with h | h
            · rcases ite_some_inv h with h | h
              · exact (Fr.tr Fr.rf (ih _ _ _ _ h))
              · rcases ite_some_inv h with h | h
                · rcases ite_some_inv h with h | h
                  · exact (Fr.tr Fr.rf (ih _ _ _ _ h))
                  · rcases ite_some_inv h with h | h
                    · rcases ite_some_inv h with h | h
                      · rcases ite_some_inv h with h | h
                        · rcases ite_some_inv h with h | h
                          · exact (Fr.tr (Fr.wI (Fr.wA Fr.rf (by simp)) (by simp)) (ih _ _ _ _ h))
                          · exact (Fr.tr (Fr.wI (Fr.wA Fr.rf (by simp)) (by simp)) (ih _ _ _ _ h))
                        · cases h
                      · cases h
                    · cases h
                · cases h
            · cases h
          · rcases ite_some_inv h with h | h
            · rcases ite_some_inv h with h | h
              · rcases ite_some_inv h with h | h
                · exact (Fr.tr Fr.rf (ih _ _ _ _ h))
                · exact (Fr.tr Fr.rf (ih _ _ _ _ h))
              · cases h
            · rcases ite_some_inv h with h | h
              · rcases ite_some_inv h with h | h
                · rcases ite_some_inv h with h | h
                  · rcases ite_some_inv h with h | h
                    · exact (Fr.tr Fr.rf (ih _ _ _ _ h))
                    · rcases ite_some_inv h with h | h
                      · rcases ite_some_inv h with h | h
                        · exact (Fr.tr Fr.rf (ih _ _ _ _ h))
                        · rcases ite_some_inv h with h | h
                          · rcases ite_some_inv h with h | h
                            · rcases ite_some_inv h with h | h
                              · rcases ite_some_inv h with h | h
                                · exact (Fr.tr (Fr.wI (Fr.wA Fr.rf (by simp)) (by simp)) (ih _ _ _ _ h))
                                · exact (Fr.tr (Fr.wI (Fr.wA Fr.rf (by simp)) (by simp)) (ih _ _ _ _ h))
                              · cases h
                            · cases h
                          · cases h
                      · cases h
                  · cases h
                · rcases ite_some_inv h with h | h
                  · rcases ite_some_inv h with h | h
                    · exact (Fr.tr Fr.rf (ih _ _ _ _ h))
                    · exact (Fr.tr Fr.rf (ih _ _ _ _ h))
                  · cases h
              · cases h
        · cases h
set_option maxRecDepth 100000 in
theorem w_f_m_yearOn {N : Nat} {a0 : Nat} {a1 : Nat} {a2 : Nat} {a3 : Nat} {a4 : Nat} {a5 : Nat} {a6 : Nat} {σ : Sg} {z : Int32 × Sg} (h : f_m_yearOn N a0 a1 a2 a3 a4 a5 a6 σ = some z) : Fr [(a3, none), (a4, none), (a6, some 27)] σ z.2 := by
  unfold f_m_yearOn at h
  exact (Fr.tr (Fr.wI Fr.rf (by simp)) (w_f_m_yearOn_L9 (W := [(a3, none), (a4, none), (a6, some 27)]) (by simp)  _ _ _ _ _ _ (fun w2 t1 z h => by
      exact (Fr.tr Fr.rf (Fr.monoP (w_f_m_yearOn_L36 _ _ _ _ _ h) (by simp)))
    ) h))
set_option maxRecDepth 100000 in
theorem w_f_m_backIn_L24 {N : Nat} : ∀ (n : Nat) (v1 : Int32) (v2 : Int32) (σ : Sg) (z : Int32 × Sg), f_m_backIn_L24 N n v1 v2 σ = some z → Fr [(66, some 27), (75, none), (78, none)] σ z.2 := by
  intro n
  induction n with
  | zero => intro v1 v2 σ z  h; exact nomatch (show (none : Option (Int32 × Sg)) = some z from h)
  | succ n ih =>
    intro v1 v2 σ z  h
    unfold f_m_backIn_L24 at h
    rcases ite_some_inv h with h | h
    · cases h
      exact Fr.rf
    · rcases ite_some_inv h with h | h
      · rcases ite_some_inv h with h | h
        · cases h
          exact Fr.rf
        · obtain ⟨q4, e_q4, h⟩ := bind_some_inv h
          have h_q4 : Fr [(66, some 27), (75, none), (78, none)] _ q4.2 := (Fr.tr Fr.rf (Fr.mono (w_f_m_yearOn e_q4) rfl))
          exact (Fr.tr h_q4 (ih _ _ _ _ h))
      · cases h
set_option maxRecDepth 100000 in
theorem w_f_m_backIn {N : Nat} {v1 : Int32} {σ : Sg} {z : Int32 × Sg} (h : f_m_backIn N v1 σ = some z) : Fr [(66, some 0), (66, some 11), (66, some 27), (75, none), (78, none)] σ z.2 := by
  unfold f_m_backIn at h
  obtain ⟨q1, e_q1, h⟩ := bind_some_inv h
  have h_q1 : Fr [(66, some 0), (66, some 11), (66, some 27), (75, none), (78, none)] _ q1.2 := (Fr.tr Fr.rf (Fr.mono (w_f_m_anew e_q1) rfl))
  obtain ⟨q2, e_q2, h⟩ := bind_some_inv h
  have h_q2 : Fr [(66, some 0), (66, some 11), (66, some 27), (75, none), (78, none)] _ q2.2 := (Fr.tr h_q1 (Fr.mono (w_f_m_isCell e_q2) rfl))
  rcases ite_some_inv h with h | h
  · obtain ⟨q3, e_q3, h⟩ := bind_some_inv h
    have h_q3 : Fr [(66, some 0), (66, some 11), (66, some 27), (75, none), (78, none)] _ q3.2 := (Fr.tr h_q2 (Fr.mono (w_f_m_begin e_q3) rfl))
    exact (Fr.tr h_q3 (Fr.mono (w_f_m_backIn_L24 _ _ _ _ _ h) rfl))
  · obtain ⟨q5, e_q5, h⟩ := bind_some_inv h
    have h_q5 : Fr [(66, some 0), (66, some 11), (66, some 27), (75, none), (78, none)] _ q5.2 := (Fr.tr h_q2 (Fr.mono (w_f_m_no e_q5) rfl))
    cases h
    exact h_q5
set_option maxRecDepth 100000 in
theorem w_f_m_goneFrom_L14 {N : Nat} : ∀ (n : Nat) (v1 : Int32) (v2 : Int32) (v3 : Int32) (v4 : Int32) (σ : Sg) (z : Int32 × Sg), f_m_goneFrom_L14 N n v1 v2 v3 v4 σ = some z → Fr [] σ z.2 := by
  intro n
  induction n with
  | zero => intro v1 v2 v3 v4 σ z  h; exact nomatch (show (none : Option (Int32 × Sg)) = some z from h)
  | succ n ih =>
    intro v1 v2 v3 v4 σ z  h
    unfold f_m_goneFrom_L14 at h
    rcases ite_some_inv h with h | h
    · rcases ite_some_inv h with h | h
      · cases h
        exact Fr.rf
      · rcases ite_some_inv h with h | h
        · rcases ite_some_inv h with h | h
          · exact (Fr.tr Fr.rf (ih _ _ _ _ _ _ h))
          · exact (Fr.tr Fr.rf (ih _ _ _ _ _ _ h))
        · cases h
    · rcases ite_some_inv h with h | h
      · cases h
        exact Fr.rf
      · rcases ite_some_inv h with h | h
        · rcases ite_some_inv h with h | h
          · exact (Fr.tr Fr.rf (ih _ _ _ _ _ _ h))
          · exact (Fr.tr Fr.rf (ih _ _ _ _ _ _ h))
        · cases h
set_option maxRecDepth 100000 in
theorem w_f_m_goneFrom {N : Nat} {v1 : Int32} {v2 : Int32} {σ : Sg} {z : Int32 × Sg} (h : f_m_goneFrom N v1 v2 σ = some z) : Fr [] σ z.2 := by
  unfold f_m_goneFrom at h
  rcases ite_some_inv h with h | h
  · exact (Fr.tr Fr.rf (Fr.mono (w_f_m_goneFrom_L14 _ _ _ _ _ _ _ h) rfl))
  · exact (Fr.tr Fr.rf (Fr.mono (w_f_m_goneFrom_L14 _ _ _ _ _ _ _ h) rfl))
set_option maxRecDepth 100000 in
theorem w_f_m_between {N : Nat} {v1 : Int32} {v2 : Int32} {σ : Sg} {z : Int32 × Sg} (h : f_m_between N v1 v2 σ = some z) : Fr [(66, some 0), (66, some 11)] σ z.2 := by
  unfold f_m_between at h
  obtain ⟨q1, e_q1, h⟩ := bind_some_inv h
  have h_q1 : Fr [(66, some 0), (66, some 11)] _ q1.2 := (Fr.tr Fr.rf (Fr.mono (w_f_m_anew e_q1) rfl))
  obtain ⟨q2, e_q2, h⟩ := bind_some_inv h
  have h_q2 : Fr [(66, some 0), (66, some 11)] _ q2.2 := (Fr.tr h_q1 (Fr.mono (w_f_m_isCell e_q2) rfl))
  rcases ite_some_inv h with h | h
  · obtain ⟨q4, e_q4, h⟩ := bind_some_inv h
    have h_q4 : Fr [(66, some 0), (66, some 11)] _ q4.2 := (Fr.tr h_q2 (Fr.mono (w_f_m_isCell e_q4) rfl))
    rcases ite_some_inv h with h | h
    · obtain ⟨q6, e_q6, h⟩ := bind_some_inv h
      have h_q6 : Fr [(66, some 0), (66, some 11)] _ q6.2 := (Fr.tr h_q4 (Fr.mono (w_f_m_goneFrom e_q6) rfl))
      cases h
      exact h_q6
    · obtain ⟨q5, e_q5, h⟩ := bind_some_inv h
      have h_q5 : Fr [(66, some 0), (66, some 11)] _ q5.2 := (Fr.tr h_q4 (Fr.mono (w_f_m_no e_q5) rfl))
      cases h
      exact h_q5
  · obtain ⟨q3, e_q3, h⟩ := bind_some_inv h
    have h_q3 : Fr [(66, some 0), (66, some 11)] _ q3.2 := (Fr.tr h_q2 (Fr.mono (w_f_m_no e_q3) rfl))
    cases h
    exact h_q3
set_option maxRecDepth 100000 in
theorem w_f_m_isBoots {N : Nat} {v1 : Int32} {σ : Sg} {z : Bool × Sg} (h : f_m_isBoots N v1 σ = some z) : Fr [] σ z.2 := by
  unfold f_m_isBoots at h
  rcases ite_some_inv h with h | h
  · cases h
    exact Fr.rf
  · obtain ⟨q1, e_q1, h⟩ := bind_some_inv h
    have h_q1 : Fr [] _ q1.2 := (Fr.tr Fr.rf (Fr.mono (w_f_m_in e_q1) rfl))
    rcases ite_some_inv h with h | h
    · cases h
      exact h_q1
    · cases h
      exact h_q1
set_option maxRecDepth 100000 in
theorem w_f_m_boots {N : Nat} {v1 : Int32} {σ : Sg} {z : Int32 × Sg} (h : f_m_boots N v1 σ = some z) : Fr [(66, some 0), (66, some 11)] σ z.2 := by
  unfold f_m_boots at h
  obtain ⟨q1, e_q1, h⟩ := bind_some_inv h
  have h_q1 : Fr [(66, some 0), (66, some 11)] _ q1.2 := (Fr.tr Fr.rf (Fr.mono (w_f_m_anew e_q1) rfl))
  obtain ⟨q2, e_q2, h⟩ := bind_some_inv h
  have h_q2 : Fr [(66, some 0), (66, some 11)] _ q2.2 := (Fr.tr h_q1 (Fr.mono (w_f_m_isBoots e_q2) rfl))
  rcases ite_some_inv h with h | h
  · rcases ite_some_inv h with h | h
    · cases h
      exact h_q2
    · cases h
  · obtain ⟨q3, e_q3, h⟩ := bind_some_inv h
    have h_q3 : Fr [(66, some 0), (66, some 11)] _ q3.2 := (Fr.tr h_q2 (Fr.mono (w_f_m_no e_q3) rfl))
    cases h
    exact h_q3
set_option maxRecDepth 100000 in
theorem w_f_m_placeAt_L2 {N : Nat} : ∀ (n : Nat) (v1 : Int32) (v2 : Int32) (σ : Sg) (z : Int32 × Sg), f_m_placeAt_L2 N n v1 v2 σ = some z → Fr [] σ z.2 := by
  intro n
  induction n with
  | zero => intro v1 v2 σ z  h; exact nomatch (show (none : Option (Int32 × Sg)) = some z from h)
  | succ n ih =>
    intro v1 v2 σ z  h
    unfold f_m_placeAt_L2 at h
    rcases ite_some_inv h with h | h
    · cases h
      exact Fr.rf
    · rcases ite_some_inv h with h | h
      · rcases ite_some_inv h with h | h
        · cases h
          exact Fr.rf
        · exact (Fr.tr Fr.rf (ih _ _ _ _ h))
      · cases h
set_option maxRecDepth 100000 in
theorem w_f_m_placeAt {N : Nat} {v1 : Int32} {σ : Sg} {z : Int32 × Sg} (h : f_m_placeAt N v1 σ = some z) : Fr [] σ z.2 := by
  unfold f_m_placeAt at h
  exact (Fr.tr Fr.rf (Fr.mono (w_f_m_placeAt_L2 _ _ _ _ _ h) rfl))
set_option maxRecDepth 100000 in
theorem w_f_m_cell {N : Nat} {v1 : Int32} {v2 : Int32} {σ : Sg} {z : Int32 × Sg} (h : f_m_cell N v1 v2 σ = some z) : Fr [(66, some 0), (66, some 11)] σ z.2 := by
  unfold f_m_cell at h
  obtain ⟨q1, e_q1, h⟩ := bind_some_inv h
  have h_q1 : Fr [(66, some 0), (66, some 11)] _ q1.2 := (Fr.tr Fr.rf (Fr.mono (w_f_m_anew e_q1) rfl))
  obtain ⟨q2, e_q2, h⟩ := bind_some_inv h
  have h_q2 : Fr [(66, some 0), (66, some 11)] _ q2.2 := (Fr.tr h_q1 (Fr.mono (w_f_m_isCell e_q2) rfl))
  rcases ite_some_inv h with h | h
  · obtain ⟨q4, e_q4, h⟩ := bind_some_inv h
    have h_q4 : Fr [(66, some 0), (66, some 11)] _ q4.2 := (Fr.tr h_q2 (Fr.mono (w_f_m_in e_q4) rfl))
    rcases ite_some_inv h with h | h
    · rcases ite_some_inv h with h | h
      · rcases ite_some_inv h with h | h
        · cases h
          exact h_q4
        · cases h
      · rcases ite_some_inv h with h | h
        · rcases ite_some_inv h with h | h
          · cases h
            exact h_q4
          · cases h
        · rcases ite_some_inv h with h | h
          · obtain ⟨q5, e_q5, h⟩ := bind_some_inv h
            have h_q5 : Fr [(66, some 0), (66, some 11)] _ q5.2 := (Fr.tr h_q4 (Fr.mono (w_f_m_placeAt e_q5) rfl))
            cases h
            exact h_q5
          · rcases ite_some_inv h with h | h
            · cases h
              exact h_q4
            · cases h
              exact h_q4
    · obtain ⟨q6, e_q6, h⟩ := bind_some_inv h
      have h_q6 : Fr [(66, some 0), (66, some 11)] _ q6.2 := (Fr.tr h_q4 (Fr.mono (w_f_m_no e_q6) rfl))
      cases h
      exact h_q6
  · obtain ⟨q3, e_q3, h⟩ := bind_some_inv h
    have h_q3 : Fr [(66, some 0), (66, some 11)] _ q3.2 := (Fr.tr h_q2 (Fr.mono (w_f_m_no e_q3) rfl))
    cases h
    exact h_q3
set_option maxRecDepth 100000 in
theorem w_f_m_digitOn {N : Nat} {a0 : Nat} {a1 : Nat} {a2 : Nat} {a3 : Nat} {v2 : Int32} {σ : Sg} {z : Bool × Sg} (h : f_m_digitOn N a0 a1 a2 a3 v2 σ = some z) : Fr [(a0, none)] σ z.2 := by
  unfold f_m_digitOn at h
  obtain ⟨q1, e_q1, h⟩ := bind_some_inv h
  have h_q1 : Fr [(a0, none)] _ q1.2 := (Fr.tr Fr.rf (Fr.monoP (w_f_m_strideOn e_q1) (by simp)))
  cases h
  exact h_q1
set_option maxRecDepth 100000 in
theorem w_f_m_lostOn_L4 {N : Nat} {a0 : Nat} {a1 : Nat} {a2 : Nat} {a3 : Nat} : ∀ (n : Nat) (v2 : Int32) (v3 : Int32) (σ : Sg) (z : Int32 × Sg), f_m_lostOn_L4 N a0 a1 a2 a3 n v2 v3 σ = some z → Fr [] σ z.2 := by
  intro n
  induction n with
  | zero => intro v2 v3 σ z  h; exact nomatch (show (none : Option (Int32 × Sg)) = some z from h)
  | succ n ih =>
    intro v2 v3 σ z  h
    unfold f_m_lostOn_L4 at h
    rcases ite_some_inv h with h | h
    · cases h
      exact Fr.rf
    · rcases ite_some_inv h with h | h
      · rcases ite_some_inv h with h | h
        · rcases ite_some_inv h with h | h
          · exact (Fr.tr Fr.rf (ih _ _ _ _ h))
          · rcases ite_some_inv h with h | h
            · exact (Fr.tr Fr.rf (ih _ _ _ _ h))
            · cases h
        · cases h
      · cases h
set_option maxRecDepth 100000 in
theorem w_f_m_lostOn {N : Nat} {a0 : Nat} {a1 : Nat} {a2 : Nat} {a3 : Nat} {σ : Sg} {z : Int32 × Sg} (h : f_m_lostOn N a0 a1 a2 a3 σ = some z) : Fr [] σ z.2 := by
  unfold f_m_lostOn at h
  exact (Fr.tr Fr.rf (Fr.mono (w_f_m_lostOn_L4 _ _ _ _ _ h) rfl))
set_option maxRecDepth 100000 in
theorem w_f_m_tryRows_L129 {N : Nat} {rec : Int32 → Int32 → Sg → Option (Unit × Sg)} {W : WL} (hW : ∀ e ∈ ([(80, none), (81, none)] : WL), e ∈ W) (h_rec : ∀ (u0 : Int32) (u1 : Int32) (u2 : Sg) z, rec u0 u1 u2 = some z → Fr W u2 z.2) : ∀ (n : Nat) (v1 : Int32) (v2 : Int32) (v4 : Int32) (σ : Sg) (z : Unit × Sg), f_m_tryRows_L129 N rec n v1 v2 v4 σ = some z → Fr W σ z.2 := by
  intro n
  induction n with
  | zero => intro v1 v2 v4 σ z  h; exact nomatch (show (none : Option (Unit × Sg)) = some z from h)
  | succ n ih =>
    intro v1 v2 v4 σ z  h
    unfold f_m_tryRows_L129 at h
    rcases ite_some_inv h with h | h
    · cases h
      exact Fr.rf
    · rcases ite_some_inv h with h | h
      · cases h
        exact Fr.rf
      · obtain ⟨q2, e_q2, h⟩ := bind_some_inv h
        have h_q2 : Fr W _ q2.2 := (Fr.tr Fr.rf (Fr.monoP (Fr.mono (w_f_m_copy e_q2) rfl) hW))
        obtain ⟨q3, e_q3, h⟩ := bind_some_inv h
        have h_q3 : Fr W _ q3.2 := (Fr.tr h_q2 (Fr.monoP (Fr.mono (w_f_m_digitOn e_q3) rfl) hW))
        rcases ite_some_inv h with h | h
        · obtain ⟨q4, e_q4, h⟩ := bind_some_inv h
          have h_q4 : Fr W _ q4.2 := (Fr.tr h_q3 (Fr.monoP (Fr.mono (w_f_m_copy e_q4) rfl) hW))
          obtain ⟨q5, e_q5, h⟩ := bind_some_inv h
          have h_q5 : Fr W _ q5.2 := (Fr.tr h_q4 (h_rec _ _ _ _ e_q5))
          exact (Fr.tr h_q5 (ih _ _ _ _ _  h))
        · exact (Fr.tr h_q3 (ih _ _ _ _ _  h))
set_option maxRecDepth 100000 in
theorem w_f_m_tryRows_B {N : Nat} {rec : Int32 → Int32 → Sg → Option (Unit × Sg)} {v1 : Int32} {v2 : Int32} {σ : Sg} {z : Unit × Sg} {W : WL} (hW : ∀ e ∈ ([(66, some 37), (66, some 38), (66, some 39), (80, none), (81, none), (82, none)] : WL), e ∈ W) (h_rec : ∀ (u0 : Int32) (u1 : Int32) (u2 : Sg) z, rec u0 u1 u2 = some z → Fr W u2 z.2) (h : f_m_tryRows_B N rec v1 v2 σ = some z) : Fr W σ z.2 := by
  unfold f_m_tryRows_B at h
  obtain ⟨q1, e_q1, h⟩ := bind_some_inv h
  have h_q1 : Fr W _ q1.2 := (Fr.tr Fr.rf (Fr.monoP (Fr.mono (w_f_m_copy e_q1) rfl) hW))
  rcases ite_some_inv h with h | h
  · rcases ite_some_inv h with h | h
    · rcases ite_some_inv h with h | h
      · obtain ⟨q6, e_q6, h⟩ := bind_some_inv h
        have h_q6 : Fr W _ q6.2 := (Fr.tr h_q1 (Fr.monoP (Fr.mono (w_f_m_lostOn e_q6) rfl) hW))
        rcases ite_some_inv h with h | h
        · exact (Fr.tr (Fr.wI (Fr.wI (Fr.wI h_q6 (hW _ (List.elem_iff.mp rfl))) (hW _ (List.elem_iff.mp rfl))) (hW _ (List.elem_iff.mp rfl))) (w_f_m_tryRows_L129 (W := W) (fun e he => hW e (List.mem_of_elem_eq_true (List.all_eq_true.mp (show ([(80, none), (81, none)] : WL).all (fun e => List.elem e [(66, some 37), (66, some 38), (66, some 39), (80, none), (81, none), (82, none)]) = true from rfl) e he))) h_rec _ _ _ _ _ _  h))
        · rcases ite_some_inv h with h | h
          · exact (Fr.tr (Fr.wI (Fr.wI (Fr.wI h_q6 (hW _ (List.elem_iff.mp rfl))) (hW _ (List.elem_iff.mp rfl))) (hW _ (List.elem_iff.mp rfl))) (w_f_m_tryRows_L129 (W := W) (fun e he => hW e (List.mem_of_elem_eq_true (List.all_eq_true.mp (show ([(80, none), (81, none)] : WL).all (fun e => List.elem e [(66, some 37), (66, some 38), (66, some 39), (80, none), (81, none), (82, none)]) = true from rfl) e he))) h_rec _ _ _ _ _ _  h))
          · rcases ite_some_inv h with h | h
            · rcases ite_some_inv h with h | h
              · exact (Fr.tr (Fr.wI (Fr.wI (Fr.wI h_q6 (hW _ (List.elem_iff.mp rfl))) (hW _ (List.elem_iff.mp rfl))) (hW _ (List.elem_iff.mp rfl))) (w_f_m_tryRows_L129 (W := W) (fun e he => hW e (List.mem_of_elem_eq_true (List.all_eq_true.mp (show ([(80, none), (81, none)] : WL).all (fun e => List.elem e [(66, some 37), (66, some 38), (66, some 39), (80, none), (81, none), (82, none)]) = true from rfl) e he))) h_rec _ _ _ _ _ _  h))
              · rcases ite_some_inv h with h | h
                · rcases ite_some_inv h with h | h
                  · exact (Fr.tr h_q6 (w_f_m_tryRows_L129 (W := W) (fun e he => hW e (List.mem_of_elem_eq_true (List.all_eq_true.mp (show ([(80, none), (81, none)] : WL).all (fun e => List.elem e [(66, some 37), (66, some 38), (66, some 39), (80, none), (81, none), (82, none)]) = true from rfl) e he))) h_rec _ _ _ _ _ _  h))
                  · exact (Fr.tr (Fr.wI (Fr.wI (Fr.wI h_q6 (hW _ (List.elem_iff.mp rfl))) (hW _ (List.elem_iff.mp rfl))) (hW _ (List.elem_iff.mp rfl))) (w_f_m_tryRows_L129 (W := W) (fun e he => hW e (List.mem_of_elem_eq_true (List.all_eq_true.mp (show ([(80, none), (81, none)] : WL).all (fun e => List.elem e [(66, some 37), (66, some 38), (66, some 39), (80, none), (81, none), (82, none)]) = true from rfl) e he))) h_rec _ _ _ _ _ _  h))
                · exact (Fr.tr h_q6 (w_f_m_tryRows_L129 (W := W) (fun e he => hW e (List.mem_of_elem_eq_true (List.all_eq_true.mp (show ([(80, none), (81, none)] : WL).all (fun e => List.elem e [(66, some 37), (66, some 38), (66, some 39), (80, none), (81, none), (82, none)]) = true from rfl) e he))) h_rec _ _ _ _ _ _  h))
            · exact (Fr.tr h_q6 (w_f_m_tryRows_L129 (W := W) (fun e he => hW e (List.mem_of_elem_eq_true (List.all_eq_true.mp (show ([(80, none), (81, none)] : WL).all (fun e => List.elem e [(66, some 37), (66, some 38), (66, some 39), (80, none), (81, none), (82, none)]) = true from rfl) e he))) h_rec _ _ _ _ _ _  h))
      · exact (Fr.tr h_q1 (w_f_m_tryRows_L129 (W := W) (fun e he => hW e (List.mem_of_elem_eq_true (List.all_eq_true.mp (show ([(80, none), (81, none)] : WL).all (fun e => List.elem e [(66, some 37), (66, some 38), (66, some 39), (80, none), (81, none), (82, none)]) = true from rfl) e he))) h_rec _ _ _ _ _ _  h))
    · rcases ite_some_inv h with h | h
      · rcases ite_some_inv h with h | h
        · obtain ⟨q7, e_q7, h⟩ := bind_some_inv h
          have h_q7 : Fr W _ q7.2 := (Fr.tr (Fr.wA h_q1 (hW _ (List.elem_iff.mp rfl))) (Fr.monoP (Fr.mono (w_f_m_lostOn e_q7) rfl) hW))
          rcases ite_some_inv h with h | h
          · exact (Fr.tr (Fr.wI (Fr.wI (Fr.wI h_q7 (hW _ (List.elem_iff.mp rfl))) (hW _ (List.elem_iff.mp rfl))) (hW _ (List.elem_iff.mp rfl))) (w_f_m_tryRows_L129 (W := W) (fun e he => hW e (List.mem_of_elem_eq_true (List.all_eq_true.mp (show ([(80, none), (81, none)] : WL).all (fun e => List.elem e [(66, some 37), (66, some 38), (66, some 39), (80, none), (81, none), (82, none)]) = true from rfl) e he))) h_rec _ _ _ _ _ _  h))
          · rcases ite_some_inv h with h | h
            · exact (Fr.tr (Fr.wI (Fr.wI (Fr.wI h_q7 (hW _ (List.elem_iff.mp rfl))) (hW _ (List.elem_iff.mp rfl))) (hW _ (List.elem_iff.mp rfl))) (w_f_m_tryRows_L129 (W := W) (fun e he => hW e (List.mem_of_elem_eq_true (List.all_eq_true.mp (show ([(80, none), (81, none)] : WL).all (fun e => List.elem e [(66, some 37), (66, some 38), (66, some 39), (80, none), (81, none), (82, none)]) = true from rfl) e he))) h_rec _ _ _ _ _ _  h))
            · rcases ite_some_inv h with h | h
              · rcases ite_some_inv h with h | h
                · exact (Fr.tr (Fr.wI (Fr.wI (Fr.wI h_q7 (hW _ (List.elem_iff.mp rfl))) (hW _ (List.elem_iff.mp rfl))) (hW _ (List.elem_iff.mp rfl))) (w_f_m_tryRows_L129 (W := W) (fun e he => hW e (List.mem_of_elem_eq_true (List.all_eq_true.mp (show ([(80, none), (81, none)] : WL).all (fun e => List.elem e [(66, some 37), (66, some 38), (66, some 39), (80, none), (81, none), (82, none)]) = true from rfl) e he))) h_rec _ _ _ _ _ _  h))
                · rcases ite_some_inv h with h | h
                  · rcases ite_some_inv h with h | h
                    · exact (Fr.tr h_q7 (w_f_m_tryRows_L129 (W := W) (fun e he => hW e (List.mem_of_elem_eq_true (List.all_eq_true.mp (show ([(80, none), (81, none)] : WL).all (fun e => List.elem e [(66, some 37), (66, some 38), (66, some 39), (80, none), (81, none), (82, none)]) = true from rfl) e he))) h_rec _ _ _ _ _ _  h))
                    · exact (Fr.tr (Fr.wI (Fr.wI (Fr.wI h_q7 (hW _ (List.elem_iff.mp rfl))) (hW _ (List.elem_iff.mp rfl))) (hW _ (List.elem_iff.mp rfl))) (w_f_m_tryRows_L129 (W := W) (fun e he => hW e (List.mem_of_elem_eq_true (List.all_eq_true.mp (show ([(80, none), (81, none)] : WL).all (fun e => List.elem e [(66, some 37), (66, some 38), (66, some 39), (80, none), (81, none), (82, none)]) = true from rfl) e he))) h_rec _ _ _ _ _ _  h))
                  · exact (Fr.tr h_q7 (w_f_m_tryRows_L129 (W := W) (fun e he => hW e (List.mem_of_elem_eq_true (List.all_eq_true.mp (show ([(80, none), (81, none)] : WL).all (fun e => List.elem e [(66, some 37), (66, some 38), (66, some 39), (80, none), (81, none), (82, none)]) = true from rfl) e he))) h_rec _ _ _ _ _ _  h))
              · exact (Fr.tr h_q7 (w_f_m_tryRows_L129 (W := W) (fun e he => hW e (List.mem_of_elem_eq_true (List.all_eq_true.mp (show ([(80, none), (81, none)] : WL).all (fun e => List.elem e [(66, some 37), (66, some 38), (66, some 39), (80, none), (81, none), (82, none)]) = true from rfl) e he))) h_rec _ _ _ _ _ _  h))
        · exact (Fr.tr (Fr.wA h_q1 (hW _ (List.elem_iff.mp rfl))) (w_f_m_tryRows_L129 (W := W) (fun e he => hW e (List.mem_of_elem_eq_true (List.all_eq_true.mp (show ([(80, none), (81, none)] : WL).all (fun e => List.elem e [(66, some 37), (66, some 38), (66, some 39), (80, none), (81, none), (82, none)]) = true from rfl) e he))) h_rec _ _ _ _ _ _  h))
      · cases h
  · cases h
set_option maxRecDepth 100000 in
theorem w_f_m_tryRows {N : Nat} : ∀ (n : Nat) (v1 : Int32) (v2 : Int32) (σ : Sg) (z : Unit × Sg), f_m_tryRows N n v1 v2 σ = some z → Fr [(66, some 37), (66, some 38), (66, some 39), (80, none), (81, none), (82, none)] σ z.2 := by
  intro n
  induction n with
  | zero => intro v1 v2 σ z  h; exact nomatch (show (none : Option (Unit × Sg)) = some z from h)
  | succ D ih =>
    intro v1 v2 σ z  h
    unfold f_m_tryRows at h
    exact (Fr.tr Fr.rf (w_f_m_tryRows_B (W := [(66, some 37), (66, some 38), (66, some 39), (80, none), (81, none), (82, none)]) (fun e he => List.mem_of_elem_eq_true (List.all_eq_true.mp (show ([(66, some 37), (66, some 38), (66, some 39), (80, none), (81, none), (82, none)] : WL).all (fun e => List.elem e [(66, some 37), (66, some 38), (66, some 39), (80, none), (81, none), (82, none)]) = true from rfl) e he)) (fun u0 u1 u2 z h => ih u0 u1 u2 z h) h))
set_option maxRecDepth 100000 in
theorem w_f_m_seekRows_L17 {N : Nat} {W : WL} (hW : ∀ e ∈ ([(82, none)] : WL), e ∈ W) : ∀ (n : Nat) (v3 : Int32) (σ : Sg) (k38 : (Sg → Option (Unit × Sg))) (z : Unit × Sg) (h_k38 : ∀ (u0 : Sg) z, k38 u0 = some z → Fr W u0 z.2), f_m_seekRows_L17 N n v3 σ k38 = some z → Fr W σ z.2 := by
  intro n
  induction n with
  | zero => intro v3 σ k38 z h_k38 h; exact nomatch (show (none : Option (Unit × Sg)) = some z from h)
  | succ n ih =>
    intro v3 σ k38 z h_k38 h
    unfold f_m_seekRows_L17 at h
    rcases ite_some_inv h with h | h
    · exact (Fr.tr Fr.rf (h_k38 _ _ h))
    · rcases ite_some_inv h with h | h
      · exact (Fr.tr (Fr.wA Fr.rf (hW _ (List.elem_iff.mp rfl))) (ih _ _ _ _ h_k38 h))
      · cases h
set_option maxRecDepth 100000 in
theorem w_f_m_seekRows {N : Nat} {v1 : Int32} {v2 : Int32} {σ : Sg} {z : Unit × Sg} (h : f_m_seekRows N v1 v2 σ = some z) : Fr [(66, some 35), (66, some 36), (66, some 37), (66, some 38), (66, some 39), (80, none), (81, none), (82, none)] σ z.2 := by
  unfold f_m_seekRows at h
  exact (Fr.tr (Fr.wI (Fr.wI (Fr.wI Fr.rf (List.elem_iff.mp rfl)) (List.elem_iff.mp rfl)) (List.elem_iff.mp rfl)) (w_f_m_seekRows_L17 (W := [(66, some 35), (66, some 36), (66, some 37), (66, some 38), (66, some 39), (80, none), (81, none), (82, none)]) (fun e he => List.mem_of_elem_eq_true (List.all_eq_true.mp (show ([(82, none)] : WL).all (fun e => List.elem e [(66, some 35), (66, some 36), (66, some 37), (66, some 38), (66, some 39), (80, none), (81, none), (82, none)]) = true from rfl) e he))  _ _ _ _ _ (fun t1 z h => by
      obtain ⟨q2, e_q2, h⟩ := bind_some_inv h
      have h_q2 : Fr [(66, some 35), (66, some 36), (66, some 37), (66, some 38), (66, some 39), (80, none), (81, none), (82, none)] _ q2.2 := (Fr.tr Fr.rf (Fr.mono (w_f_m_copy e_q2) rfl))
      obtain ⟨q3, e_q3, h⟩ := bind_some_inv h
      have h_q3 : Fr [(66, some 35), (66, some 36), (66, some 37), (66, some 38), (66, some 39), (80, none), (81, none), (82, none)] _ q3.2 := (Fr.tr h_q2 (Fr.mono (w_f_m_tryRows _ _ _ _ _ e_q3) rfl))
      cases h
      exact h_q3
    ) h))
set_option maxRecDepth 100000 in
theorem w_f_m_come {N : Nat} {v1 : Int32} {σ : Sg} {z : Int32 × Sg} (h : f_m_come N v1 σ = some z) : Fr [(66, some 0), (66, some 11), (66, some 35), (66, some 36), (66, some 37), (66, some 38), (66, some 39), (80, none), (81, none), (82, none)] σ z.2 := by
  unfold f_m_come at h
  obtain ⟨q1, e_q1, h⟩ := bind_some_inv h
  have h_q1 : Fr [(66, some 0), (66, some 11), (66, some 35), (66, some 36), (66, some 37), (66, some 38), (66, some 39), (80, none), (81, none), (82, none)] _ q1.2 := (Fr.tr Fr.rf (Fr.mono (w_f_m_anew e_q1) rfl))
  obtain ⟨q2, e_q2, h⟩ := bind_some_inv h
  have h_q2 : Fr [(66, some 0), (66, some 11), (66, some 35), (66, some 36), (66, some 37), (66, some 38), (66, some 39), (80, none), (81, none), (82, none)] _ q2.2 := (Fr.tr h_q1 (Fr.mono (w_f_m_isCell e_q2) rfl))
  rcases ite_some_inv h with h | h
  · obtain ⟨q3, e_q3, h⟩ := bind_some_inv h
    have h_q3 : Fr [(66, some 0), (66, some 11), (66, some 35), (66, some 36), (66, some 37), (66, some 38), (66, some 39), (80, none), (81, none), (82, none)] _ q3.2 := (Fr.tr h_q2 (Fr.mono (w_f_m_seekRows e_q3) rfl))
    rcases ite_some_inv h with h | h
    · rcases ite_some_inv h with h | h
      · rcases ite_some_inv h with h | h
        · cases h
          exact h_q3
        · cases h
      · cases h
        exact h_q3
    · cases h
  · obtain ⟨q4, e_q4, h⟩ := bind_some_inv h
    have h_q4 : Fr [(66, some 0), (66, some 11), (66, some 35), (66, some 36), (66, some 37), (66, some 38), (66, some 39), (80, none), (81, none), (82, none)] _ q4.2 := (Fr.tr h_q2 (Fr.mono (w_f_m_no e_q4) rfl))
    cases h
    exact h_q4
set_option maxRecDepth 100000 in
theorem w_f_m_rowWhy_L29 {N : Nat} : ∀ (n : Nat) (v4 : Int32) (v5 : Int32) (σ : Sg) (z : Int32 × Sg), f_m_rowWhy_L29 N n v4 v5 σ = some z → Fr [(79, none)] σ z.2 := by
  intro n
  induction n with
  | zero => intro v4 v5 σ z  h; exact nomatch (show (none : Option (Int32 × Sg)) = some z from h)
  | succ n ih =>
    intro v4 v5 σ z  h
    unfold f_m_rowWhy_L29 at h
    rcases ite_some_inv h with h | h
    · rcases ite_some_inv h with h | h
      · cases h
        exact Fr.rf
      · cases h
        exact Fr.rf
    · rcases ite_some_inv h with h | h
      · rcases ite_some_inv h with h | h
        · obtain ⟨q2, e_q2, h⟩ := bind_some_inv h
          have h_q2 : Fr [(79, none)] _ q2.2 := (Fr.tr (Fr.wA Fr.rf (List.elem_iff.mp rfl)) (Fr.mono (w_f_m_in e_q2) rfl))
          rcases ite_some_inv h with h | h
          · exact (Fr.tr h_q2 (ih _ _ _ _ h))
          · cases h
            exact h_q2
        · cases h
      · cases h
set_option maxRecDepth 100000 in
theorem w_f_m_rowWhy {N : Nat} {v1 : Int32} {v2 : Int32} {v3 : Int32} {σ : Sg} {z : Int32 × Sg} (h : f_m_rowWhy N v1 v2 v3 σ = some z) : Fr [(79, none)] σ z.2 := by
  unfold f_m_rowWhy at h
  rcases ite_some_inv h with h | h
  · cases h
    exact Fr.rf
  · obtain ⟨q1, e_q1, h⟩ := bind_some_inv h
    have h_q1 : Fr [(79, none)] _ q1.2 := (Fr.tr Fr.rf (Fr.mono (w_f_m_in e_q1) rfl))
    rcases ite_some_inv h with h | h
    · rcases ite_some_inv h with h | h
      · exact (Fr.tr h_q1 (Fr.mono (w_f_m_rowWhy_L29 _ _ _ _ _ h) rfl))
      · cases h
        exact h_q1
    · cases h
      exact h_q1
set_option maxRecDepth 100000 in
theorem w_f_m_makes_L6 {N : Nat} : ∀ (n : Nat) (v1 : Int32) (v2 : Int32) (σ : Sg) (z : Bool × Sg), f_m_makes_L6 N n v1 v2 σ = some z → Fr [(75, none)] σ z.2 := by
  intro n
  induction n with
  | zero => intro v1 v2 σ z  h; exact nomatch (show (none : Option (Bool × Sg)) = some z from h)
  | succ n ih =>
    intro v1 v2 σ z  h
    unfold f_m_makes_L6 at h
    rcases ite_some_inv h with h | h
    · cases h
      exact Fr.rf
    · rcases ite_some_inv h with h | h
      · obtain ⟨q2, e_q2, h⟩ := bind_some_inv h
        have h_q2 : Fr [(75, none)] _ q2.2 := (Fr.tr Fr.rf (Fr.mono (w_f_m_digitOn e_q2) rfl))
        rcases ite_some_inv h with h | h
        · exact (Fr.tr h_q2 (ih _ _ _ _ h))
        · cases h
          exact h_q2
      · cases h
set_option maxRecDepth 100000 in
theorem w_f_m_makes {N : Nat} {v1 : Int32} {σ : Sg} {z : Bool × Sg} (h : f_m_makes N v1 σ = some z) : Fr [(75, none)] σ z.2 := by
  unfold f_m_makes at h
  obtain ⟨q1, e_q1, h⟩ := bind_some_inv h
  have h_q1 : Fr [(75, none)] _ q1.2 := (Fr.tr Fr.rf (Fr.mono (w_f_m_begin e_q1) rfl))
  exact (Fr.tr h_q1 (Fr.mono (w_f_m_makes_L6 _ _ _ _ _ h) rfl))
set_option maxRecDepth 100000 in
theorem w_f_m_comeRow_L26 {N : Nat} {W : WL} (hW : ∀ e ∈ ([] : WL), e ∈ W) : ∀ (n : Nat) (v1 : Int32) (v2 : Int32) (v3 : Int32) (v4 : Int32) (σ : Sg) (k43 : (Int32 → Int32 → Int32 → Sg → Option (Int32 × Sg))) (z : Int32 × Sg) (h_k43 : ∀ (u0 : Int32) (u1 : Int32) (u2 : Int32) (u3 : Sg) z, k43 u0 u1 u2 u3 = some z → Fr W u3 z.2), f_m_comeRow_L26 N n v1 v2 v3 v4 σ k43 = some z → Fr W σ z.2 := by
  intro n
  induction n with
  | zero => intro v1 v2 v3 v4 σ k43 z h_k43 h; exact nomatch (show (none : Option (Int32 × Sg)) = some z from h)
  | succ n ih =>
    intro v1 v2 v3 v4 σ k43 z h_k43 h
    unfold f_m_comeRow_L26 at h
    rcases ite_some_inv h with h | h
    · exact (Fr.tr Fr.rf (h_k43 _ _ _ _ _ h))
    · exact (Fr.tr Fr.rf (ih _ _ _ _ _ _ _ h_k43 h))
set_option maxRecDepth 100000 in
theorem w_f_m_comeRow_L46 {N : Nat} : ∀ (n : Nat) (v1 : Int32) (v2 : Int32) (v3 : Int32) (v4 : Int32) (σ : Sg) (z : Int32 × Sg), f_m_comeRow_L46 N n v1 v2 v3 v4 σ = some z → Fr [(75, none), (79, none)] σ z.2 := by
  intro n
  induction n with
  | zero => intro v1 v2 v3 v4 σ z  h; exact nomatch (show (none : Option (Int32 × Sg)) = some z from h)
  | succ n ih =>
    intro v1 v2 v3 v4 σ z  h
    unfold f_m_comeRow_L46 at h
    rcases ite_some_inv h with h | h
    · cases h
      exact Fr.rf
    · obtain ⟨q3, e_q3, h⟩ := bind_some_inv h
      have h_q3 : Fr [(75, none), (79, none)] _ q3.2 := (Fr.tr Fr.rf (Fr.mono (w_f_m_rowWhy e_q3) rfl))
      rcases ite_some_inv h with h | h
      · obtain ⟨q4, e_q4, h⟩ := bind_some_inv h
        have h_q4 : Fr [(75, none), (79, none)] _ q4.2 := (Fr.tr h_q3 (Fr.mono (w_f_m_makes e_q4) rfl))
        rcases ite_some_inv h with h | h
        · rcases ite_some_inv h with h | h
          · cases h
            exact h_q4
          · exact (Fr.tr h_q4 (ih _ _ _ _ _ _ h))
        · exact (Fr.tr h_q4 (ih _ _ _ _ _ _ h))
      · exact (Fr.tr h_q3 (ih _ _ _ _ _ _ h))
set_option maxRecDepth 100000 in
theorem w_f_m_comeRow {N : Nat} {v1 : Int32} {σ : Sg} {z : Int32 × Sg} (h : f_m_comeRow N v1 σ = some z) : Fr [(66, some 35), (66, some 36), (66, some 37), (66, some 38), (66, some 39), (75, none), (79, none), (80, none), (81, none), (82, none)] σ z.2 := by
  unfold f_m_comeRow at h
  obtain ⟨q1, e_q1, h⟩ := bind_some_inv h
  have h_q1 : Fr [(66, some 35), (66, some 36), (66, some 37), (66, some 38), (66, some 39), (75, none), (79, none), (80, none), (81, none), (82, none)] _ q1.2 := (Fr.tr Fr.rf (Fr.mono (w_f_m_seekRows e_q1) rfl))
  rcases ite_some_inv h with h | h
  · rcases ite_some_inv h with h | h
    · exact (Fr.tr h_q1 (w_f_m_comeRow_L26 (W := [(66, some 35), (66, some 36), (66, some 37), (66, some 38), (66, some 39), (75, none), (79, none), (80, none), (81, none), (82, none)]) (fun e he => by cases he)  _ _ _ _ _ _ _ _ (fun w1 w2 w3 t2 z h => by
          exact (Fr.tr Fr.rf (Fr.mono (w_f_m_comeRow_L46 _ _ _ _ _ _ _ h) rfl))
        ) h))
    · cases h
      exact h_q1
  · cases h
set_option maxRecDepth 100000 in
theorem w_f_m_comeAt {N : Nat} {v1 : Int32} {v2 : Int32} {σ : Sg} {z : Int32 × Sg} (h : f_m_comeAt N v1 v2 σ = some z) : Fr [(66, some 0), (66, some 11), (66, some 35), (66, some 36), (66, some 37), (66, some 38), (66, some 39), (75, none), (79, none), (80, none), (81, none), (82, none)] σ z.2 := by
  unfold f_m_comeAt at h
  obtain ⟨q1, e_q1, h⟩ := bind_some_inv h
  have h_q1 : Fr [(66, some 0), (66, some 11), (66, some 35), (66, some 36), (66, some 37), (66, some 38), (66, some 39), (75, none), (79, none), (80, none), (81, none), (82, none)] _ q1.2 := (Fr.tr Fr.rf (Fr.mono (w_f_m_anew e_q1) rfl))
  obtain ⟨q2, e_q2, h⟩ := bind_some_inv h
  have h_q2 : Fr [(66, some 0), (66, some 11), (66, some 35), (66, some 36), (66, some 37), (66, some 38), (66, some 39), (75, none), (79, none), (80, none), (81, none), (82, none)] _ q2.2 := (Fr.tr h_q1 (Fr.mono (w_f_m_isCell e_q2) rfl))
  rcases ite_some_inv h with h | h
  · obtain ⟨q3, e_q3, h⟩ := bind_some_inv h
    have h_q3 : Fr [(66, some 0), (66, some 11), (66, some 35), (66, some 36), (66, some 37), (66, some 38), (66, some 39), (75, none), (79, none), (80, none), (81, none), (82, none)] _ q3.2 := (Fr.tr h_q2 (Fr.mono (w_f_m_comeRow e_q3) rfl))
    rcases ite_some_inv h with h | h
    · rcases ite_some_inv h with h | h
      · obtain ⟨q4, e_q4, h⟩ := bind_some_inv h
        have h_q4 : Fr [(66, some 0), (66, some 11), (66, some 35), (66, some 36), (66, some 37), (66, some 38), (66, some 39), (75, none), (79, none), (80, none), (81, none), (82, none)] _ q4.2 := (Fr.tr h_q3 (Fr.mono (w_f_m_no e_q4) rfl))
        cases h
        exact h_q4
      · obtain ⟨q5, e_q5, h⟩ := bind_some_inv h
        have h_q5 : Fr [(66, some 0), (66, some 11), (66, some 35), (66, some 36), (66, some 37), (66, some 38), (66, some 39), (75, none), (79, none), (80, none), (81, none), (82, none)] _ q5.2 := (Fr.tr h_q3 (Fr.mono (w_f_m_in e_q5) rfl))
        rcases ite_some_inv h with h | h
        · obtain ⟨q6, e_q6, h⟩ := bind_some_inv h
          have h_q6 : Fr [(66, some 0), (66, some 11), (66, some 35), (66, some 36), (66, some 37), (66, some 38), (66, some 39), (75, none), (79, none), (80, none), (81, none), (82, none)] _ q6.2 := (Fr.tr h_q5 (Fr.mono (w_f_m_rowWhy e_q6) rfl))
          rcases ite_some_inv h with h | h
          · cases h
            exact h_q6
          · cases h
        · obtain ⟨q7, e_q7, h⟩ := bind_some_inv h
          have h_q7 : Fr [(66, some 0), (66, some 11), (66, some 35), (66, some 36), (66, some 37), (66, some 38), (66, some 39), (75, none), (79, none), (80, none), (81, none), (82, none)] _ q7.2 := (Fr.tr h_q5 (Fr.mono (w_f_m_no e_q7) rfl))
          cases h
          exact h_q7
    · cases h
  · obtain ⟨q8, e_q8, h⟩ := bind_some_inv h
    have h_q8 : Fr [(66, some 0), (66, some 11), (66, some 35), (66, some 36), (66, some 37), (66, some 38), (66, some 39), (75, none), (79, none), (80, none), (81, none), (82, none)] _ q8.2 := (Fr.tr h_q2 (Fr.mono (w_f_m_no e_q8) rfl))
    cases h
    exact h_q8
set_option maxRecDepth 100000 in
theorem w_f_m_why {N : Nat} {v1 : Int32} {v2 : Int32} {σ : Sg} {z : Int32 × Sg} (h : f_m_why N v1 v2 σ = some z) : Fr [] σ z.2 := by
  unfold f_m_why at h
  rcases ite_some_inv h with h | h
  · cases h
    exact Fr.rf
  · rcases ite_some_inv h with h | h
    · cases h
      exact Fr.rf
    · cases h
      exact Fr.rf
set_option maxRecDepth 100000 in
theorem w_f_m_wayWhy {N : Nat} {v1 : Int32} {v2 : Int32} {σ : Sg} {z : Int32 × Sg} (h : f_m_wayWhy N v1 v2 σ = some z) : Fr [] σ z.2 := by
  unfold f_m_wayWhy at h
  obtain ⟨q1, e_q1, h⟩ := bind_some_inv h
  have h_q1 : Fr [] _ q1.2 := (Fr.tr Fr.rf (Fr.mono (w_f_m_isBoots e_q1) rfl))
  obtain ⟨q2, e_q2, h⟩ := bind_some_inv h
  have h_q2 : Fr [] _ q2.2 := (Fr.tr h_q1 (Fr.mono (w_f_m_in e_q2) rfl))
  obtain ⟨q3, e_q3, h⟩ := bind_some_inv h
  have h_q3 : Fr [] _ q3.2 := (Fr.tr h_q2 (Fr.mono (w_f_m_why e_q3) rfl))
  cases h
  exact h_q3
set_option maxRecDepth 100000 in
theorem w_f_m_costs {N : Nat} {v1 : Int32} {v2 : Int32} {σ : Sg} {z : Int32 × Sg} (h : f_m_costs N v1 v2 σ = some z) : Fr [(66, some 0), (66, some 11), (75, none)] σ z.2 := by
  unfold f_m_costs at h
  obtain ⟨q1, e_q1, h⟩ := bind_some_inv h
  have h_q1 : Fr [(66, some 0), (66, some 11), (75, none)] _ q1.2 := (Fr.tr Fr.rf (Fr.mono (w_f_m_anew e_q1) rfl))
  obtain ⟨q2, e_q2, h⟩ := bind_some_inv h
  have h_q2 : Fr [(66, some 0), (66, some 11), (75, none)] _ q2.2 := (Fr.tr h_q1 (Fr.mono (w_f_m_wayWhy e_q2) rfl))
  rcases ite_some_inv h with h | h
  · obtain ⟨q3, e_q3, h⟩ := bind_some_inv h
    have h_q3 : Fr [(66, some 0), (66, some 11), (75, none)] _ q3.2 := (Fr.tr h_q2 (Fr.mono (w_f_m_begin e_q3) rfl))
    obtain ⟨q4, e_q4, h⟩ := bind_some_inv h
    have h_q4 : Fr [(66, some 0), (66, some 11), (75, none)] _ q4.2 := (Fr.tr h_q3 (Fr.mono (w_f_m_strideOn e_q4) rfl))
    rcases ite_some_inv h with h | h
    · obtain ⟨q5, e_q5, h⟩ := bind_some_inv h
      have h_q5 : Fr [(66, some 0), (66, some 11), (75, none)] _ q5.2 := (Fr.tr h_q4 (Fr.mono (w_f_m_lostOn e_q5) rfl))
      obtain ⟨q6, e_q6, h⟩ := bind_some_inv h
      have h_q6 : Fr [(66, some 0), (66, some 11), (75, none)] _ q6.2 := (Fr.tr h_q5 (Fr.mono (w_f_m_lostOn e_q6) rfl))
      cases h
      exact h_q6
    · cases h
      exact h_q4
  · obtain ⟨q7, e_q7, h⟩ := bind_some_inv h
    have h_q7 : Fr [(66, some 0), (66, some 11), (75, none)] _ q7.2 := (Fr.tr h_q2 (Fr.mono (w_f_m_no e_q7) rfl))
    cases h
    exact h_q7
set_option maxRecDepth 100000 in
theorem w_f_m_could {N : Nat} {σ : Sg} {z : Int32 × Sg} (h : f_m_could N σ = some z) : Fr [(66, some 0), (66, some 11), (66, some 45), (66, some 46), (66, some 47), (75, none), (84, none)] σ z.2 := by
  unfold f_m_could at h
  obtain ⟨q1, e_q1, h⟩ := bind_some_inv h
  have h_q1 : Fr [(66, some 0), (66, some 11), (66, some 45), (66, some 46), (66, some 47), (75, none), (84, none)] _ q1.2 := (Fr.tr Fr.rf (Fr.mono (w_f_m_anew e_q1) rfl))
  rcases ite_some_inv h with h | h
  · obtain ⟨q3, e_q3, h⟩ := bind_some_inv h
    have h_q3 : Fr [(66, some 0), (66, some 11), (66, some 45), (66, some 46), (66, some 47), (75, none), (84, none)] _ q3.2 := (Fr.tr h_q1 (Fr.mono (w_f_m_no e_q3) rfl))
    cases h
    exact h_q3
  · obtain ⟨q2, e_q2, h⟩ := bind_some_inv h
    have h_q2 : Fr [(66, some 0), (66, some 11), (66, some 45), (66, some 46), (66, some 47), (75, none), (84, none)] _ q2.2 := (Fr.tr h_q1 (Fr.mono (w_f_m_seekSets e_q2) rfl))
    cases h
    exact h_q2
set_option maxRecDepth 100000 in
theorem w_f_m_curate {N : Nat} {σ : Sg} {z : Int32 × Sg} (h : f_m_curate N σ = some z) : Fr [(66, some 0), (66, some 11)] σ z.2 := by
  unfold f_m_curate at h
  obtain ⟨q1, e_q1, h⟩ := bind_some_inv h
  have h_q1 : Fr [(66, some 0), (66, some 11)] _ q1.2 := (Fr.tr Fr.rf (Fr.mono (w_f_m_anew e_q1) rfl))
  rcases ite_some_inv h with h | h
  · obtain ⟨q2, e_q2, h⟩ := bind_some_inv h
    have h_q2 : Fr [(66, some 0), (66, some 11)] _ q2.2 := (Fr.tr h_q1 (Fr.mono (w_f_m_no e_q2) rfl))
    cases h
    exact h_q2
  · cases h
    exact h_q1
set_option maxRecDepth 100000 in
theorem w_f_m_deep_L40 {N : Nat} : ∀ (n : Nat) (v1 : Int32) (v2 : Int32) (v3 : Int32) (v4 : Int32) (σ : Sg) (z : Int32 × Sg), f_m_deep_L40 N n v1 v2 v3 v4 σ = some z → Fr [] σ z.2 := by
  intro n
  induction n with
  | zero => intro v1 v2 v3 v4 σ z  h; exact nomatch (show (none : Option (Int32 × Sg)) = some z from h)
  | succ n ih =>
    intro v1 v2 v3 v4 σ z  h
    unfold f_m_deep_L40 at h
    rcases ite_some_inv h with h | h
    · rcases ite_some_inv h with h | h
      · cases h
        exact Fr.rf
      · rcases ite_some_inv h with h | h
        · exact (Fr.tr Fr.rf (ih _ _ _ _ _ _ h))
        · cases h
    · rcases ite_some_inv h with h | h
      · cases h
        exact Fr.rf
      · rcases ite_some_inv h with h | h
        · exact (Fr.tr Fr.rf (ih _ _ _ _ _ _ h))
        · cases h
set_option maxRecDepth 100000 in
theorem w_f_m_deep {N : Nat} {v1 : Int32} {v2 : Int32} {σ : Sg} {z : Int32 × Sg} (h : f_m_deep N v1 v2 σ = some z) : Fr [(66, some 0), (66, some 11)] σ z.2 := by
  unfold f_m_deep at h
  obtain ⟨q1, e_q1, h⟩ := bind_some_inv h
  have h_q1 : Fr [(66, some 0), (66, some 11)] _ q1.2 := (Fr.tr Fr.rf (Fr.mono (w_f_m_anew e_q1) rfl))
  obtain ⟨q2, e_q2, h⟩ := bind_some_inv h
  have h_q2 : Fr [(66, some 0), (66, some 11)] _ q2.2 := (Fr.tr h_q1 (Fr.mono (w_f_m_isCell e_q2) rfl))
  rcases ite_some_inv h with h | h
  · obtain ⟨q4, e_q4, h⟩ := bind_some_inv h
    have h_q4 : Fr [(66, some 0), (66, some 11)] _ q4.2 := (Fr.tr h_q2 (Fr.mono (w_f_m_isCell e_q4) rfl))
    rcases ite_some_inv h with h | h
    · rcases ite_some_inv h with h | h
      · exact (Fr.tr h_q4 (Fr.mono (w_f_m_deep_L40 _ _ _ _ _ _ _ h) rfl))
      · exact (Fr.tr h_q4 (Fr.mono (w_f_m_deep_L40 _ _ _ _ _ _ _ h) rfl))
    · obtain ⟨q5, e_q5, h⟩ := bind_some_inv h
      have h_q5 : Fr [(66, some 0), (66, some 11)] _ q5.2 := (Fr.tr h_q4 (Fr.mono (w_f_m_no e_q5) rfl))
      cases h
      exact h_q5
  · obtain ⟨q3, e_q3, h⟩ := bind_some_inv h
    have h_q3 : Fr [(66, some 0), (66, some 11)] _ q3.2 := (Fr.tr h_q2 (Fr.mono (w_f_m_no e_q3) rfl))
    cases h
    exact h_q3
set_option maxRecDepth 100000 in
theorem w_f_m_drawn_L57 {N : Nat} : ∀ (n : Nat) (v2 : Int32) (v5 : Int32) (v6 : Int32) (σ : Sg) (z : Int32 × Sg), f_m_drawn_L57 N n v2 v5 v6 σ = some z → Fr [(75, none)] σ z.2 := by
  intro n
  induction n with
  | zero => intro v2 v5 v6 σ z  h; exact nomatch (show (none : Option (Int32 × Sg)) = some z from h)
  | succ n ih =>
    intro v2 v5 v6 σ z  h
    unfold f_m_drawn_L57 at h
    rcases ite_some_inv h with h | h
    · cases h
      exact Fr.rf
    · rcases ite_some_inv h with h | h
      · exact (Fr.tr Fr.rf (ih _ _ _ _ _ h))
      · rcases ite_some_inv h with h | h
        · obtain ⟨q4, e_q4, h⟩ := bind_some_inv h
          have h_q4 : Fr [(75, none)] _ q4.2 := (Fr.tr Fr.rf (Fr.mono (w_f_m_digitOn e_q4) rfl))
          exact (Fr.tr h_q4 (ih _ _ _ _ _ h))
        · cases h
set_option maxRecDepth 100000 in
theorem w_f_m_drawn {N : Nat} {v1 : Int32} {v2 : Int32} {v3 : Int32} {σ : Sg} {z : Int32 × Sg} (h : f_m_drawn N v1 v2 v3 σ = some z) : Fr [(66, some 0), (66, some 11), (75, none), (79, none)] σ z.2 := by
  unfold f_m_drawn at h
  obtain ⟨q1, e_q1, h⟩ := bind_some_inv h
  have h_q1 : Fr [(66, some 0), (66, some 11), (75, none), (79, none)] _ q1.2 := (Fr.tr Fr.rf (Fr.mono (w_f_m_anew e_q1) rfl))
  obtain ⟨q2, e_q2, h⟩ := bind_some_inv h
  have h_q2 : Fr [(66, some 0), (66, some 11), (75, none), (79, none)] _ q2.2 := (Fr.tr h_q1 (Fr.mono (w_f_m_rowWhy e_q2) rfl))
  rcases ite_some_inv h with h | h
  · obtain ⟨q6, e_q6, h⟩ := bind_some_inv h
    have h_q6 : Fr [(66, some 0), (66, some 11), (75, none), (79, none)] _ q6.2 := (Fr.tr h_q2 (Fr.mono (w_f_m_in e_q6) rfl))
    rcases ite_some_inv h with h | h
    · rcases ite_some_inv h with h | h
      · obtain ⟨q7, e_q7, h⟩ := bind_some_inv h
        have h_q7 : Fr [(66, some 0), (66, some 11), (75, none), (79, none)] _ q7.2 := (Fr.tr h_q6 (Fr.mono (w_f_m_begin e_q7) rfl))
        exact (Fr.tr h_q7 (Fr.mono (w_f_m_drawn_L57 _ _ _ _ _ _ h) rfl))
      · obtain ⟨q8, e_q8, h⟩ := bind_some_inv h
        have h_q8 : Fr [(66, some 0), (66, some 11), (75, none), (79, none)] _ q8.2 := (Fr.tr h_q6 (Fr.mono (w_f_m_no e_q8) rfl))
        cases h
        exact h_q8
    · obtain ⟨q9, e_q9, h⟩ := bind_some_inv h
      have h_q9 : Fr [(66, some 0), (66, some 11), (75, none), (79, none)] _ q9.2 := (Fr.tr h_q6 (Fr.mono (w_f_m_no e_q9) rfl))
      cases h
      exact h_q9
  · rcases ite_some_inv h with h | h
    · obtain ⟨q3, e_q3, h⟩ := bind_some_inv h
      have h_q3 : Fr [(66, some 0), (66, some 11), (75, none), (79, none)] _ q3.2 := (Fr.tr h_q2 (Fr.mono (w_f_m_begin e_q3) rfl))
      exact (Fr.tr h_q3 (Fr.mono (w_f_m_drawn_L57 _ _ _ _ _ _ h) rfl))
    · obtain ⟨q5, e_q5, h⟩ := bind_some_inv h
      have h_q5 : Fr [(66, some 0), (66, some 11), (75, none), (79, none)] _ q5.2 := (Fr.tr h_q2 (Fr.mono (w_f_m_no e_q5) rfl))
      cases h
      exact h_q5
set_option maxRecDepth 100000 in
theorem w_f_m_fault {N : Nat} {σ : Sg} {z : Int32 × Sg} (h : f_m_fault N σ = some z) : Fr [(66, some 0)] σ z.2 := by
  unfold f_m_fault at h
  cases h
  exact (Fr.wI Fr.rf (List.elem_iff.mp rfl))
set_option maxRecDepth 100000 in
theorem w_f_m_feed_L23 {N : Nat} : ∀ (n : Nat) (v1 : Int32) (v2 : Int32) (v3 : Int32) (v4 : Int32) (v5 : Int32) (v6 : Int32) (σ : Sg) (z : Int32 × Sg), f_m_feed_L23 N n v1 v2 v3 v4 v5 v6 σ = some z → Fr [(66, some 2), (67, none)] σ z.2 := by
  intro n
  induction n with
  | zero => intro v1 v2 v3 v4 v5 v6 σ z  h; exact nomatch (show (none : Option (Int32 × Sg)) = some z from h)
  | succ n ih =>
    intro v1 v2 v3 v4 v5 v6 σ z  h
    unfold f_m_feed_L23 at h
    rcases ite_some_inv h with h | h
    · cases h
      exact Fr.rf
    · rcases ite_some_inv h with h | h
      · rcases ite_some_inv h with h | h
        · rcases ite_some_inv h with h | h
          · rcases ite_some_inv h with h | h
            · rcases ite_some_inv h with h | h
              · exact (Fr.tr (Fr.wI (Fr.wA Fr.rf (List.elem_iff.mp rfl)) (List.elem_iff.mp rfl)) (ih _ _ _ _ _ _ _ _ h))
              · cases h
            · rcases ite_some_inv h with h | h
              · exact (Fr.tr (Fr.wI (Fr.wA Fr.rf (List.elem_iff.mp rfl)) (List.elem_iff.mp rfl)) (ih _ _ _ _ _ _ _ _ h))
              · cases h
          · rcases ite_some_inv h with h | h
            · exact (Fr.tr (Fr.wI (Fr.wA Fr.rf (List.elem_iff.mp rfl)) (List.elem_iff.mp rfl)) (ih _ _ _ _ _ _ _ _ h))
            · cases h
        · rcases ite_some_inv h with h | h
          · exact (Fr.tr (Fr.wI (Fr.wA Fr.rf (List.elem_iff.mp rfl)) (List.elem_iff.mp rfl)) (ih _ _ _ _ _ _ _ _ h))
          · cases h
      · rcases ite_some_inv h with h | h
        · exact (Fr.tr (Fr.wI (Fr.wA Fr.rf (List.elem_iff.mp rfl)) (List.elem_iff.mp rfl)) (ih _ _ _ _ _ _ _ _ h))
        · cases h
set_option maxRecDepth 100000 in
theorem w_f_m_feed {N : Nat} {v1 : Int32} {v2 : Int32} {v3 : Int32} {v4 : Int32} {v5 : Int32} {σ : Sg} {z : Int32 × Sg} (h : f_m_feed N v1 v2 v3 v4 v5 σ = some z) : Fr [(66, some 0), (66, some 2), (67, none)] σ z.2 := by
  unfold f_m_feed at h
  rcases ite_some_inv h with h | h
  · exact (Fr.tr (Fr.wI Fr.rf (List.elem_iff.mp rfl)) (Fr.mono (w_f_m_feed_L23 _ _ _ _ _ _ _ _ _ h) rfl))
  · cases h
    exact (Fr.wI Fr.rf (List.elem_iff.mp rfl))
set_option maxRecDepth 100000 in
theorem w_f_m_note_L11 {N : Nat} {W : WL} (hW : ∀ e ∈ ([(76, none)] : WL), e ∈ W) : ∀ (n : Nat) (v1 : Int32) (σ : Sg) (k39 : (Sg → Option (Unit × Sg))) (z : Unit × Sg) (h_k39 : ∀ (u0 : Sg) z, k39 u0 = some z → Fr W u0 z.2), f_m_note_L11 N n v1 σ k39 = some z → Fr W σ z.2 := by
  intro n
  induction n with
  | zero => intro v1 σ k39 z h_k39 h; exact nomatch (show (none : Option (Unit × Sg)) = some z from h)
  | succ n ih =>
    intro v1 σ k39 z h_k39 h
    unfold f_m_note_L11 at h
    rcases ite_some_inv h with h | h
    · exact (Fr.tr Fr.rf (h_k39 _ _ h))
    · rcases ite_some_inv h with h | h
      · rcases ite_some_inv h with h | h
        · exact (Fr.tr (Fr.wA Fr.rf (hW _ (List.elem_iff.mp rfl))) (ih _ _ _ _ h_k39 h))
        · cases h
      · cases h
set_option maxRecDepth 100000 in
theorem w_f_m_note {N : Nat} {σ : Sg} {z : Unit × Sg} (h : f_m_note N σ = some z) : Fr [(66, some 24), (76, none)] σ z.2 := by
  unfold f_m_note at h
  rcases ite_some_inv h with h | h
  · exact (Fr.tr Fr.rf (w_f_m_note_L11 (W := [(66, some 24), (76, none)]) (fun e he => List.mem_of_elem_eq_true (List.all_eq_true.mp (show ([(76, none)] : WL).all (fun e => List.elem e [(66, some 24), (76, none)]) = true from rfl) e he))  _ _ _ _ _ (fun t2 z h => by
        obtain ⟨q3, e_q3, h⟩ := bind_some_inv h
        have h_q3 : Fr [(66, some 24), (76, none)] _ q3.2 := (Fr.tr (Fr.wI Fr.rf (List.elem_iff.mp rfl)) (Fr.mono (w_f_m_copy e_q3) rfl))
        cases h
        exact (Fr.wI h_q3 (List.elem_iff.mp rfl))
      ) h))
  · obtain ⟨q1, e_q1, h⟩ := bind_some_inv h
    have h_q1 : Fr [(66, some 24), (76, none)] _ q1.2 := (Fr.tr Fr.rf (Fr.mono (w_f_m_copy e_q1) rfl))
    cases h
    exact (Fr.wI h_q1 (List.elem_iff.mp rfl))
set_option maxRecDepth 100000 in
theorem w_f_m_fill {N : Nat} {v1 : Int32} {σ : Sg} {z : Int32 × Sg} (h : f_m_fill N v1 σ = some z) : Fr [(66, some 0), (66, some 11), (66, some 24), (74, none), (76, none)] σ z.2 := by
  unfold f_m_fill at h
  obtain ⟨q1, e_q1, h⟩ := bind_some_inv h
  have h_q1 : Fr [(66, some 0), (66, some 11), (66, some 24), (74, none), (76, none)] _ q1.2 := (Fr.tr Fr.rf (Fr.mono (w_f_m_anew e_q1) rfl))
  obtain ⟨q2, e_q2, h⟩ := bind_some_inv h
  have h_q2 : Fr [(66, some 0), (66, some 11), (66, some 24), (74, none), (76, none)] _ q2.2 := (Fr.tr h_q1 (Fr.mono (w_f_m_isCell e_q2) rfl))
  rcases ite_some_inv h with h | h
  · rcases ite_some_inv h with h | h
    · rcases ite_some_inv h with h | h
      · obtain ⟨q4, e_q4, h⟩ := bind_some_inv h
        have h_q4 : Fr [(66, some 0), (66, some 11), (66, some 24), (74, none), (76, none)] _ q4.2 := (Fr.tr h_q2 (Fr.mono (w_f_m_no e_q4) rfl))
        cases h
        exact h_q4
      · obtain ⟨q3, e_q3, h⟩ := bind_some_inv h
        have h_q3 : Fr [(66, some 0), (66, some 11), (66, some 24), (74, none), (76, none)] _ q3.2 := (Fr.tr h_q2 (Fr.mono (w_f_m_note e_q3) rfl))
        rcases ite_some_inv h with h | h
        · rcases ite_some_inv h with h | h
          · cases h
            exact (Fr.wA h_q3 (List.elem_iff.mp rfl))
          · cases h
        · cases h
    · cases h
  · obtain ⟨q5, e_q5, h⟩ := bind_some_inv h
    have h_q5 : Fr [(66, some 0), (66, some 11), (66, some 24), (74, none), (76, none)] _ q5.2 := (Fr.tr h_q2 (Fr.mono (w_f_m_no e_q5) rfl))
    cases h
    exact h_q5
set_option maxRecDepth 100000 in
theorem w_f_m_fitAt {N : Nat} {v1 : Int32} {σ : Sg} {z : Int32 × Sg} (h : f_m_fitAt N v1 σ = some z) : Fr [(66, some 0), (66, some 11), (66, some 45), (66, some 46), (66, some 47), (75, none), (84, none)] σ z.2 := by
  unfold f_m_fitAt at h
  obtain ⟨q1, e_q1, h⟩ := bind_some_inv h
  have h_q1 : Fr [(66, some 0), (66, some 11), (66, some 45), (66, some 46), (66, some 47), (75, none), (84, none)] _ q1.2 := (Fr.tr Fr.rf (Fr.mono (w_f_m_anew e_q1) rfl))
  rcases ite_some_inv h with h | h
  · obtain ⟨q2, e_q2, h⟩ := bind_some_inv h
    have h_q2 : Fr [(66, some 0), (66, some 11), (66, some 45), (66, some 46), (66, some 47), (75, none), (84, none)] _ q2.2 := (Fr.tr h_q1 (Fr.mono (w_f_m_no e_q2) rfl))
    cases h
    exact h_q2
  · rcases ite_some_inv h with h | h
    · obtain ⟨q3, e_q3, h⟩ := bind_some_inv h
      have h_q3 : Fr [(66, some 0), (66, some 11), (66, some 45), (66, some 46), (66, some 47), (75, none), (84, none)] _ q3.2 := (Fr.tr h_q1 (Fr.mono (w_f_m_seekSets e_q3) rfl))
      rcases ite_some_inv h with h | h
      · cases h
        exact h_q3
      · obtain ⟨q4, e_q4, h⟩ := bind_some_inv h
        have h_q4 : Fr [(66, some 0), (66, some 11), (66, some 45), (66, some 46), (66, some 47), (75, none), (84, none)] _ q4.2 := (Fr.tr h_q3 (Fr.mono (w_f_m_no e_q4) rfl))
        cases h
        exact h_q4
    · obtain ⟨q5, e_q5, h⟩ := bind_some_inv h
      have h_q5 : Fr [(66, some 0), (66, some 11), (66, some 45), (66, some 46), (66, some 47), (75, none), (84, none)] _ q5.2 := (Fr.tr h_q1 (Fr.mono (w_f_m_no e_q5) rfl))
      cases h
      exact h_q5
set_option maxRecDepth 100000 in
theorem w_f_m_fits {N : Nat} {σ : Sg} {z : Int32 × Sg} (h : f_m_fits N σ = some z) : Fr [(66, some 0), (66, some 11), (66, some 45), (66, some 46), (66, some 47), (75, none), (84, none)] σ z.2 := by
  unfold f_m_fits at h
  obtain ⟨q1, e_q1, h⟩ := bind_some_inv h
  have h_q1 : Fr [(66, some 0), (66, some 11), (66, some 45), (66, some 46), (66, some 47), (75, none), (84, none)] _ q1.2 := (Fr.tr Fr.rf (Fr.mono (w_f_m_anew e_q1) rfl))
  rcases ite_some_inv h with h | h
  · obtain ⟨q3, e_q3, h⟩ := bind_some_inv h
    have h_q3 : Fr [(66, some 0), (66, some 11), (66, some 45), (66, some 46), (66, some 47), (75, none), (84, none)] _ q3.2 := (Fr.tr h_q1 (Fr.mono (w_f_m_no e_q3) rfl))
    cases h
    exact h_q3
  · obtain ⟨q2, e_q2, h⟩ := bind_some_inv h
    have h_q2 : Fr [(66, some 0), (66, some 11), (66, some 45), (66, some 46), (66, some 47), (75, none), (84, none)] _ q2.2 := (Fr.tr h_q1 (Fr.mono (w_f_m_seekSets e_q2) rfl))
    cases h
    exact h_q2
set_option maxRecDepth 100000 in
theorem w_f_m_goesOf {N : Nat} {v0 : Int32} {v1 : Int32} {v2 : Int32} {σ : Sg} {z : Int32 × Sg} (h : f_m_goesOf N v0 v1 v2 σ = some z) : Fr [] σ z.2 := by
  unfold f_m_goesOf at h
  rcases ite_some_inv h with h | h
  · rcases ite_some_inv h with h | h
    · cases h
      exact Fr.rf
    · cases h
      exact Fr.rf
  · rcases ite_some_inv h with h | h
    · cases h
      exact Fr.rf
    · cases h
      exact Fr.rf
set_option maxRecDepth 100000 in
theorem w_f_m_goes {N : Nat} {v1 : Int32} {v2 : Int32} {v3 : Int32} {v4 : Int32} {σ : Sg} {z : Int32 × Sg} (h : f_m_goes N v1 v2 v3 v4 σ = some z) : Fr [(66, some 0), (66, some 11)] σ z.2 := by
  unfold f_m_goes at h
  obtain ⟨q1, e_q1, h⟩ := bind_some_inv h
  have h_q1 : Fr [(66, some 0), (66, some 11)] _ q1.2 := (Fr.tr Fr.rf (Fr.mono (w_f_m_anew e_q1) rfl))
  obtain ⟨q2, e_q2, h⟩ := bind_some_inv h
  have h_q2 : Fr [(66, some 0), (66, some 11)] _ q2.2 := (Fr.tr h_q1 (Fr.mono (w_f_m_in e_q2) rfl))
  obtain ⟨q3, e_q3, h⟩ := bind_some_inv h
  have h_q3 : Fr [(66, some 0), (66, some 11)] _ q3.2 := (Fr.tr h_q2 (Fr.mono (w_f_m_why e_q3) rfl))
  rcases ite_some_inv h with h | h
  · rcases ite_some_inv h with h | h
    · obtain ⟨q4, e_q4, h⟩ := bind_some_inv h
      have h_q4 : Fr [(66, some 0), (66, some 11)] _ q4.2 := (Fr.tr h_q3 (Fr.mono (w_f_m_goesOf e_q4) rfl))
      cases h
      exact h_q4
    · obtain ⟨q5, e_q5, h⟩ := bind_some_inv h
      have h_q5 : Fr [(66, some 0), (66, some 11)] _ q5.2 := (Fr.tr h_q3 (Fr.mono (w_f_m_goesOf e_q5) rfl))
      cases h
      exact h_q5
  · cases h
    exact (Fr.wI h_q3 (List.elem_iff.mp rfl))
set_option maxRecDepth 100000 in
theorem w_f_m_goneOn_L4 {N : Nat} {a0 : Nat} {a1 : Nat} {a2 : Nat} : ∀ (n : Nat) (v2 : Int32) (v3 : Int32) (σ : Sg) (z : Int32 × Sg), f_m_goneOn_L4 N a0 a1 a2 n v2 v3 σ = some z → Fr [] σ z.2 := by
  intro n
  induction n with
  | zero => intro v2 v3 σ z  h; exact nomatch (show (none : Option (Int32 × Sg)) = some z from h)
  | succ n ih =>
    intro v2 v3 σ z  h
    unfold f_m_goneOn_L4 at h
    rcases ite_some_inv h with h | h
    · cases h
      exact Fr.rf
    · rcases ite_some_inv h with h | h
      · rcases ite_some_inv h with h | h
        · exact (Fr.tr Fr.rf (ih _ _ _ _ h))
        · exact (Fr.tr Fr.rf (ih _ _ _ _ h))
      · cases h
set_option maxRecDepth 100000 in
theorem w_f_m_goneOn {N : Nat} {a0 : Nat} {a1 : Nat} {a2 : Nat} {σ : Sg} {z : Int32 × Sg} (h : f_m_goneOn N a0 a1 a2 σ = some z) : Fr [] σ z.2 := by
  unfold f_m_goneOn at h
  exact (Fr.tr Fr.rf (Fr.mono (w_f_m_goneOn_L4 _ _ _ _ _ h) rfl))
set_option maxRecDepth 100000 in
theorem w_f_m_gone {N : Nat} {σ : Sg} {z : Int32 × Sg} (h : f_m_gone N σ = some z) : Fr [(66, some 0), (66, some 11)] σ z.2 := by
  unfold f_m_gone at h
  obtain ⟨q1, e_q1, h⟩ := bind_some_inv h
  have h_q1 : Fr [(66, some 0), (66, some 11)] _ q1.2 := (Fr.tr Fr.rf (Fr.mono (w_f_m_anew e_q1) rfl))
  rcases ite_some_inv h with h | h
  · obtain ⟨q2, e_q2, h⟩ := bind_some_inv h
    have h_q2 : Fr [(66, some 0), (66, some 11)] _ q2.2 := (Fr.tr h_q1 (Fr.mono (w_f_m_no e_q2) rfl))
    cases h
    exact h_q2
  · obtain ⟨q3, e_q3, h⟩ := bind_some_inv h
    have h_q3 : Fr [(66, some 0), (66, some 11)] _ q3.2 := (Fr.tr h_q1 (Fr.mono (w_f_m_goneOn e_q3) rfl))
    cases h
    exact h_q3
set_option maxRecDepth 100000 in
theorem w_f_m_aheadWhy {N : Nat} {v1 : Int32} {v2 : Int32} {σ : Sg} {z : Int32 × Sg} (h : f_m_aheadWhy N v1 v2 σ = some z) : Fr [] σ z.2 := by
  unfold f_m_aheadWhy at h
  obtain ⟨q1, e_q1, h⟩ := bind_some_inv h
  have h_q1 : Fr [] _ q1.2 := (Fr.tr Fr.rf (Fr.mono (w_f_m_in e_q1) rfl))
  obtain ⟨q2, e_q2, h⟩ := bind_some_inv h
  have h_q2 : Fr [] _ q2.2 := (Fr.tr h_q1 (Fr.mono (w_f_m_why e_q2) rfl))
  cases h
  exact h_q2
set_option maxRecDepth 100000 in
theorem w_f_m_yearsOn_L6 {N : Nat} : ∀ (n : Nat) (v1 : Int32) (v2 : Int32) (σ : Sg) (z : Unit × Sg), f_m_yearsOn_L6 N n v1 v2 σ = some z → Fr [(66, some 27), (75, none), (78, none)] σ z.2 := by
  intro n
  induction n with
  | zero => intro v1 v2 σ z  h; exact nomatch (show (none : Option (Unit × Sg)) = some z from h)
  | succ n ih =>
    intro v1 v2 σ z  h
    unfold f_m_yearsOn_L6 at h
    rcases ite_some_inv h with h | h
    · cases h
      exact Fr.rf
    · obtain ⟨q2, e_q2, h⟩ := bind_some_inv h
      have h_q2 : Fr [(66, some 27), (75, none), (78, none)] _ q2.2 := (Fr.tr Fr.rf (Fr.mono (w_f_m_yearOn e_q2) rfl))
      exact (Fr.tr h_q2 (ih _ _ _ _ h))
set_option maxRecDepth 100000 in
theorem w_f_m_yearsOn {N : Nat} {v1 : Int32} {σ : Sg} {z : Unit × Sg} (h : f_m_yearsOn N v1 σ = some z) : Fr [(66, some 27), (75, none), (78, none)] σ z.2 := by
  unfold f_m_yearsOn at h
  obtain ⟨q1, e_q1, h⟩ := bind_some_inv h
  have h_q1 : Fr [(66, some 27), (75, none), (78, none)] _ q1.2 := (Fr.tr Fr.rf (Fr.mono (w_f_m_begin e_q1) rfl))
  exact (Fr.tr h_q1 (Fr.mono (w_f_m_yearsOn_L6 _ _ _ _ _ h) rfl))
set_option maxRecDepth 100000 in
theorem w_f_m_goneIn {N : Nat} {v1 : Int32} {σ : Sg} {z : Int32 × Sg} (h : f_m_goneIn N v1 σ = some z) : Fr [(66, some 0), (66, some 11), (66, some 27), (75, none), (78, none)] σ z.2 := by
  unfold f_m_goneIn at h
  obtain ⟨q1, e_q1, h⟩ := bind_some_inv h
  have h_q1 : Fr [(66, some 0), (66, some 11), (66, some 27), (75, none), (78, none)] _ q1.2 := (Fr.tr Fr.rf (Fr.mono (w_f_m_anew e_q1) rfl))
  obtain ⟨q2, e_q2, h⟩ := bind_some_inv h
  have h_q2 : Fr [(66, some 0), (66, some 11), (66, some 27), (75, none), (78, none)] _ q2.2 := (Fr.tr h_q1 (Fr.mono (w_f_m_aheadWhy e_q2) rfl))
  rcases ite_some_inv h with h | h
  · obtain ⟨q3, e_q3, h⟩ := bind_some_inv h
    have h_q3 : Fr [(66, some 0), (66, some 11), (66, some 27), (75, none), (78, none)] _ q3.2 := (Fr.tr h_q2 (Fr.mono (w_f_m_yearsOn e_q3) rfl))
    obtain ⟨q4, e_q4, h⟩ := bind_some_inv h
    have h_q4 : Fr [(66, some 0), (66, some 11), (66, some 27), (75, none), (78, none)] _ q4.2 := (Fr.tr h_q3 (Fr.mono (w_f_m_goneOn e_q4) rfl))
    cases h
    exact h_q4
  · obtain ⟨q5, e_q5, h⟩ := bind_some_inv h
    have h_q5 : Fr [(66, some 0), (66, some 11), (66, some 27), (75, none), (78, none)] _ q5.2 := (Fr.tr h_q2 (Fr.mono (w_f_m_no e_q5) rfl))
    cases h
    exact h_q5
set_option maxRecDepth 100000 in
theorem w_f_m_image {N : Nat} {σ : Sg} {z : Int32 × Sg} (h : f_m_image N σ = some z) : Fr [(66, some 0), (66, some 11), (66, some 25), (77, none)] σ z.2 := by
  unfold f_m_image at h
  obtain ⟨q1, e_q1, h⟩ := bind_some_inv h
  have h_q1 : Fr [(66, some 0), (66, some 11), (66, some 25), (77, none)] _ q1.2 := (Fr.tr Fr.rf (Fr.mono (w_f_m_anew e_q1) rfl))
  rcases ite_some_inv h with h | h
  · obtain ⟨q4, e_q4, h⟩ := bind_some_inv h
    have h_q4 : Fr [(66, some 0), (66, some 11), (66, some 25), (77, none)] _ q4.2 := (Fr.tr h_q1 (Fr.mono (w_f_m_no e_q4) rfl))
    cases h
    exact h_q4
  · rcases ite_some_inv h with h | h
    · obtain ⟨q3, e_q3, h⟩ := bind_some_inv h
      have h_q3 : Fr [(66, some 0), (66, some 11), (66, some 25), (77, none)] _ q3.2 := (Fr.tr h_q1 (Fr.mono (w_f_m_no e_q3) rfl))
      cases h
      exact h_q3
    · obtain ⟨q2, e_q2, h⟩ := bind_some_inv h
      have h_q2 : Fr [(66, some 0), (66, some 11), (66, some 25), (77, none)] _ q2.2 := (Fr.tr h_q1 (Fr.mono (w_f_m_copy e_q2) rfl))
      cases h
      exact (Fr.wI h_q2 (List.elem_iff.mp rfl))
set_option maxRecDepth 100000 in
theorem w_f_m_judge {N : Nat} {σ : Sg} {z : Int32 × Sg} (h : f_m_judge N σ = some z) : Fr [(66, some 0), (66, some 11), (75, none)] σ z.2 := by
  unfold f_m_judge at h
  obtain ⟨q1, e_q1, h⟩ := bind_some_inv h
  have h_q1 : Fr [(66, some 0), (66, some 11), (75, none)] _ q1.2 := (Fr.tr Fr.rf (Fr.mono (w_f_m_anew e_q1) rfl))
  rcases ite_some_inv h with h | h
  · obtain ⟨q2, e_q2, h⟩ := bind_some_inv h
    have h_q2 : Fr [(66, some 0), (66, some 11), (75, none)] _ q2.2 := (Fr.tr h_q1 (Fr.mono (w_f_m_no e_q2) rfl))
    cases h
    exact h_q2
  · obtain ⟨q3, e_q3, h⟩ := bind_some_inv h
    have h_q3 : Fr [(66, some 0), (66, some 11), (75, none)] _ q3.2 := (Fr.tr h_q1 (Fr.mono (w_f_m_wrongBy e_q3) rfl))
    cases h
    exact h_q3
set_option maxRecDepth 100000 in
theorem w_f_m_see {N : Nat} {v1 : Int32} {σ : Sg} {z : Int32 × Sg} (h : f_m_see N v1 σ = some z) : Fr [] σ z.2 := by
  unfold f_m_see at h
  rcases ite_some_inv h with h | h
  · cases h
    exact Fr.rf
  · rcases ite_some_inv h with h | h
    · cases h
      exact Fr.rf
    · cases h
set_option maxRecDepth 100000 in
theorem w_f_m_isSmall {N : Nat} {v0 : Int32} {σ : Sg} {z : Bool × Sg} (h : f_m_isSmall N v0 σ = some z) : Fr [] σ z.2 := by
  unfold f_m_isSmall at h
  rcases ite_some_inv h with h | h
  · cases h
    exact Fr.rf
  · rcases ite_some_inv h with h | h
    · cases h
      exact Fr.rf
    · cases h
      exact Fr.rf
set_option maxRecDepth 100000 in
theorem w_f_m_isDigit {N : Nat} {v0 : Int32} {σ : Sg} {z : Bool × Sg} (h : f_m_isDigit N v0 σ = some z) : Fr [] σ z.2 := by
  unfold f_m_isDigit at h
  rcases ite_some_inv h with h | h
  · cases h
    exact Fr.rf
  · rcases ite_some_inv h with h | h
    · cases h
      exact Fr.rf
    · cases h
      exact Fr.rf
set_option maxRecDepth 100000 in
theorem w_f_m_next_L5 {N : Nat} {W : WL} (hW : ∀ e ∈ ([] : WL), e ∈ W) : ∀ (n : Nat) (v1 : Int32) (σ : Sg) (k21 : (Int32 → Sg → Option (Unit × Sg))) (z : Unit × Sg) (h_k21 : ∀ (u0 : Int32) (u1 : Sg) z, k21 u0 u1 = some z → Fr W u1 z.2), f_m_next_L5 N n v1 σ k21 = some z → Fr W σ z.2 := by
  intro n
  induction n with
  | zero => intro v1 σ k21 z h_k21 h; exact nomatch (show (none : Option (Unit × Sg)) = some z from h)
  | succ n ih =>
    intro v1 σ k21 z h_k21 h
    unfold f_m_next_L5 at h
    obtain ⟨q1, e_q1, h⟩ := bind_some_inv h
    have h_q1 : Fr W _ q1.2 := (Fr.tr Fr.rf (Fr.monoP (Fr.mono (w_f_m_see e_q1) rfl) hW))
    rcases ite_some_inv h with h | h
    · exact (Fr.tr h_q1 (ih _ _ _ _ h_k21 h))
    · exact (Fr.tr h_q1 (h_k21 _ _ _ h))
set_option maxRecDepth 100000 in
theorem w_f_m_next_L152 {N : Nat} : ∀ (n : Nat) (v1 : Int32) (v3 : Int32) (σ : Sg) (z : Unit × Sg), f_m_next_L152 N n v1 v3 σ = some z → Fr [(66, some 5), (66, some 6), (66, some 7)] σ z.2 := by
  intro n
  induction n with
  | zero => intro v1 v3 σ z  h; exact nomatch (show (none : Option (Unit × Sg)) = some z from h)
  | succ n ih =>
    intro v1 v3 σ z  h
    unfold f_m_next_L152 at h
    obtain ⟨q6, e_q6, h⟩ := bind_some_inv h
    have h_q6 : Fr [(66, some 5), (66, some 6), (66, some 7)] _ q6.2 := (Fr.tr Fr.rf (Fr.mono (w_f_m_see e_q6) rfl))
    obtain ⟨q7, e_q7, h⟩ := bind_some_inv h
    have h_q7 : Fr [(66, some 5), (66, some 6), (66, some 7)] _ q7.2 := (Fr.tr h_q6 (Fr.mono (w_f_m_isDigit e_q7) rfl))
    rcases ite_some_inv h with h | h
    · rcases ite_some_inv h with h | h
      · exact (Fr.tr h_q7 (ih _ _ _ _ h))
      · obtain ⟨q8, e_q8, h⟩ := bind_some_inv h
        have h_q8 : Fr [(66, some 5), (66, some 6), (66, some 7)] _ q8.2 := (Fr.tr h_q7 (Fr.mono (w_f_m_see e_q8) rfl))
        exact (Fr.tr (Fr.wI h_q8 (List.elem_iff.mp rfl)) (ih _ _ _ _ h))
    · rcases ite_some_inv h with h | h
      · cases h
        exact (Fr.wI (Fr.wI h_q7 (List.elem_iff.mp rfl)) (List.elem_iff.mp rfl))
      · cases h
        exact (Fr.wI (Fr.wI h_q7 (List.elem_iff.mp rfl)) (List.elem_iff.mp rfl))
set_option maxRecDepth 100000 in
theorem w_f_m_next_L67 {N : Nat} : ∀ (n : Nat) (v1 : Int32) (σ : Sg) (z : Unit × Sg), f_m_next_L67 N n v1 σ = some z → Fr [(66, some 5), (66, some 6), (66, some 8), (68, none)] σ z.2 := by
  intro n
  induction n with
  | zero => intro v1 σ z  h; exact nomatch (show (none : Option (Unit × Sg)) = some z from h)
  | succ n ih =>
    intro v1 σ z  h
    unfold f_m_next_L67 at h
    obtain ⟨q9, e_q9, h⟩ := bind_some_inv h
    have h_q9 : Fr [(66, some 5), (66, some 6), (66, some 8), (68, none)] _ q9.2 := (Fr.tr Fr.rf (Fr.mono (w_f_m_see e_q9) rfl))
    obtain ⟨q10, e_q10, h⟩ := bind_some_inv h
    have h_q10 : Fr [(66, some 5), (66, some 6), (66, some 8), (68, none)] _ q10.2 := (Fr.tr h_q9 (Fr.mono (w_f_m_isSmall e_q10) rfl))
    rcases ite_some_inv h with h | h
    · rcases ite_some_inv h with h | h
      · exact (Fr.tr (Fr.wI h_q10 (List.elem_iff.mp rfl)) (ih _ _ _ h))
      · obtain ⟨q11, e_q11, h⟩ := bind_some_inv h
        have h_q11 : Fr [(66, some 5), (66, some 6), (66, some 8), (68, none)] _ q11.2 := (Fr.tr h_q10 (Fr.mono (w_f_m_see e_q11) rfl))
        rcases ite_some_inv h with h | h
        · exact (Fr.tr (Fr.wI (Fr.wA h_q11 (List.elem_iff.mp rfl)) (List.elem_iff.mp rfl)) (ih _ _ _ h))
        · cases h
    · rcases ite_some_inv h with h | h
      · cases h
        exact (Fr.wI (Fr.wI h_q10 (List.elem_iff.mp rfl)) (List.elem_iff.mp rfl))
      · cases h
        exact (Fr.wI (Fr.wI h_q10 (List.elem_iff.mp rfl)) (List.elem_iff.mp rfl))
set_option maxRecDepth 100000 in
theorem w_f_m_next {N : Nat} {σ : Sg} {z : Unit × Sg} (h : f_m_next N σ = some z) : Fr [(66, some 4), (66, some 5), (66, some 6), (66, some 7), (66, some 8), (68, none)] σ z.2 := by
  unfold f_m_next at h
  exact (Fr.tr Fr.rf (w_f_m_next_L5 (W := [(66, some 4), (66, some 5), (66, some 6), (66, some 7), (66, some 8), (68, none)]) (fun e he => by cases he)  _ _ _ _ _ (fun w1 t2 z h => by
      obtain ⟨q3, e_q3, h⟩ := bind_some_inv h
      have h_q3 : Fr [(66, some 4), (66, some 5), (66, some 6), (66, some 7), (66, some 8), (68, none)] _ q3.2 := (Fr.tr (Fr.wI Fr.rf (List.elem_iff.mp rfl)) (Fr.mono (w_f_m_see e_q3) rfl))
      rcases ite_some_inv h with h | h
      · cases h
        exact (Fr.wI (Fr.wI (Fr.wI (Fr.wI h_q3 (List.elem_iff.mp rfl)) (List.elem_iff.mp rfl)) (List.elem_iff.mp rfl)) (List.elem_iff.mp rfl))
      · obtain ⟨q4, e_q4, h⟩ := bind_some_inv h
        have h_q4 : Fr [(66, some 4), (66, some 5), (66, some 6), (66, some 7), (66, some 8), (68, none)] _ q4.2 := (Fr.tr (Fr.wI (Fr.wI h_q3 (List.elem_iff.mp rfl)) (List.elem_iff.mp rfl)) (Fr.mono (w_f_m_isSmall e_q4) rfl))
        rcases ite_some_inv h with h | h
        · exact (Fr.tr h_q4 (Fr.mono (w_f_m_next_L67 _ _ _ _ h) rfl))
        · obtain ⟨q5, e_q5, h⟩ := bind_some_inv h
          have h_q5 : Fr [(66, some 4), (66, some 5), (66, some 6), (66, some 7), (66, some 8), (68, none)] _ q5.2 := (Fr.tr h_q4 (Fr.mono (w_f_m_isDigit e_q5) rfl))
          rcases ite_some_inv h with h | h
          · exact (Fr.tr h_q5 (Fr.mono (w_f_m_next_L152 _ _ _ _ _ h) rfl))
          · rcases ite_some_inv h with h | h
            · cases h
              exact (Fr.wI (Fr.wI h_q5 (List.elem_iff.mp rfl)) (List.elem_iff.mp rfl))
            · cases h
              exact (Fr.wI (Fr.wI h_q5 (List.elem_iff.mp rfl)) (List.elem_iff.mp rfl))
    ) h))
set_option maxRecDepth 100000 in
theorem w_f_js_coder {N : Nat} {w0 : Nat} {σ : Sg} {z : Int32 × Sg} (h : f_js_coder N w0 σ = some z) : Fr [] σ z.2 := by
  unfold f_js_coder at h
  cases h
  exact Fr.rf
set_option maxRecDepth 100000 in
theorem w_f_js_length {N : Nat} {w0 : Nat} {σ : Sg} {z : Int32 × Sg} (h : f_js_length N w0 σ = some z) : Fr [] σ z.2 := by
  unfold f_js_length at h
  obtain ⟨q1, e_q1, h⟩ := bind_some_inv h
  have h_q1 : Fr [] _ q1.2 := (Fr.tr Fr.rf (Fr.mono (w_f_js_coder e_q1) rfl))
  cases h
  exact h_q1
set_option maxRecDepth 100000 in
theorem w_f_js_isLatin1 {N : Nat} {w0 : Nat} {σ : Sg} {z : Bool × Sg} (h : f_js_isLatin1 N w0 σ = some z) : Fr [] σ z.2 := by
  unfold f_js_isLatin1 at h
  cases h
  exact Fr.rf
set_option maxRecDepth 100000 in
theorem w_f_jp_checkIndex {N : Nat} {v0 : Int32} {v1 : Int32} {σ : Sg} {z : Int32 × Sg} (h : f_jp_checkIndex N v0 v1 σ = some z) : Fr [] σ z.2 := by
  unfold f_jp_checkIndex at h
  rcases ite_some_inv h with h | h
  · cases h
  · rcases ite_some_inv h with h | h
    · cases h
      exact Fr.rf
    · cases h
set_option maxRecDepth 100000 in
theorem w_f_js_checkIndex {N : Nat} {v0 : Int32} {v1 : Int32} {σ : Sg} {z : Unit × Sg} (h : f_js_checkIndex N v0 v1 σ = some z) : Fr [] σ z.2 := by
  unfold f_js_checkIndex at h
  obtain ⟨q1, e_q1, h⟩ := bind_some_inv h
  have h_q1 : Fr [] _ q1.2 := (Fr.tr Fr.rf (Fr.mono (w_f_jp_checkIndex e_q1) rfl))
  cases h
  exact h_q1
set_option maxRecDepth 100000 in
theorem w_f_jsl_charAt {N : Nat} {w0 : Nat} {v1 : Int32} {σ : Sg} {z : Int32 × Sg} (h : f_jsl_charAt N w0 v1 σ = some z) : Fr [] σ z.2 := by
  unfold f_jsl_charAt at h
  obtain ⟨q1, e_q1, h⟩ := bind_some_inv h
  have h_q1 : Fr [] _ q1.2 := (Fr.tr Fr.rf (Fr.mono (w_f_js_checkIndex e_q1) rfl))
  rcases ite_some_inv h with h | h
  · cases h
    exact h_q1
  · cases h
set_option maxRecDepth 100000 in
theorem w_f_js_charAt {N : Nat} {w0 : Nat} {v1 : Int32} {σ : Sg} {z : Int32 × Sg} (h : f_js_charAt N w0 v1 σ = some z) : Fr [] σ z.2 := by
  unfold f_js_charAt at h
  obtain ⟨q1, e_q1, h⟩ := bind_some_inv h
  have h_q1 : Fr [] _ q1.2 := (Fr.tr Fr.rf (Fr.mono (w_f_js_isLatin1 e_q1) rfl))
  rcases ite_some_inv h with h | h
  · obtain ⟨q2, e_q2, h⟩ := bind_some_inv h
    have h_q2 : Fr [] _ q2.2 := (Fr.tr h_q1 (Fr.mono (w_f_jsl_charAt e_q2) rfl))
    rcases ite_some_inv h with h | h
    · cases h
      exact h_q2
    · cases h
  · cases h
set_option maxRecDepth 100000 in
theorem w_f_m_isWord_L32 {N : Nat} {w1 : Nat} : ∀ (n : Nat) (v2 : Int32) (v3 : Int32) (σ : Sg) (z : Bool × Sg), f_m_isWord_L32 N w1 n v2 v3 σ = some z → Fr [] σ z.2 := by
  intro n
  induction n with
  | zero => intro v2 v3 σ z  h; exact nomatch (show (none : Option (Bool × Sg)) = some z from h)
  | succ n ih =>
    intro v2 v3 σ z  h
    unfold f_m_isWord_L32 at h
    rcases ite_some_inv h with h | h
    · rcases ite_some_inv h with h | h
      · cases h
        exact Fr.rf
      · cases h
    · rcases ite_some_inv h with h | h
      · exact (Fr.tr Fr.rf (ih _ _ _ _ h))
      · rcases ite_some_inv h with h | h
        · obtain ⟨q2, e_q2, h⟩ := bind_some_inv h
          have h_q2 : Fr [] _ q2.2 := (Fr.tr Fr.rf (Fr.mono (w_f_js_charAt e_q2) rfl))
          rcases ite_some_inv h with h | h
          · exact (Fr.tr h_q2 (ih _ _ _ _ h))
          · exact (Fr.tr h_q2 (ih _ _ _ _ h))
        · cases h
set_option maxRecDepth 100000 in
theorem w_f_m_isWord {N : Nat} {w1 : Nat} {σ : Sg} {z : Bool × Sg} (h : f_m_isWord N w1 σ = some z) : Fr [] σ z.2 := by
  unfold f_m_isWord at h
  rcases ite_some_inv h with h | h
  · rcases ite_some_inv h with h | h
    · obtain ⟨q1, e_q1, h⟩ := bind_some_inv h
      have h_q1 : Fr [] _ q1.2 := (Fr.tr Fr.rf (Fr.mono (w_f_js_length e_q1) rfl))
      rcases ite_some_inv h with h | h
      · exact (Fr.tr h_q1 (Fr.mono (w_f_m_isWord_L32 _ _ _ _ _ h) rfl))
      · cases h
        exact h_q1
    · cases h
      exact Fr.rf
  · cases h
    exact Fr.rf
set_option maxRecDepth 100000 in
theorem w_f_m_pass {N : Nat} {σ : Sg} {z : Unit × Sg} (h : f_m_pass N σ = some z) : Fr [(66, some 4), (66, some 5), (66, some 6), (66, some 7), (66, some 8), (68, none)] σ z.2 := by
  unfold f_m_pass at h
  rcases ite_some_inv h with h | h
  · obtain ⟨q1, e_q1, h⟩ := bind_some_inv h
    have h_q1 : Fr [(66, some 4), (66, some 5), (66, some 6), (66, some 7), (66, some 8), (68, none)] _ q1.2 := (Fr.tr Fr.rf (Fr.mono (w_f_m_next e_q1) rfl))
    cases h
    exact h_q1
  · cases h
    exact Fr.rf
set_option maxRecDepth 100000 in
theorem w_f_m_wrong {N : Nat} {v1 : Int32} {v2 : Int32} {σ : Sg} {z : Unit × Sg} (h : f_m_wrong N v1 v2 σ = some z) : Fr [(66, some 9), (66, some 10), (66, some 13)] σ z.2 := by
  unfold f_m_wrong at h
  rcases ite_some_inv h with h | h
  · cases h
    exact (Fr.wI (Fr.wI (Fr.wI Fr.rf (List.elem_iff.mp rfl)) (List.elem_iff.mp rfl)) (List.elem_iff.mp rfl))
  · cases h
    exact Fr.rf
set_option maxRecDepth 100000 in
theorem w_f_m_begins {N : Nat} {w1 : Nat} {v2 : Int32} {σ : Sg} {z : Bool × Sg} (h : f_m_begins N w1 v2 σ = some z) : Fr [(66, some 4), (66, some 5), (66, some 6), (66, some 7), (66, some 8), (66, some 9), (66, some 10), (66, some 13), (68, none)] σ z.2 := by
  unfold f_m_begins at h
  obtain ⟨q1, e_q1, h⟩ := bind_some_inv h
  have h_q1 : Fr [(66, some 4), (66, some 5), (66, some 6), (66, some 7), (66, some 8), (66, some 9), (66, some 10), (66, some 13), (68, none)] _ q1.2 := (Fr.tr Fr.rf (Fr.mono (w_f_m_isWord e_q1) rfl))
  rcases ite_some_inv h with h | h
  · rcases ite_some_inv h with h | h
    · obtain ⟨q13, e_q13, h⟩ := bind_some_inv h
      have h_q13 : Fr [(66, some 4), (66, some 5), (66, some 6), (66, some 7), (66, some 8), (66, some 9), (66, some 10), (66, some 13), (68, none)] _ q13.2 := (Fr.tr h_q1 (Fr.mono (w_f_m_wrong e_q13) rfl))
      rcases ite_some_inv h with h | h
      · obtain ⟨q19, e_q19, h⟩ := bind_some_inv h
        have h_q19 : Fr [(66, some 4), (66, some 5), (66, some 6), (66, some 7), (66, some 8), (66, some 9), (66, some 10), (66, some 13), (68, none)] _ q19.2 := (Fr.tr h_q13 (Fr.mono (w_f_m_wrong e_q19) rfl))
        obtain ⟨q20, e_q20, h⟩ := bind_some_inv h
        have h_q20 : Fr [(66, some 4), (66, some 5), (66, some 6), (66, some 7), (66, some 8), (66, some 9), (66, some 10), (66, some 13), (68, none)] _ q20.2 := (Fr.tr h_q19 (Fr.mono (w_f_m_isWord e_q20) rfl))
        rcases ite_some_inv h with h | h
        · rcases ite_some_inv h with h | h
          · obtain ⟨q22, e_q22, h⟩ := bind_some_inv h
            have h_q22 : Fr [(66, some 4), (66, some 5), (66, some 6), (66, some 7), (66, some 8), (66, some 9), (66, some 10), (66, some 13), (68, none)] _ q22.2 := (Fr.tr h_q20 (Fr.mono (w_f_m_pass e_q22) rfl))
            cases h
            exact h_q22
          · obtain ⟨q23, e_q23, h⟩ := bind_some_inv h
            have h_q23 : Fr [(66, some 4), (66, some 5), (66, some 6), (66, some 7), (66, some 8), (66, some 9), (66, some 10), (66, some 13), (68, none)] _ q23.2 := (Fr.tr h_q20 (Fr.mono (w_f_m_wrong e_q23) rfl))
            obtain ⟨q24, e_q24, h⟩ := bind_some_inv h
            have h_q24 : Fr [(66, some 4), (66, some 5), (66, some 6), (66, some 7), (66, some 8), (66, some 9), (66, some 10), (66, some 13), (68, none)] _ q24.2 := (Fr.tr h_q23 (Fr.mono (w_f_m_pass e_q24) rfl))
            cases h
            exact h_q24
        · obtain ⟨q21, e_q21, h⟩ := bind_some_inv h
          have h_q21 : Fr [(66, some 4), (66, some 5), (66, some 6), (66, some 7), (66, some 8), (66, some 9), (66, some 10), (66, some 13), (68, none)] _ q21.2 := (Fr.tr h_q20 (Fr.mono (w_f_m_pass e_q21) rfl))
          cases h
          exact h_q21
      · obtain ⟨q14, e_q14, h⟩ := bind_some_inv h
        have h_q14 : Fr [(66, some 4), (66, some 5), (66, some 6), (66, some 7), (66, some 8), (66, some 9), (66, some 10), (66, some 13), (68, none)] _ q14.2 := (Fr.tr h_q13 (Fr.mono (w_f_m_isWord e_q14) rfl))
        rcases ite_some_inv h with h | h
        · rcases ite_some_inv h with h | h
          · obtain ⟨q16, e_q16, h⟩ := bind_some_inv h
            have h_q16 : Fr [(66, some 4), (66, some 5), (66, some 6), (66, some 7), (66, some 8), (66, some 9), (66, some 10), (66, some 13), (68, none)] _ q16.2 := (Fr.tr h_q14 (Fr.mono (w_f_m_pass e_q16) rfl))
            cases h
            exact h_q16
          · obtain ⟨q17, e_q17, h⟩ := bind_some_inv h
            have h_q17 : Fr [(66, some 4), (66, some 5), (66, some 6), (66, some 7), (66, some 8), (66, some 9), (66, some 10), (66, some 13), (68, none)] _ q17.2 := (Fr.tr h_q14 (Fr.mono (w_f_m_wrong e_q17) rfl))
            obtain ⟨q18, e_q18, h⟩ := bind_some_inv h
            have h_q18 : Fr [(66, some 4), (66, some 5), (66, some 6), (66, some 7), (66, some 8), (66, some 9), (66, some 10), (66, some 13), (68, none)] _ q18.2 := (Fr.tr h_q17 (Fr.mono (w_f_m_pass e_q18) rfl))
            cases h
            exact h_q18
        · obtain ⟨q15, e_q15, h⟩ := bind_some_inv h
          have h_q15 : Fr [(66, some 4), (66, some 5), (66, some 6), (66, some 7), (66, some 8), (66, some 9), (66, some 10), (66, some 13), (68, none)] _ q15.2 := (Fr.tr h_q14 (Fr.mono (w_f_m_pass e_q15) rfl))
          cases h
          exact h_q15
    · rcases ite_some_inv h with h | h
      · obtain ⟨q7, e_q7, h⟩ := bind_some_inv h
        have h_q7 : Fr [(66, some 4), (66, some 5), (66, some 6), (66, some 7), (66, some 8), (66, some 9), (66, some 10), (66, some 13), (68, none)] _ q7.2 := (Fr.tr h_q1 (Fr.mono (w_f_m_wrong e_q7) rfl))
        obtain ⟨q8, e_q8, h⟩ := bind_some_inv h
        have h_q8 : Fr [(66, some 4), (66, some 5), (66, some 6), (66, some 7), (66, some 8), (66, some 9), (66, some 10), (66, some 13), (68, none)] _ q8.2 := (Fr.tr h_q7 (Fr.mono (w_f_m_isWord e_q8) rfl))
        rcases ite_some_inv h with h | h
        · rcases ite_some_inv h with h | h
          · obtain ⟨q10, e_q10, h⟩ := bind_some_inv h
            have h_q10 : Fr [(66, some 4), (66, some 5), (66, some 6), (66, some 7), (66, some 8), (66, some 9), (66, some 10), (66, some 13), (68, none)] _ q10.2 := (Fr.tr h_q8 (Fr.mono (w_f_m_pass e_q10) rfl))
            cases h
            exact h_q10
          · obtain ⟨q11, e_q11, h⟩ := bind_some_inv h
            have h_q11 : Fr [(66, some 4), (66, some 5), (66, some 6), (66, some 7), (66, some 8), (66, some 9), (66, some 10), (66, some 13), (68, none)] _ q11.2 := (Fr.tr h_q8 (Fr.mono (w_f_m_wrong e_q11) rfl))
            obtain ⟨q12, e_q12, h⟩ := bind_some_inv h
            have h_q12 : Fr [(66, some 4), (66, some 5), (66, some 6), (66, some 7), (66, some 8), (66, some 9), (66, some 10), (66, some 13), (68, none)] _ q12.2 := (Fr.tr h_q11 (Fr.mono (w_f_m_pass e_q12) rfl))
            cases h
            exact h_q12
        · obtain ⟨q9, e_q9, h⟩ := bind_some_inv h
          have h_q9 : Fr [(66, some 4), (66, some 5), (66, some 6), (66, some 7), (66, some 8), (66, some 9), (66, some 10), (66, some 13), (68, none)] _ q9.2 := (Fr.tr h_q8 (Fr.mono (w_f_m_pass e_q9) rfl))
          cases h
          exact h_q9
      · obtain ⟨q2, e_q2, h⟩ := bind_some_inv h
        have h_q2 : Fr [(66, some 4), (66, some 5), (66, some 6), (66, some 7), (66, some 8), (66, some 9), (66, some 10), (66, some 13), (68, none)] _ q2.2 := (Fr.tr h_q1 (Fr.mono (w_f_m_isWord e_q2) rfl))
        rcases ite_some_inv h with h | h
        · rcases ite_some_inv h with h | h
          · obtain ⟨q4, e_q4, h⟩ := bind_some_inv h
            have h_q4 : Fr [(66, some 4), (66, some 5), (66, some 6), (66, some 7), (66, some 8), (66, some 9), (66, some 10), (66, some 13), (68, none)] _ q4.2 := (Fr.tr h_q2 (Fr.mono (w_f_m_pass e_q4) rfl))
            cases h
            exact h_q4
          · obtain ⟨q5, e_q5, h⟩ := bind_some_inv h
            have h_q5 : Fr [(66, some 4), (66, some 5), (66, some 6), (66, some 7), (66, some 8), (66, some 9), (66, some 10), (66, some 13), (68, none)] _ q5.2 := (Fr.tr h_q2 (Fr.mono (w_f_m_wrong e_q5) rfl))
            obtain ⟨q6, e_q6, h⟩ := bind_some_inv h
            have h_q6 : Fr [(66, some 4), (66, some 5), (66, some 6), (66, some 7), (66, some 8), (66, some 9), (66, some 10), (66, some 13), (68, none)] _ q6.2 := (Fr.tr h_q5 (Fr.mono (w_f_m_pass e_q6) rfl))
            cases h
            exact h_q6
        · obtain ⟨q3, e_q3, h⟩ := bind_some_inv h
          have h_q3 : Fr [(66, some 4), (66, some 5), (66, some 6), (66, some 7), (66, some 8), (66, some 9), (66, some 10), (66, some 13), (68, none)] _ q3.2 := (Fr.tr h_q2 (Fr.mono (w_f_m_pass e_q3) rfl))
          cases h
          exact h_q3
  · cases h
    exact h_q1
set_option maxRecDepth 100000 in
theorem w_f_m_numberHere {N : Nat} {v1 : Int32} {v2 : Int32} {σ : Sg} {z : Int32 × Sg} (h : f_m_numberHere N v1 v2 σ = some z) : Fr [(66, some 9), (66, some 10), (66, some 13)] σ z.2 := by
  unfold f_m_numberHere at h
  rcases ite_some_inv h with h | h
  · rcases ite_some_inv h with h | h
    · obtain ⟨q1, e_q1, h⟩ := bind_some_inv h
      have h_q1 : Fr [(66, some 9), (66, some 10), (66, some 13)] _ q1.2 := (Fr.tr Fr.rf (Fr.mono (w_f_m_in e_q1) rfl))
      rcases ite_some_inv h with h | h
      · rcases ite_some_inv h with h | h
        · cases h
          exact h_q1
        · cases h
          exact h_q1
      · obtain ⟨q2, e_q2, h⟩ := bind_some_inv h
        have h_q2 : Fr [(66, some 9), (66, some 10), (66, some 13)] _ q2.2 := (Fr.tr h_q1 (Fr.mono (w_f_m_wrong e_q2) rfl))
        rcases ite_some_inv h with h | h
        · cases h
          exact h_q2
        · cases h
          exact h_q2
    · obtain ⟨q3, e_q3, h⟩ := bind_some_inv h
      have h_q3 : Fr [(66, some 9), (66, some 10), (66, some 13)] _ q3.2 := (Fr.tr Fr.rf (Fr.mono (w_f_m_wrong e_q3) rfl))
      rcases ite_some_inv h with h | h
      · cases h
        exact h_q3
      · cases h
        exact h_q3
  · cases h
    exact Fr.rf
set_option maxRecDepth 100000 in
theorem w_f_m_cellHere {N : Nat} {σ : Sg} {z : Int32 × Sg} (h : f_m_cellHere N σ = some z) : Fr [(66, some 9), (66, some 10), (66, some 13)] σ z.2 := by
  unfold f_m_cellHere at h
  obtain ⟨q1, e_q1, h⟩ := bind_some_inv h
  have h_q1 : Fr [(66, some 9), (66, some 10), (66, some 13)] _ q1.2 := (Fr.tr Fr.rf (Fr.mono (w_f_m_numberHere e_q1) rfl))
  cases h
  exact h_q1
set_option maxRecDepth 100000 in
theorem w_f_m_seenLine_L28 {N : Nat} {W : WL} (hW : ∀ e ∈ ([(66, some 9), (66, some 10), (66, some 13)] : WL), e ∈ W) : ∀ (n : Nat) (v1 : Int32) (v2 : Int32) (v3 : Int32) (σ : Sg) (k76 : (Int32 → Int32 → Sg → Option (Unit × Sg))) (z : Unit × Sg) (h_k76 : ∀ (u0 : Int32) (u1 : Int32) (u2 : Sg) z, k76 u0 u1 u2 = some z → Fr W u2 z.2), f_m_seenLine_L28 N n v1 v2 v3 σ k76 = some z → Fr W σ z.2 := by
  intro n
  induction n with
  | zero => intro v1 v2 v3 σ k76 z h_k76 h; exact nomatch (show (none : Option (Unit × Sg)) = some z from h)
  | succ n ih =>
    intro v1 v2 v3 σ k76 z h_k76 h
    unfold f_m_seenLine_L28 at h
    rcases ite_some_inv h with h | h
    · exact (Fr.tr Fr.rf (h_k76 _ _ _ _ h))
    · rcases ite_some_inv h with h | h
      · rcases ite_some_inv h with h | h
        · rcases ite_some_inv h with h | h
          · obtain ⟨q2, e_q2, h⟩ := bind_some_inv h
            have h_q2 : Fr W _ q2.2 := (Fr.tr Fr.rf (Fr.monoP (Fr.mono (w_f_m_wrong e_q2) rfl) hW))
            exact (Fr.tr h_q2 (ih _ _ _ _ _ _ h_k76 h))
          · exact (Fr.tr Fr.rf (ih _ _ _ _ _ _ h_k76 h))
        · cases h
      · exact (Fr.tr Fr.rf (ih _ _ _ _ _ _ h_k76 h))
set_option maxRecDepth 100000 in
theorem w_f_m_seenLine {N : Nat} {σ : Sg} {z : Unit × Sg} (h : f_m_seenLine N σ = some z) : Fr [(66, some 4), (66, some 5), (66, some 6), (66, some 7), (66, some 8), (66, some 9), (66, some 10), (66, some 13), (68, none), (70, none)] σ z.2 := by
  unfold f_m_seenLine at h
  rcases ite_some_inv h with h | h
  · obtain ⟨q1, e_q1, h⟩ := bind_some_inv h
    have h_q1 : Fr [(66, some 4), (66, some 5), (66, some 6), (66, some 7), (66, some 8), (66, some 9), (66, some 10), (66, some 13), (68, none), (70, none)] _ q1.2 := (Fr.tr Fr.rf (Fr.mono (w_f_m_cellHere e_q1) rfl))
    exact (Fr.tr h_q1 (w_f_m_seenLine_L28 (W := [(66, some 4), (66, some 5), (66, some 6), (66, some 7), (66, some 8), (66, some 9), (66, some 10), (66, some 13), (68, none), (70, none)]) (fun e he => List.mem_of_elem_eq_true (List.all_eq_true.mp (show ([(66, some 9), (66, some 10), (66, some 13)] : WL).all (fun e => List.elem e [(66, some 4), (66, some 5), (66, some 6), (66, some 7), (66, some 8), (66, some 9), (66, some 10), (66, some 13), (68, none), (70, none)]) = true from rfl) e he))  _ _ _ _ _ _ _ (fun w1 w2 t3 z h => by
        obtain ⟨q4, e_q4, h⟩ := bind_some_inv h
        have h_q4 : Fr [(66, some 4), (66, some 5), (66, some 6), (66, some 7), (66, some 8), (66, some 9), (66, some 10), (66, some 13), (68, none), (70, none)] _ q4.2 := (Fr.tr Fr.rf (Fr.mono (w_f_m_pass e_q4) rfl))
        obtain ⟨q5, e_q5, h⟩ := bind_some_inv h
        have h_q5 : Fr [(66, some 4), (66, some 5), (66, some 6), (66, some 7), (66, some 8), (66, some 9), (66, some 10), (66, some 13), (68, none), (70, none)] _ q5.2 := (Fr.tr h_q4 (Fr.mono (w_f_m_isWord e_q5) rfl))
        rcases ite_some_inv h with h | h
        · obtain ⟨q10, e_q10, h⟩ := bind_some_inv h
          have h_q10 : Fr [(66, some 4), (66, some 5), (66, some 6), (66, some 7), (66, some 8), (66, some 9), (66, some 10), (66, some 13), (68, none), (70, none)] _ q10.2 := (Fr.tr h_q5 (Fr.mono (w_f_m_pass e_q10) rfl))
          rcases ite_some_inv h with h | h
          · rcases ite_some_inv h with h | h
            · rcases ite_some_inv h with h | h
              · cases h
                exact (Fr.wA (Fr.wA (Fr.wA h_q10 (List.elem_iff.mp rfl)) (List.elem_iff.mp rfl)) (List.elem_iff.mp rfl))
              · cases h
            · cases h
          · cases h
            exact h_q10
        · obtain ⟨q6, e_q6, h⟩ := bind_some_inv h
          have h_q6 : Fr [(66, some 4), (66, some 5), (66, some 6), (66, some 7), (66, some 8), (66, some 9), (66, some 10), (66, some 13), (68, none), (70, none)] _ q6.2 := (Fr.tr h_q5 (Fr.mono (w_f_m_isWord e_q6) rfl))
          rcases ite_some_inv h with h | h
          · obtain ⟨q9, e_q9, h⟩ := bind_some_inv h
            have h_q9 : Fr [(66, some 4), (66, some 5), (66, some 6), (66, some 7), (66, some 8), (66, some 9), (66, some 10), (66, some 13), (68, none), (70, none)] _ q9.2 := (Fr.tr h_q6 (Fr.mono (w_f_m_pass e_q9) rfl))
            rcases ite_some_inv h with h | h
            · rcases ite_some_inv h with h | h
              · rcases ite_some_inv h with h | h
                · cases h
                  exact (Fr.wA (Fr.wA (Fr.wA h_q9 (List.elem_iff.mp rfl)) (List.elem_iff.mp rfl)) (List.elem_iff.mp rfl))
                · cases h
              · cases h
            · cases h
              exact h_q9
          · obtain ⟨q7, e_q7, h⟩ := bind_some_inv h
            have h_q7 : Fr [(66, some 4), (66, some 5), (66, some 6), (66, some 7), (66, some 8), (66, some 9), (66, some 10), (66, some 13), (68, none), (70, none)] _ q7.2 := (Fr.tr h_q6 (Fr.mono (w_f_m_wrong e_q7) rfl))
            obtain ⟨q8, e_q8, h⟩ := bind_some_inv h
            have h_q8 : Fr [(66, some 4), (66, some 5), (66, some 6), (66, some 7), (66, some 8), (66, some 9), (66, some 10), (66, some 13), (68, none), (70, none)] _ q8.2 := (Fr.tr h_q7 (Fr.mono (w_f_m_pass e_q8) rfl))
            rcases ite_some_inv h with h | h
            · rcases ite_some_inv h with h | h
              · rcases ite_some_inv h with h | h
                · cases h
                  exact (Fr.wA (Fr.wA (Fr.wA h_q8 (List.elem_iff.mp rfl)) (List.elem_iff.mp rfl)) (List.elem_iff.mp rfl))
                · cases h
              · cases h
            · cases h
              exact h_q8
      ) h))
  · cases h
    exact Fr.rf
set_option maxRecDepth 100000 in
theorem w_f_m_unsureLine_L22 {N : Nat} {W : WL} (hW : ∀ e ∈ ([(66, some 9), (66, some 10), (66, some 13)] : WL), e ∈ W) : ∀ (n : Nat) (v1 : Int32) (v2 : Int32) (σ : Sg) (k67 : (Int32 → Sg → Option (Unit × Sg))) (z : Unit × Sg) (h_k67 : ∀ (u0 : Int32) (u1 : Sg) z, k67 u0 u1 = some z → Fr W u1 z.2), f_m_unsureLine_L22 N n v1 v2 σ k67 = some z → Fr W σ z.2 := by
  intro n
  induction n with
  | zero => intro v1 v2 σ k67 z h_k67 h; exact nomatch (show (none : Option (Unit × Sg)) = some z from h)
  | succ n ih =>
    intro v1 v2 σ k67 z h_k67 h
    unfold f_m_unsureLine_L22 at h
    rcases ite_some_inv h with h | h
    · exact (Fr.tr Fr.rf (h_k67 _ _ _ h))
    · rcases ite_some_inv h with h | h
      · rcases ite_some_inv h with h | h
        · rcases ite_some_inv h with h | h
          · obtain ⟨q2, e_q2, h⟩ := bind_some_inv h
            have h_q2 : Fr W _ q2.2 := (Fr.tr Fr.rf (Fr.monoP (Fr.mono (w_f_m_wrong e_q2) rfl) hW))
            exact (Fr.tr h_q2 (ih _ _ _ _ _ h_k67 h))
          · exact (Fr.tr Fr.rf (ih _ _ _ _ _ h_k67 h))
        · cases h
      · exact (Fr.tr Fr.rf (ih _ _ _ _ _ h_k67 h))
set_option maxRecDepth 100000 in
theorem w_f_m_unsureLine {N : Nat} {σ : Sg} {z : Unit × Sg} (h : f_m_unsureLine N σ = some z) : Fr [(66, some 4), (66, some 5), (66, some 6), (66, some 7), (66, some 8), (66, some 9), (66, some 10), (66, some 13), (68, none), (70, none)] σ z.2 := by
  unfold f_m_unsureLine at h
  rcases ite_some_inv h with h | h
  · obtain ⟨q1, e_q1, h⟩ := bind_some_inv h
    have h_q1 : Fr [(66, some 4), (66, some 5), (66, some 6), (66, some 7), (66, some 8), (66, some 9), (66, some 10), (66, some 13), (68, none), (70, none)] _ q1.2 := (Fr.tr Fr.rf (Fr.mono (w_f_m_numberHere e_q1) rfl))
    exact (Fr.tr h_q1 (w_f_m_unsureLine_L22 (W := [(66, some 4), (66, some 5), (66, some 6), (66, some 7), (66, some 8), (66, some 9), (66, some 10), (66, some 13), (68, none), (70, none)]) (fun e he => List.mem_of_elem_eq_true (List.all_eq_true.mp (show ([(66, some 9), (66, some 10), (66, some 13)] : WL).all (fun e => List.elem e [(66, some 4), (66, some 5), (66, some 6), (66, some 7), (66, some 8), (66, some 9), (66, some 10), (66, some 13), (68, none), (70, none)]) = true from rfl) e he))  _ _ _ _ _ _ (fun w1 t3 z h => by
        obtain ⟨q4, e_q4, h⟩ := bind_some_inv h
        have h_q4 : Fr [(66, some 4), (66, some 5), (66, some 6), (66, some 7), (66, some 8), (66, some 9), (66, some 10), (66, some 13), (68, none), (70, none)] _ q4.2 := (Fr.tr Fr.rf (Fr.mono (w_f_m_pass e_q4) rfl))
        rcases ite_some_inv h with h | h
        · rcases ite_some_inv h with h | h
          · cases h
            exact (Fr.wA (Fr.wA h_q4 (List.elem_iff.mp rfl)) (List.elem_iff.mp rfl))
          · cases h
        · cases h
          exact h_q4
      ) h))
  · cases h
    exact Fr.rf
set_option maxRecDepth 100000 in
theorem w_f_m_mustName {N : Nat} {σ : Sg} {z : Unit × Sg} (h : f_m_mustName N σ = some z) : Fr [(66, some 9), (66, some 10), (66, some 13)] σ z.2 := by
  unfold f_m_mustName at h
  rcases ite_some_inv h with h | h
  · obtain ⟨q2, e_q2, h⟩ := bind_some_inv h
    have h_q2 : Fr [(66, some 9), (66, some 10), (66, some 13)] _ q2.2 := (Fr.tr Fr.rf (Fr.mono (w_f_m_isWord e_q2) rfl))
    rcases ite_some_inv h with h | h
    · obtain ⟨q3, e_q3, h⟩ := bind_some_inv h
      have h_q3 : Fr [(66, some 9), (66, some 10), (66, some 13)] _ q3.2 := (Fr.tr h_q2 (Fr.mono (w_f_m_wrong e_q3) rfl))
      cases h
      exact h_q3
    · obtain ⟨q4, e_q4, h⟩ := bind_some_inv h
      have h_q4 : Fr [(66, some 9), (66, some 10), (66, some 13)] _ q4.2 := (Fr.tr h_q2 (Fr.mono (w_f_m_isWord e_q4) rfl))
      rcases ite_some_inv h with h | h
      · obtain ⟨q5, e_q5, h⟩ := bind_some_inv h
        have h_q5 : Fr [(66, some 9), (66, some 10), (66, some 13)] _ q5.2 := (Fr.tr h_q4 (Fr.mono (w_f_m_wrong e_q5) rfl))
        cases h
        exact h_q5
      · obtain ⟨q6, e_q6, h⟩ := bind_some_inv h
        have h_q6 : Fr [(66, some 9), (66, some 10), (66, some 13)] _ q6.2 := (Fr.tr h_q4 (Fr.mono (w_f_m_isWord e_q6) rfl))
        rcases ite_some_inv h with h | h
        · obtain ⟨q7, e_q7, h⟩ := bind_some_inv h
          have h_q7 : Fr [(66, some 9), (66, some 10), (66, some 13)] _ q7.2 := (Fr.tr h_q6 (Fr.mono (w_f_m_wrong e_q7) rfl))
          cases h
          exact h_q7
        · obtain ⟨q8, e_q8, h⟩ := bind_some_inv h
          have h_q8 : Fr [(66, some 9), (66, some 10), (66, some 13)] _ q8.2 := (Fr.tr h_q6 (Fr.mono (w_f_m_isWord e_q8) rfl))
          rcases ite_some_inv h with h | h
          · obtain ⟨q9, e_q9, h⟩ := bind_some_inv h
            have h_q9 : Fr [(66, some 9), (66, some 10), (66, some 13)] _ q9.2 := (Fr.tr h_q8 (Fr.mono (w_f_m_wrong e_q9) rfl))
            cases h
            exact h_q9
          · obtain ⟨q10, e_q10, h⟩ := bind_some_inv h
            have h_q10 : Fr [(66, some 9), (66, some 10), (66, some 13)] _ q10.2 := (Fr.tr h_q8 (Fr.mono (w_f_m_isWord e_q10) rfl))
            rcases ite_some_inv h with h | h
            · obtain ⟨q11, e_q11, h⟩ := bind_some_inv h
              have h_q11 : Fr [(66, some 9), (66, some 10), (66, some 13)] _ q11.2 := (Fr.tr h_q10 (Fr.mono (w_f_m_wrong e_q11) rfl))
              cases h
              exact h_q11
            · obtain ⟨q12, e_q12, h⟩ := bind_some_inv h
              have h_q12 : Fr [(66, some 9), (66, some 10), (66, some 13)] _ q12.2 := (Fr.tr h_q10 (Fr.mono (w_f_m_isWord e_q12) rfl))
              rcases ite_some_inv h with h | h
              · obtain ⟨q13, e_q13, h⟩ := bind_some_inv h
                have h_q13 : Fr [(66, some 9), (66, some 10), (66, some 13)] _ q13.2 := (Fr.tr h_q12 (Fr.mono (w_f_m_wrong e_q13) rfl))
                cases h
                exact h_q13
              · obtain ⟨q14, e_q14, h⟩ := bind_some_inv h
                have h_q14 : Fr [(66, some 9), (66, some 10), (66, some 13)] _ q14.2 := (Fr.tr h_q12 (Fr.mono (w_f_m_isWord e_q14) rfl))
                rcases ite_some_inv h with h | h
                · obtain ⟨q15, e_q15, h⟩ := bind_some_inv h
                  have h_q15 : Fr [(66, some 9), (66, some 10), (66, some 13)] _ q15.2 := (Fr.tr h_q14 (Fr.mono (w_f_m_wrong e_q15) rfl))
                  cases h
                  exact h_q15
                · cases h
                  exact h_q14
  · obtain ⟨q1, e_q1, h⟩ := bind_some_inv h
    have h_q1 : Fr [(66, some 9), (66, some 10), (66, some 13)] _ q1.2 := (Fr.tr Fr.rf (Fr.mono (w_f_m_wrong e_q1) rfl))
    cases h
    exact h_q1
