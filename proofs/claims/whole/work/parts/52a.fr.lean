set_option maxRecDepth 100000 in
theorem w_f_x_landTrouble {N : Nat} {σ : Sg} {z : Int32 × Sg} (h : f_x_landTrouble N σ = some z) : Fr [] σ z.2 := by
  unfold f_x_landTrouble at h
  rcases ite_some_inv h with h | h
  · cases h
    exact Fr.rf
  · cases h
    exact Fr.rf
set_option maxRecDepth 100000 in
theorem w_f_x_granted {N : Nat} {v1 : Int32} {σ : Sg} {z : Bool × Sg} (h : f_x_granted N v1 σ = some z) : Fr [(0, some 10)] σ z.2 := by
  unfold f_x_granted at h
  rcases ite_some_inv h with h | h
  · cases h
    exact (Fr.wI Fr.rf (List.elem_iff.mp rfl))
  · cases h
    exact (Fr.wI Fr.rf (List.elem_iff.mp rfl))
set_option maxRecDepth 100000 in
theorem w_f_numbers_at {N : Nat} {a0 : Nat} {a1 : Nat} {a2 : Nat} {v1 : Int32} {σ : Sg} {z : Int32 × Sg} (h : f_numbers_at N a0 a1 a2 v1 σ = some z) : Fr [] σ z.2 := by
  unfold f_numbers_at at h
  rcases ite_some_inv h with h | h
  · cases h
    exact Fr.rf
  · rcases ite_some_inv h with h | h
    · cases h
      exact Fr.rf
    · rcases ite_some_inv h with h | h
      · cases h
        exact Fr.rf
      · rcases ite_some_inv h with h | h
        · cases h
          exact Fr.rf
        · cases h
set_option maxRecDepth 100000 in
theorem w_f_x_bit {N : Nat} {v0 : Int64} {v2 : Int32} {σ : Sg} {z : Bool × Sg} (h : f_x_bit N v0 v2 σ = some z) : Fr [] σ z.2 := by
  unfold f_x_bit at h
  rcases ite_some_inv h with h | h
  · cases h
    exact Fr.rf
  · rcases ite_some_inv h with h | h
    · cases h
      exact Fr.rf
    · rcases ite_some_inv h with h | h
      · cases h
        exact Fr.rf
      · cases h
        exact Fr.rf
set_option maxRecDepth 100000 in
theorem w_f_country_unlikeSeen_L2 {N : Nat} : ∀ (n : Nat) (v1 : Int64) (v3 : Int32) (σ : Sg) (z : Int32 × Sg), f_country_unlikeSeen_L2 N n v1 v3 σ = some z → Fr [] σ z.2 := by
  intro n
  induction n with
  | zero => intro v1 v3 σ z  h; exact nomatch (show (none : Option (Int32 × Sg)) = some z from h)
  | succ n ih =>
    intro v1 v3 σ z  h
    unfold f_country_unlikeSeen_L2 at h
    rcases ite_some_inv h with h | h
    · cases h
      exact Fr.rf
    · obtain ⟨q1, e_q1, h⟩ := bind_some_inv h
      have h_q1 : Fr [] _ q1.2 := (Fr.tr Fr.rf (Fr.mono (w_f_numbers_at e_q1) rfl))
      obtain ⟨q2, e_q2, h⟩ := bind_some_inv h
      have h_q2 : Fr [] _ q2.2 := (Fr.tr h_q1 (Fr.mono (w_f_x_bit e_q2) rfl))
      obtain ⟨q3, e_q3, h⟩ := bind_some_inv h
      have h_q3 : Fr [] _ q3.2 := (Fr.tr h_q2 (Fr.mono (w_f_numbers_at e_q3) rfl))
      rcases ite_some_inv h with h | h
      · rcases ite_some_inv h with h | h
        · exact (Fr.tr h_q3 (ih _ _ _ _ h))
        · cases h
          exact h_q3
      · rcases ite_some_inv h with h | h
        · exact (Fr.tr h_q3 (ih _ _ _ _ h))
        · cases h
          exact h_q3
set_option maxRecDepth 100000 in
theorem w_f_country_unlikeSeen {N : Nat} {v1 : Int64} {σ : Sg} {z : Int32 × Sg} (h : f_country_unlikeSeen N v1 σ = some z) : Fr [] σ z.2 := by
  unfold f_country_unlikeSeen at h
  exact (Fr.tr Fr.rf (Fr.mono (w_f_country_unlikeSeen_L2 _ _ _ _ _ h) rfl))
set_option maxRecDepth 100000 in
theorem w_f_numbers_indexOf_L2 {N : Nat} {a0 : Nat} {a1 : Nat} {a2 : Nat} : ∀ (n : Nat) (v1 : Int32) (v2 : Int32) (σ : Sg) (z : Int32 × Sg), f_numbers_indexOf_L2 N a0 a1 a2 n v1 v2 σ = some z → Fr [] σ z.2 := by
  intro n
  induction n with
  | zero => intro v1 v2 σ z  h; exact nomatch (show (none : Option (Int32 × Sg)) = some z from h)
  | succ n ih =>
    intro v1 v2 σ z  h
    unfold f_numbers_indexOf_L2 at h
    rcases ite_some_inv h with h | h
    · cases h
      exact Fr.rf
    · obtain ⟨q1, e_q1, h⟩ := bind_some_inv h
      have h_q1 : Fr [] _ q1.2 := (Fr.tr Fr.rf (Fr.mono (w_f_numbers_at e_q1) rfl))
      rcases ite_some_inv h with h | h
      · cases h
        exact h_q1
      · exact (Fr.tr h_q1 (ih _ _ _ _ h))
set_option maxRecDepth 100000 in
theorem w_f_numbers_indexOf {N : Nat} {a0 : Nat} {a1 : Nat} {a2 : Nat} {v1 : Int32} {σ : Sg} {z : Int32 × Sg} (h : f_numbers_indexOf N a0 a1 a2 v1 σ = some z) : Fr [] σ z.2 := by
  unfold f_numbers_indexOf at h
  exact (Fr.tr Fr.rf (Fr.mono (w_f_numbers_indexOf_L2 _ _ _ _ _ h) rfl))
set_option maxRecDepth 100000 in
theorem w_f_country_digitIn {N : Nat} {v1 : Int32} {v2 : Int32} {σ : Sg} {z : Int32 × Sg} (h : f_country_digitIn N v1 v2 σ = some z) : Fr [] σ z.2 := by
  unfold f_country_digitIn at h
  obtain ⟨q1, e_q1, h⟩ := bind_some_inv h
  have h_q1 : Fr [] _ q1.2 := (Fr.tr Fr.rf (Fr.mono (w_f_numbers_at e_q1) rfl))
  obtain ⟨q2, e_q2, h⟩ := bind_some_inv h
  have h_q2 : Fr [] _ q2.2 := (Fr.tr h_q1 (Fr.mono (w_f_numbers_indexOf e_q2) rfl))
  obtain ⟨q3, e_q3, h⟩ := bind_some_inv h
  have h_q3 : Fr [] _ q3.2 := (Fr.tr h_q2 (Fr.mono (w_f_x_bit e_q3) rfl))
  rcases ite_some_inv h with h | h
  · rcases ite_some_inv h with h | h
    · cases h
      exact h_q3
    · cases h
      exact h_q3
  · cases h
    exact h_q3
set_option maxRecDepth 100000 in
theorem w_f_country_target {N : Nat} {a0 : Nat} {a1 : Nat} {a2 : Nat} {a3 : Nat} {v1 : Int64} {v3 : Int32} {v4 : Int32} {σ : Sg} {z : Int32 × Sg} (h : f_country_target N a0 a1 a2 a3 v1 v3 v4 σ = some z) : Fr [] σ z.2 := by
  unfold f_country_target at h
  obtain ⟨q1, e_q1, h⟩ := bind_some_inv h
  have h_q1 : Fr [] _ q1.2 := (Fr.tr Fr.rf (Fr.mono (w_f_numbers_at e_q1) rfl))
  rcases ite_some_inv h with h | h
  · rcases ite_some_inv h with h | h
    · cases h
      exact h_q1
    · rcases ite_some_inv h with h | h
      · cases h
        exact h_q1
      · obtain ⟨q3, e_q3, h⟩ := bind_some_inv h
        have h_q3 : Fr [] _ q3.2 := (Fr.tr h_q1 (Fr.mono (w_f_x_bit e_q3) rfl))
        rcases ite_some_inv h with h | h
        · cases h
          exact h_q3
        · cases h
          exact h_q3
  · rcases ite_some_inv h with h | h
    · cases h
      exact h_q1
    · rcases ite_some_inv h with h | h
      · cases h
        exact h_q1
      · obtain ⟨q2, e_q2, h⟩ := bind_some_inv h
        have h_q2 : Fr [] _ q2.2 := (Fr.tr h_q1 (Fr.mono (w_f_x_bit e_q2) rfl))
        rcases ite_some_inv h with h | h
        · cases h
          exact h_q2
        · cases h
          exact h_q2
set_option maxRecDepth 100000 in
theorem w_f_x_below {N : Nat} {v0 : Int32} {σ : Sg} {z : Int64 × Sg} (h : f_x_below N v0 σ = some z) : Fr [] σ z.2 := by
  unfold f_x_below at h
  rcases ite_some_inv h with h | h
  · rcases ite_some_inv h with h | h
    · cases h
      exact Fr.rf
    · cases h
      exact Fr.rf
  · cases h
    exact Fr.rf
set_option maxRecDepth 100000 in
theorem w_f_x_inside {N : Nat} {v0 : Int32} {v1 : Int32} {σ : Sg} {z : Int64 × Sg} (h : f_x_inside N v0 v1 σ = some z) : Fr [] σ z.2 := by
  unfold f_x_inside at h
  obtain ⟨q1, e_q1, h⟩ := bind_some_inv h
  have h_q1 : Fr [] _ q1.2 := (Fr.tr Fr.rf (Fr.mono (w_f_x_below e_q1) rfl))
  obtain ⟨q2, e_q2, h⟩ := bind_some_inv h
  have h_q2 : Fr [] _ q2.2 := (Fr.tr h_q1 (Fr.mono (w_f_x_below e_q2) rfl))
  cases h
  exact h_q2
set_option maxRecDepth 100000 in
theorem w_f_country_fitsAll_L11 {N : Nat} : ∀ (n : Nat) (v1 : Int32) (v2 : Int64) (v4 : Int32) (v5 : Int32) (σ : Sg) (z : Bool × Sg), f_country_fitsAll_L11 N n v1 v2 v4 v5 σ = some z → Fr [] σ z.2 := by
  intro n
  induction n with
  | zero => intro v1 v2 v4 v5 σ z  h; exact nomatch (show (none : Option (Bool × Sg)) = some z from h)
  | succ n ih =>
    intro v1 v2 v4 v5 σ z  h
    unfold f_country_fitsAll_L11 at h
    rcases ite_some_inv h with h | h
    · obtain ⟨q1, e_q1, h⟩ := bind_some_inv h
      have h_q1 : Fr [] _ q1.2 := (Fr.tr Fr.rf (Fr.mono (w_f_country_unlikeSeen e_q1) rfl))
      rcases ite_some_inv h with h | h
      · cases h
        exact h_q1
      · cases h
        exact h_q1
    · obtain ⟨q2, e_q2, h⟩ := bind_some_inv h
      have h_q2 : Fr [] _ q2.2 := (Fr.tr Fr.rf (Fr.mono (w_f_country_digitIn e_q2) rfl))
      obtain ⟨q3, e_q3, h⟩ := bind_some_inv h
      have h_q3 : Fr [] _ q3.2 := (Fr.tr h_q2 (Fr.mono (w_f_country_target e_q3) rfl))
      rcases ite_some_inv h with h | h
      · cases h
        exact h_q3
      · obtain ⟨q4, e_q4, h⟩ := bind_some_inv h
        have h_q4 : Fr [] _ q4.2 := (Fr.tr h_q3 (Fr.mono (w_f_x_inside e_q4) rfl))
        exact (Fr.tr h_q4 (ih _ _ _ _ _ _ h))
set_option maxRecDepth 100000 in
theorem w_f_country_fitsAll {N : Nat} {v1 : Int32} {σ : Sg} {z : Bool × Sg} (h : f_country_fitsAll N v1 σ = some z) : Fr [] σ z.2 := by
  unfold f_country_fitsAll at h
  exact (Fr.tr Fr.rf (Fr.mono (w_f_country_fitsAll_L11 _ _ _ _ _ _ _ h) rfl))
set_option maxRecDepth 100000 in
theorem w_f_country_fittingSets_L14 {N : Nat} : ∀ (n : Nat) (v1 : Int32) (v2 : Int32) (v3 : Int32) (σ : Sg) (z : Int32 × Sg), f_country_fittingSets_L14 N n v1 v2 v3 σ = some z → Fr [] σ z.2 := by
  intro n
  induction n with
  | zero => intro v1 v2 v3 σ z  h; exact nomatch (show (none : Option (Int32 × Sg)) = some z from h)
  | succ n ih =>
    intro v1 v2 v3 σ z  h
    unfold f_country_fittingSets_L14 at h
    rcases ite_some_inv h with h | h
    · cases h
      exact Fr.rf
    · rcases ite_some_inv h with h | h
      · exact (Fr.tr Fr.rf (ih _ _ _ _ _ h))
      · obtain ⟨q1, e_q1, h⟩ := bind_some_inv h
        have h_q1 : Fr [] _ q1.2 := (Fr.tr Fr.rf (Fr.mono (w_f_country_fitsAll e_q1) rfl))
        rcases ite_some_inv h with h | h
        · exact (Fr.tr h_q1 (ih _ _ _ _ _ h))
        · exact (Fr.tr h_q1 (ih _ _ _ _ _ h))
set_option maxRecDepth 100000 in
theorem w_f_country_fittingSets {N : Nat} {σ : Sg} {z : Int32 × Sg} (h : f_country_fittingSets N σ = some z) : Fr [] σ z.2 := by
  unfold f_country_fittingSets at h
  exact (Fr.tr Fr.rf (Fr.mono (w_f_country_fittingSets_L14 _ _ _ _ _ _ h) rfl))
set_option maxRecDepth 100000 in
theorem w_f_ji_bitCount {N : Nat} {v0 : Int32} {σ : Sg} {z : Int32 × Sg} (h : f_ji_bitCount N v0 σ = some z) : Fr [] σ z.2 := by
  unfold f_ji_bitCount at h
  cases h
  exact Fr.rf
set_option maxRecDepth 100000 in
theorem w_f_country_leftBy_L5 {N : Nat} : ∀ (n : Nat) (v1 : Int32) (v2 : Int32) (v3 : Int32) (v4 : Int32) (σ : Sg) (z : Int32 × Sg), f_country_leftBy_L5 N n v1 v2 v3 v4 σ = some z → Fr [] σ z.2 := by
  intro n
  induction n with
  | zero => intro v1 v2 v3 v4 σ z  h; exact nomatch (show (none : Option (Int32 × Sg)) = some z from h)
  | succ n ih =>
    intro v1 v2 v3 v4 σ z  h
    unfold f_country_leftBy_L5 at h
    rcases ite_some_inv h with h | h
    · obtain ⟨q1, e_q1, h⟩ := bind_some_inv h
      have h_q1 : Fr [] _ q1.2 := (Fr.tr Fr.rf (Fr.mono (w_f_ji_bitCount e_q1) rfl))
      cases h
      exact h_q1
    · obtain ⟨q2, e_q2, h⟩ := bind_some_inv h
      have h_q2 : Fr [] _ q2.2 := (Fr.tr Fr.rf (Fr.mono (w_f_x_bit e_q2) rfl))
      rcases ite_some_inv h with h | h
      · obtain ⟨q3, e_q3, h⟩ := bind_some_inv h
        have h_q3 : Fr [] _ q3.2 := (Fr.tr h_q2 (Fr.mono (w_f_x_bit e_q3) rfl))
        rcases ite_some_inv h with h | h
        · exact (Fr.tr h_q3 (ih _ _ _ _ _ _ h))
        · exact (Fr.tr h_q3 (ih _ _ _ _ _ _ h))
      · exact (Fr.tr h_q2 (ih _ _ _ _ _ _ h))
set_option maxRecDepth 100000 in
theorem w_f_country_leftBy {N : Nat} {v1 : Int32} {v2 : Int32} {σ : Sg} {z : Int32 × Sg} (h : f_country_leftBy N v1 v2 σ = some z) : Fr [] σ z.2 := by
  unfold f_country_leftBy at h
  exact (Fr.tr Fr.rf (Fr.mono (w_f_country_leftBy_L5 _ _ _ _ _ _ _ h) rfl))
set_option maxRecDepth 100000 in
theorem w_f_country_bestQuestion_L14 {N : Nat} : ∀ (n : Nat) (v1 : Int32) (v2 : Int32) (v3 : Int32) (v4 : Int32) (σ : Sg) (z : Int32 × Sg), f_country_bestQuestion_L14 N n v1 v2 v3 v4 σ = some z → Fr [] σ z.2 := by
  intro n
  induction n with
  | zero => intro v1 v2 v3 v4 σ z  h; exact nomatch (show (none : Option (Int32 × Sg)) = some z from h)
  | succ n ih =>
    intro v1 v2 v3 v4 σ z  h
    unfold f_country_bestQuestion_L14 at h
    rcases ite_some_inv h with h | h
    · cases h
      exact Fr.rf
    · rcases ite_some_inv h with h | h
      · cases h
        exact Fr.rf
      · obtain ⟨q2, e_q2, h⟩ := bind_some_inv h
        have h_q2 : Fr [] _ q2.2 := (Fr.tr Fr.rf (Fr.mono (w_f_country_leftBy e_q2) rfl))
        rcases ite_some_inv h with h | h
        · exact (Fr.tr h_q2 (ih _ _ _ _ _ _ h))
        · exact (Fr.tr h_q2 (ih _ _ _ _ _ _ h))
set_option maxRecDepth 100000 in
theorem w_f_country_bestQuestion {N : Nat} {σ : Sg} {z : Int32 × Sg} (h : f_country_bestQuestion N σ = some z) : Fr [] σ z.2 := by
  unfold f_country_bestQuestion at h
  obtain ⟨q1, e_q1, h⟩ := bind_some_inv h
  have h_q1 : Fr [] _ q1.2 := (Fr.tr Fr.rf (Fr.mono (w_f_country_fittingSets e_q1) rfl))
  exact (Fr.tr h_q1 (Fr.mono (w_f_country_bestQuestion_L14 _ _ _ _ _ _ _ h) rfl))
set_option maxRecDepth 100000 in
theorem w_f_x_ask {N : Nat} {σ : Sg} {z : Int32 × Sg} (h : f_x_ask N σ = some z) : Fr [(0, some 10)] σ z.2 := by
  unfold f_x_ask at h
  obtain ⟨q1, e_q1, h⟩ := bind_some_inv h
  have h_q1 : Fr [(0, some 10)] _ q1.2 := (Fr.tr Fr.rf (Fr.mono (w_f_x_landTrouble e_q1) rfl))
  obtain ⟨q2, e_q2, h⟩ := bind_some_inv h
  have h_q2 : Fr [(0, some 10)] _ q2.2 := (Fr.tr h_q1 (Fr.mono (w_f_x_granted e_q2) rfl))
  rcases ite_some_inv h with h | h
  · obtain ⟨q3, e_q3, h⟩ := bind_some_inv h
    have h_q3 : Fr [(0, some 10)] _ q3.2 := (Fr.tr h_q2 (Fr.mono (w_f_country_bestQuestion e_q3) rfl))
    cases h
    exact h_q3
  · cases h
    exact h_q2
set_option maxRecDepth 100000 in
theorem w_f_x_askLeaves {N : Nat} {σ : Sg} {z : Int32 × Sg} (h : f_x_askLeaves N σ = some z) : Fr [(0, some 10)] σ z.2 := by
  unfold f_x_askLeaves at h
  obtain ⟨q1, e_q1, h⟩ := bind_some_inv h
  have h_q1 : Fr [(0, some 10)] _ q1.2 := (Fr.tr Fr.rf (Fr.mono (w_f_x_landTrouble e_q1) rfl))
  obtain ⟨q2, e_q2, h⟩ := bind_some_inv h
  have h_q2 : Fr [(0, some 10)] _ q2.2 := (Fr.tr h_q1 (Fr.mono (w_f_x_granted e_q2) rfl))
  rcases ite_some_inv h with h | h
  · obtain ⟨q3, e_q3, h⟩ := bind_some_inv h
    have h_q3 : Fr [(0, some 10)] _ q3.2 := (Fr.tr h_q2 (Fr.mono (w_f_country_bestQuestion e_q3) rfl))
    rcases ite_some_inv h with h | h
    · cases h
      exact h_q3
    · obtain ⟨q4, e_q4, h⟩ := bind_some_inv h
      have h_q4 : Fr [(0, some 10)] _ q4.2 := (Fr.tr h_q3 (Fr.mono (w_f_country_fittingSets e_q4) rfl))
      obtain ⟨q5, e_q5, h⟩ := bind_some_inv h
      have h_q5 : Fr [(0, some 10)] _ q5.2 := (Fr.tr h_q4 (Fr.mono (w_f_country_leftBy e_q5) rfl))
      cases h
      exact h_q5
  · cases h
    exact h_q2
set_option maxRecDepth 100000 in
theorem w_f_shelf_has {N : Nat} {a0 : Nat} {a1 : Nat} {a2 : Nat} {a3 : Nat} {a4 : Nat} {v1 : Int32} {σ : Sg} {z : Bool × Sg} (h : f_shelf_has N a0 a1 a2 a3 a4 v1 σ = some z) : Fr [] σ z.2 := by
  unfold f_shelf_has at h
  rcases ite_some_inv h with h | h
  · cases h
    exact Fr.rf
  · rcases ite_some_inv h with h | h
    · cases h
      exact Fr.rf
    · rcases ite_some_inv h with h | h
      · cases h
        exact Fr.rf
      · rcases ite_some_inv h with h | h
        · cases h
          exact Fr.rf
        · rcases ite_some_inv h with h | h
          · cases h
            exact Fr.rf
          · rcases ite_some_inv h with h | h
            · cases h
              exact Fr.rf
            · cases h
              exact Fr.rf
set_option maxRecDepth 100000 in
theorem w_f_shelf_fetch {N : Nat} {a0 : Nat} {a1 : Nat} {a2 : Nat} {a3 : Nat} {a4 : Nat} {a5 : Nat} {a6 : Nat} {a7 : Nat} {a8 : Nat} {a9 : Nat} {a10 : Nat} {v1 : Int32} {σ : Sg} {z : Unit × Sg} (h : f_shelf_fetch N a0 a1 a2 a3 a4 a5 a6 a7 a8 a9 a10 v1 σ = some z) : Fr [(a5, some 0), (a5, some 1), (a5, some 2), (a5, some 3), (a5, some 4)] σ z.2 := by
  unfold f_shelf_fetch at h
  obtain ⟨q1, e_q1, h⟩ := bind_some_inv h
  have h_q1 : Fr [(a5, some 0), (a5, some 1), (a5, some 2), (a5, some 3), (a5, some 4)] _ q1.2 := (Fr.tr Fr.rf (Fr.mono (w_f_shelf_has e_q1) rfl))
  rcases ite_some_inv h with h | h
  · rcases ite_some_inv h with h | h
    · rcases ite_some_inv h with h | h
      · rcases ite_some_inv h with h | h
        · rcases ite_some_inv h with h | h
          · rcases ite_some_inv h with h | h
            · cases h
              exact (Fr.wI (Fr.wI (Fr.wI (Fr.wL (Fr.wL h_q1 (by simp)) (by simp)) (by simp)) (by simp)) (by simp))
            · cases h
          · cases h
        · cases h
      · cases h
    · cases h
  · cases h
    exact h_q1
set_option maxRecDepth 100000 in
theorem w_f_history_forget {N : Nat} {σ : Sg} {z : Unit × Sg} (h : f_history_forget N σ = some z) : Fr [(42, some 2)] σ z.2 := by
  unfold f_history_forget at h
  cases h
  exact (Fr.wI Fr.rf (List.elem_iff.mp rfl))
set_option maxRecDepth 100000 in
theorem w_f_x_back {N : Nat} {v1 : Int32} {σ : Sg} {z : Bool × Sg} (h : f_x_back N v1 σ = some z) : Fr [(0, some 10), (40, some 0), (40, some 1), (40, some 2), (40, some 3), (40, some 4), (42, some 2)] σ z.2 := by
  unfold f_x_back at h
  rcases ite_some_inv h with h | h
  · obtain ⟨q1, e_q1, h⟩ := bind_some_inv h
    have h_q1 : Fr [(0, some 10), (40, some 0), (40, some 1), (40, some 2), (40, some 3), (40, some 4), (42, some 2)] _ q1.2 := (Fr.tr Fr.rf (Fr.mono (w_f_x_granted e_q1) rfl))
    rcases ite_some_inv h with h | h
    · obtain ⟨q2, e_q2, h⟩ := bind_some_inv h
      have h_q2 : Fr [(0, some 10), (40, some 0), (40, some 1), (40, some 2), (40, some 3), (40, some 4), (42, some 2)] _ q2.2 := (Fr.tr h_q1 (Fr.mono (w_f_shelf_fetch e_q2) rfl))
      obtain ⟨q3, e_q3, h⟩ := bind_some_inv h
      have h_q3 : Fr [(0, some 10), (40, some 0), (40, some 1), (40, some 2), (40, some 3), (40, some 4), (42, some 2)] _ q3.2 := (Fr.tr h_q2 (Fr.mono (w_f_history_forget e_q3) rfl))
      cases h
      exact h_q3
    · cases h
      exact h_q1
  · obtain ⟨q4, e_q4, h⟩ := bind_some_inv h
    have h_q4 : Fr [(0, some 10), (40, some 0), (40, some 1), (40, some 2), (40, some 3), (40, some 4), (42, some 2)] _ q4.2 := (Fr.tr Fr.rf (Fr.mono (w_f_x_granted e_q4) rfl))
    rcases ite_some_inv h with h | h
    · obtain ⟨q5, e_q5, h⟩ := bind_some_inv h
      have h_q5 : Fr [(0, some 10), (40, some 0), (40, some 1), (40, some 2), (40, some 3), (40, some 4), (42, some 2)] _ q5.2 := (Fr.tr h_q4 (Fr.mono (w_f_shelf_fetch e_q5) rfl))
      obtain ⟨q6, e_q6, h⟩ := bind_some_inv h
      have h_q6 : Fr [(0, some 10), (40, some 0), (40, some 1), (40, some 2), (40, some 3), (40, some 4), (42, some 2)] _ q6.2 := (Fr.tr h_q5 (Fr.mono (w_f_history_forget e_q6) rfl))
      cases h
      exact h_q6
    · cases h
      exact h_q4
set_option maxRecDepth 100000 in
theorem w_f_x_cellTrouble {N : Nat} {v1 : Int32} {σ : Sg} {z : Int32 × Sg} (h : f_x_cellTrouble N v1 σ = some z) : Fr [] σ z.2 := by
  unfold f_x_cellTrouble at h
  rcases ite_some_inv h with h | h
  · cases h
    exact Fr.rf
  · rcases ite_some_inv h with h | h
    · cases h
      exact Fr.rf
    · cases h
      exact Fr.rf
set_option maxRecDepth 100000 in
theorem w_f_state_copy {N : Nat} {σ : Sg} {z : Unit × Sg} (h : f_state_copy N σ = some z) : Fr [(41, some 0), (41, some 1), (41, some 2), (41, some 3), (41, some 4)] σ z.2 := by
  unfold f_state_copy at h
  cases h
  exact (Fr.wI (Fr.wI (Fr.wI (Fr.wL (Fr.wL Fr.rf (List.elem_iff.mp rfl)) (List.elem_iff.mp rfl)) (List.elem_iff.mp rfl)) (List.elem_iff.mp rfl)) (List.elem_iff.mp rfl))
set_option maxRecDepth 100000 in
theorem w_f_state_depthAt {N : Nat} {a0 : Nat} {v1 : Int32} {σ : Sg} {z : Int32 × Sg} (h : f_state_depthAt N a0 v1 σ = some z) : Fr [] σ z.2 := by
  unfold f_state_depthAt at h
  obtain ⟨q1, e_q1, h⟩ := bind_some_inv h
  have h_q1 : Fr [] _ q1.2 := (Fr.tr Fr.rf (Fr.mono (w_f_x_bit e_q1) rfl))
  obtain ⟨q2, e_q2, h⟩ := bind_some_inv h
  have h_q2 : Fr [] _ q2.2 := (Fr.tr h_q1 (Fr.mono (w_f_x_bit e_q2) rfl))
  rcases ite_some_inv h with h | h
  · cases h
    exact h_q2
  · cases h
    exact h_q2
set_option maxRecDepth 100000 in
theorem w_f_country_allCells {N : Nat} {σ : Sg} {z : Int64 × Sg} (h : f_country_allCells N σ = some z) : Fr [] σ z.2 := by
  unfold f_country_allCells at h
  obtain ⟨q1, e_q1, h⟩ := bind_some_inv h
  have h_q1 : Fr [] _ q1.2 := (Fr.tr Fr.rf (Fr.mono (w_f_x_below e_q1) rfl))
  cases h
  exact h_q1
set_option maxRecDepth 100000 in
theorem w_f_state_goneCells {N : Nat} {a0 : Nat} {σ : Sg} {z : Int64 × Sg} (h : f_state_goneCells N a0 σ = some z) : Fr [] σ z.2 := by
  unfold f_state_goneCells at h
  cases h
  exact Fr.rf
set_option maxRecDepth 100000 in
theorem w_f_country_healable {N : Nat} {v1 : Int64} {σ : Sg} {z : Int64 × Sg} (h : f_country_healable N v1 σ = some z) : Fr [] σ z.2 := by
  unfold f_country_healable at h
  cases h
  exact Fr.rf
set_option maxRecDepth 100000 in
theorem w_f_state_healing {N : Nat} {a0 : Nat} {σ : Sg} {z : Int64 × Sg} (h : f_state_healing N a0 σ = some z) : Fr [] σ z.2 := by
  unfold f_state_healing at h
  obtain ⟨q1, e_q1, h⟩ := bind_some_inv h
  have h_q1 : Fr [] _ q1.2 := (Fr.tr Fr.rf (Fr.mono (w_f_country_allCells e_q1) rfl))
  obtain ⟨q2, e_q2, h⟩ := bind_some_inv h
  have h_q2 : Fr [] _ q2.2 := (Fr.tr h_q1 (Fr.mono (w_f_state_goneCells e_q2) rfl))
  obtain ⟨q3, e_q3, h⟩ := bind_some_inv h
  have h_q3 : Fr [] _ q3.2 := (Fr.tr h_q2 (Fr.mono (w_f_state_goneCells e_q3) rfl))
  obtain ⟨q4, e_q4, h⟩ := bind_some_inv h
  have h_q4 : Fr [] _ q4.2 := (Fr.tr h_q3 (Fr.mono (w_f_country_healable e_q4) rfl))
  cases h
  exact h_q4
set_option maxRecDepth 100000 in
theorem w_f_state_lessen {N : Nat} {a0 : Nat} {v1 : Int64} {σ : Sg} {z : Unit × Sg} (h : f_state_lessen N a0 v1 σ = some z) : Fr [(a0, some 0), (a0, some 1)] σ z.2 := by
  unfold f_state_lessen at h
  cases h
  exact (Fr.wL (Fr.wL Fr.rf (by simp)) (by simp))
set_option maxRecDepth 100000 in
theorem w_f_state_passYear {N : Nat} {a0 : Nat} {σ : Sg} {z : Unit × Sg} (h : f_state_passYear N a0 σ = some z) : Fr [(a0, some 0), (a0, some 1)] σ z.2 := by
  unfold f_state_passYear at h
  obtain ⟨q1, e_q1, h⟩ := bind_some_inv h
  have h_q1 : Fr [(a0, some 0), (a0, some 1)] _ q1.2 := (Fr.tr Fr.rf (Fr.mono (w_f_state_healing e_q1) rfl))
  obtain ⟨q2, e_q2, h⟩ := bind_some_inv h
  have h_q2 : Fr [(a0, some 0), (a0, some 1)] _ q2.2 := (Fr.tr h_q1 (Fr.monoP (w_f_state_lessen e_q2) (by simp)))
  cases h
  exact h_q2
set_option maxRecDepth 100000 in
theorem w_f_x_backIn_L27 {N : Nat} : ∀ (n : Nat) (v1 : Int32) (v2 : Int32) (σ : Sg) (z : Int32 × Sg), f_x_backIn_L27 N n v1 v2 σ = some z → Fr [(41, some 0), (41, some 1)] σ z.2 := by
  intro n
  induction n with
  | zero => intro v1 v2 σ z  h; exact nomatch (show (none : Option (Int32 × Sg)) = some z from h)
  | succ n ih =>
    intro v1 v2 σ z  h
    unfold f_x_backIn_L27 at h
    rcases ite_some_inv h with h | h
    · cases h
      exact Fr.rf
    · obtain ⟨q4, e_q4, h⟩ := bind_some_inv h
      have h_q4 : Fr [(41, some 0), (41, some 1)] _ q4.2 := (Fr.tr Fr.rf (Fr.mono (w_f_state_depthAt e_q4) rfl))
      rcases ite_some_inv h with h | h
      · cases h
        exact h_q4
      · obtain ⟨q5, e_q5, h⟩ := bind_some_inv h
        have h_q5 : Fr [(41, some 0), (41, some 1)] _ q5.2 := (Fr.tr h_q4 (Fr.mono (w_f_state_passYear e_q5) rfl))
        exact (Fr.tr h_q5 (ih _ _ _ _ h))
set_option maxRecDepth 100000 in
theorem w_f_x_backIn {N : Nat} {v1 : Int32} {σ : Sg} {z : Int32 × Sg} (h : f_x_backIn N v1 σ = some z) : Fr [(0, some 10), (41, some 0), (41, some 1), (41, some 2), (41, some 3), (41, some 4)] σ z.2 := by
  unfold f_x_backIn at h
  obtain ⟨q1, e_q1, h⟩ := bind_some_inv h
  have h_q1 : Fr [(0, some 10), (41, some 0), (41, some 1), (41, some 2), (41, some 3), (41, some 4)] _ q1.2 := (Fr.tr Fr.rf (Fr.mono (w_f_x_cellTrouble e_q1) rfl))
  obtain ⟨q2, e_q2, h⟩ := bind_some_inv h
  have h_q2 : Fr [(0, some 10), (41, some 0), (41, some 1), (41, some 2), (41, some 3), (41, some 4)] _ q2.2 := (Fr.tr h_q1 (Fr.mono (w_f_x_granted e_q2) rfl))
  rcases ite_some_inv h with h | h
  · obtain ⟨q3, e_q3, h⟩ := bind_some_inv h
    have h_q3 : Fr [(0, some 10), (41, some 0), (41, some 1), (41, some 2), (41, some 3), (41, some 4)] _ q3.2 := (Fr.tr h_q2 (Fr.mono (w_f_state_copy e_q3) rfl))
    exact (Fr.tr h_q3 (Fr.mono (w_f_x_backIn_L27 _ _ _ _ _ h) rfl))
  · cases h
    exact h_q2
set_option maxRecDepth 100000 in
theorem w_f_x_pairTrouble {N : Nat} {v1 : Int32} {v2 : Int32} {σ : Sg} {z : Int32 × Sg} (h : f_x_pairTrouble N v1 v2 σ = some z) : Fr [] σ z.2 := by
  unfold f_x_pairTrouble at h
  obtain ⟨q1, e_q1, h⟩ := bind_some_inv h
  have h_q1 : Fr [] _ q1.2 := (Fr.tr Fr.rf (Fr.mono (w_f_x_cellTrouble e_q1) rfl))
  rcases ite_some_inv h with h | h
  · obtain ⟨q2, e_q2, h⟩ := bind_some_inv h
    have h_q2 : Fr [] _ q2.2 := (Fr.tr h_q1 (Fr.mono (w_f_x_cellTrouble e_q2) rfl))
    cases h
    exact h_q2
  · cases h
    exact h_q1
set_option maxRecDepth 100000 in
theorem w_f_x_span {N : Nat} {v0 : Int32} {v1 : Int32} {σ : Sg} {z : Int64 × Sg} (h : f_x_span N v0 v1 σ = some z) : Fr [] σ z.2 := by
  unfold f_x_span at h
  obtain ⟨q1, e_q1, h⟩ := bind_some_inv h
  have h_q1 : Fr [] _ q1.2 := (Fr.tr Fr.rf (Fr.mono (w_f_x_below e_q1) rfl))
  obtain ⟨q2, e_q2, h⟩ := bind_some_inv h
  have h_q2 : Fr [] _ q2.2 := (Fr.tr h_q1 (Fr.mono (w_f_x_below e_q2) rfl))
  cases h
  exact h_q2
set_option maxRecDepth 100000 in
theorem w_f_jl_bitCount {N : Nat} {v0 : Int64} {σ : Sg} {z : Int32 × Sg} (h : f_jl_bitCount N v0 σ = some z) : Fr [] σ z.2 := by
  unfold f_jl_bitCount at h
  cases h
  exact Fr.rf
set_option maxRecDepth 100000 in
theorem w_f_x_between {N : Nat} {v1 : Int32} {v2 : Int32} {σ : Sg} {z : Int32 × Sg} (h : f_x_between N v1 v2 σ = some z) : Fr [(0, some 10)] σ z.2 := by
  unfold f_x_between at h
  obtain ⟨q1, e_q1, h⟩ := bind_some_inv h
  have h_q1 : Fr [(0, some 10)] _ q1.2 := (Fr.tr Fr.rf (Fr.mono (w_f_x_pairTrouble e_q1) rfl))
  obtain ⟨q2, e_q2, h⟩ := bind_some_inv h
  have h_q2 : Fr [(0, some 10)] _ q2.2 := (Fr.tr h_q1 (Fr.mono (w_f_x_granted e_q2) rfl))
  rcases ite_some_inv h with h | h
  · obtain ⟨q3, e_q3, h⟩ := bind_some_inv h
    have h_q3 : Fr [(0, some 10)] _ q3.2 := (Fr.tr h_q2 (Fr.mono (w_f_state_goneCells e_q3) rfl))
    obtain ⟨q4, e_q4, h⟩ := bind_some_inv h
    have h_q4 : Fr [(0, some 10)] _ q4.2 := (Fr.tr h_q3 (Fr.mono (w_f_x_span e_q4) rfl))
    obtain ⟨q5, e_q5, h⟩ := bind_some_inv h
    have h_q5 : Fr [(0, some 10)] _ q5.2 := (Fr.tr h_q4 (Fr.mono (w_f_jl_bitCount e_q5) rfl))
    cases h
    exact h_q5
  · cases h
    exact h_q2
set_option maxRecDepth 100000 in
theorem w_f_x_bootsTrouble {N : Nat} {v1 : Int32} {σ : Sg} {z : Int32 × Sg} (h : f_x_bootsTrouble N v1 σ = some z) : Fr [] σ z.2 := by
  unfold f_x_bootsTrouble at h
  rcases ite_some_inv h with h | h
  · cases h
    exact Fr.rf
  · rcases ite_some_inv h with h | h
    · cases h
      exact Fr.rf
    · cases h
      exact Fr.rf
set_option maxRecDepth 100000 in
theorem w_f_x_boots {N : Nat} {v1 : Int32} {σ : Sg} {z : Int32 × Sg} (h : f_x_boots N v1 σ = some z) : Fr [(0, some 10)] σ z.2 := by
  unfold f_x_boots at h
  obtain ⟨q1, e_q1, h⟩ := bind_some_inv h
  have h_q1 : Fr [(0, some 10)] _ q1.2 := (Fr.tr Fr.rf (Fr.mono (w_f_x_bootsTrouble e_q1) rfl))
  obtain ⟨q2, e_q2, h⟩ := bind_some_inv h
  have h_q2 : Fr [(0, some 10)] _ q2.2 := (Fr.tr h_q1 (Fr.mono (w_f_x_granted e_q2) rfl))
  rcases ite_some_inv h with h | h
  · obtain ⟨q3, e_q3, h⟩ := bind_some_inv h
    have h_q3 : Fr [(0, some 10)] _ q3.2 := (Fr.tr h_q2 (Fr.mono (w_f_numbers_at e_q3) rfl))
    cases h
    exact h_q3
  · cases h
    exact h_q2
set_option maxRecDepth 100000 in
theorem w_f_country_groundAt {N : Nat} {v1 : Int32} {σ : Sg} {z : Int32 × Sg} (h : f_country_groundAt N v1 σ = some z) : Fr [] σ z.2 := by
  unfold f_country_groundAt at h
  obtain ⟨q1, e_q1, h⟩ := bind_some_inv h
  have h_q1 : Fr [] _ q1.2 := (Fr.tr Fr.rf (Fr.mono (w_f_x_bit e_q1) rfl))
  rcases ite_some_inv h with h | h
  · cases h
    exact h_q1
  · obtain ⟨q2, e_q2, h⟩ := bind_some_inv h
    have h_q2 : Fr [] _ q2.2 := (Fr.tr h_q1 (Fr.mono (w_f_x_bit e_q2) rfl))
    rcases ite_some_inv h with h | h
    · cases h
      exact h_q2
    · cases h
      exact h_q2
set_option maxRecDepth 100000 in
theorem w_f_country_placeAt {N : Nat} {a0 : Nat} {a1 : Nat} {a2 : Nat} {v1 : Int32} {σ : Sg} {z : Int32 × Sg} (h : f_country_placeAt N a0 a1 a2 v1 σ = some z) : Fr [] σ z.2 := by
  unfold f_country_placeAt at h
  obtain ⟨q1, e_q1, h⟩ := bind_some_inv h
  have h_q1 : Fr [] _ q1.2 := (Fr.tr Fr.rf (Fr.mono (w_f_numbers_indexOf e_q1) rfl))
  cases h
  exact h_q1
set_option maxRecDepth 100000 in
theorem w_f_x_cell {N : Nat} {v1 : Int32} {v2 : Int32} {σ : Sg} {z : Int32 × Sg} (h : f_x_cell N v1 v2 σ = some z) : Fr [(0, some 10)] σ z.2 := by
  unfold f_x_cell at h
  rcases ite_some_inv h with h | h
  · obtain ⟨q1, e_q1, h⟩ := bind_some_inv h
    have h_q1 : Fr [(0, some 10)] _ q1.2 := (Fr.tr Fr.rf (Fr.mono (w_f_x_granted e_q1) rfl))
    rcases ite_some_inv h with h | h
    · rcases ite_some_inv h with h | h
      · obtain ⟨q2, e_q2, h⟩ := bind_some_inv h
        have h_q2 : Fr [(0, some 10)] _ q2.2 := (Fr.tr h_q1 (Fr.mono (w_f_country_groundAt e_q2) rfl))
        cases h
        exact h_q2
      · rcases ite_some_inv h with h | h
        · obtain ⟨q3, e_q3, h⟩ := bind_some_inv h
          have h_q3 : Fr [(0, some 10)] _ q3.2 := (Fr.tr h_q1 (Fr.mono (w_f_state_depthAt e_q3) rfl))
          cases h
          exact h_q3
        · rcases ite_some_inv h with h | h
          · obtain ⟨q4, e_q4, h⟩ := bind_some_inv h
            have h_q4 : Fr [(0, some 10)] _ q4.2 := (Fr.tr h_q1 (Fr.mono (w_f_country_placeAt e_q4) rfl))
            cases h
            exact h_q4
          · rcases ite_some_inv h with h | h
            · cases h
              exact h_q1
            · cases h
              exact h_q1
    · cases h
      exact h_q1
  · rcases ite_some_inv h with h | h
    · obtain ⟨q5, e_q5, h⟩ := bind_some_inv h
      have h_q5 : Fr [(0, some 10)] _ q5.2 := (Fr.tr Fr.rf (Fr.mono (w_f_x_cellTrouble e_q5) rfl))
      obtain ⟨q6, e_q6, h⟩ := bind_some_inv h
      have h_q6 : Fr [(0, some 10)] _ q6.2 := (Fr.tr h_q5 (Fr.mono (w_f_x_granted e_q6) rfl))
      rcases ite_some_inv h with h | h
      · rcases ite_some_inv h with h | h
        · obtain ⟨q7, e_q7, h⟩ := bind_some_inv h
          have h_q7 : Fr [(0, some 10)] _ q7.2 := (Fr.tr h_q6 (Fr.mono (w_f_country_groundAt e_q7) rfl))
          cases h
          exact h_q7
        · rcases ite_some_inv h with h | h
          · obtain ⟨q8, e_q8, h⟩ := bind_some_inv h
            have h_q8 : Fr [(0, some 10)] _ q8.2 := (Fr.tr h_q6 (Fr.mono (w_f_state_depthAt e_q8) rfl))
            cases h
            exact h_q8
          · rcases ite_some_inv h with h | h
            · obtain ⟨q9, e_q9, h⟩ := bind_some_inv h
              have h_q9 : Fr [(0, some 10)] _ q9.2 := (Fr.tr h_q6 (Fr.mono (w_f_country_placeAt e_q9) rfl))
              cases h
              exact h_q9
            · rcases ite_some_inv h with h | h
              · cases h
                exact h_q6
              · cases h
                exact h_q6
      · cases h
        exact h_q6
    · obtain ⟨q10, e_q10, h⟩ := bind_some_inv h
      have h_q10 : Fr [(0, some 10)] _ q10.2 := (Fr.tr Fr.rf (Fr.mono (w_f_x_granted e_q10) rfl))
      rcases ite_some_inv h with h | h
      · rcases ite_some_inv h with h | h
        · obtain ⟨q11, e_q11, h⟩ := bind_some_inv h
          have h_q11 : Fr [(0, some 10)] _ q11.2 := (Fr.tr h_q10 (Fr.mono (w_f_country_groundAt e_q11) rfl))
          cases h
          exact h_q11
        · rcases ite_some_inv h with h | h
          · obtain ⟨q12, e_q12, h⟩ := bind_some_inv h
            have h_q12 : Fr [(0, some 10)] _ q12.2 := (Fr.tr h_q10 (Fr.mono (w_f_state_depthAt e_q12) rfl))
            cases h
            exact h_q12
          · rcases ite_some_inv h with h | h
            · obtain ⟨q13, e_q13, h⟩ := bind_some_inv h
              have h_q13 : Fr [(0, some 10)] _ q13.2 := (Fr.tr h_q10 (Fr.mono (w_f_country_placeAt e_q13) rfl))
              cases h
              exact h_q13
            · rcases ite_some_inv h with h | h
              · cases h
                exact h_q10
              · cases h
                exact h_q10
      · cases h
        exact h_q10
set_option maxRecDepth 100000 in
theorem w_f_country_isLost {N : Nat} {v1 : Int32} {v2 : Int64} {σ : Sg} {z : Bool × Sg} (h : f_country_isLost N v1 v2 σ = some z) : Fr [] σ z.2 := by
  unfold f_country_isLost at h
  obtain ⟨q1, e_q1, h⟩ := bind_some_inv h
  have h_q1 : Fr [] _ q1.2 := (Fr.tr Fr.rf (Fr.mono (w_f_numbers_at e_q1) rfl))
  obtain ⟨q2, e_q2, h⟩ := bind_some_inv h
  have h_q2 : Fr [] _ q2.2 := (Fr.tr h_q1 (Fr.mono (w_f_x_bit e_q2) rfl))
  cases h
  exact h_q2
set_option maxRecDepth 100000 in
theorem w_f_country_lostFolk_L5 {N : Nat} : ∀ (n : Nat) (v1 : Int64) (v3 : Int32) (v4 : Int32) (σ : Sg) (z : Int32 × Sg), f_country_lostFolk_L5 N n v1 v3 v4 σ = some z → Fr [] σ z.2 := by
  intro n
  induction n with
  | zero => intro v1 v3 v4 σ z  h; exact nomatch (show (none : Option (Int32 × Sg)) = some z from h)
  | succ n ih =>
    intro v1 v3 v4 σ z  h
    unfold f_country_lostFolk_L5 at h
    rcases ite_some_inv h with h | h
    · cases h
      exact Fr.rf
    · obtain ⟨q1, e_q1, h⟩ := bind_some_inv h
      have h_q1 : Fr [] _ q1.2 := (Fr.tr Fr.rf (Fr.mono (w_f_country_isLost e_q1) rfl))
      rcases ite_some_inv h with h | h
      · obtain ⟨q2, e_q2, h⟩ := bind_some_inv h
        have h_q2 : Fr [] _ q2.2 := (Fr.tr h_q1 (Fr.mono (w_f_numbers_at e_q2) rfl))
        exact (Fr.tr h_q2 (ih _ _ _ _ _ h))
      · exact (Fr.tr h_q1 (ih _ _ _ _ _ h))
set_option maxRecDepth 100000 in
theorem w_f_country_lostFolk {N : Nat} {v1 : Int64} {σ : Sg} {z : Int32 × Sg} (h : f_country_lostFolk N v1 σ = some z) : Fr [] σ z.2 := by
  unfold f_country_lostFolk at h
  exact (Fr.tr Fr.rf (Fr.mono (w_f_country_lostFolk_L5 _ _ _ _ _ _ h) rfl))
set_option maxRecDepth 100000 in
theorem w_f_paths_put {N : Nat} {a0 : Nat} {a1 : Nat} {v1 : Int32} {v2 : Int32} {σ : Sg} {z : Unit × Sg} (h : f_paths_put N a0 a1 v1 v2 σ = some z) : Fr [(a1, none)] σ z.2 := by
  unfold f_paths_put at h
  rcases ite_some_inv h with h | h
  · cases h
    exact Fr.rf
  · rcases ite_some_inv h with h | h
    · cases h
      exact Fr.rf
    · rcases ite_some_inv h with h | h
      · cases h
        exact (Fr.wA Fr.rf (by simp))
      · cases h
set_option maxRecDepth 100000 in
theorem w_f_paths_get {N : Nat} {a0 : Nat} {a1 : Nat} {v1 : Int32} {σ : Sg} {z : Int32 × Sg} (h : f_paths_get N a0 a1 v1 σ = some z) : Fr [] σ z.2 := by
  unfold f_paths_get at h
  rcases ite_some_inv h with h | h
  · cases h
    exact Fr.rf
  · rcases ite_some_inv h with h | h
    · cases h
      exact Fr.rf
    · rcases ite_some_inv h with h | h
      · cases h
        exact Fr.rf
      · cases h
set_option maxRecDepth 100000 in
theorem w_f_paths_note {N : Nat} {v1 : Int32} {v2 : Int32} {v3 : Int32} {v4 : Int32} {σ : Sg} {z : Unit × Sg} (h : f_paths_note N v1 v2 v3 v4 σ = some z) : Fr [(56, none), (57, none), (58, none), (59, none), (60, none), (61, none)] σ z.2 := by
  unfold f_paths_note at h
  rcases ite_some_inv h with h | h
  · obtain ⟨q1, e_q1, h⟩ := bind_some_inv h
    have h_q1 : Fr [(56, none), (57, none), (58, none), (59, none), (60, none), (61, none)] _ q1.2 := (Fr.tr Fr.rf (Fr.mono (w_f_paths_get e_q1) rfl))
    rcases ite_some_inv h with h | h
    · obtain ⟨q2, e_q2, h⟩ := bind_some_inv h
      have h_q2 : Fr [(56, none), (57, none), (58, none), (59, none), (60, none), (61, none)] _ q2.2 := (Fr.tr h_q1 (Fr.mono (w_f_paths_put e_q2) rfl))
      obtain ⟨q3, e_q3, h⟩ := bind_some_inv h
      have h_q3 : Fr [(56, none), (57, none), (58, none), (59, none), (60, none), (61, none)] _ q3.2 := (Fr.tr h_q2 (Fr.mono (w_f_paths_put e_q3) rfl))
      obtain ⟨q4, e_q4, h⟩ := bind_some_inv h
      have h_q4 : Fr [(56, none), (57, none), (58, none), (59, none), (60, none), (61, none)] _ q4.2 := (Fr.tr h_q3 (Fr.mono (w_f_paths_get e_q4) rfl))
      rcases ite_some_inv h with h | h
      · obtain ⟨q5, e_q5, h⟩ := bind_some_inv h
        have h_q5 : Fr [(56, none), (57, none), (58, none), (59, none), (60, none), (61, none)] _ q5.2 := (Fr.tr h_q4 (Fr.mono (w_f_paths_put e_q5) rfl))
        obtain ⟨q6, e_q6, h⟩ := bind_some_inv h
        have h_q6 : Fr [(56, none), (57, none), (58, none), (59, none), (60, none), (61, none)] _ q6.2 := (Fr.tr h_q5 (Fr.mono (w_f_paths_put e_q6) rfl))
        obtain ⟨q7, e_q7, h⟩ := bind_some_inv h
        have h_q7 : Fr [(56, none), (57, none), (58, none), (59, none), (60, none), (61, none)] _ q7.2 := (Fr.tr h_q6 (Fr.mono (w_f_paths_put e_q7) rfl))
        cases h
        exact h_q7
      · rcases ite_some_inv h with h | h
        · obtain ⟨q8, e_q8, h⟩ := bind_some_inv h
          have h_q8 : Fr [(56, none), (57, none), (58, none), (59, none), (60, none), (61, none)] _ q8.2 := (Fr.tr h_q4 (Fr.mono (w_f_paths_put e_q8) rfl))
          obtain ⟨q9, e_q9, h⟩ := bind_some_inv h
          have h_q9 : Fr [(56, none), (57, none), (58, none), (59, none), (60, none), (61, none)] _ q9.2 := (Fr.tr h_q8 (Fr.mono (w_f_paths_put e_q9) rfl))
          obtain ⟨q10, e_q10, h⟩ := bind_some_inv h
          have h_q10 : Fr [(56, none), (57, none), (58, none), (59, none), (60, none), (61, none)] _ q10.2 := (Fr.tr h_q9 (Fr.mono (w_f_paths_put e_q10) rfl))
          cases h
          exact h_q10
        · rcases ite_some_inv h with h | h
          · obtain ⟨q11, e_q11, h⟩ := bind_some_inv h
            have h_q11 : Fr [(56, none), (57, none), (58, none), (59, none), (60, none), (61, none)] _ q11.2 := (Fr.tr h_q4 (Fr.mono (w_f_paths_get e_q11) rfl))
            rcases ite_some_inv h with h | h
            · cases h
              exact h_q11
            · obtain ⟨q12, e_q12, h⟩ := bind_some_inv h
              have h_q12 : Fr [(56, none), (57, none), (58, none), (59, none), (60, none), (61, none)] _ q12.2 := (Fr.tr h_q11 (Fr.mono (w_f_paths_put e_q12) rfl))
              obtain ⟨q13, e_q13, h⟩ := bind_some_inv h
              have h_q13 : Fr [(56, none), (57, none), (58, none), (59, none), (60, none), (61, none)] _ q13.2 := (Fr.tr h_q12 (Fr.mono (w_f_paths_put e_q13) rfl))
              obtain ⟨q14, e_q14, h⟩ := bind_some_inv h
              have h_q14 : Fr [(56, none), (57, none), (58, none), (59, none), (60, none), (61, none)] _ q14.2 := (Fr.tr h_q13 (Fr.mono (w_f_paths_put e_q14) rfl))
              cases h
              exact h_q14
          · cases h
            exact h_q4
    · rcases ite_some_inv h with h | h
      · obtain ⟨q15, e_q15, h⟩ := bind_some_inv h
        have h_q15 : Fr [(56, none), (57, none), (58, none), (59, none), (60, none), (61, none)] _ q15.2 := (Fr.tr h_q1 (Fr.mono (w_f_paths_get e_q15) rfl))
        rcases ite_some_inv h with h | h
        · obtain ⟨q16, e_q16, h⟩ := bind_some_inv h
          have h_q16 : Fr [(56, none), (57, none), (58, none), (59, none), (60, none), (61, none)] _ q16.2 := (Fr.tr h_q15 (Fr.mono (w_f_paths_put e_q16) rfl))
          obtain ⟨q17, e_q17, h⟩ := bind_some_inv h
          have h_q17 : Fr [(56, none), (57, none), (58, none), (59, none), (60, none), (61, none)] _ q17.2 := (Fr.tr h_q16 (Fr.mono (w_f_paths_put e_q17) rfl))
          obtain ⟨q18, e_q18, h⟩ := bind_some_inv h
          have h_q18 : Fr [(56, none), (57, none), (58, none), (59, none), (60, none), (61, none)] _ q18.2 := (Fr.tr h_q17 (Fr.mono (w_f_paths_put e_q18) rfl))
          cases h
          exact h_q18
        · rcases ite_some_inv h with h | h
          · obtain ⟨q19, e_q19, h⟩ := bind_some_inv h
            have h_q19 : Fr [(56, none), (57, none), (58, none), (59, none), (60, none), (61, none)] _ q19.2 := (Fr.tr h_q15 (Fr.mono (w_f_paths_put e_q19) rfl))
            obtain ⟨q20, e_q20, h⟩ := bind_some_inv h
            have h_q20 : Fr [(56, none), (57, none), (58, none), (59, none), (60, none), (61, none)] _ q20.2 := (Fr.tr h_q19 (Fr.mono (w_f_paths_put e_q20) rfl))
            obtain ⟨q21, e_q21, h⟩ := bind_some_inv h
            have h_q21 : Fr [(56, none), (57, none), (58, none), (59, none), (60, none), (61, none)] _ q21.2 := (Fr.tr h_q20 (Fr.mono (w_f_paths_put e_q21) rfl))
            cases h
            exact h_q21
          · rcases ite_some_inv h with h | h
            · obtain ⟨q22, e_q22, h⟩ := bind_some_inv h
              have h_q22 : Fr [(56, none), (57, none), (58, none), (59, none), (60, none), (61, none)] _ q22.2 := (Fr.tr h_q15 (Fr.mono (w_f_paths_get e_q22) rfl))
              rcases ite_some_inv h with h | h
              · cases h
                exact h_q22
              · obtain ⟨q23, e_q23, h⟩ := bind_some_inv h
                have h_q23 : Fr [(56, none), (57, none), (58, none), (59, none), (60, none), (61, none)] _ q23.2 := (Fr.tr h_q22 (Fr.mono (w_f_paths_put e_q23) rfl))
                obtain ⟨q24, e_q24, h⟩ := bind_some_inv h
                have h_q24 : Fr [(56, none), (57, none), (58, none), (59, none), (60, none), (61, none)] _ q24.2 := (Fr.tr h_q23 (Fr.mono (w_f_paths_put e_q24) rfl))
                obtain ⟨q25, e_q25, h⟩ := bind_some_inv h
                have h_q25 : Fr [(56, none), (57, none), (58, none), (59, none), (60, none), (61, none)] _ q25.2 := (Fr.tr h_q24 (Fr.mono (w_f_paths_put e_q25) rfl))
                cases h
                exact h_q25
            · cases h
              exact h_q15
      · obtain ⟨q26, e_q26, h⟩ := bind_some_inv h
        have h_q26 : Fr [(56, none), (57, none), (58, none), (59, none), (60, none), (61, none)] _ q26.2 := (Fr.tr h_q1 (Fr.mono (w_f_paths_put e_q26) rfl))
        obtain ⟨q27, e_q27, h⟩ := bind_some_inv h
        have h_q27 : Fr [(56, none), (57, none), (58, none), (59, none), (60, none), (61, none)] _ q27.2 := (Fr.tr h_q26 (Fr.mono (w_f_paths_put e_q27) rfl))
        obtain ⟨q28, e_q28, h⟩ := bind_some_inv h
        have h_q28 : Fr [(56, none), (57, none), (58, none), (59, none), (60, none), (61, none)] _ q28.2 := (Fr.tr h_q27 (Fr.mono (w_f_paths_get e_q28) rfl))
        rcases ite_some_inv h with h | h
        · obtain ⟨q29, e_q29, h⟩ := bind_some_inv h
          have h_q29 : Fr [(56, none), (57, none), (58, none), (59, none), (60, none), (61, none)] _ q29.2 := (Fr.tr h_q28 (Fr.mono (w_f_paths_put e_q29) rfl))
          obtain ⟨q30, e_q30, h⟩ := bind_some_inv h
          have h_q30 : Fr [(56, none), (57, none), (58, none), (59, none), (60, none), (61, none)] _ q30.2 := (Fr.tr h_q29 (Fr.mono (w_f_paths_put e_q30) rfl))
          obtain ⟨q31, e_q31, h⟩ := bind_some_inv h
          have h_q31 : Fr [(56, none), (57, none), (58, none), (59, none), (60, none), (61, none)] _ q31.2 := (Fr.tr h_q30 (Fr.mono (w_f_paths_put e_q31) rfl))
          cases h
          exact h_q31
        · rcases ite_some_inv h with h | h
          · obtain ⟨q32, e_q32, h⟩ := bind_some_inv h
            have h_q32 : Fr [(56, none), (57, none), (58, none), (59, none), (60, none), (61, none)] _ q32.2 := (Fr.tr h_q28 (Fr.mono (w_f_paths_put e_q32) rfl))
            obtain ⟨q33, e_q33, h⟩ := bind_some_inv h
            have h_q33 : Fr [(56, none), (57, none), (58, none), (59, none), (60, none), (61, none)] _ q33.2 := (Fr.tr h_q32 (Fr.mono (w_f_paths_put e_q33) rfl))
            obtain ⟨q34, e_q34, h⟩ := bind_some_inv h
            have h_q34 : Fr [(56, none), (57, none), (58, none), (59, none), (60, none), (61, none)] _ q34.2 := (Fr.tr h_q33 (Fr.mono (w_f_paths_put e_q34) rfl))
            cases h
            exact h_q34
          · rcases ite_some_inv h with h | h
            · obtain ⟨q35, e_q35, h⟩ := bind_some_inv h
              have h_q35 : Fr [(56, none), (57, none), (58, none), (59, none), (60, none), (61, none)] _ q35.2 := (Fr.tr h_q28 (Fr.mono (w_f_paths_get e_q35) rfl))
              rcases ite_some_inv h with h | h
              · cases h
                exact h_q35
              · obtain ⟨q36, e_q36, h⟩ := bind_some_inv h
                have h_q36 : Fr [(56, none), (57, none), (58, none), (59, none), (60, none), (61, none)] _ q36.2 := (Fr.tr h_q35 (Fr.mono (w_f_paths_put e_q36) rfl))
                obtain ⟨q37, e_q37, h⟩ := bind_some_inv h
                have h_q37 : Fr [(56, none), (57, none), (58, none), (59, none), (60, none), (61, none)] _ q37.2 := (Fr.tr h_q36 (Fr.mono (w_f_paths_put e_q37) rfl))
                obtain ⟨q38, e_q38, h⟩ := bind_some_inv h
                have h_q38 : Fr [(56, none), (57, none), (58, none), (59, none), (60, none), (61, none)] _ q38.2 := (Fr.tr h_q37 (Fr.mono (w_f_paths_put e_q38) rfl))
                cases h
                exact h_q38
            · cases h
              exact h_q28
  · rcases ite_some_inv h with h | h
    · obtain ⟨q39, e_q39, h⟩ := bind_some_inv h
      have h_q39 : Fr [(56, none), (57, none), (58, none), (59, none), (60, none), (61, none)] _ q39.2 := (Fr.tr Fr.rf (Fr.mono (w_f_paths_get e_q39) rfl))
      rcases ite_some_inv h with h | h
      · obtain ⟨q40, e_q40, h⟩ := bind_some_inv h
        have h_q40 : Fr [(56, none), (57, none), (58, none), (59, none), (60, none), (61, none)] _ q40.2 := (Fr.tr h_q39 (Fr.mono (w_f_paths_put e_q40) rfl))
        obtain ⟨q41, e_q41, h⟩ := bind_some_inv h
        have h_q41 : Fr [(56, none), (57, none), (58, none), (59, none), (60, none), (61, none)] _ q41.2 := (Fr.tr h_q40 (Fr.mono (w_f_paths_put e_q41) rfl))
        obtain ⟨q42, e_q42, h⟩ := bind_some_inv h
        have h_q42 : Fr [(56, none), (57, none), (58, none), (59, none), (60, none), (61, none)] _ q42.2 := (Fr.tr h_q41 (Fr.mono (w_f_paths_get e_q42) rfl))
        rcases ite_some_inv h with h | h
        · obtain ⟨q43, e_q43, h⟩ := bind_some_inv h
          have h_q43 : Fr [(56, none), (57, none), (58, none), (59, none), (60, none), (61, none)] _ q43.2 := (Fr.tr h_q42 (Fr.mono (w_f_paths_put e_q43) rfl))
          obtain ⟨q44, e_q44, h⟩ := bind_some_inv h
          have h_q44 : Fr [(56, none), (57, none), (58, none), (59, none), (60, none), (61, none)] _ q44.2 := (Fr.tr h_q43 (Fr.mono (w_f_paths_put e_q44) rfl))
          obtain ⟨q45, e_q45, h⟩ := bind_some_inv h
          have h_q45 : Fr [(56, none), (57, none), (58, none), (59, none), (60, none), (61, none)] _ q45.2 := (Fr.tr h_q44 (Fr.mono (w_f_paths_put e_q45) rfl))
          cases h
          exact h_q45
        · rcases ite_some_inv h with h | h
          · obtain ⟨q46, e_q46, h⟩ := bind_some_inv h
            have h_q46 : Fr [(56, none), (57, none), (58, none), (59, none), (60, none), (61, none)] _ q46.2 := (Fr.tr h_q42 (Fr.mono (w_f_paths_put e_q46) rfl))
            obtain ⟨q47, e_q47, h⟩ := bind_some_inv h
            have h_q47 : Fr [(56, none), (57, none), (58, none), (59, none), (60, none), (61, none)] _ q47.2 := (Fr.tr h_q46 (Fr.mono (w_f_paths_put e_q47) rfl))
            obtain ⟨q48, e_q48, h⟩ := bind_some_inv h
            have h_q48 : Fr [(56, none), (57, none), (58, none), (59, none), (60, none), (61, none)] _ q48.2 := (Fr.tr h_q47 (Fr.mono (w_f_paths_put e_q48) rfl))
            cases h
            exact h_q48
          · rcases ite_some_inv h with h | h
            · obtain ⟨q49, e_q49, h⟩ := bind_some_inv h
              have h_q49 : Fr [(56, none), (57, none), (58, none), (59, none), (60, none), (61, none)] _ q49.2 := (Fr.tr h_q42 (Fr.mono (w_f_paths_get e_q49) rfl))
              rcases ite_some_inv h with h | h
              · cases h
                exact h_q49
              · obtain ⟨q50, e_q50, h⟩ := bind_some_inv h
                have h_q50 : Fr [(56, none), (57, none), (58, none), (59, none), (60, none), (61, none)] _ q50.2 := (Fr.tr h_q49 (Fr.mono (w_f_paths_put e_q50) rfl))
                obtain ⟨q51, e_q51, h⟩ := bind_some_inv h
                have h_q51 : Fr [(56, none), (57, none), (58, none), (59, none), (60, none), (61, none)] _ q51.2 := (Fr.tr h_q50 (Fr.mono (w_f_paths_put e_q51) rfl))
                obtain ⟨q52, e_q52, h⟩ := bind_some_inv h
                have h_q52 : Fr [(56, none), (57, none), (58, none), (59, none), (60, none), (61, none)] _ q52.2 := (Fr.tr h_q51 (Fr.mono (w_f_paths_put e_q52) rfl))
                cases h
                exact h_q52
            · cases h
              exact h_q42
      · rcases ite_some_inv h with h | h
        · obtain ⟨q53, e_q53, h⟩ := bind_some_inv h
          have h_q53 : Fr [(56, none), (57, none), (58, none), (59, none), (60, none), (61, none)] _ q53.2 := (Fr.tr h_q39 (Fr.mono (w_f_paths_get e_q53) rfl))
          rcases ite_some_inv h with h | h
          · obtain ⟨q54, e_q54, h⟩ := bind_some_inv h
            have h_q54 : Fr [(56, none), (57, none), (58, none), (59, none), (60, none), (61, none)] _ q54.2 := (Fr.tr h_q53 (Fr.mono (w_f_paths_put e_q54) rfl))
            obtain ⟨q55, e_q55, h⟩ := bind_some_inv h
            have h_q55 : Fr [(56, none), (57, none), (58, none), (59, none), (60, none), (61, none)] _ q55.2 := (Fr.tr h_q54 (Fr.mono (w_f_paths_put e_q55) rfl))
            obtain ⟨q56, e_q56, h⟩ := bind_some_inv h
            have h_q56 : Fr [(56, none), (57, none), (58, none), (59, none), (60, none), (61, none)] _ q56.2 := (Fr.tr h_q55 (Fr.mono (w_f_paths_put e_q56) rfl))
            cases h
            exact h_q56
          · rcases ite_some_inv h with h | h
            · obtain ⟨q57, e_q57, h⟩ := bind_some_inv h
              have h_q57 : Fr [(56, none), (57, none), (58, none), (59, none), (60, none), (61, none)] _ q57.2 := (Fr.tr h_q53 (Fr.mono (w_f_paths_put e_q57) rfl))
              obtain ⟨q58, e_q58, h⟩ := bind_some_inv h
              have h_q58 : Fr [(56, none), (57, none), (58, none), (59, none), (60, none), (61, none)] _ q58.2 := (Fr.tr h_q57 (Fr.mono (w_f_paths_put e_q58) rfl))
              obtain ⟨q59, e_q59, h⟩ := bind_some_inv h
              have h_q59 : Fr [(56, none), (57, none), (58, none), (59, none), (60, none), (61, none)] _ q59.2 := (Fr.tr h_q58 (Fr.mono (w_f_paths_put e_q59) rfl))
              cases h
              exact h_q59
            · rcases ite_some_inv h with h | h
              · obtain ⟨q60, e_q60, h⟩ := bind_some_inv h
                have h_q60 : Fr [(56, none), (57, none), (58, none), (59, none), (60, none), (61, none)] _ q60.2 := (Fr.tr h_q53 (Fr.mono (w_f_paths_get e_q60) rfl))
                rcases ite_some_inv h with h | h
                · cases h
                  exact h_q60
                · obtain ⟨q61, e_q61, h⟩ := bind_some_inv h
                  have h_q61 : Fr [(56, none), (57, none), (58, none), (59, none), (60, none), (61, none)] _ q61.2 := (Fr.tr h_q60 (Fr.mono (w_f_paths_put e_q61) rfl))
                  obtain ⟨q62, e_q62, h⟩ := bind_some_inv h
                  have h_q62 : Fr [(56, none), (57, none), (58, none), (59, none), (60, none), (61, none)] _ q62.2 := (Fr.tr h_q61 (Fr.mono (w_f_paths_put e_q62) rfl))
                  obtain ⟨q63, e_q63, h⟩ := bind_some_inv h
                  have h_q63 : Fr [(56, none), (57, none), (58, none), (59, none), (60, none), (61, none)] _ q63.2 := (Fr.tr h_q62 (Fr.mono (w_f_paths_put e_q63) rfl))
                  cases h
                  exact h_q63
              · cases h
                exact h_q53
        · obtain ⟨q64, e_q64, h⟩ := bind_some_inv h
          have h_q64 : Fr [(56, none), (57, none), (58, none), (59, none), (60, none), (61, none)] _ q64.2 := (Fr.tr h_q39 (Fr.mono (w_f_paths_put e_q64) rfl))
          obtain ⟨q65, e_q65, h⟩ := bind_some_inv h
          have h_q65 : Fr [(56, none), (57, none), (58, none), (59, none), (60, none), (61, none)] _ q65.2 := (Fr.tr h_q64 (Fr.mono (w_f_paths_put e_q65) rfl))
          obtain ⟨q66, e_q66, h⟩ := bind_some_inv h
          have h_q66 : Fr [(56, none), (57, none), (58, none), (59, none), (60, none), (61, none)] _ q66.2 := (Fr.tr h_q65 (Fr.mono (w_f_paths_get e_q66) rfl))
          rcases ite_some_inv h with h | h
          · obtain ⟨q67, e_q67, h⟩ := bind_some_inv h
            have h_q67 : Fr [(56, none), (57, none), (58, none), (59, none), (60, none), (61, none)] _ q67.2 := (Fr.tr h_q66 (Fr.mono (w_f_paths_put e_q67) rfl))
            obtain ⟨q68, e_q68, h⟩ := bind_some_inv h
            have h_q68 : Fr [(56, none), (57, none), (58, none), (59, none), (60, none), (61, none)] _ q68.2 := (Fr.tr h_q67 (Fr.mono (w_f_paths_put e_q68) rfl))
            obtain ⟨q69, e_q69, h⟩ := bind_some_inv h
            have h_q69 : Fr [(56, none), (57, none), (58, none), (59, none), (60, none), (61, none)] _ q69.2 := (Fr.tr h_q68 (Fr.mono (w_f_paths_put e_q69) rfl))
            cases h
            exact h_q69
          · rcases ite_some_inv h with h | h
            · obtain ⟨q70, e_q70, h⟩ := bind_some_inv h
              have h_q70 : Fr [(56, none), (57, none), (58, none), (59, none), (60, none), (61, none)] _ q70.2 := (Fr.tr h_q66 (Fr.mono (w_f_paths_put e_q70) rfl))
              obtain ⟨q71, e_q71, h⟩ := bind_some_inv h
              have h_q71 : Fr [(56, none), (57, none), (58, none), (59, none), (60, none), (61, none)] _ q71.2 := (Fr.tr h_q70 (Fr.mono (w_f_paths_put e_q71) rfl))
              obtain ⟨q72, e_q72, h⟩ := bind_some_inv h
              have h_q72 : Fr [(56, none), (57, none), (58, none), (59, none), (60, none), (61, none)] _ q72.2 := (Fr.tr h_q71 (Fr.mono (w_f_paths_put e_q72) rfl))
              cases h
              exact h_q72
            · rcases ite_some_inv h with h | h
              · obtain ⟨q73, e_q73, h⟩ := bind_some_inv h
                have h_q73 : Fr [(56, none), (57, none), (58, none), (59, none), (60, none), (61, none)] _ q73.2 := (Fr.tr h_q66 (Fr.mono (w_f_paths_get e_q73) rfl))
                rcases ite_some_inv h with h | h
                · cases h
                  exact h_q73
                · obtain ⟨q74, e_q74, h⟩ := bind_some_inv h
                  have h_q74 : Fr [(56, none), (57, none), (58, none), (59, none), (60, none), (61, none)] _ q74.2 := (Fr.tr h_q73 (Fr.mono (w_f_paths_put e_q74) rfl))
                  obtain ⟨q75, e_q75, h⟩ := bind_some_inv h
                  have h_q75 : Fr [(56, none), (57, none), (58, none), (59, none), (60, none), (61, none)] _ q75.2 := (Fr.tr h_q74 (Fr.mono (w_f_paths_put e_q75) rfl))
                  obtain ⟨q76, e_q76, h⟩ := bind_some_inv h
                  have h_q76 : Fr [(56, none), (57, none), (58, none), (59, none), (60, none), (61, none)] _ q76.2 := (Fr.tr h_q75 (Fr.mono (w_f_paths_put e_q76) rfl))
                  cases h
                  exact h_q76
              · cases h
                exact h_q66
    · rcases ite_some_inv h with h | h
      · obtain ⟨q77, e_q77, h⟩ := bind_some_inv h
        have h_q77 : Fr [(56, none), (57, none), (58, none), (59, none), (60, none), (61, none)] _ q77.2 := (Fr.tr Fr.rf (Fr.mono (w_f_x_span e_q77) rfl))
        rcases ite_some_inv h with h | h
        · obtain ⟨q78, e_q78, h⟩ := bind_some_inv h
          have h_q78 : Fr [(56, none), (57, none), (58, none), (59, none), (60, none), (61, none)] _ q78.2 := (Fr.tr (Fr.wM h_q77 (List.elem_iff.mp rfl)) (Fr.mono (w_f_paths_get e_q78) rfl))
          rcases ite_some_inv h with h | h
          · obtain ⟨q79, e_q79, h⟩ := bind_some_inv h
            have h_q79 : Fr [(56, none), (57, none), (58, none), (59, none), (60, none), (61, none)] _ q79.2 := (Fr.tr h_q78 (Fr.mono (w_f_paths_put e_q79) rfl))
            obtain ⟨q80, e_q80, h⟩ := bind_some_inv h
            have h_q80 : Fr [(56, none), (57, none), (58, none), (59, none), (60, none), (61, none)] _ q80.2 := (Fr.tr h_q79 (Fr.mono (w_f_paths_put e_q80) rfl))
            obtain ⟨q81, e_q81, h⟩ := bind_some_inv h
            have h_q81 : Fr [(56, none), (57, none), (58, none), (59, none), (60, none), (61, none)] _ q81.2 := (Fr.tr h_q80 (Fr.mono (w_f_paths_get e_q81) rfl))
            rcases ite_some_inv h with h | h
            · obtain ⟨q82, e_q82, h⟩ := bind_some_inv h
              have h_q82 : Fr [(56, none), (57, none), (58, none), (59, none), (60, none), (61, none)] _ q82.2 := (Fr.tr h_q81 (Fr.mono (w_f_paths_put e_q82) rfl))
              obtain ⟨q83, e_q83, h⟩ := bind_some_inv h
              have h_q83 : Fr [(56, none), (57, none), (58, none), (59, none), (60, none), (61, none)] _ q83.2 := (Fr.tr h_q82 (Fr.mono (w_f_paths_put e_q83) rfl))
              obtain ⟨q84, e_q84, h⟩ := bind_some_inv h
              have h_q84 : Fr [(56, none), (57, none), (58, none), (59, none), (60, none), (61, none)] _ q84.2 := (Fr.tr h_q83 (Fr.mono (w_f_paths_put e_q84) rfl))
              cases h
              exact h_q84
            · rcases ite_some_inv h with h | h
              · obtain ⟨q85, e_q85, h⟩ := bind_some_inv h
                have h_q85 : Fr [(56, none), (57, none), (58, none), (59, none), (60, none), (61, none)] _ q85.2 := (Fr.tr h_q81 (Fr.mono (w_f_paths_put e_q85) rfl))
                obtain ⟨q86, e_q86, h⟩ := bind_some_inv h
                have h_q86 : Fr [(56, none), (57, none), (58, none), (59, none), (60, none), (61, none)] _ q86.2 := (Fr.tr h_q85 (Fr.mono (w_f_paths_put e_q86) rfl))
                obtain ⟨q87, e_q87, h⟩ := bind_some_inv h
                have h_q87 : Fr [(56, none), (57, none), (58, none), (59, none), (60, none), (61, none)] _ q87.2 := (Fr.tr h_q86 (Fr.mono (w_f_paths_put e_q87) rfl))
                cases h
                exact h_q87
              · rcases ite_some_inv h with h | h
                · obtain ⟨q88, e_q88, h⟩ := bind_some_inv h
                  have h_q88 : Fr [(56, none), (57, none), (58, none), (59, none), (60, none), (61, none)] _ q88.2 := (Fr.tr h_q81 (Fr.mono (w_f_paths_get e_q88) rfl))
                  rcases ite_some_inv h with h | h
                  · cases h
                    exact h_q88
                  · obtain ⟨q89, e_q89, h⟩ := bind_some_inv h
                    have h_q89 : Fr [(56, none), (57, none), (58, none), (59, none), (60, none), (61, none)] _ q89.2 := (Fr.tr h_q88 (Fr.mono (w_f_paths_put e_q89) rfl))
                    obtain ⟨q90, e_q90, h⟩ := bind_some_inv h
                    have h_q90 : Fr [(56, none), (57, none), (58, none), (59, none), (60, none), (61, none)] _ q90.2 := (Fr.tr h_q89 (Fr.mono (w_f_paths_put e_q90) rfl))
                    obtain ⟨q91, e_q91, h⟩ := bind_some_inv h
                    have h_q91 : Fr [(56, none), (57, none), (58, none), (59, none), (60, none), (61, none)] _ q91.2 := (Fr.tr h_q90 (Fr.mono (w_f_paths_put e_q91) rfl))
                    cases h
                    exact h_q91
                · cases h
                  exact h_q81
          · rcases ite_some_inv h with h | h
            · obtain ⟨q92, e_q92, h⟩ := bind_some_inv h
              have h_q92 : Fr [(56, none), (57, none), (58, none), (59, none), (60, none), (61, none)] _ q92.2 := (Fr.tr h_q78 (Fr.mono (w_f_paths_get e_q92) rfl))
              rcases ite_some_inv h with h | h
              · obtain ⟨q93, e_q93, h⟩ := bind_some_inv h
                have h_q93 : Fr [(56, none), (57, none), (58, none), (59, none), (60, none), (61, none)] _ q93.2 := (Fr.tr h_q92 (Fr.mono (w_f_paths_put e_q93) rfl))
                obtain ⟨q94, e_q94, h⟩ := bind_some_inv h
                have h_q94 : Fr [(56, none), (57, none), (58, none), (59, none), (60, none), (61, none)] _ q94.2 := (Fr.tr h_q93 (Fr.mono (w_f_paths_put e_q94) rfl))
                obtain ⟨q95, e_q95, h⟩ := bind_some_inv h
                have h_q95 : Fr [(56, none), (57, none), (58, none), (59, none), (60, none), (61, none)] _ q95.2 := (Fr.tr h_q94 (Fr.mono (w_f_paths_put e_q95) rfl))
                cases h
                exact h_q95
              · rcases ite_some_inv h with h | h
                · obtain ⟨q96, e_q96, h⟩ := bind_some_inv h
                  have h_q96 : Fr [(56, none), (57, none), (58, none), (59, none), (60, none), (61, none)] _ q96.2 := (Fr.tr h_q92 (Fr.mono (w_f_paths_put e_q96) rfl))
                  obtain ⟨q97, e_q97, h⟩ := bind_some_inv h
                  have h_q97 : Fr [(56, none), (57, none), (58, none), (59, none), (60, none), (61, none)] _ q97.2 := (Fr.tr h_q96 (Fr.mono (w_f_paths_put e_q97) rfl))
                  obtain ⟨q98, e_q98, h⟩ := bind_some_inv h
                  have h_q98 : Fr [(56, none), (57, none), (58, none), (59, none), (60, none), (61, none)] _ q98.2 := (Fr.tr h_q97 (Fr.mono (w_f_paths_put e_q98) rfl))
                  cases h
                  exact h_q98
                · rcases ite_some_inv h with h | h
                  · obtain ⟨q99, e_q99, h⟩ := bind_some_inv h
                    have h_q99 : Fr [(56, none), (57, none), (58, none), (59, none), (60, none), (61, none)] _ q99.2 := (Fr.tr h_q92 (Fr.mono (w_f_paths_get e_q99) rfl))
                    rcases ite_some_inv h with h | h
                    · cases h
                      exact h_q99
                    · obtain ⟨q100, e_q100, h⟩ := bind_some_inv h
                      have h_q100 : Fr [(56, none), (57, none), (58, none), (59, none), (60, none), (61, none)] _ q100.2 := (Fr.tr h_q99 (Fr.mono (w_f_paths_put e_q100) rfl))
                      obtain ⟨q101, e_q101, h⟩ := bind_some_inv h
                      have h_q101 : Fr [(56, none), (57, none), (58, none), (59, none), (60, none), (61, none)] _ q101.2 := (Fr.tr h_q100 (Fr.mono (w_f_paths_put e_q101) rfl))
                      obtain ⟨q102, e_q102, h⟩ := bind_some_inv h
                      have h_q102 : Fr [(56, none), (57, none), (58, none), (59, none), (60, none), (61, none)] _ q102.2 := (Fr.tr h_q101 (Fr.mono (w_f_paths_put e_q102) rfl))
                      cases h
                      exact h_q102
                  · cases h
                    exact h_q92
            · obtain ⟨q103, e_q103, h⟩ := bind_some_inv h
              have h_q103 : Fr [(56, none), (57, none), (58, none), (59, none), (60, none), (61, none)] _ q103.2 := (Fr.tr h_q78 (Fr.mono (w_f_paths_put e_q103) rfl))
              obtain ⟨q104, e_q104, h⟩ := bind_some_inv h
              have h_q104 : Fr [(56, none), (57, none), (58, none), (59, none), (60, none), (61, none)] _ q104.2 := (Fr.tr h_q103 (Fr.mono (w_f_paths_put e_q104) rfl))
              obtain ⟨q105, e_q105, h⟩ := bind_some_inv h
              have h_q105 : Fr [(56, none), (57, none), (58, none), (59, none), (60, none), (61, none)] _ q105.2 := (Fr.tr h_q104 (Fr.mono (w_f_paths_get e_q105) rfl))
              rcases ite_some_inv h with h | h
              · obtain ⟨q106, e_q106, h⟩ := bind_some_inv h
                have h_q106 : Fr [(56, none), (57, none), (58, none), (59, none), (60, none), (61, none)] _ q106.2 := (Fr.tr h_q105 (Fr.mono (w_f_paths_put e_q106) rfl))
                obtain ⟨q107, e_q107, h⟩ := bind_some_inv h
                have h_q107 : Fr [(56, none), (57, none), (58, none), (59, none), (60, none), (61, none)] _ q107.2 := (Fr.tr h_q106 (Fr.mono (w_f_paths_put e_q107) rfl))
                obtain ⟨q108, e_q108, h⟩ := bind_some_inv h
                have h_q108 : Fr [(56, none), (57, none), (58, none), (59, none), (60, none), (61, none)] _ q108.2 := (Fr.tr h_q107 (Fr.mono (w_f_paths_put e_q108) rfl))
                cases h
                exact h_q108
              · rcases ite_some_inv h with h | h
                · obtain ⟨q109, e_q109, h⟩ := bind_some_inv h
                  have h_q109 : Fr [(56, none), (57, none), (58, none), (59, none), (60, none), (61, none)] _ q109.2 := (Fr.tr h_q105 (Fr.mono (w_f_paths_put e_q109) rfl))
                  obtain ⟨q110, e_q110, h⟩ := bind_some_inv h
                  have h_q110 : Fr [(56, none), (57, none), (58, none), (59, none), (60, none), (61, none)] _ q110.2 := (Fr.tr h_q109 (Fr.mono (w_f_paths_put e_q110) rfl))
                  obtain ⟨q111, e_q111, h⟩ := bind_some_inv h
                  have h_q111 : Fr [(56, none), (57, none), (58, none), (59, none), (60, none), (61, none)] _ q111.2 := (Fr.tr h_q110 (Fr.mono (w_f_paths_put e_q111) rfl))
                  cases h
                  exact h_q111
                · rcases ite_some_inv h with h | h
                  · obtain ⟨q112, e_q112, h⟩ := bind_some_inv h
                    have h_q112 : Fr [(56, none), (57, none), (58, none), (59, none), (60, none), (61, none)] _ q112.2 := (Fr.tr h_q105 (Fr.mono (w_f_paths_get e_q112) rfl))
                    rcases ite_some_inv h with h | h
                    · cases h
                      exact h_q112
                    · obtain ⟨q113, e_q113, h⟩ := bind_some_inv h
                      have h_q113 : Fr [(56, none), (57, none), (58, none), (59, none), (60, none), (61, none)] _ q113.2 := (Fr.tr h_q112 (Fr.mono (w_f_paths_put e_q113) rfl))
                      obtain ⟨q114, e_q114, h⟩ := bind_some_inv h
                      have h_q114 : Fr [(56, none), (57, none), (58, none), (59, none), (60, none), (61, none)] _ q114.2 := (Fr.tr h_q113 (Fr.mono (w_f_paths_put e_q114) rfl))
                      obtain ⟨q115, e_q115, h⟩ := bind_some_inv h
                      have h_q115 : Fr [(56, none), (57, none), (58, none), (59, none), (60, none), (61, none)] _ q115.2 := (Fr.tr h_q114 (Fr.mono (w_f_paths_put e_q115) rfl))
                      cases h
                      exact h_q115
                  · cases h
                    exact h_q105
        · cases h
      · cases h
set_option maxRecDepth 100000 in
theorem w_f_paths_explore_L25 {N : Nat} {rec : Int32 → Int64 → Int32 → Int32 → Int32 → Sg → Option (Unit × Sg)} {W : WL} (hW : ∀ e ∈ ([] : WL), e ∈ W) (h_rec : ∀ (u0 : Int32) (u1 : Int64) (u2 : Int32) (u3 : Int32) (u4 : Int32) (u5 : Sg) z, rec u0 u1 u2 u3 u4 u5 = some z → Fr W u5 z.2) : ∀ (n : Nat) (v2 : Int32) (v3 : Int64) (v5 : Int32) (v6 : Int32) (v7 : Int32) (v8 : Int32) (σ : Sg) (z : Unit × Sg), f_paths_explore_L25 N rec n v2 v3 v5 v6 v7 v8 σ = some z → Fr W σ z.2 := by
  intro n
  induction n with
  | zero => intro v2 v3 v5 v6 v7 v8 σ z  h; exact nomatch (show (none : Option (Unit × Sg)) = some z from h)
  | succ n ih =>
    intro v2 v3 v5 v6 v7 v8 σ z  h
    unfold f_paths_explore_L25 at h
    rcases ite_some_inv h with h | h
    · cases h
      exact Fr.rf
    · obtain ⟨q2, e_q2, h⟩ := bind_some_inv h
      have h_q2 : Fr W _ q2.2 := (Fr.tr Fr.rf (Fr.monoP (Fr.mono (w_f_country_target e_q2) rfl) hW))
      rcases ite_some_inv h with h | h
      · exact (Fr.tr h_q2 (ih _ _ _ _ _ _ _ _  h))
      · obtain ⟨q3, e_q3, h⟩ := bind_some_inv h
        have h_q3 : Fr W _ q3.2 := (Fr.tr h_q2 (Fr.monoP (Fr.mono (w_f_x_inside e_q3) rfl) hW))
        rcases ite_some_inv h with h | h
        · obtain ⟨q6, e_q6, h⟩ := bind_some_inv h
          have h_q6 : Fr W _ q6.2 := (Fr.tr h_q3 (h_rec _ _ _ _ _ _ _ e_q6))
          exact (Fr.tr h_q6 (ih _ _ _ _ _ _ _ _  h))
        · obtain ⟨q4, e_q4, h⟩ := bind_some_inv h
          have h_q4 : Fr W _ q4.2 := (Fr.tr h_q3 (Fr.monoP (Fr.mono (w_f_country_lostFolk e_q4) rfl) hW))
          obtain ⟨q5, e_q5, h⟩ := bind_some_inv h
          have h_q5 : Fr W _ q5.2 := (Fr.tr h_q4 (h_rec _ _ _ _ _ _ _ e_q5))
          exact (Fr.tr h_q5 (ih _ _ _ _ _ _ _ _  h))
set_option maxRecDepth 100000 in
theorem w_f_paths_explore_B {N : Nat} {rec : Int32 → Int64 → Int32 → Int32 → Int32 → Sg → Option (Unit × Sg)} {v2 : Int32} {v3 : Int64} {v5 : Int32} {v6 : Int32} {v7 : Int32} {σ : Sg} {z : Unit × Sg} {W : WL} (hW : ∀ e ∈ ([(56, none), (57, none), (58, none), (59, none), (60, none), (61, none)] : WL), e ∈ W) (h_rec : ∀ (u0 : Int32) (u1 : Int64) (u2 : Int32) (u3 : Int32) (u4 : Int32) (u5 : Sg) z, rec u0 u1 u2 u3 u4 u5 = some z → Fr W u5 z.2) (h : f_paths_explore_B N rec v2 v3 v5 v6 v7 σ = some z) : Fr W σ z.2 := by
  unfold f_paths_explore_B at h
  obtain ⟨q1, e_q1, h⟩ := bind_some_inv h
  have h_q1 : Fr W _ q1.2 := (Fr.tr Fr.rf (Fr.monoP (Fr.mono (w_f_paths_note e_q1) rfl) hW))
  rcases ite_some_inv h with h | h
  · exact (Fr.tr h_q1 (w_f_paths_explore_L25 (W := W) (fun e he => by cases he) h_rec _ _ _ _ _ _ _ _ _  h))
  · cases h
    exact h_q1
set_option maxRecDepth 100000 in
theorem w_f_paths_explore {N : Nat} : ∀ (n : Nat) (v2 : Int32) (v3 : Int64) (v5 : Int32) (v6 : Int32) (v7 : Int32) (σ : Sg) (z : Unit × Sg), f_paths_explore N n v2 v3 v5 v6 v7 σ = some z → Fr [(56, none), (57, none), (58, none), (59, none), (60, none), (61, none)] σ z.2 := by
  intro n
  induction n with
  | zero => intro v2 v3 v5 v6 v7 σ z  h; exact nomatch (show (none : Option (Unit × Sg)) = some z from h)
  | succ D ih =>
    intro v2 v3 v5 v6 v7 σ z  h
    unfold f_paths_explore at h
    exact (Fr.tr Fr.rf (w_f_paths_explore_B (W := [(56, none), (57, none), (58, none), (59, none), (60, none), (61, none)]) (fun e he => List.mem_of_elem_eq_true (List.all_eq_true.mp (show ([(56, none), (57, none), (58, none), (59, none), (60, none), (61, none)] : WL).all (fun e => List.elem e [(56, none), (57, none), (58, none), (59, none), (60, none), (61, none)]) = true from rfl) e he)) (fun u0 u1 u2 u3 u4 u5 z h => ih u0 u1 u2 u3 u4 u5 z h) h))
set_option maxRecDepth 100000 in
theorem w_f_paths_know_L72 {N : Nat} {W : WL} (hW : ∀ e ∈ ([(55, some 11)] : WL), e ∈ W) : ∀ (n : Nat) (v3 : Int32) (σ : Sg) (k115 : (Sg → Option (Unit × Sg))) (z : Unit × Sg) (h_k115 : ∀ (u0 : Sg) z, k115 u0 = some z → Fr W u0 z.2), f_paths_know_L72 N n v3 σ k115 = some z → Fr W σ z.2 := by
  intro n
  induction n with
  | zero => intro v3 σ k115 z h_k115 h; exact nomatch (show (none : Option (Unit × Sg)) = some z from h)
  | succ n ih =>
    intro v3 σ k115 z h_k115 h
    unfold f_paths_know_L72 at h
    rcases ite_some_inv h with h | h
    · exact (Fr.tr Fr.rf (h_k115 _ _ h))
    · obtain ⟨q4, e_q4, h⟩ := bind_some_inv h
      have h_q4 : Fr W _ q4.2 := (Fr.tr Fr.rf (Fr.monoP (Fr.mono (w_f_numbers_at e_q4) rfl) hW))
      obtain ⟨q5, e_q5, h⟩ := bind_some_inv h
      have h_q5 : Fr W _ q5.2 := (Fr.tr h_q4 (Fr.monoP (Fr.mono (w_f_x_span e_q5) rfl) hW))
      exact (Fr.tr (Fr.wL h_q5 (hW _ (List.elem_iff.mp rfl))) (ih _ _ _ _ h_k115 h))
set_option maxRecDepth 100000 in
theorem w_f_paths_know_L117 {N : Nat} {W : WL} (hW : ∀ e ∈ ([(56, none), (58, none), (60, none)] : WL), e ∈ W) : ∀ (n : Nat) (v3 : Int32) (σ : Sg) (k159 : (Sg → Option (Unit × Sg))) (z : Unit × Sg) (h_k159 : ∀ (u0 : Sg) z, k159 u0 = some z → Fr W u0 z.2), f_paths_know_L117 N n v3 σ k159 = some z → Fr W σ z.2 := by
  intro n
  induction n with
  | zero => intro v3 σ k159 z h_k159 h; exact nomatch (show (none : Option (Unit × Sg)) = some z from h)
  | succ n ih =>
    intro v3 σ k159 z h_k159 h
    unfold f_paths_know_L117 at h
    rcases ite_some_inv h with h | h
    · exact (Fr.tr Fr.rf (h_k159 _ _ h))
    · obtain ⟨q7, e_q7, h⟩ := bind_some_inv h
      have h_q7 : Fr W _ q7.2 := (Fr.tr Fr.rf (Fr.monoP (Fr.mono (w_f_paths_put e_q7) rfl) hW))
      obtain ⟨q8, e_q8, h⟩ := bind_some_inv h
      have h_q8 : Fr W _ q8.2 := (Fr.tr h_q7 (Fr.monoP (Fr.mono (w_f_paths_put e_q8) rfl) hW))
      obtain ⟨q9, e_q9, h⟩ := bind_some_inv h
      have h_q9 : Fr W _ q9.2 := (Fr.tr h_q8 (Fr.monoP (Fr.mono (w_f_paths_put e_q9) rfl) hW))
      exact (Fr.tr h_q9 (ih _ _ _ _ h_k159 h))
set_option maxRecDepth 100000 in
theorem w_f_paths_know_L161 {N : Nat} : ∀ (n : Nat) (v3 : Int32) (σ : Sg) (z : Unit × Sg), f_paths_know_L161 N n v3 σ = some z → Fr [(56, none), (57, none), (58, none), (59, none), (60, none), (61, none)] σ z.2 := by
  intro n
  induction n with
  | zero => intro v3 σ z  h; exact nomatch (show (none : Option (Unit × Sg)) = some z from h)
  | succ n ih =>
    intro v3 σ z  h
    unfold f_paths_know_L161 at h
    rcases ite_some_inv h with h | h
    · obtain ⟨q11, e_q11, h⟩ := bind_some_inv h
      have h_q11 : Fr [(56, none), (57, none), (58, none), (59, none), (60, none), (61, none)] _ q11.2 := (Fr.tr Fr.rf (Fr.mono (w_f_paths_explore _ _ _ _ _ _ _ _ e_q11) rfl))
      cases h
      exact h_q11
    · rcases ite_some_inv h with h | h
      · exact (Fr.tr (Fr.wM Fr.rf (List.elem_iff.mp rfl)) (ih _ _ _ h))
      · cases h
set_option maxRecDepth 100000 in
theorem w_f_paths_know {N : Nat} {σ : Sg} {z : Unit × Sg} (h : f_paths_know N σ = some z) : Fr [(55, some 7), (55, some 8), (55, some 9), (55, some 10), (55, some 11), (56, none), (57, none), (58, none), (59, none), (60, none), (61, none)] σ z.2 := by
  unfold f_paths_know at h
  rcases ite_some_inv h with h | h
  · obtain ⟨q1, e_q1, h⟩ := bind_some_inv h
    have h_q1 : Fr [(55, some 7), (55, some 8), (55, some 9), (55, some 10), (55, some 11), (56, none), (57, none), (58, none), (59, none), (60, none), (61, none)] _ q1.2 := (Fr.tr Fr.rf (Fr.mono (w_f_state_goneCells e_q1) rfl))
    rcases ite_some_inv h with h | h
    · rcases ite_some_inv h with h | h
      · cases h
        exact h_q1
      · obtain ⟨q12, e_q12, h⟩ := bind_some_inv h
        have h_q12 : Fr [(55, some 7), (55, some 8), (55, some 9), (55, some 10), (55, some 11), (56, none), (57, none), (58, none), (59, none), (60, none), (61, none)] _ q12.2 := (Fr.tr (Fr.wI h_q1 (List.elem_iff.mp rfl)) (Fr.mono (w_f_state_goneCells e_q12) rfl))
        obtain ⟨q13, e_q13, h⟩ := bind_some_inv h
        have h_q13 : Fr [(55, some 7), (55, some 8), (55, some 9), (55, some 10), (55, some 11), (56, none), (57, none), (58, none), (59, none), (60, none), (61, none)] _ q13.2 := (Fr.tr (Fr.wI (Fr.wL h_q12 (List.elem_iff.mp rfl)) (List.elem_iff.mp rfl)) (Fr.mono (w_f_country_lostFolk e_q13) rfl))
        exact (Fr.tr (Fr.wL (Fr.wI h_q13 (List.elem_iff.mp rfl)) (List.elem_iff.mp rfl)) (w_f_paths_know_L72 (W := [(55, some 7), (55, some 8), (55, some 9), (55, some 10), (55, some 11), (56, none), (57, none), (58, none), (59, none), (60, none), (61, none)]) (fun e he => List.mem_of_elem_eq_true (List.all_eq_true.mp (show ([(55, some 11)] : WL).all (fun e => List.elem e [(55, some 7), (55, some 8), (55, some 9), (55, some 10), (55, some 11), (56, none), (57, none), (58, none), (59, none), (60, none), (61, none)]) = true from rfl) e he))  _ _ _ _ _ (fun t14 z h => by
            exact (Fr.tr Fr.rf (w_f_paths_know_L117 (W := [(55, some 7), (55, some 8), (55, some 9), (55, some 10), (55, some 11), (56, none), (57, none), (58, none), (59, none), (60, none), (61, none)]) (fun e he => List.mem_of_elem_eq_true (List.all_eq_true.mp (show ([(56, none), (58, none), (60, none)] : WL).all (fun e => List.elem e [(55, some 7), (55, some 8), (55, some 9), (55, some 10), (55, some 11), (56, none), (57, none), (58, none), (59, none), (60, none), (61, none)]) = true from rfl) e he))  _ _ _ _ _ (fun t15 z h => by
                exact (Fr.tr Fr.rf (Fr.mono (w_f_paths_know_L161 _ _ _ _ h) rfl))
              ) h))
          ) h))
    · obtain ⟨q2, e_q2, h⟩ := bind_some_inv h
      have h_q2 : Fr [(55, some 7), (55, some 8), (55, some 9), (55, some 10), (55, some 11), (56, none), (57, none), (58, none), (59, none), (60, none), (61, none)] _ q2.2 := (Fr.tr (Fr.wI h_q1 (List.elem_iff.mp rfl)) (Fr.mono (w_f_state_goneCells e_q2) rfl))
      obtain ⟨q3, e_q3, h⟩ := bind_some_inv h
      have h_q3 : Fr [(55, some 7), (55, some 8), (55, some 9), (55, some 10), (55, some 11), (56, none), (57, none), (58, none), (59, none), (60, none), (61, none)] _ q3.2 := (Fr.tr (Fr.wI (Fr.wL h_q2 (List.elem_iff.mp rfl)) (List.elem_iff.mp rfl)) (Fr.mono (w_f_country_lostFolk e_q3) rfl))
      exact (Fr.tr (Fr.wL (Fr.wI h_q3 (List.elem_iff.mp rfl)) (List.elem_iff.mp rfl)) (w_f_paths_know_L72 (W := [(55, some 7), (55, some 8), (55, some 9), (55, some 10), (55, some 11), (56, none), (57, none), (58, none), (59, none), (60, none), (61, none)]) (fun e he => List.mem_of_elem_eq_true (List.all_eq_true.mp (show ([(55, some 11)] : WL).all (fun e => List.elem e [(55, some 7), (55, some 8), (55, some 9), (55, some 10), (55, some 11), (56, none), (57, none), (58, none), (59, none), (60, none), (61, none)]) = true from rfl) e he))  _ _ _ _ _ (fun t6 z h => by
          exact (Fr.tr Fr.rf (w_f_paths_know_L117 (W := [(55, some 7), (55, some 8), (55, some 9), (55, some 10), (55, some 11), (56, none), (57, none), (58, none), (59, none), (60, none), (61, none)]) (fun e he => List.mem_of_elem_eq_true (List.all_eq_true.mp (show ([(56, none), (58, none), (60, none)] : WL).all (fun e => List.elem e [(55, some 7), (55, some 8), (55, some 9), (55, some 10), (55, some 11), (56, none), (57, none), (58, none), (59, none), (60, none), (61, none)]) = true from rfl) e he))  _ _ _ _ _ (fun t10 z h => by
              exact (Fr.tr Fr.rf (Fr.mono (w_f_paths_know_L161 _ _ _ _ h) rfl))
            ) h))
        ) h))
  · rcases ite_some_inv h with h | h
    · obtain ⟨q16, e_q16, h⟩ := bind_some_inv h
      have h_q16 : Fr [(55, some 7), (55, some 8), (55, some 9), (55, some 10), (55, some 11), (56, none), (57, none), (58, none), (59, none), (60, none), (61, none)] _ q16.2 := (Fr.tr (Fr.wI Fr.rf (List.elem_iff.mp rfl)) (Fr.mono (w_f_state_goneCells e_q16) rfl))
      obtain ⟨q17, e_q17, h⟩ := bind_some_inv h
      have h_q17 : Fr [(55, some 7), (55, some 8), (55, some 9), (55, some 10), (55, some 11), (56, none), (57, none), (58, none), (59, none), (60, none), (61, none)] _ q17.2 := (Fr.tr (Fr.wI (Fr.wL h_q16 (List.elem_iff.mp rfl)) (List.elem_iff.mp rfl)) (Fr.mono (w_f_country_lostFolk e_q17) rfl))
      exact (Fr.tr (Fr.wL (Fr.wI h_q17 (List.elem_iff.mp rfl)) (List.elem_iff.mp rfl)) (w_f_paths_know_L72 (W := [(55, some 7), (55, some 8), (55, some 9), (55, some 10), (55, some 11), (56, none), (57, none), (58, none), (59, none), (60, none), (61, none)]) (fun e he => List.mem_of_elem_eq_true (List.all_eq_true.mp (show ([(55, some 11)] : WL).all (fun e => List.elem e [(55, some 7), (55, some 8), (55, some 9), (55, some 10), (55, some 11), (56, none), (57, none), (58, none), (59, none), (60, none), (61, none)]) = true from rfl) e he))  _ _ _ _ _ (fun t18 z h => by
          exact (Fr.tr Fr.rf (w_f_paths_know_L117 (W := [(55, some 7), (55, some 8), (55, some 9), (55, some 10), (55, some 11), (56, none), (57, none), (58, none), (59, none), (60, none), (61, none)]) (fun e he => List.mem_of_elem_eq_true (List.all_eq_true.mp (show ([(56, none), (58, none), (60, none)] : WL).all (fun e => List.elem e [(55, some 7), (55, some 8), (55, some 9), (55, some 10), (55, some 11), (56, none), (57, none), (58, none), (59, none), (60, none), (61, none)]) = true from rfl) e he))  _ _ _ _ _ (fun t19 z h => by
              exact (Fr.tr Fr.rf (Fr.mono (w_f_paths_know_L161 _ _ _ _ h) rfl))
            ) h))
        ) h))
    · cases h
set_option maxRecDepth 100000 in
theorem w_f_x_knownPaths {N : Nat} {σ : Sg} {z : Unit × Sg} (h : f_x_knownPaths N σ = some z) : Fr [(55, some 7), (55, some 8), (55, some 9), (55, some 10), (55, some 11), (56, none), (57, none), (58, none), (59, none), (60, none), (61, none)] σ z.2 := by
  unfold f_x_knownPaths at h
  obtain ⟨q1, e_q1, h⟩ := bind_some_inv h
  have h_q1 : Fr [(55, some 7), (55, some 8), (55, some 9), (55, some 10), (55, some 11), (56, none), (57, none), (58, none), (59, none), (60, none), (61, none)] _ q1.2 := (Fr.tr Fr.rf (Fr.mono (w_f_paths_know e_q1) rfl))
  cases h
  exact h_q1
set_option maxRecDepth 100000 in
theorem w_f_paths_comeStrides {N : Nat} {v1 : Int32} {σ : Sg} {z : Int32 × Sg} (h : f_paths_comeStrides N v1 σ = some z) : Fr [] σ z.2 := by
  unfold f_paths_comeStrides at h
  obtain ⟨q1, e_q1, h⟩ := bind_some_inv h
  have h_q1 : Fr [] _ q1.2 := (Fr.tr Fr.rf (Fr.mono (w_f_paths_get e_q1) rfl))
  cases h
  exact h_q1
set_option maxRecDepth 100000 in
theorem w_f_x_come {N : Nat} {v1 : Int32} {σ : Sg} {z : Int32 × Sg} (h : f_x_come N v1 σ = some z) : Fr [(0, some 10), (55, some 7), (55, some 8), (55, some 9), (55, some 10), (55, some 11), (56, none), (57, none), (58, none), (59, none), (60, none), (61, none)] σ z.2 := by
  unfold f_x_come at h
  obtain ⟨q1, e_q1, h⟩ := bind_some_inv h
  have h_q1 : Fr [(0, some 10), (55, some 7), (55, some 8), (55, some 9), (55, some 10), (55, some 11), (56, none), (57, none), (58, none), (59, none), (60, none), (61, none)] _ q1.2 := (Fr.tr Fr.rf (Fr.mono (w_f_x_cellTrouble e_q1) rfl))
  obtain ⟨q2, e_q2, h⟩ := bind_some_inv h
  have h_q2 : Fr [(0, some 10), (55, some 7), (55, some 8), (55, some 9), (55, some 10), (55, some 11), (56, none), (57, none), (58, none), (59, none), (60, none), (61, none)] _ q2.2 := (Fr.tr h_q1 (Fr.mono (w_f_x_granted e_q2) rfl))
  rcases ite_some_inv h with h | h
  · obtain ⟨q3, e_q3, h⟩ := bind_some_inv h
    have h_q3 : Fr [(0, some 10), (55, some 7), (55, some 8), (55, some 9), (55, some 10), (55, some 11), (56, none), (57, none), (58, none), (59, none), (60, none), (61, none)] _ q3.2 := (Fr.tr h_q2 (Fr.mono (w_f_x_knownPaths e_q3) rfl))
    obtain ⟨q4, e_q4, h⟩ := bind_some_inv h
    have h_q4 : Fr [(0, some 10), (55, some 7), (55, some 8), (55, some 9), (55, some 10), (55, some 11), (56, none), (57, none), (58, none), (59, none), (60, none), (61, none)] _ q4.2 := (Fr.tr h_q3 (Fr.mono (w_f_paths_comeStrides e_q4) rfl))
    cases h
    exact h_q4
  · cases h
    exact h_q2
set_option maxRecDepth 100000 in
theorem w_f_paths_comeRow {N : Nat} {v1 : Int32} {σ : Sg} {z : Int32 × Sg} (h : f_paths_comeRow N v1 σ = some z) : Fr [] σ z.2 := by
  unfold f_paths_comeRow at h
  obtain ⟨q1, e_q1, h⟩ := bind_some_inv h
  have h_q1 : Fr [] _ q1.2 := (Fr.tr Fr.rf (Fr.mono (w_f_paths_get e_q1) rfl))
  cases h
  exact h_q1
set_option maxRecDepth 100000 in
theorem w_f_x_digitOf_L7 {N : Nat} : ∀ (n : Nat) (v2 : Int32) (v3 : Int32) (v4 : Int32) (σ : Sg) (z : Int32 × Sg), f_x_digitOf_L7 N n v2 v3 v4 σ = some z → Fr [] σ z.2 := by
  intro n
  induction n with
  | zero => intro v2 v3 v4 σ z  h; exact nomatch (show (none : Option (Int32 × Sg)) = some z from h)
  | succ n ih =>
    intro v2 v3 v4 σ z  h
    unfold f_x_digitOf_L7 at h
    rcases ite_some_inv h with h | h
    · cases h
      exact Fr.rf
    · exact (Fr.tr Fr.rf (ih _ _ _ _ _ h))
set_option maxRecDepth 100000 in
theorem w_f_x_digitOf {N : Nat} {v0 : Int32} {v1 : Int32} {v2 : Int32} {σ : Sg} {z : Int32 × Sg} (h : f_x_digitOf N v0 v1 v2 σ = some z) : Fr [] σ z.2 := by
  unfold f_x_digitOf at h
  exact (Fr.tr Fr.rf (Fr.mono (w_f_x_digitOf_L7 _ _ _ _ _ _ h) rfl))
set_option maxRecDepth 100000 in
theorem w_f_x_comeAt {N : Nat} {v1 : Int32} {v2 : Int32} {σ : Sg} {z : Int32 × Sg} (h : f_x_comeAt N v1 v2 σ = some z) : Fr [(0, some 10), (55, some 7), (55, some 8), (55, some 9), (55, some 10), (55, some 11), (56, none), (57, none), (58, none), (59, none), (60, none), (61, none)] σ z.2 := by
  unfold f_x_comeAt at h
  obtain ⟨q1, e_q1, h⟩ := bind_some_inv h
  have h_q1 : Fr [(0, some 10), (55, some 7), (55, some 8), (55, some 9), (55, some 10), (55, some 11), (56, none), (57, none), (58, none), (59, none), (60, none), (61, none)] _ q1.2 := (Fr.tr Fr.rf (Fr.mono (w_f_x_cellTrouble e_q1) rfl))
  obtain ⟨q2, e_q2, h⟩ := bind_some_inv h
  have h_q2 : Fr [(0, some 10), (55, some 7), (55, some 8), (55, some 9), (55, some 10), (55, some 11), (56, none), (57, none), (58, none), (59, none), (60, none), (61, none)] _ q2.2 := (Fr.tr h_q1 (Fr.mono (w_f_x_granted e_q2) rfl))
  rcases ite_some_inv h with h | h
  · obtain ⟨q3, e_q3, h⟩ := bind_some_inv h
    have h_q3 : Fr [(0, some 10), (55, some 7), (55, some 8), (55, some 9), (55, some 10), (55, some 11), (56, none), (57, none), (58, none), (59, none), (60, none), (61, none)] _ q3.2 := (Fr.tr h_q2 (Fr.mono (w_f_x_knownPaths e_q3) rfl))
    obtain ⟨q4, e_q4, h⟩ := bind_some_inv h
    have h_q4 : Fr [(0, some 10), (55, some 7), (55, some 8), (55, some 9), (55, some 10), (55, some 11), (56, none), (57, none), (58, none), (59, none), (60, none), (61, none)] _ q4.2 := (Fr.tr h_q3 (Fr.mono (w_f_paths_comeStrides e_q4) rfl))
    rcases ite_some_inv h with h | h
    · obtain ⟨q5, e_q5, h⟩ := bind_some_inv h
      have h_q5 : Fr [(0, some 10), (55, some 7), (55, some 8), (55, some 9), (55, some 10), (55, some 11), (56, none), (57, none), (58, none), (59, none), (60, none), (61, none)] _ q5.2 := (Fr.tr h_q4 (Fr.mono (w_f_x_granted e_q5) rfl))
      rcases ite_some_inv h with h | h
      · obtain ⟨q6, e_q6, h⟩ := bind_some_inv h
        have h_q6 : Fr [(0, some 10), (55, some 7), (55, some 8), (55, some 9), (55, some 10), (55, some 11), (56, none), (57, none), (58, none), (59, none), (60, none), (61, none)] _ q6.2 := (Fr.tr h_q5 (Fr.mono (w_f_paths_comeRow e_q6) rfl))
        obtain ⟨q7, e_q7, h⟩ := bind_some_inv h
        have h_q7 : Fr [(0, some 10), (55, some 7), (55, some 8), (55, some 9), (55, some 10), (55, some 11), (56, none), (57, none), (58, none), (59, none), (60, none), (61, none)] _ q7.2 := (Fr.tr h_q6 (Fr.mono (w_f_x_digitOf e_q7) rfl))
        cases h
        exact h_q7
      · cases h
        exact h_q5
    · obtain ⟨q8, e_q8, h⟩ := bind_some_inv h
      have h_q8 : Fr [(0, some 10), (55, some 7), (55, some 8), (55, some 9), (55, some 10), (55, some 11), (56, none), (57, none), (58, none), (59, none), (60, none), (61, none)] _ q8.2 := (Fr.tr h_q4 (Fr.mono (w_f_x_granted e_q8) rfl))
      rcases ite_some_inv h with h | h
      · obtain ⟨q9, e_q9, h⟩ := bind_some_inv h
        have h_q9 : Fr [(0, some 10), (55, some 7), (55, some 8), (55, some 9), (55, some 10), (55, some 11), (56, none), (57, none), (58, none), (59, none), (60, none), (61, none)] _ q9.2 := (Fr.tr h_q8 (Fr.mono (w_f_paths_comeRow e_q9) rfl))
        obtain ⟨q10, e_q10, h⟩ := bind_some_inv h
        have h_q10 : Fr [(0, some 10), (55, some 7), (55, some 8), (55, some 9), (55, some 10), (55, some 11), (56, none), (57, none), (58, none), (59, none), (60, none), (61, none)] _ q10.2 := (Fr.tr h_q9 (Fr.mono (w_f_x_digitOf e_q10) rfl))
        cases h
        exact h_q10
      · cases h
        exact h_q8
  · cases h
    exact h_q2
set_option maxRecDepth 100000 in
theorem w_f_x_wayTrouble {N : Nat} {v0 : Int32} {σ : Sg} {z : Int32 × Sg} (h : f_x_wayTrouble N v0 σ = some z) : Fr [] σ z.2 := by
  unfold f_x_wayTrouble at h
  rcases ite_some_inv h with h | h
  · cases h
    exact Fr.rf
  · rcases ite_some_inv h with h | h
    · cases h
      exact Fr.rf
    · cases h
      exact Fr.rf
set_option maxRecDepth 100000 in
theorem w_f_x_strideTrouble {N : Nat} {v1 : Int32} {v2 : Int32} {σ : Sg} {z : Int32 × Sg} (h : f_x_strideTrouble N v1 v2 σ = some z) : Fr [] σ z.2 := by
  unfold f_x_strideTrouble at h
  obtain ⟨q1, e_q1, h⟩ := bind_some_inv h
  have h_q1 : Fr [] _ q1.2 := (Fr.tr Fr.rf (Fr.mono (w_f_x_bootsTrouble e_q1) rfl))
  rcases ite_some_inv h with h | h
  · obtain ⟨q2, e_q2, h⟩ := bind_some_inv h
    have h_q2 : Fr [] _ q2.2 := (Fr.tr h_q1 (Fr.mono (w_f_x_wayTrouble e_q2) rfl))
    cases h
    exact h_q2
  · cases h
    exact h_q1
set_option maxRecDepth 100000 in
theorem w_f_x_digitFor {N : Nat} {v0 : Int32} {v1 : Int32} {σ : Sg} {z : Int32 × Sg} (h : f_x_digitFor N v0 v1 σ = some z) : Fr [] σ z.2 := by
  unfold f_x_digitFor at h
  cases h
  exact Fr.rf
set_option maxRecDepth 100000 in
theorem w_f_x_targetNow {N : Nat} {v1 : Int32} {v2 : Int32} {σ : Sg} {z : Int32 × Sg} (h : f_x_targetNow N v1 v2 σ = some z) : Fr [] σ z.2 := by
  unfold f_x_targetNow at h
  obtain ⟨q1, e_q1, h⟩ := bind_some_inv h
  have h_q1 : Fr [] _ q1.2 := (Fr.tr Fr.rf (Fr.mono (w_f_state_goneCells e_q1) rfl))
  obtain ⟨q2, e_q2, h⟩ := bind_some_inv h
  have h_q2 : Fr [] _ q2.2 := (Fr.tr h_q1 (Fr.mono (w_f_x_digitFor e_q2) rfl))
  obtain ⟨q3, e_q3, h⟩ := bind_some_inv h
  have h_q3 : Fr [] _ q3.2 := (Fr.tr h_q2 (Fr.mono (w_f_country_target e_q3) rfl))
  cases h
  exact h_q3
set_option maxRecDepth 100000 in
theorem w_f_x_costs {N : Nat} {v1 : Int32} {v2 : Int32} {σ : Sg} {z : Int32 × Sg} (h : f_x_costs N v1 v2 σ = some z) : Fr [(0, some 10)] σ z.2 := by
  unfold f_x_costs at h
  obtain ⟨q1, e_q1, h⟩ := bind_some_inv h
  have h_q1 : Fr [(0, some 10)] _ q1.2 := (Fr.tr Fr.rf (Fr.mono (w_f_x_strideTrouble e_q1) rfl))
  obtain ⟨q2, e_q2, h⟩ := bind_some_inv h
  have h_q2 : Fr [(0, some 10)] _ q2.2 := (Fr.tr h_q1 (Fr.mono (w_f_x_granted e_q2) rfl))
  rcases ite_some_inv h with h | h
  · obtain ⟨q3, e_q3, h⟩ := bind_some_inv h
    have h_q3 : Fr [(0, some 10)] _ q3.2 := (Fr.tr h_q2 (Fr.mono (w_f_x_targetNow e_q3) rfl))
    rcases ite_some_inv h with h | h
    · cases h
      exact h_q3
    · obtain ⟨q4, e_q4, h⟩ := bind_some_inv h
      have h_q4 : Fr [(0, some 10)] _ q4.2 := (Fr.tr h_q3 (Fr.mono (w_f_x_inside e_q4) rfl))
      obtain ⟨q5, e_q5, h⟩ := bind_some_inv h
      have h_q5 : Fr [(0, some 10)] _ q5.2 := (Fr.tr h_q4 (Fr.mono (w_f_state_goneCells e_q5) rfl))
      obtain ⟨q6, e_q6, h⟩ := bind_some_inv h
      have h_q6 : Fr [(0, some 10)] _ q6.2 := (Fr.tr h_q5 (Fr.mono (w_f_country_lostFolk e_q6) rfl))
      cases h
      exact h_q6
  · cases h
    exact h_q2
set_option maxRecDepth 100000 in
theorem w_f_country_inSomeFit_L9 {N : Nat} : ∀ (n : Nat) (v1 : Int32) (v2 : Int32) (v3 : Int32) (σ : Sg) (z : Int32 × Sg), f_country_inSomeFit_L9 N n v1 v2 v3 σ = some z → Fr [] σ z.2 := by
  intro n
  induction n with
  | zero => intro v1 v2 v3 σ z  h; exact nomatch (show (none : Option (Int32 × Sg)) = some z from h)
  | succ n ih =>
    intro v1 v2 v3 σ z  h
    unfold f_country_inSomeFit_L9 at h
    rcases ite_some_inv h with h | h
    · cases h
      exact Fr.rf
    · obtain ⟨q2, e_q2, h⟩ := bind_some_inv h
      have h_q2 : Fr [] _ q2.2 := (Fr.tr Fr.rf (Fr.mono (w_f_x_bit e_q2) rfl))
      rcases ite_some_inv h with h | h
      · exact (Fr.tr h_q2 (ih _ _ _ _ _ h))
      · exact (Fr.tr h_q2 (ih _ _ _ _ _ h))
set_option maxRecDepth 100000 in
theorem w_f_country_inSomeFit {N : Nat} {σ : Sg} {z : Int32 × Sg} (h : f_country_inSomeFit N σ = some z) : Fr [] σ z.2 := by
  unfold f_country_inSomeFit at h
  obtain ⟨q1, e_q1, h⟩ := bind_some_inv h
  have h_q1 : Fr [] _ q1.2 := (Fr.tr Fr.rf (Fr.mono (w_f_country_fittingSets e_q1) rfl))
  exact (Fr.tr h_q1 (Fr.mono (w_f_country_inSomeFit_L9 _ _ _ _ _ _ h) rfl))
set_option maxRecDepth 100000 in
theorem w_f_x_could {N : Nat} {σ : Sg} {z : Int32 × Sg} (h : f_x_could N σ = some z) : Fr [(0, some 10)] σ z.2 := by
  unfold f_x_could at h
  obtain ⟨q1, e_q1, h⟩ := bind_some_inv h
  have h_q1 : Fr [(0, some 10)] _ q1.2 := (Fr.tr Fr.rf (Fr.mono (w_f_x_landTrouble e_q1) rfl))
  obtain ⟨q2, e_q2, h⟩ := bind_some_inv h
  have h_q2 : Fr [(0, some 10)] _ q2.2 := (Fr.tr h_q1 (Fr.mono (w_f_x_granted e_q2) rfl))
  rcases ite_some_inv h with h | h
  · obtain ⟨q3, e_q3, h⟩ := bind_some_inv h
    have h_q3 : Fr [(0, some 10)] _ q3.2 := (Fr.tr h_q2 (Fr.mono (w_f_country_inSomeFit e_q3) rfl))
    cases h
    exact h_q3
  · cases h
    exact h_q2
set_option maxRecDepth 100000 in
theorem w_f_x_curate {N : Nat} {σ : Sg} {z : Int32 × Sg} (h : f_x_curate N σ = some z) : Fr [(0, some 10)] σ z.2 := by
  unfold f_x_curate at h
  obtain ⟨q1, e_q1, h⟩ := bind_some_inv h
  have h_q1 : Fr [(0, some 10)] _ q1.2 := (Fr.tr Fr.rf (Fr.mono (w_f_x_landTrouble e_q1) rfl))
  obtain ⟨q2, e_q2, h⟩ := bind_some_inv h
  have h_q2 : Fr [(0, some 10)] _ q2.2 := (Fr.tr h_q1 (Fr.mono (w_f_x_granted e_q2) rfl))
  rcases ite_some_inv h with h | h
  · cases h
    exact h_q2
  · cases h
    exact h_q2
set_option maxRecDepth 100000 in
theorem w_f_state_depthOf {N : Nat} {v1 : Int64} {σ : Sg} {z : Int32 × Sg} (h : f_state_depthOf N v1 σ = some z) : Fr [] σ z.2 := by
  unfold f_state_depthOf at h
  obtain ⟨q1, e_q1, h⟩ := bind_some_inv h
  have h_q1 : Fr [] _ q1.2 := (Fr.tr Fr.rf (Fr.mono (w_f_jl_bitCount e_q1) rfl))
  obtain ⟨q2, e_q2, h⟩ := bind_some_inv h
  have h_q2 : Fr [] _ q2.2 := (Fr.tr h_q1 (Fr.mono (w_f_jl_bitCount e_q2) rfl))
  cases h
  exact h_q2
set_option maxRecDepth 100000 in
theorem w_f_x_deep {N : Nat} {v1 : Int32} {v2 : Int32} {σ : Sg} {z : Int32 × Sg} (h : f_x_deep N v1 v2 σ = some z) : Fr [(0, some 10)] σ z.2 := by
  unfold f_x_deep at h
  obtain ⟨q1, e_q1, h⟩ := bind_some_inv h
  have h_q1 : Fr [(0, some 10)] _ q1.2 := (Fr.tr Fr.rf (Fr.mono (w_f_x_pairTrouble e_q1) rfl))
  obtain ⟨q2, e_q2, h⟩ := bind_some_inv h
  have h_q2 : Fr [(0, some 10)] _ q2.2 := (Fr.tr h_q1 (Fr.mono (w_f_x_granted e_q2) rfl))
  rcases ite_some_inv h with h | h
  · obtain ⟨q3, e_q3, h⟩ := bind_some_inv h
    have h_q3 : Fr [(0, some 10)] _ q3.2 := (Fr.tr h_q2 (Fr.mono (w_f_x_span e_q3) rfl))
    obtain ⟨q4, e_q4, h⟩ := bind_some_inv h
    have h_q4 : Fr [(0, some 10)] _ q4.2 := (Fr.tr h_q3 (Fr.mono (w_f_state_depthOf e_q4) rfl))
    cases h
    exact h_q4
  · cases h
    exact h_q2
set_option maxRecDepth 100000 in
theorem w_f_country_isRow_L20 {N : Nat} : ∀ (n : Nat) (v2 : Int32) (v3 : Int32) (v4 : Int32) (σ : Sg) (z : Bool × Sg), f_country_isRow_L20 N n v2 v3 v4 σ = some z → Fr [] σ z.2 := by
  intro n
  induction n with
  | zero => intro v2 v3 v4 σ z  h; exact nomatch (show (none : Option (Bool × Sg)) = some z from h)
  | succ n ih =>
    intro v2 v3 v4 σ z  h
    unfold f_country_isRow_L20 at h
    rcases ite_some_inv h with h | h
    · rcases ite_some_inv h with h | h
      · cases h
        exact Fr.rf
      · cases h
        exact Fr.rf
    · rcases ite_some_inv h with h | h
      · cases h
        exact Fr.rf
      · rcases ite_some_inv h with h | h
        · exact (Fr.tr Fr.rf (ih _ _ _ _ _ h))
        · cases h
          exact Fr.rf
set_option maxRecDepth 100000 in
theorem w_f_country_isRow {N : Nat} {v1 : Int32} {v2 : Int32} {σ : Sg} {z : Bool × Sg} (h : f_country_isRow N v1 v2 σ = some z) : Fr [] σ z.2 := by
  unfold f_country_isRow at h
  rcases ite_some_inv h with h | h
  · cases h
    exact Fr.rf
  · rcases ite_some_inv h with h | h
    · cases h
      exact Fr.rf
    · rcases ite_some_inv h with h | h
      · exact (Fr.tr Fr.rf (Fr.mono (w_f_country_isRow_L20 _ _ _ _ _ _ h) rfl))
      · cases h
        exact Fr.rf
set_option maxRecDepth 100000 in
theorem w_f_x_rowTrouble {N : Nat} {v1 : Int32} {v2 : Int32} {σ : Sg} {z : Int32 × Sg} (h : f_x_rowTrouble N v1 v2 σ = some z) : Fr [] σ z.2 := by
  unfold f_x_rowTrouble at h
  obtain ⟨q1, e_q1, h⟩ := bind_some_inv h
  have h_q1 : Fr [] _ q1.2 := (Fr.tr Fr.rf (Fr.mono (w_f_x_landTrouble e_q1) rfl))
  rcases ite_some_inv h with h | h
  · obtain ⟨q2, e_q2, h⟩ := bind_some_inv h
    have h_q2 : Fr [] _ q2.2 := (Fr.tr h_q1 (Fr.mono (w_f_country_isRow e_q2) rfl))
    rcases ite_some_inv h with h | h
    · cases h
      exact h_q2
    · cases h
      exact h_q2
  · cases h
    exact h_q1
set_option maxRecDepth 100000 in
theorem w_f_x_numberTrouble {N : Nat} {v1 : Int32} {v2 : Int32} {σ : Sg} {z : Int32 × Sg} (h : f_x_numberTrouble N v1 v2 σ = some z) : Fr [] σ z.2 := by
  unfold f_x_numberTrouble at h
  obtain ⟨q1, e_q1, h⟩ := bind_some_inv h
  have h_q1 : Fr [] _ q1.2 := (Fr.tr Fr.rf (Fr.mono (w_f_x_landTrouble e_q1) rfl))
  rcases ite_some_inv h with h | h
  · rcases ite_some_inv h with h | h
    · cases h
      exact h_q1
    · rcases ite_some_inv h with h | h
      · cases h
        exact h_q1
      · cases h
        exact h_q1
  · cases h
    exact h_q1
set_option maxRecDepth 100000 in
theorem w_f_country_lowDepth {N : Nat} {v1 : Int64} {σ : Sg} {z : Int64 × Sg} (h : f_country_lowDepth N v1 σ = some z) : Fr [] σ z.2 := by
  unfold f_country_lowDepth at h
  cases h
  exact Fr.rf
set_option maxRecDepth 100000 in
theorem w_f_country_highDepth {N : Nat} {v1 : Int64} {σ : Sg} {z : Int64 × Sg} (h : f_country_highDepth N v1 σ = some z) : Fr [] σ z.2 := by
  unfold f_country_highDepth at h
  cases h
  exact Fr.rf
set_option maxRecDepth 100000 in
theorem w_f_state_makeStride {N : Nat} {a0 : Nat} {a1 : Nat} {a2 : Nat} {a3 : Nat} {a4 : Nat} {v2 : Int32} {σ : Sg} {z : Bool × Sg} (h : f_state_makeStride N a0 a1 a2 a3 a4 v2 σ = some z) : Fr [(a0, some 0), (a0, some 1), (a0, some 2)] σ z.2 := by
  unfold f_state_makeStride at h
  obtain ⟨q1, e_q1, h⟩ := bind_some_inv h
  have h_q1 : Fr [(a0, some 0), (a0, some 1), (a0, some 2)] _ q1.2 := (Fr.tr Fr.rf (Fr.mono (w_f_state_goneCells e_q1) rfl))
  obtain ⟨q2, e_q2, h⟩ := bind_some_inv h
  have h_q2 : Fr [(a0, some 0), (a0, some 1), (a0, some 2)] _ q2.2 := (Fr.tr h_q1 (Fr.mono (w_f_country_target e_q2) rfl))
  rcases ite_some_inv h with h | h
  · cases h
    exact h_q2
  · obtain ⟨q3, e_q3, h⟩ := bind_some_inv h
    have h_q3 : Fr [(a0, some 0), (a0, some 1), (a0, some 2)] _ q3.2 := (Fr.tr h_q2 (Fr.mono (w_f_x_inside e_q3) rfl))
    obtain ⟨q4, e_q4, h⟩ := bind_some_inv h
    have h_q4 : Fr [(a0, some 0), (a0, some 1), (a0, some 2)] _ q4.2 := (Fr.tr h_q3 (Fr.mono (w_f_state_goneCells e_q4) rfl))
    obtain ⟨q5, e_q5, h⟩ := bind_some_inv h
    have h_q5 : Fr [(a0, some 0), (a0, some 1), (a0, some 2)] _ q5.2 := (Fr.tr h_q4 (Fr.mono (w_f_country_lowDepth e_q5) rfl))
    obtain ⟨q6, e_q6, h⟩ := bind_some_inv h
    have h_q6 : Fr [(a0, some 0), (a0, some 1), (a0, some 2)] _ q6.2 := (Fr.tr (Fr.wL h_q5 (by simp)) (Fr.mono (w_f_country_highDepth e_q6) rfl))
    cases h
    exact (Fr.wI (Fr.wL h_q6 (by simp)) (by simp))
set_option maxRecDepth 100000 in
theorem w_f_x_drawn_L52 {N : Nat} : ∀ (n : Nat) (v1 : Int32) (v2 : Int32) (v5 : Int32) (v6 : Int32) (σ : Sg) (z : Int32 × Sg), f_x_drawn_L52 N n v1 v2 v5 v6 σ = some z → Fr [(41, some 0), (41, some 1), (41, some 2)] σ z.2 := by
  intro n
  induction n with
  | zero => intro v1 v2 v5 v6 σ z  h; exact nomatch (show (none : Option (Int32 × Sg)) = some z from h)
  | succ n ih =>
    intro v1 v2 v5 v6 σ z  h
    unfold f_x_drawn_L52 at h
    rcases ite_some_inv h with h | h
    · cases h
      exact Fr.rf
    · rcases ite_some_inv h with h | h
      · exact (Fr.tr Fr.rf (ih _ _ _ _ _ _ h))
      · obtain ⟨q5, e_q5, h⟩ := bind_some_inv h
        have h_q5 : Fr [(41, some 0), (41, some 1), (41, some 2)] _ q5.2 := (Fr.tr Fr.rf (Fr.mono (w_f_x_digitOf e_q5) rfl))
        obtain ⟨q6, e_q6, h⟩ := bind_some_inv h
        have h_q6 : Fr [(41, some 0), (41, some 1), (41, some 2)] _ q6.2 := (Fr.tr h_q5 (Fr.mono (w_f_state_makeStride e_q6) rfl))
        exact (Fr.tr h_q6 (ih _ _ _ _ _ _ h))
set_option maxRecDepth 100000 in
theorem w_f_x_drawn {N : Nat} {v1 : Int32} {v2 : Int32} {v3 : Int32} {σ : Sg} {z : Int32 × Sg} (h : f_x_drawn N v1 v2 v3 σ = some z) : Fr [(0, some 10), (41, some 0), (41, some 1), (41, some 2), (41, some 3), (41, some 4)] σ z.2 := by
  unfold f_x_drawn at h
  obtain ⟨q1, e_q1, h⟩ := bind_some_inv h
  have h_q1 : Fr [(0, some 10), (41, some 0), (41, some 1), (41, some 2), (41, some 3), (41, some 4)] _ q1.2 := (Fr.tr Fr.rf (Fr.mono (w_f_x_rowTrouble e_q1) rfl))
  rcases ite_some_inv h with h | h
  · obtain ⟨q2, e_q2, h⟩ := bind_some_inv h
    have h_q2 : Fr [(0, some 10), (41, some 0), (41, some 1), (41, some 2), (41, some 3), (41, some 4)] _ q2.2 := (Fr.tr h_q1 (Fr.mono (w_f_x_numberTrouble e_q2) rfl))
    obtain ⟨q3, e_q3, h⟩ := bind_some_inv h
    have h_q3 : Fr [(0, some 10), (41, some 0), (41, some 1), (41, some 2), (41, some 3), (41, some 4)] _ q3.2 := (Fr.tr h_q2 (Fr.mono (w_f_x_granted e_q3) rfl))
    rcases ite_some_inv h with h | h
    · obtain ⟨q4, e_q4, h⟩ := bind_some_inv h
      have h_q4 : Fr [(0, some 10), (41, some 0), (41, some 1), (41, some 2), (41, some 3), (41, some 4)] _ q4.2 := (Fr.tr h_q3 (Fr.mono (w_f_state_copy e_q4) rfl))
      exact (Fr.tr h_q4 (Fr.mono (w_f_x_drawn_L52 _ _ _ _ _ _ _ h) rfl))
    · cases h
      exact h_q3
  · obtain ⟨q7, e_q7, h⟩ := bind_some_inv h
    have h_q7 : Fr [(0, some 10), (41, some 0), (41, some 1), (41, some 2), (41, some 3), (41, some 4)] _ q7.2 := (Fr.tr h_q1 (Fr.mono (w_f_x_granted e_q7) rfl))
    rcases ite_some_inv h with h | h
    · obtain ⟨q8, e_q8, h⟩ := bind_some_inv h
      have h_q8 : Fr [(0, some 10), (41, some 0), (41, some 1), (41, some 2), (41, some 3), (41, some 4)] _ q8.2 := (Fr.tr h_q7 (Fr.mono (w_f_state_copy e_q8) rfl))
      exact (Fr.tr h_q8 (Fr.mono (w_f_x_drawn_L52 _ _ _ _ _ _ _ h) rfl))
    · cases h
      exact h_q7
set_option maxRecDepth 100000 in
theorem w_f_x_fault {N : Nat} {σ : Sg} {z : Int32 × Sg} (h : f_x_fault N σ = some z) : Fr [] σ z.2 := by
  unfold f_x_fault at h
  cases h
  exact Fr.rf
set_option maxRecDepth 100000 in
theorem w_f_reader_append_L3 {N : Nat} : ∀ (n : Nat) (v1 : Int32) (v2 : Int32) (σ : Sg) (z : Unit × Sg), f_reader_append_L3 N n v1 v2 σ = some z → Fr [(1, some 1), (2, none)] σ z.2 := by
  intro n
  induction n with
  | zero => intro v1 v2 σ z  h; exact nomatch (show (none : Option (Unit × Sg)) = some z from h)
  | succ n ih =>
    intro v1 v2 σ z  h
    unfold f_reader_append_L3 at h
    rcases ite_some_inv h with h | h
    · cases h
      exact Fr.rf
    · rcases ite_some_inv h with h | h
      · exact (Fr.tr Fr.rf (ih _ _ _ _ h))
      · rcases ite_some_inv h with h | h
        · exact (Fr.tr Fr.rf (ih _ _ _ _ h))
        · rcases ite_some_inv h with h | h
          · exact (Fr.tr (Fr.wI (Fr.wA Fr.rf (List.elem_iff.mp rfl)) (List.elem_iff.mp rfl)) (ih _ _ _ _ h))
          · cases h
set_option maxRecDepth 100000 in
theorem w_f_reader_append {N : Nat} {v1 : Int32} {σ : Sg} {z : Unit × Sg} (h : f_reader_append N v1 σ = some z) : Fr [(1, some 1), (2, none)] σ z.2 := by
  unfold f_reader_append at h
  exact (Fr.tr Fr.rf (Fr.mono (w_f_reader_append_L3 _ _ _ _ _ h) rfl))
set_option maxRecDepth 100000 in
theorem w_f_x_feed {N : Nat} {v1 : Int32} {v2 : Int32} {v3 : Int32} {v4 : Int32} {v5 : Int32} {σ : Sg} {z : Int32 × Sg} (h : f_x_feed N v1 v2 v3 v4 v5 σ = some z) : Fr [(1, some 1), (2, none)] σ z.2 := by
  unfold f_x_feed at h
  rcases ite_some_inv h with h | h
  · obtain ⟨q1, e_q1, h⟩ := bind_some_inv h
    have h_q1 : Fr [(1, some 1), (2, none)] _ q1.2 := (Fr.tr Fr.rf (Fr.mono (w_f_reader_append e_q1) rfl))
    obtain ⟨q2, e_q2, h⟩ := bind_some_inv h
    have h_q2 : Fr [(1, some 1), (2, none)] _ q2.2 := (Fr.tr h_q1 (Fr.mono (w_f_reader_append e_q2) rfl))
    obtain ⟨q3, e_q3, h⟩ := bind_some_inv h
    have h_q3 : Fr [(1, some 1), (2, none)] _ q3.2 := (Fr.tr h_q2 (Fr.mono (w_f_reader_append e_q3) rfl))
    obtain ⟨q4, e_q4, h⟩ := bind_some_inv h
    have h_q4 : Fr [(1, some 1), (2, none)] _ q4.2 := (Fr.tr h_q3 (Fr.mono (w_f_reader_append e_q4) rfl))
    obtain ⟨q5, e_q5, h⟩ := bind_some_inv h
    have h_q5 : Fr [(1, some 1), (2, none)] _ q5.2 := (Fr.tr h_q4 (Fr.mono (w_f_reader_append e_q5) rfl))
    cases h
    exact h_q5
  · cases h
    exact Fr.rf
set_option maxRecDepth 100000 in
theorem w_f_shelf_keep {N : Nat} {a0 : Nat} {a1 : Nat} {a2 : Nat} {a3 : Nat} {a4 : Nat} {a5 : Nat} {a6 : Nat} {a7 : Nat} {a8 : Nat} {a9 : Nat} {a10 : Nat} {v1 : Int32} {σ : Sg} {z : Unit × Sg} (h : f_shelf_keep N a0 a1 a2 a3 a4 a5 a6 a7 a8 a9 a10 v1 σ = some z) : Fr [(a5, none), (a7, none), (a8, none), (a9, none), (a10, none)] σ z.2 := by
  unfold f_shelf_keep at h
  obtain ⟨q1, e_q1, h⟩ := bind_some_inv h
  have h_q1 : Fr [(a5, none), (a7, none), (a8, none), (a9, none), (a10, none)] _ q1.2 := (Fr.tr Fr.rf (Fr.mono (w_f_shelf_has e_q1) rfl))
  rcases ite_some_inv h with h | h
  · rcases ite_some_inv h with h | h
    · rcases ite_some_inv h with h | h
      · rcases ite_some_inv h with h | h
        · rcases ite_some_inv h with h | h
          · rcases ite_some_inv h with h | h
            · cases h
              exact (Fr.wA (Fr.wA (Fr.wA (Fr.wM (Fr.wM h_q1 (by simp)) (by simp)) (by simp)) (by simp)) (by simp))
            · cases h
          · cases h
        · cases h
      · cases h
    · cases h
  · cases h
    exact h_q1
set_option maxRecDepth 100000 in
theorem w_f_history_keep {N : Nat} {σ : Sg} {z : Unit × Sg} (h : f_history_keep N σ = some z) : Fr [(42, some 1), (42, some 2), (44, none), (45, none), (46, none), (47, none), (48, none)] σ z.2 := by
  unfold f_history_keep at h
  obtain ⟨q1, e_q1, h⟩ := bind_some_inv h
  have h_q1 : Fr [(42, some 1), (42, some 2), (44, none), (45, none), (46, none), (47, none), (48, none)] _ q1.2 := (Fr.tr Fr.rf (Fr.mono (w_f_shelf_keep e_q1) rfl))
  cases h
  exact (Fr.wI (Fr.wI h_q1 (List.elem_iff.mp rfl)) (List.elem_iff.mp rfl))
set_option maxRecDepth 100000 in
theorem w_f_state_fillUp {N : Nat} {v1 : Int32} {σ : Sg} {z : Unit × Sg} (h : f_state_fillUp N v1 σ = some z) : Fr [(40, some 0), (40, some 1)] σ z.2 := by
  unfold f_state_fillUp at h
  obtain ⟨q1, e_q1, h⟩ := bind_some_inv h
  have h_q1 : Fr [(40, some 0), (40, some 1)] _ q1.2 := (Fr.tr Fr.rf (Fr.mono (w_f_x_span e_q1) rfl))
  obtain ⟨q2, e_q2, h⟩ := bind_some_inv h
  have h_q2 : Fr [(40, some 0), (40, some 1)] _ q2.2 := (Fr.tr (Fr.wL h_q1 (List.elem_iff.mp rfl)) (Fr.mono (w_f_x_span e_q2) rfl))
  cases h
  exact (Fr.wL h_q2 (List.elem_iff.mp rfl))
set_option maxRecDepth 100000 in
theorem w_f_x_fill {N : Nat} {v1 : Int32} {σ : Sg} {z : Int32 × Sg} (h : f_x_fill N v1 σ = some z) : Fr [(0, some 10), (40, some 0), (40, some 1), (42, some 1), (42, some 2), (44, none), (45, none), (46, none), (47, none), (48, none)] σ z.2 := by
  unfold f_x_fill at h
  obtain ⟨q1, e_q1, h⟩ := bind_some_inv h
  have h_q1 : Fr [(0, some 10), (40, some 0), (40, some 1), (42, some 1), (42, some 2), (44, none), (45, none), (46, none), (47, none), (48, none)] _ q1.2 := (Fr.tr Fr.rf (Fr.mono (w_f_x_cellTrouble e_q1) rfl))
  obtain ⟨q2, e_q2, h⟩ := bind_some_inv h
  have h_q2 : Fr [(0, some 10), (40, some 0), (40, some 1), (42, some 1), (42, some 2), (44, none), (45, none), (46, none), (47, none), (48, none)] _ q2.2 := (Fr.tr h_q1 (Fr.mono (w_f_x_granted e_q2) rfl))
  rcases ite_some_inv h with h | h
  · obtain ⟨q3, e_q3, h⟩ := bind_some_inv h
    have h_q3 : Fr [(0, some 10), (40, some 0), (40, some 1), (42, some 1), (42, some 2), (44, none), (45, none), (46, none), (47, none), (48, none)] _ q3.2 := (Fr.tr h_q2 (Fr.mono (w_f_state_depthAt e_q3) rfl))
    rcases ite_some_inv h with h | h
    · obtain ⟨q7, e_q7, h⟩ := bind_some_inv h
      have h_q7 : Fr [(0, some 10), (40, some 0), (40, some 1), (42, some 1), (42, some 2), (44, none), (45, none), (46, none), (47, none), (48, none)] _ q7.2 := (Fr.tr h_q3 (Fr.mono (w_f_x_granted e_q7) rfl))
      rcases ite_some_inv h with h | h
      · obtain ⟨q8, e_q8, h⟩ := bind_some_inv h
        have h_q8 : Fr [(0, some 10), (40, some 0), (40, some 1), (42, some 1), (42, some 2), (44, none), (45, none), (46, none), (47, none), (48, none)] _ q8.2 := (Fr.tr h_q7 (Fr.mono (w_f_history_keep e_q8) rfl))
        obtain ⟨q9, e_q9, h⟩ := bind_some_inv h
        have h_q9 : Fr [(0, some 10), (40, some 0), (40, some 1), (42, some 1), (42, some 2), (44, none), (45, none), (46, none), (47, none), (48, none)] _ q9.2 := (Fr.tr h_q8 (Fr.mono (w_f_state_fillUp e_q9) rfl))
        cases h
        exact h_q9
      · cases h
        exact h_q7
    · obtain ⟨q4, e_q4, h⟩ := bind_some_inv h
      have h_q4 : Fr [(0, some 10), (40, some 0), (40, some 1), (42, some 1), (42, some 2), (44, none), (45, none), (46, none), (47, none), (48, none)] _ q4.2 := (Fr.tr h_q3 (Fr.mono (w_f_x_granted e_q4) rfl))
      rcases ite_some_inv h with h | h
      · obtain ⟨q5, e_q5, h⟩ := bind_some_inv h
        have h_q5 : Fr [(0, some 10), (40, some 0), (40, some 1), (42, some 1), (42, some 2), (44, none), (45, none), (46, none), (47, none), (48, none)] _ q5.2 := (Fr.tr h_q4 (Fr.mono (w_f_history_keep e_q5) rfl))
        obtain ⟨q6, e_q6, h⟩ := bind_some_inv h
        have h_q6 : Fr [(0, some 10), (40, some 0), (40, some 1), (42, some 1), (42, some 2), (44, none), (45, none), (46, none), (47, none), (48, none)] _ q6.2 := (Fr.tr h_q5 (Fr.mono (w_f_state_fillUp e_q6) rfl))
        cases h
        exact h_q6
      · cases h
        exact h_q4
  · cases h
    exact h_q2
set_option maxRecDepth 100000 in
theorem w_f_x_nthBit_L4 {N : Nat} : ∀ (n : Nat) (v0 : Int32) (v2 : Int32) (v3 : Int32) (σ : Sg) (z : Int32 × Sg), f_x_nthBit_L4 N n v0 v2 v3 σ = some z → Fr [] σ z.2 := by
  intro n
  induction n with
  | zero => intro v0 v2 v3 σ z  h; exact nomatch (show (none : Option (Int32 × Sg)) = some z from h)
  | succ n ih =>
    intro v0 v2 v3 σ z  h
    unfold f_x_nthBit_L4 at h
    rcases ite_some_inv h with h | h
    · cases h
      exact Fr.rf
    · obtain ⟨q1, e_q1, h⟩ := bind_some_inv h
      have h_q1 : Fr [] _ q1.2 := (Fr.tr Fr.rf (Fr.mono (w_f_x_bit e_q1) rfl))
      rcases ite_some_inv h with h | h
      · rcases ite_some_inv h with h | h
        · cases h
          exact h_q1
        · exact (Fr.tr h_q1 (ih _ _ _ _ _ h))
      · exact (Fr.tr h_q1 (ih _ _ _ _ _ h))
set_option maxRecDepth 100000 in
theorem w_f_x_nthBit {N : Nat} {v0 : Int32} {v1 : Int32} {σ : Sg} {z : Int32 × Sg} (h : f_x_nthBit N v0 v1 σ = some z) : Fr [] σ z.2 := by
  unfold f_x_nthBit at h
  exact (Fr.tr Fr.rf (Fr.mono (w_f_x_nthBit_L4 _ _ _ _ _ _ h) rfl))
set_option maxRecDepth 100000 in
theorem w_f_x_fitAt {N : Nat} {v1 : Int32} {σ : Sg} {z : Int32 × Sg} (h : f_x_fitAt N v1 σ = some z) : Fr [(0, some 10)] σ z.2 := by
  unfold f_x_fitAt at h
  obtain ⟨q1, e_q1, h⟩ := bind_some_inv h
  have h_q1 : Fr [(0, some 10)] _ q1.2 := (Fr.tr Fr.rf (Fr.mono (w_f_country_fittingSets e_q1) rfl))
  rcases ite_some_inv h with h | h
  · obtain ⟨q2, e_q2, h⟩ := bind_some_inv h
    have h_q2 : Fr [(0, some 10)] _ q2.2 := (Fr.tr h_q1 (Fr.mono (w_f_x_landTrouble e_q2) rfl))
    rcases ite_some_inv h with h | h
    · obtain ⟨q5, e_q5, h⟩ := bind_some_inv h
      have h_q5 : Fr [(0, some 10)] _ q5.2 := (Fr.tr h_q2 (Fr.mono (w_f_x_granted e_q5) rfl))
      rcases ite_some_inv h with h | h
      · obtain ⟨q6, e_q6, h⟩ := bind_some_inv h
        have h_q6 : Fr [(0, some 10)] _ q6.2 := (Fr.tr h_q5 (Fr.mono (w_f_x_nthBit e_q6) rfl))
        cases h
        exact h_q6
      · cases h
        exact h_q5
    · obtain ⟨q3, e_q3, h⟩ := bind_some_inv h
      have h_q3 : Fr [(0, some 10)] _ q3.2 := (Fr.tr h_q2 (Fr.mono (w_f_x_granted e_q3) rfl))
      rcases ite_some_inv h with h | h
      · obtain ⟨q4, e_q4, h⟩ := bind_some_inv h
        have h_q4 : Fr [(0, some 10)] _ q4.2 := (Fr.tr h_q3 (Fr.mono (w_f_x_nthBit e_q4) rfl))
        cases h
        exact h_q4
      · cases h
        exact h_q3
  · obtain ⟨q7, e_q7, h⟩ := bind_some_inv h
    have h_q7 : Fr [(0, some 10)] _ q7.2 := (Fr.tr h_q1 (Fr.mono (w_f_ji_bitCount e_q7) rfl))
    rcases ite_some_inv h with h | h
    · obtain ⟨q8, e_q8, h⟩ := bind_some_inv h
      have h_q8 : Fr [(0, some 10)] _ q8.2 := (Fr.tr h_q7 (Fr.mono (w_f_x_landTrouble e_q8) rfl))
      rcases ite_some_inv h with h | h
      · obtain ⟨q11, e_q11, h⟩ := bind_some_inv h
        have h_q11 : Fr [(0, some 10)] _ q11.2 := (Fr.tr h_q8 (Fr.mono (w_f_x_granted e_q11) rfl))
        rcases ite_some_inv h with h | h
        · obtain ⟨q12, e_q12, h⟩ := bind_some_inv h
          have h_q12 : Fr [(0, some 10)] _ q12.2 := (Fr.tr h_q11 (Fr.mono (w_f_x_nthBit e_q12) rfl))
          cases h
          exact h_q12
        · cases h
          exact h_q11
      · obtain ⟨q9, e_q9, h⟩ := bind_some_inv h
        have h_q9 : Fr [(0, some 10)] _ q9.2 := (Fr.tr h_q8 (Fr.mono (w_f_x_granted e_q9) rfl))
        rcases ite_some_inv h with h | h
        · obtain ⟨q10, e_q10, h⟩ := bind_some_inv h
          have h_q10 : Fr [(0, some 10)] _ q10.2 := (Fr.tr h_q9 (Fr.mono (w_f_x_nthBit e_q10) rfl))
          cases h
          exact h_q10
        · cases h
          exact h_q9
    · obtain ⟨q13, e_q13, h⟩ := bind_some_inv h
      have h_q13 : Fr [(0, some 10)] _ q13.2 := (Fr.tr h_q7 (Fr.mono (w_f_x_landTrouble e_q13) rfl))
      rcases ite_some_inv h with h | h
      · obtain ⟨q16, e_q16, h⟩ := bind_some_inv h
        have h_q16 : Fr [(0, some 10)] _ q16.2 := (Fr.tr h_q13 (Fr.mono (w_f_x_granted e_q16) rfl))
        rcases ite_some_inv h with h | h
        · obtain ⟨q17, e_q17, h⟩ := bind_some_inv h
          have h_q17 : Fr [(0, some 10)] _ q17.2 := (Fr.tr h_q16 (Fr.mono (w_f_x_nthBit e_q17) rfl))
          cases h
          exact h_q17
        · cases h
          exact h_q16
      · obtain ⟨q14, e_q14, h⟩ := bind_some_inv h
        have h_q14 : Fr [(0, some 10)] _ q14.2 := (Fr.tr h_q13 (Fr.mono (w_f_x_granted e_q14) rfl))
        rcases ite_some_inv h with h | h
        · obtain ⟨q15, e_q15, h⟩ := bind_some_inv h
          have h_q15 : Fr [(0, some 10)] _ q15.2 := (Fr.tr h_q14 (Fr.mono (w_f_x_nthBit e_q15) rfl))
          cases h
          exact h_q15
        · cases h
          exact h_q14
