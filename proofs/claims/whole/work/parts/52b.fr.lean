set_option maxRecDepth 100000 in
theorem w_f_x_fits {N : Nat} {σ : Sg} {z : Int32 × Sg} (h : f_x_fits N σ = some z) : Fr [(0, some 10)] σ z.2 := by
  unfold f_x_fits at h
  obtain ⟨q1, e_q1, h⟩ := bind_some_inv h
  have h_q1 : Fr [(0, some 10)] _ q1.2 := (Fr.tr Fr.rf (Fr.mono (w_f_x_landTrouble e_q1) rfl))
  obtain ⟨q2, e_q2, h⟩ := bind_some_inv h
  have h_q2 : Fr [(0, some 10)] _ q2.2 := (Fr.tr h_q1 (Fr.mono (w_f_x_granted e_q2) rfl))
  rcases ite_some_inv h with h | h
  · obtain ⟨q3, e_q3, h⟩ := bind_some_inv h
    have h_q3 : Fr [(0, some 10)] _ q3.2 := (Fr.tr h_q2 (Fr.mono (w_f_country_fittingSets e_q3) rfl))
    obtain ⟨q4, e_q4, h⟩ := bind_some_inv h
    have h_q4 : Fr [(0, some 10)] _ q4.2 := (Fr.tr h_q3 (Fr.mono (w_f_ji_bitCount e_q4) rfl))
    cases h
    exact h_q4
  · cases h
    exact h_q2
set_option maxRecDepth 100000 in
theorem w_f_x_shareOf {N : Nat} {v0 : Int32} {v1 : Int32} {v2 : Int32} {σ : Sg} {z : Int32 × Sg} (h : f_x_shareOf N v0 v1 v2 σ = some z) : Fr [] σ z.2 := by
  unfold f_x_shareOf at h
  rcases ite_some_inv h with h | h
  · rcases ite_some_inv h with h | h
    · cases h
      exact Fr.rf
    · cases h
      exact Fr.rf
  · rcases ite_some_inv h with h | h
    · cases h
      exact Fr.rf
    · cases h
      exact Fr.rf
set_option maxRecDepth 100000 in
theorem w_f_x_goes {N : Nat} {v1 : Int32} {v2 : Int32} {v3 : Int32} {v4 : Int32} {σ : Sg} {z : Int32 × Sg} (h : f_x_goes N v1 v2 v3 v4 σ = some z) : Fr [(0, some 10)] σ z.2 := by
  unfold f_x_goes at h
  obtain ⟨q1, e_q1, h⟩ := bind_some_inv h
  have h_q1 : Fr [(0, some 10)] _ q1.2 := (Fr.tr Fr.rf (Fr.mono (w_f_x_numberTrouble e_q1) rfl))
  obtain ⟨q2, e_q2, h⟩ := bind_some_inv h
  have h_q2 : Fr [(0, some 10)] _ q2.2 := (Fr.tr h_q1 (Fr.mono (w_f_x_granted e_q2) rfl))
  rcases ite_some_inv h with h | h
  · rcases ite_some_inv h with h | h
    · obtain ⟨q3, e_q3, h⟩ := bind_some_inv h
      have h_q3 : Fr [(0, some 10)] _ q3.2 := (Fr.tr h_q2 (Fr.mono (w_f_x_shareOf e_q3) rfl))
      cases h
      exact h_q3
    · obtain ⟨q4, e_q4, h⟩ := bind_some_inv h
      have h_q4 : Fr [(0, some 10)] _ q4.2 := (Fr.tr h_q2 (Fr.mono (w_f_x_shareOf e_q4) rfl))
      cases h
      exact h_q4
  · cases h
    exact h_q2
set_option maxRecDepth 100000 in
theorem w_f_x_gone {N : Nat} {σ : Sg} {z : Int32 × Sg} (h : f_x_gone N σ = some z) : Fr [(0, some 10)] σ z.2 := by
  unfold f_x_gone at h
  obtain ⟨q1, e_q1, h⟩ := bind_some_inv h
  have h_q1 : Fr [(0, some 10)] _ q1.2 := (Fr.tr Fr.rf (Fr.mono (w_f_x_landTrouble e_q1) rfl))
  obtain ⟨q2, e_q2, h⟩ := bind_some_inv h
  have h_q2 : Fr [(0, some 10)] _ q2.2 := (Fr.tr h_q1 (Fr.mono (w_f_x_granted e_q2) rfl))
  rcases ite_some_inv h with h | h
  · obtain ⟨q3, e_q3, h⟩ := bind_some_inv h
    have h_q3 : Fr [(0, some 10)] _ q3.2 := (Fr.tr h_q2 (Fr.mono (w_f_state_goneCells e_q3) rfl))
    obtain ⟨q4, e_q4, h⟩ := bind_some_inv h
    have h_q4 : Fr [(0, some 10)] _ q4.2 := (Fr.tr h_q3 (Fr.mono (w_f_jl_bitCount e_q4) rfl))
    cases h
    exact h_q4
  · cases h
    exact h_q2
set_option maxRecDepth 100000 in
theorem w_f_x_goneBehind_L13 {N : Nat} : ∀ (n : Nat) (v1 : Int32) (v2 : Int32) (σ : Sg) (z : Int64 × Sg), f_x_goneBehind_L13 N n v1 v2 σ = some z → Fr [(41, some 0), (41, some 1)] σ z.2 := by
  intro n
  induction n with
  | zero => intro v1 v2 σ z  h; exact nomatch (show (none : Option (Int64 × Sg)) = some z from h)
  | succ n ih =>
    intro v1 v2 σ z  h
    unfold f_x_goneBehind_L13 at h
    rcases ite_some_inv h with h | h
    · obtain ⟨q2, e_q2, h⟩ := bind_some_inv h
      have h_q2 : Fr [(41, some 0), (41, some 1)] _ q2.2 := (Fr.tr Fr.rf (Fr.mono (w_f_state_goneCells e_q2) rfl))
      cases h
      exact h_q2
    · obtain ⟨q3, e_q3, h⟩ := bind_some_inv h
      have h_q3 : Fr [(41, some 0), (41, some 1)] _ q3.2 := (Fr.tr Fr.rf (Fr.mono (w_f_state_passYear e_q3) rfl))
      exact (Fr.tr h_q3 (ih _ _ _ _ h))
set_option maxRecDepth 100000 in
theorem w_f_x_goneBehind {N : Nat} {v1 : Int32} {σ : Sg} {z : Int64 × Sg} (h : f_x_goneBehind N v1 σ = some z) : Fr [(41, some 0), (41, some 1), (41, some 2), (41, some 3), (41, some 4)] σ z.2 := by
  unfold f_x_goneBehind at h
  obtain ⟨q1, e_q1, h⟩ := bind_some_inv h
  have h_q1 : Fr [(41, some 0), (41, some 1), (41, some 2), (41, some 3), (41, some 4)] _ q1.2 := (Fr.tr Fr.rf (Fr.mono (w_f_state_copy e_q1) rfl))
  exact (Fr.tr h_q1 (Fr.mono (w_f_x_goneBehind_L13 _ _ _ _ _ h) rfl))
set_option maxRecDepth 100000 in
theorem w_f_x_goneIn {N : Nat} {v1 : Int32} {σ : Sg} {z : Int32 × Sg} (h : f_x_goneIn N v1 σ = some z) : Fr [(0, some 10), (41, some 0), (41, some 1), (41, some 2), (41, some 3), (41, some 4)] σ z.2 := by
  unfold f_x_goneIn at h
  obtain ⟨q1, e_q1, h⟩ := bind_some_inv h
  have h_q1 : Fr [(0, some 10), (41, some 0), (41, some 1), (41, some 2), (41, some 3), (41, some 4)] _ q1.2 := (Fr.tr Fr.rf (Fr.mono (w_f_x_numberTrouble e_q1) rfl))
  obtain ⟨q2, e_q2, h⟩ := bind_some_inv h
  have h_q2 : Fr [(0, some 10), (41, some 0), (41, some 1), (41, some 2), (41, some 3), (41, some 4)] _ q2.2 := (Fr.tr h_q1 (Fr.mono (w_f_x_granted e_q2) rfl))
  rcases ite_some_inv h with h | h
  · obtain ⟨q3, e_q3, h⟩ := bind_some_inv h
    have h_q3 : Fr [(0, some 10), (41, some 0), (41, some 1), (41, some 2), (41, some 3), (41, some 4)] _ q3.2 := (Fr.tr h_q2 (Fr.mono (w_f_x_goneBehind e_q3) rfl))
    obtain ⟨q4, e_q4, h⟩ := bind_some_inv h
    have h_q4 : Fr [(0, some 10), (41, some 0), (41, some 1), (41, some 2), (41, some 3), (41, some 4)] _ q4.2 := (Fr.tr h_q3 (Fr.mono (w_f_jl_bitCount e_q4) rfl))
    cases h
    exact h_q4
  · cases h
    exact h_q2
set_option maxRecDepth 100000 in
theorem w_f_x_image {N : Nat} {σ : Sg} {z : Int32 × Sg} (h : f_x_image N σ = some z) : Fr [(0, some 6), (0, some 10), (50, none), (51, none), (52, none), (53, none), (54, none)] σ z.2 := by
  unfold f_x_image at h
  obtain ⟨q1, e_q1, h⟩ := bind_some_inv h
  have h_q1 : Fr [(0, some 6), (0, some 10), (50, none), (51, none), (52, none), (53, none), (54, none)] _ q1.2 := (Fr.tr Fr.rf (Fr.mono (w_f_x_landTrouble e_q1) rfl))
  rcases ite_some_inv h with h | h
  · rcases ite_some_inv h with h | h
    · obtain ⟨q2, e_q2, h⟩ := bind_some_inv h
      have h_q2 : Fr [(0, some 6), (0, some 10), (50, none), (51, none), (52, none), (53, none), (54, none)] _ q2.2 := (Fr.tr h_q1 (Fr.mono (w_f_x_granted e_q2) rfl))
      rcases ite_some_inv h with h | h
      · obtain ⟨q3, e_q3, h⟩ := bind_some_inv h
        have h_q3 : Fr [(0, some 6), (0, some 10), (50, none), (51, none), (52, none), (53, none), (54, none)] _ q3.2 := (Fr.tr h_q2 (Fr.mono (w_f_shelf_keep e_q3) rfl))
        cases h
        exact (Fr.wI h_q3 (List.elem_iff.mp rfl))
      · cases h
        exact h_q2
    · obtain ⟨q4, e_q4, h⟩ := bind_some_inv h
      have h_q4 : Fr [(0, some 6), (0, some 10), (50, none), (51, none), (52, none), (53, none), (54, none)] _ q4.2 := (Fr.tr h_q1 (Fr.mono (w_f_x_granted e_q4) rfl))
      rcases ite_some_inv h with h | h
      · obtain ⟨q5, e_q5, h⟩ := bind_some_inv h
        have h_q5 : Fr [(0, some 6), (0, some 10), (50, none), (51, none), (52, none), (53, none), (54, none)] _ q5.2 := (Fr.tr h_q4 (Fr.mono (w_f_shelf_keep e_q5) rfl))
        cases h
        exact (Fr.wI h_q5 (List.elem_iff.mp rfl))
      · cases h
        exact h_q4
  · obtain ⟨q6, e_q6, h⟩ := bind_some_inv h
    have h_q6 : Fr [(0, some 6), (0, some 10), (50, none), (51, none), (52, none), (53, none), (54, none)] _ q6.2 := (Fr.tr h_q1 (Fr.mono (w_f_x_granted e_q6) rfl))
    rcases ite_some_inv h with h | h
    · obtain ⟨q7, e_q7, h⟩ := bind_some_inv h
      have h_q7 : Fr [(0, some 6), (0, some 10), (50, none), (51, none), (52, none), (53, none), (54, none)] _ q7.2 := (Fr.tr h_q6 (Fr.mono (w_f_shelf_keep e_q7) rfl))
      cases h
      exact (Fr.wI h_q7 (List.elem_iff.mp rfl))
    · cases h
      exact h_q6
set_option maxRecDepth 100000 in
theorem w_f_country_firstUnlike {N : Nat} {σ : Sg} {z : Int32 × Sg} (h : f_country_firstUnlike N σ = some z) : Fr [] σ z.2 := by
  unfold f_country_firstUnlike at h
  obtain ⟨q1, e_q1, h⟩ := bind_some_inv h
  have h_q1 : Fr [] _ q1.2 := (Fr.tr Fr.rf (Fr.mono (w_f_country_unlikeSeen e_q1) rfl))
  cases h
  exact h_q1
set_option maxRecDepth 100000 in
theorem w_f_x_judge {N : Nat} {σ : Sg} {z : Int32 × Sg} (h : f_x_judge N σ = some z) : Fr [(0, some 10)] σ z.2 := by
  unfold f_x_judge at h
  obtain ⟨q1, e_q1, h⟩ := bind_some_inv h
  have h_q1 : Fr [(0, some 10)] _ q1.2 := (Fr.tr Fr.rf (Fr.mono (w_f_x_landTrouble e_q1) rfl))
  obtain ⟨q2, e_q2, h⟩ := bind_some_inv h
  have h_q2 : Fr [(0, some 10)] _ q2.2 := (Fr.tr h_q1 (Fr.mono (w_f_x_granted e_q2) rfl))
  rcases ite_some_inv h with h | h
  · obtain ⟨q3, e_q3, h⟩ := bind_some_inv h
    have h_q3 : Fr [(0, some 10)] _ q3.2 := (Fr.tr h_q2 (Fr.mono (w_f_country_firstUnlike e_q3) rfl))
    cases h
    exact h_q3
  · cases h
    exact h_q2
set_option maxRecDepth 100000 in
theorem w_f_x_leads {N : Nat} {v1 : Int32} {v2 : Int32} {σ : Sg} {z : Int32 × Sg} (h : f_x_leads N v1 v2 σ = some z) : Fr [(0, some 10)] σ z.2 := by
  unfold f_x_leads at h
  obtain ⟨q1, e_q1, h⟩ := bind_some_inv h
  have h_q1 : Fr [(0, some 10)] _ q1.2 := (Fr.tr Fr.rf (Fr.mono (w_f_x_strideTrouble e_q1) rfl))
  obtain ⟨q2, e_q2, h⟩ := bind_some_inv h
  have h_q2 : Fr [(0, some 10)] _ q2.2 := (Fr.tr h_q1 (Fr.mono (w_f_x_granted e_q2) rfl))
  rcases ite_some_inv h with h | h
  · obtain ⟨q3, e_q3, h⟩ := bind_some_inv h
    have h_q3 : Fr [(0, some 10)] _ q3.2 := (Fr.tr h_q2 (Fr.mono (w_f_x_targetNow e_q3) rfl))
    cases h
    exact h_q3
  · cases h
    exact h_q2
set_option maxRecDepth 100000 in
theorem w_f_x_runFrom_L5 {N : Nat} : ∀ (n : Nat) (v0 : Int64) (v3 : Int32) (v4 : Int32) (σ : Sg) (z : Int32 × Sg), f_x_runFrom_L5 N n v0 v3 v4 σ = some z → Fr [] σ z.2 := by
  intro n
  induction n with
  | zero => intro v0 v3 v4 σ z  h; exact nomatch (show (none : Option (Int32 × Sg)) = some z from h)
  | succ n ih =>
    intro v0 v3 v4 σ z  h
    unfold f_x_runFrom_L5 at h
    rcases ite_some_inv h with h | h
    · cases h
      exact Fr.rf
    · obtain ⟨q1, e_q1, h⟩ := bind_some_inv h
      have h_q1 : Fr [] _ q1.2 := (Fr.tr Fr.rf (Fr.mono (w_f_x_bit e_q1) rfl))
      rcases ite_some_inv h with h | h
      · exact (Fr.tr h_q1 (ih _ _ _ _ _ h))
      · cases h
        exact h_q1
set_option maxRecDepth 100000 in
theorem w_f_x_runFrom {N : Nat} {v0 : Int64} {v2 : Int32} {σ : Sg} {z : Int32 × Sg} (h : f_x_runFrom N v0 v2 σ = some z) : Fr [] σ z.2 := by
  unfold f_x_runFrom at h
  exact (Fr.tr Fr.rf (Fr.mono (w_f_x_runFrom_L5 _ _ _ _ _ _ h) rfl))
set_option maxRecDepth 100000 in
theorem w_f_x_longestRun_L8 {N : Nat} : ∀ (n : Nat) (v0 : Int64) (v2 : Int32) (v3 : Int32) (v4 : Int32) (σ : Sg) (z : Int32 × Sg), f_x_longestRun_L8 N n v0 v2 v3 v4 σ = some z → Fr [] σ z.2 := by
  intro n
  induction n with
  | zero => intro v0 v2 v3 v4 σ z  h; exact nomatch (show (none : Option (Int32 × Sg)) = some z from h)
  | succ n ih =>
    intro v0 v2 v3 v4 σ z  h
    unfold f_x_longestRun_L8 at h
    rcases ite_some_inv h with h | h
    · cases h
      exact Fr.rf
    · obtain ⟨q1, e_q1, h⟩ := bind_some_inv h
      have h_q1 : Fr [] _ q1.2 := (Fr.tr Fr.rf (Fr.mono (w_f_x_runFrom e_q1) rfl))
      rcases ite_some_inv h with h | h
      · exact (Fr.tr h_q1 (ih _ _ _ _ _ _ h))
      · exact (Fr.tr h_q1 (ih _ _ _ _ _ _ h))
set_option maxRecDepth 100000 in
theorem w_f_x_longestRun {N : Nat} {v0 : Int64} {σ : Sg} {z : Int32 × Sg} (h : f_x_longestRun N v0 σ = some z) : Fr [] σ z.2 := by
  unfold f_x_longestRun at h
  exact (Fr.tr Fr.rf (Fr.mono (w_f_x_longestRun_L8 _ _ _ _ _ _ _ h) rfl))
set_option maxRecDepth 100000 in
theorem w_f_x_longest {N : Nat} {σ : Sg} {z : Int32 × Sg} (h : f_x_longest N σ = some z) : Fr [(0, some 10)] σ z.2 := by
  unfold f_x_longest at h
  obtain ⟨q1, e_q1, h⟩ := bind_some_inv h
  have h_q1 : Fr [(0, some 10)] _ q1.2 := (Fr.tr Fr.rf (Fr.mono (w_f_x_landTrouble e_q1) rfl))
  obtain ⟨q2, e_q2, h⟩ := bind_some_inv h
  have h_q2 : Fr [(0, some 10)] _ q2.2 := (Fr.tr h_q1 (Fr.mono (w_f_x_granted e_q2) rfl))
  rcases ite_some_inv h with h | h
  · obtain ⟨q3, e_q3, h⟩ := bind_some_inv h
    have h_q3 : Fr [(0, some 10)] _ q3.2 := (Fr.tr h_q2 (Fr.mono (w_f_country_allCells e_q3) rfl))
    obtain ⟨q4, e_q4, h⟩ := bind_some_inv h
    have h_q4 : Fr [(0, some 10)] _ q4.2 := (Fr.tr h_q3 (Fr.mono (w_f_state_goneCells e_q4) rfl))
    obtain ⟨q5, e_q5, h⟩ := bind_some_inv h
    have h_q5 : Fr [(0, some 10)] _ q5.2 := (Fr.tr h_q4 (Fr.mono (w_f_x_longestRun e_q5) rfl))
    cases h
    exact h_q5
  · cases h
    exact h_q2
set_option maxRecDepth 100000 in
theorem w_f_x_lost {N : Nat} {σ : Sg} {z : Int32 × Sg} (h : f_x_lost N σ = some z) : Fr [(0, some 10)] σ z.2 := by
  unfold f_x_lost at h
  obtain ⟨q1, e_q1, h⟩ := bind_some_inv h
  have h_q1 : Fr [(0, some 10)] _ q1.2 := (Fr.tr Fr.rf (Fr.mono (w_f_x_landTrouble e_q1) rfl))
  obtain ⟨q2, e_q2, h⟩ := bind_some_inv h
  have h_q2 : Fr [(0, some 10)] _ q2.2 := (Fr.tr h_q1 (Fr.mono (w_f_x_granted e_q2) rfl))
  rcases ite_some_inv h with h | h
  · obtain ⟨q3, e_q3, h⟩ := bind_some_inv h
    have h_q3 : Fr [(0, some 10)] _ q3.2 := (Fr.tr h_q2 (Fr.mono (w_f_state_goneCells e_q3) rfl))
    obtain ⟨q4, e_q4, h⟩ := bind_some_inv h
    have h_q4 : Fr [(0, some 10)] _ q4.2 := (Fr.tr h_q3 (Fr.mono (w_f_country_lostFolk e_q4) rfl))
    cases h
    exact h_q4
  · cases h
    exact h_q2
set_option maxRecDepth 100000 in
theorem w_f_x_lostIn {N : Nat} {v1 : Int32} {σ : Sg} {z : Int32 × Sg} (h : f_x_lostIn N v1 σ = some z) : Fr [(0, some 10), (41, some 0), (41, some 1), (41, some 2), (41, some 3), (41, some 4)] σ z.2 := by
  unfold f_x_lostIn at h
  obtain ⟨q1, e_q1, h⟩ := bind_some_inv h
  have h_q1 : Fr [(0, some 10), (41, some 0), (41, some 1), (41, some 2), (41, some 3), (41, some 4)] _ q1.2 := (Fr.tr Fr.rf (Fr.mono (w_f_x_numberTrouble e_q1) rfl))
  obtain ⟨q2, e_q2, h⟩ := bind_some_inv h
  have h_q2 : Fr [(0, some 10), (41, some 0), (41, some 1), (41, some 2), (41, some 3), (41, some 4)] _ q2.2 := (Fr.tr h_q1 (Fr.mono (w_f_x_granted e_q2) rfl))
  rcases ite_some_inv h with h | h
  · obtain ⟨q3, e_q3, h⟩ := bind_some_inv h
    have h_q3 : Fr [(0, some 10), (41, some 0), (41, some 1), (41, some 2), (41, some 3), (41, some 4)] _ q3.2 := (Fr.tr h_q2 (Fr.mono (w_f_x_goneBehind e_q3) rfl))
    obtain ⟨q4, e_q4, h⟩ := bind_some_inv h
    have h_q4 : Fr [(0, some 10), (41, some 0), (41, some 1), (41, some 2), (41, some 3), (41, some 4)] _ q4.2 := (Fr.tr h_q3 (Fr.mono (w_f_country_lostFolk e_q4) rfl))
    cases h
    exact h_q4
  · cases h
    exact h_q2
set_option maxRecDepth 100000 in
theorem w_f_chances_goOn_B {N : Nat} {rec : Int32 → Int64 → Int32 → Int64 → Sg → Option (Unit × Sg)} {v2 : Int32} {v3 : Int64} {v5 : Int32} {v6 : Int64} {σ : Sg} {z : Unit × Sg} {W : WL} (hW : ∀ e ∈ ([(65, some 0), (65, some 1)] : WL), e ∈ W) (h_rec : ∀ (u0 : Int32) (u1 : Int64) (u2 : Int32) (u3 : Int64) (u4 : Sg) z, rec u0 u1 u2 u3 u4 = some z → Fr W u4 z.2) (h : f_chances_goOn_B N rec v2 v3 v5 v6 σ = some z) : Fr W σ z.2 := by
  unfold f_chances_goOn_B at h
  rcases ite_some_inv h with h | h
  · rcases ite_some_inv h with h | h
    · obtain ⟨q2, e_q2, h⟩ := bind_some_inv h
      have h_q2 : Fr W _ q2.2 := (Fr.tr (Fr.wL Fr.rf (hW _ (List.elem_iff.mp rfl))) (Fr.monoP (Fr.mono (w_f_country_lostFolk e_q2) rfl) hW))
      cases h
      exact (Fr.wL h_q2 (hW _ (List.elem_iff.mp rfl)))
    · obtain ⟨q1, e_q1, h⟩ := bind_some_inv h
      have h_q1 : Fr W _ q1.2 := (Fr.tr (Fr.wL Fr.rf (hW _ (List.elem_iff.mp rfl))) (Fr.monoP (Fr.mono (w_f_country_lostFolk e_q1) rfl) hW))
      cases h
      exact (Fr.wL h_q1 (hW _ (List.elem_iff.mp rfl)))
  · rcases ite_some_inv h with h | h
    · obtain ⟨q3, e_q3, h⟩ := bind_some_inv h
      have h_q3 : Fr W _ q3.2 := (Fr.tr Fr.rf (Fr.monoP (Fr.mono (w_f_x_digitOf e_q3) rfl) hW))
      obtain ⟨q4, e_q4, h⟩ := bind_some_inv h
      have h_q4 : Fr W _ q4.2 := (Fr.tr h_q3 (Fr.monoP (Fr.mono (w_f_country_target e_q4) rfl) hW))
      rcases ite_some_inv h with h | h
      · obtain ⟨q8, e_q8, h⟩ := bind_some_inv h
        have h_q8 : Fr W _ q8.2 := (Fr.tr h_q4 (h_rec _ _ _ _ _ _ e_q8))
        cases h
        exact h_q8
      · obtain ⟨q5, e_q5, h⟩ := bind_some_inv h
        have h_q5 : Fr W _ q5.2 := (Fr.tr h_q4 (h_rec _ _ _ _ _ _ e_q5))
        obtain ⟨q6, e_q6, h⟩ := bind_some_inv h
        have h_q6 : Fr W _ q6.2 := (Fr.tr h_q5 (Fr.monoP (Fr.mono (w_f_x_inside e_q6) rfl) hW))
        obtain ⟨q7, e_q7, h⟩ := bind_some_inv h
        have h_q7 : Fr W _ q7.2 := (Fr.tr h_q6 (h_rec _ _ _ _ _ _ e_q7))
        cases h
        exact h_q7
    · rcases ite_some_inv h with h | h
      · obtain ⟨q10, e_q10, h⟩ := bind_some_inv h
        have h_q10 : Fr W _ q10.2 := (Fr.tr (Fr.wL Fr.rf (hW _ (List.elem_iff.mp rfl))) (Fr.monoP (Fr.mono (w_f_country_lostFolk e_q10) rfl) hW))
        cases h
        exact (Fr.wL h_q10 (hW _ (List.elem_iff.mp rfl)))
      · obtain ⟨q9, e_q9, h⟩ := bind_some_inv h
        have h_q9 : Fr W _ q9.2 := (Fr.tr (Fr.wL Fr.rf (hW _ (List.elem_iff.mp rfl))) (Fr.monoP (Fr.mono (w_f_country_lostFolk e_q9) rfl) hW))
        cases h
        exact (Fr.wL h_q9 (hW _ (List.elem_iff.mp rfl)))
set_option maxRecDepth 100000 in
theorem w_f_chances_goOn {N : Nat} : ∀ (n : Nat) (v2 : Int32) (v3 : Int64) (v5 : Int32) (v6 : Int64) (σ : Sg) (z : Unit × Sg), f_chances_goOn N n v2 v3 v5 v6 σ = some z → Fr [(65, some 0), (65, some 1)] σ z.2 := by
  intro n
  induction n with
  | zero => intro v2 v3 v5 v6 σ z  h; exact nomatch (show (none : Option (Unit × Sg)) = some z from h)
  | succ D ih =>
    intro v2 v3 v5 v6 σ z  h
    unfold f_chances_goOn at h
    exact (Fr.tr Fr.rf (w_f_chances_goOn_B (W := [(65, some 0), (65, some 1)]) (fun e he => List.mem_of_elem_eq_true (List.all_eq_true.mp (show ([(65, some 0), (65, some 1)] : WL).all (fun e => List.elem e [(65, some 0), (65, some 1)]) = true from rfl) e he)) (fun u0 u1 u2 u3 u4 z h => ih u0 u1 u2 u3 u4 z h) h))
set_option maxRecDepth 100000 in
theorem w_f_chances_weigh_L35 {N : Nat} : ∀ (n : Nat) (v4 : Int32) (v6 : Int32) (σ : Sg) (z : Unit × Sg), f_chances_weigh_L35 N n v4 v6 σ = some z → Fr [(65, some 0), (65, some 1), (65, some 2)] σ z.2 := by
  intro n
  induction n with
  | zero => intro v4 v6 σ z  h; exact nomatch (show (none : Option (Unit × Sg)) = some z from h)
  | succ n ih =>
    intro v4 v6 σ z  h
    unfold f_chances_weigh_L35 at h
    rcases ite_some_inv h with h | h
    · obtain ⟨q1, e_q1, h⟩ := bind_some_inv h
      have h_q1 : Fr [(65, some 0), (65, some 1), (65, some 2)] _ q1.2 := (Fr.tr Fr.rf (Fr.mono (w_f_state_goneCells e_q1) rfl))
      obtain ⟨q2, e_q2, h⟩ := bind_some_inv h
      have h_q2 : Fr [(65, some 0), (65, some 1), (65, some 2)] _ q2.2 := (Fr.tr h_q1 (Fr.mono (w_f_chances_goOn _ _ _ _ _ _ _ e_q2) rfl))
      cases h
      exact h_q2
    · exact (Fr.tr (Fr.wL Fr.rf (List.elem_iff.mp rfl)) (ih _ _ _ _ h))
set_option maxRecDepth 100000 in
theorem w_f_chances_weigh {N : Nat} {v3 : Int32} {v4 : Int32} {v5 : Int32} {σ : Sg} {z : Unit × Sg} (h : f_chances_weigh N v3 v4 v5 σ = some z) : Fr [(65, some 0), (65, some 1), (65, some 2), (65, some 3), (65, some 4), (65, some 5)] σ z.2 := by
  unfold f_chances_weigh at h
  exact (Fr.tr (Fr.wL (Fr.wL (Fr.wL (Fr.wI (Fr.wI (Fr.wI Fr.rf (List.elem_iff.mp rfl)) (List.elem_iff.mp rfl)) (List.elem_iff.mp rfl)) (List.elem_iff.mp rfl)) (List.elem_iff.mp rfl)) (List.elem_iff.mp rfl)) (Fr.mono (w_f_chances_weigh_L35 _ _ _ _ _ h) rfl))
set_option maxRecDepth 100000 in
theorem w_f_x_inLowestTerms_L9 {N : Nat} {W : WL} (hW : ∀ e ∈ ([] : WL), e ∈ W) : ∀ (n : Nat) (v0 : Int64) (v2 : Int64) (v4 : Int32) (v5 : Int64) (v7 : Int64) (v9 : Int32) (σ : Sg) (k45 : (Int64 → Int64 → Int32 → Int64 → Sg → Option (Int64 × Sg))) (z : Int64 × Sg) (h_k45 : ∀ (u0 : Int64) (u1 : Int64) (u2 : Int32) (u3 : Int64) (u4 : Sg) z, k45 u0 u1 u2 u3 u4 = some z → Fr W u4 z.2), f_x_inLowestTerms_L9 N n v0 v2 v4 v5 v7 v9 σ k45 = some z → Fr W σ z.2 := by
  intro n
  induction n with
  | zero => intro v0 v2 v4 v5 v7 v9 σ k45 z h_k45 h; exact nomatch (show (none : Option (Int64 × Sg)) = some z from h)
  | succ n ih =>
    intro v0 v2 v4 v5 v7 v9 σ k45 z h_k45 h
    unfold f_x_inLowestTerms_L9 at h
    rcases ite_some_inv h with h | h
    · exact (Fr.tr Fr.rf (h_k45 _ _ _ _ _ _ h))
    · rcases ite_some_inv h with h | h
      · exact (Fr.tr Fr.rf (h_k45 _ _ _ _ _ _ h))
      · rcases ite_some_inv h with h | h
        · cases h
        · exact (Fr.tr Fr.rf (ih _ _ _ _ _ _ _ _ _ h_k45 h))
set_option maxRecDepth 100000 in
theorem w_f_x_inLowestTerms {N : Nat} {v0 : Int64} {v2 : Int64} {v4 : Int32} {σ : Sg} {z : Int64 × Sg} (h : f_x_inLowestTerms N v0 v2 v4 σ = some z) : Fr [] σ z.2 := by
  unfold f_x_inLowestTerms at h
  exact (Fr.tr Fr.rf (w_f_x_inLowestTerms_L9 (W := []) (fun e he => by cases he)  _ _ _ _ _ _ _ _ _ _ (fun w0 w2 w4 w5 t1 z h => by
      rcases ite_some_inv h with h | h
      · rcases ite_some_inv h with h | h
        · cases h
          exact Fr.rf
        · cases h
          exact Fr.rf
      · rcases ite_some_inv h with h | h
        · rcases ite_some_inv h with h | h
          · cases h
          · cases h
            exact Fr.rf
        · rcases ite_some_inv h with h | h
          · cases h
          · cases h
            exact Fr.rf
    ) h))
set_option maxRecDepth 100000 in
theorem w_f_x_mean {N : Nat} {v1 : Int32} {v2 : Int32} {v3 : Int32} {σ : Sg} {z : Int64 × Sg} (h : f_x_mean N v1 v2 v3 σ = some z) : Fr [(0, some 10), (65, some 0), (65, some 1), (65, some 2), (65, some 3), (65, some 4), (65, some 5)] σ z.2 := by
  unfold f_x_mean at h
  obtain ⟨q1, e_q1, h⟩ := bind_some_inv h
  have h_q1 : Fr [(0, some 10), (65, some 0), (65, some 1), (65, some 2), (65, some 3), (65, some 4), (65, some 5)] _ q1.2 := (Fr.tr Fr.rf (Fr.mono (w_f_x_rowTrouble e_q1) rfl))
  obtain ⟨q2, e_q2, h⟩ := bind_some_inv h
  have h_q2 : Fr [(0, some 10), (65, some 0), (65, some 1), (65, some 2), (65, some 3), (65, some 4), (65, some 5)] _ q2.2 := (Fr.tr h_q1 (Fr.mono (w_f_x_granted e_q2) rfl))
  rcases ite_some_inv h with h | h
  · obtain ⟨q3, e_q3, h⟩ := bind_some_inv h
    have h_q3 : Fr [(0, some 10), (65, some 0), (65, some 1), (65, some 2), (65, some 3), (65, some 4), (65, some 5)] _ q3.2 := (Fr.tr h_q2 (Fr.mono (w_f_chances_weigh e_q3) rfl))
    obtain ⟨q4, e_q4, h⟩ := bind_some_inv h
    have h_q4 : Fr [(0, some 10), (65, some 0), (65, some 1), (65, some 2), (65, some 3), (65, some 4), (65, some 5)] _ q4.2 := (Fr.tr h_q3 (Fr.mono (w_f_x_inLowestTerms e_q4) rfl))
    cases h
    exact h_q4
  · cases h
    exact h_q2
set_option maxRecDepth 100000 in
theorem w_f_country_nearestParted_L28 {N : Nat} {W : WL} (hW : ∀ e ∈ ([] : WL), e ∈ W) : ∀ (n : Nat) (v1 : Int64) (v3 : Int32) (v4 : Int32) (v5 : Int32) (v6 : Int32) (σ : Sg) (k119 : (Int64 → Int32 → Int32 → Int32 → Sg → Option (Int32 × Sg))) (z : Int32 × Sg) (h_k119 : ∀ (u0 : Int64) (u1 : Int32) (u2 : Int32) (u3 : Int32) (u4 : Sg) z, k119 u0 u1 u2 u3 u4 = some z → Fr W u4 z.2), f_country_nearestParted_L28 N n v1 v3 v4 v5 v6 σ k119 = some z → Fr W σ z.2 := by
  intro n
  induction n with
  | zero => intro v1 v3 v4 v5 v6 σ k119 z h_k119 h; exact nomatch (show (none : Option (Int32 × Sg)) = some z from h)
  | succ n ih =>
    intro v1 v3 v4 v5 v6 σ k119 z h_k119 h
    unfold f_country_nearestParted_L28 at h
    rcases ite_some_inv h with h | h
    · exact (Fr.tr Fr.rf (h_k119 _ _ _ _ _ _ h))
    · obtain ⟨q1, e_q1, h⟩ := bind_some_inv h
      have h_q1 : Fr W _ q1.2 := (Fr.tr Fr.rf (Fr.monoP (Fr.mono (w_f_numbers_at e_q1) rfl) hW))
      obtain ⟨q2, e_q2, h⟩ := bind_some_inv h
      have h_q2 : Fr W _ q2.2 := (Fr.tr h_q1 (Fr.monoP (Fr.mono (w_f_numbers_at e_q2) rfl) hW))
      obtain ⟨q3, e_q3, h⟩ := bind_some_inv h
      have h_q3 : Fr W _ q3.2 := (Fr.tr h_q2 (Fr.monoP (Fr.mono (w_f_x_inside e_q3) rfl) hW))
      obtain ⟨q4, e_q4, h⟩ := bind_some_inv h
      have h_q4 : Fr W _ q4.2 := (Fr.tr h_q3 (Fr.monoP (Fr.mono (w_f_jl_bitCount e_q4) rfl) hW))
      obtain ⟨q5, e_q5, h⟩ := bind_some_inv h
      have h_q5 : Fr W _ q5.2 := (Fr.tr h_q4 (Fr.monoP (Fr.mono (w_f_country_isLost e_q5) rfl) hW))
      rcases ite_some_inv h with h | h
      · exact (Fr.tr h_q5 (ih _ _ _ _ _ _ _ _ h_k119 h))
      · obtain ⟨q6, e_q6, h⟩ := bind_some_inv h
        have h_q6 : Fr W _ q6.2 := (Fr.tr h_q5 (Fr.monoP (Fr.mono (w_f_country_isLost e_q6) rfl) hW))
        rcases ite_some_inv h with h | h
        · exact (Fr.tr h_q6 (ih _ _ _ _ _ _ _ _ h_k119 h))
        · rcases ite_some_inv h with h | h
          · exact (Fr.tr h_q6 (ih _ _ _ _ _ _ _ _ h_k119 h))
          · rcases ite_some_inv h with h | h
            · exact (Fr.tr h_q6 (ih _ _ _ _ _ _ _ _ h_k119 h))
            · exact (Fr.tr h_q6 (ih _ _ _ _ _ _ _ _ h_k119 h))
set_option maxRecDepth 100000 in
theorem w_f_country_nearestParted_L10 {N : Nat} : ∀ (n : Nat) (v1 : Int64) (v3 : Int32) (v4 : Int32) (v5 : Int32) (σ : Sg) (z : Int32 × Sg), f_country_nearestParted_L10 N n v1 v3 v4 v5 σ = some z → Fr [] σ z.2 := by
  intro n
  induction n with
  | zero => intro v1 v3 v4 v5 σ z  h; exact nomatch (show (none : Option (Int32 × Sg)) = some z from h)
  | succ n ih =>
    intro v1 v3 v4 v5 σ z  h
    unfold f_country_nearestParted_L10 at h
    rcases ite_some_inv h with h | h
    · cases h
      exact Fr.rf
    · exact (Fr.tr Fr.rf (w_f_country_nearestParted_L28 (W := []) (fun e he => by cases he)  _ _ _ _ _ _ _ _ _ (fun w1 w3 w4 w5 t7 z h => by
          exact (Fr.tr Fr.rf (ih _ _ _ _ _ _ h))
        ) h))
set_option maxRecDepth 100000 in
theorem w_f_country_nearestParted {N : Nat} {v1 : Int64} {σ : Sg} {z : Int32 × Sg} (h : f_country_nearestParted N v1 σ = some z) : Fr [] σ z.2 := by
  unfold f_country_nearestParted at h
  exact (Fr.tr Fr.rf (Fr.mono (w_f_country_nearestParted_L10 _ _ _ _ _ _ _ h) rfl))
set_option maxRecDepth 100000 in
theorem w_f_x_nearest {N : Nat} {σ : Sg} {z : Int32 × Sg} (h : f_x_nearest N σ = some z) : Fr [(0, some 10)] σ z.2 := by
  unfold f_x_nearest at h
  obtain ⟨q1, e_q1, h⟩ := bind_some_inv h
  have h_q1 : Fr [(0, some 10)] _ q1.2 := (Fr.tr Fr.rf (Fr.mono (w_f_x_landTrouble e_q1) rfl))
  obtain ⟨q2, e_q2, h⟩ := bind_some_inv h
  have h_q2 : Fr [(0, some 10)] _ q2.2 := (Fr.tr h_q1 (Fr.mono (w_f_x_granted e_q2) rfl))
  rcases ite_some_inv h with h | h
  · obtain ⟨q3, e_q3, h⟩ := bind_some_inv h
    have h_q3 : Fr [(0, some 10)] _ q3.2 := (Fr.tr h_q2 (Fr.mono (w_f_state_goneCells e_q3) rfl))
    obtain ⟨q4, e_q4, h⟩ := bind_some_inv h
    have h_q4 : Fr [(0, some 10)] _ q4.2 := (Fr.tr h_q3 (Fr.mono (w_f_country_nearestParted e_q4) rfl))
    cases h
    exact h_q4
  · cases h
    exact h_q2
set_option maxRecDepth 100000 in
theorem w_f_paths_fewestFor_L23 {N : Nat} {W : WL} (hW : ∀ e ∈ ([] : WL), e ∈ W) : ∀ (n : Nat) (v1 : Int32) (v3 : Int32) (v4 : Int32) (v5 : Int32) (σ : Sg) (k90 : (Int32 → Int32 → Int32 → Sg → Option (Int32 × Sg))) (z : Int32 × Sg) (h_k90 : ∀ (u0 : Int32) (u1 : Int32) (u2 : Int32) (u3 : Sg) z, k90 u0 u1 u2 u3 = some z → Fr W u3 z.2), f_paths_fewestFor_L23 N n v1 v3 v4 v5 σ k90 = some z → Fr W σ z.2 := by
  intro n
  induction n with
  | zero => intro v1 v3 v4 v5 σ k90 z h_k90 h; exact nomatch (show (none : Option (Int32 × Sg)) = some z from h)
  | succ n ih =>
    intro v1 v3 v4 v5 σ k90 z h_k90 h
    unfold f_paths_fewestFor_L23 at h
    rcases ite_some_inv h with h | h
    · exact (Fr.tr Fr.rf (h_k90 _ _ _ _ _ h))
    · obtain ⟨q3, e_q3, h⟩ := bind_some_inv h
      have h_q3 : Fr W _ q3.2 := (Fr.tr Fr.rf (Fr.monoP (Fr.mono (w_f_numbers_at e_q3) rfl) hW))
      obtain ⟨q4, e_q4, h⟩ := bind_some_inv h
      have h_q4 : Fr W _ q4.2 := (Fr.tr h_q3 (Fr.monoP (Fr.mono (w_f_paths_get e_q4) rfl) hW))
      rcases ite_some_inv h with h | h
      · exact (Fr.tr h_q4 (ih _ _ _ _ _ _ _ h_k90 h))
      · rcases ite_some_inv h with h | h
        · exact (Fr.tr h_q4 (ih _ _ _ _ _ _ _ h_k90 h))
        · rcases ite_some_inv h with h | h
          · exact (Fr.tr h_q4 (ih _ _ _ _ _ _ _ h_k90 h))
          · exact (Fr.tr h_q4 (ih _ _ _ _ _ _ _ h_k90 h))
set_option maxRecDepth 100000 in
theorem w_f_paths_fewestFor_L11 {N : Nat} : ∀ (n : Nat) (v1 : Int32) (v3 : Int32) (σ : Sg) (z : Int32 × Sg), f_paths_fewestFor_L11 N n v1 v3 σ = some z → Fr [(62, none)] σ z.2 := by
  intro n
  induction n with
  | zero => intro v1 v3 σ z  h; exact nomatch (show (none : Option (Int32 × Sg)) = some z from h)
  | succ n ih =>
    intro v1 v3 σ z  h
    unfold f_paths_fewestFor_L11 at h
    rcases ite_some_inv h with h | h
    · obtain ⟨q2, e_q2, h⟩ := bind_some_inv h
      have h_q2 : Fr [(62, none)] _ q2.2 := (Fr.tr Fr.rf (Fr.mono (w_f_paths_get e_q2) rfl))
      cases h
      exact h_q2
    · exact (Fr.tr Fr.rf (w_f_paths_fewestFor_L23 (W := [(62, none)]) (fun e he => by cases he)  _ _ _ _ _ _ _ _ (fun w1 w3 w4 t5 z h => by
          obtain ⟨q6, e_q6, h⟩ := bind_some_inv h
          have h_q6 : Fr [(62, none)] _ q6.2 := (Fr.tr Fr.rf (Fr.mono (w_f_paths_put e_q6) rfl))
          exact (Fr.tr h_q6 (ih _ _ _ _ h))
        ) h))
set_option maxRecDepth 100000 in
theorem w_f_paths_fewestFor {N : Nat} {v1 : Int32} {σ : Sg} {z : Int32 × Sg} (h : f_paths_fewestFor N v1 σ = some z) : Fr [(62, none)] σ z.2 := by
  unfold f_paths_fewestFor at h
  obtain ⟨q1, e_q1, h⟩ := bind_some_inv h
  have h_q1 : Fr [(62, none)] _ q1.2 := (Fr.tr Fr.rf (Fr.mono (w_f_paths_put e_q1) rfl))
  exact (Fr.tr h_q1 (Fr.mono (w_f_paths_fewestFor_L11 _ _ _ _ _ h) rfl))
set_option maxRecDepth 100000 in
theorem w_f_paths_longestWithoutSum_L11 {N : Nat} : ∀ (n : Nat) (v2 : Int32) (σ : Sg) (z : Int32 × Sg), f_paths_longestWithoutSum_L11 N n v2 σ = some z → Fr [] σ z.2 := by
  intro n
  induction n with
  | zero => intro v2 σ z  h; exact nomatch (show (none : Option (Int32 × Sg)) = some z from h)
  | succ n ih =>
    intro v2 σ z  h
    unfold f_paths_longestWithoutSum_L11 at h
    rcases ite_some_inv h with h | h
    · cases h
      exact Fr.rf
    · obtain ⟨q2, e_q2, h⟩ := bind_some_inv h
      have h_q2 : Fr [] _ q2.2 := (Fr.tr Fr.rf (Fr.mono (w_f_paths_get e_q2) rfl))
      rcases ite_some_inv h with h | h
      · cases h
        exact h_q2
      · exact (Fr.tr h_q2 (ih _ _ _ h))
set_option maxRecDepth 100000 in
theorem w_f_paths_longestWithoutSum {N : Nat} {σ : Sg} {z : Int32 × Sg} (h : f_paths_longestWithoutSum N σ = some z) : Fr [(62, none)] σ z.2 := by
  unfold f_paths_longestWithoutSum at h
  obtain ⟨q1, e_q1, h⟩ := bind_some_inv h
  have h_q1 : Fr [(62, none)] _ q1.2 := (Fr.tr Fr.rf (Fr.mono (w_f_paths_fewestFor e_q1) rfl))
  exact (Fr.tr h_q1 (Fr.mono (w_f_paths_longestWithoutSum_L11 _ _ _ _ h) rfl))
set_option maxRecDepth 100000 in
theorem w_f_x_never {N : Nat} {σ : Sg} {z : Int32 × Sg} (h : f_x_never N σ = some z) : Fr [(0, some 10), (62, none)] σ z.2 := by
  unfold f_x_never at h
  obtain ⟨q1, e_q1, h⟩ := bind_some_inv h
  have h_q1 : Fr [(0, some 10), (62, none)] _ q1.2 := (Fr.tr Fr.rf (Fr.mono (w_f_x_landTrouble e_q1) rfl))
  obtain ⟨q2, e_q2, h⟩ := bind_some_inv h
  have h_q2 : Fr [(0, some 10), (62, none)] _ q2.2 := (Fr.tr h_q1 (Fr.mono (w_f_x_granted e_q2) rfl))
  rcases ite_some_inv h with h | h
  · obtain ⟨q3, e_q3, h⟩ := bind_some_inv h
    have h_q3 : Fr [(0, some 10), (62, none)] _ q3.2 := (Fr.tr h_q2 (Fr.mono (w_f_paths_longestWithoutSum e_q3) rfl))
    cases h
    exact h_q3
  · cases h
    exact h_q2
set_option maxRecDepth 100000 in
theorem w_f_x_odds {N : Nat} {v1 : Int32} {v2 : Int32} {v3 : Int32} {v4 : Int32} {σ : Sg} {z : Int64 × Sg} (h : f_x_odds N v1 v2 v3 v4 σ = some z) : Fr [(0, some 10), (65, some 0), (65, some 1), (65, some 2), (65, some 3), (65, some 4), (65, some 5)] σ z.2 := by
  unfold f_x_odds at h
  obtain ⟨q1, e_q1, h⟩ := bind_some_inv h
  have h_q1 : Fr [(0, some 10), (65, some 0), (65, some 1), (65, some 2), (65, some 3), (65, some 4), (65, some 5)] _ q1.2 := (Fr.tr Fr.rf (Fr.mono (w_f_x_cellTrouble e_q1) rfl))
  rcases ite_some_inv h with h | h
  · obtain ⟨q2, e_q2, h⟩ := bind_some_inv h
    have h_q2 : Fr [(0, some 10), (65, some 0), (65, some 1), (65, some 2), (65, some 3), (65, some 4), (65, some 5)] _ q2.2 := (Fr.tr h_q1 (Fr.mono (w_f_x_rowTrouble e_q2) rfl))
    obtain ⟨q3, e_q3, h⟩ := bind_some_inv h
    have h_q3 : Fr [(0, some 10), (65, some 0), (65, some 1), (65, some 2), (65, some 3), (65, some 4), (65, some 5)] _ q3.2 := (Fr.tr h_q2 (Fr.mono (w_f_x_granted e_q3) rfl))
    rcases ite_some_inv h with h | h
    · obtain ⟨q4, e_q4, h⟩ := bind_some_inv h
      have h_q4 : Fr [(0, some 10), (65, some 0), (65, some 1), (65, some 2), (65, some 3), (65, some 4), (65, some 5)] _ q4.2 := (Fr.tr h_q3 (Fr.mono (w_f_chances_weigh e_q4) rfl))
      obtain ⟨q5, e_q5, h⟩ := bind_some_inv h
      have h_q5 : Fr [(0, some 10), (65, some 0), (65, some 1), (65, some 2), (65, some 3), (65, some 4), (65, some 5)] _ q5.2 := (Fr.tr h_q4 (Fr.mono (w_f_x_inLowestTerms e_q5) rfl))
      cases h
      exact h_q5
    · cases h
      exact h_q3
  · obtain ⟨q6, e_q6, h⟩ := bind_some_inv h
    have h_q6 : Fr [(0, some 10), (65, some 0), (65, some 1), (65, some 2), (65, some 3), (65, some 4), (65, some 5)] _ q6.2 := (Fr.tr h_q1 (Fr.mono (w_f_x_granted e_q6) rfl))
    rcases ite_some_inv h with h | h
    · obtain ⟨q7, e_q7, h⟩ := bind_some_inv h
      have h_q7 : Fr [(0, some 10), (65, some 0), (65, some 1), (65, some 2), (65, some 3), (65, some 4), (65, some 5)] _ q7.2 := (Fr.tr h_q6 (Fr.mono (w_f_chances_weigh e_q7) rfl))
      obtain ⟨q8, e_q8, h⟩ := bind_some_inv h
      have h_q8 : Fr [(0, some 10), (65, some 0), (65, some 1), (65, some 2), (65, some 3), (65, some 4), (65, some 5)] _ q8.2 := (Fr.tr h_q7 (Fr.mono (w_f_x_inLowestTerms e_q8) rfl))
      cases h
      exact h_q8
    · cases h
      exact h_q6
set_option maxRecDepth 100000 in
theorem w_f_country_partsAll_L2 {N : Nat} : ∀ (n : Nat) (v1 : Int32) (v2 : Int32) (σ : Sg) (z : Bool × Sg), f_country_partsAll_L2 N n v1 v2 σ = some z → Fr [] σ z.2 := by
  intro n
  induction n with
  | zero => intro v1 v2 σ z  h; exact nomatch (show (none : Option (Bool × Sg)) = some z from h)
  | succ n ih =>
    intro v1 v2 σ z  h
    unfold f_country_partsAll_L2 at h
    rcases ite_some_inv h with h | h
    · cases h
      exact Fr.rf
    · rcases ite_some_inv h with h | h
      · cases h
        exact Fr.rf
      · obtain ⟨q1, e_q1, h⟩ := bind_some_inv h
        have h_q1 : Fr [] _ q1.2 := (Fr.tr Fr.rf (Fr.mono (w_f_numbers_at e_q1) rfl))
        rcases ite_some_inv h with h | h
        · cases h
        · rcases ite_some_inv h with h | h
          · exact (Fr.tr h_q1 (ih _ _ _ _ h))
          · cases h
            exact h_q1
set_option maxRecDepth 100000 in
theorem w_f_country_partsAll {N : Nat} {v1 : Int32} {σ : Sg} {z : Bool × Sg} (h : f_country_partsAll N v1 σ = some z) : Fr [] σ z.2 := by
  unfold f_country_partsAll at h
  exact (Fr.tr Fr.rf (Fr.mono (w_f_country_partsAll_L2 _ _ _ _ _ h) rfl))
set_option maxRecDepth 100000 in
theorem w_f_country_strideUnit_L3 {N : Nat} : ∀ (n : Nat) (v1 : Int32) (σ : Sg) (z : Int32 × Sg), f_country_strideUnit_L3 N n v1 σ = some z → Fr [] σ z.2 := by
  intro n
  induction n with
  | zero => intro v1 σ z  h; exact nomatch (show (none : Option (Int32 × Sg)) = some z from h)
  | succ n ih =>
    intro v1 σ z  h
    unfold f_country_strideUnit_L3 at h
    rcases ite_some_inv h with h | h
    · cases h
      exact Fr.rf
    · obtain ⟨q1, e_q1, h⟩ := bind_some_inv h
      have h_q1 : Fr [] _ q1.2 := (Fr.tr Fr.rf (Fr.mono (w_f_country_partsAll e_q1) rfl))
      rcases ite_some_inv h with h | h
      · cases h
        exact h_q1
      · exact (Fr.tr h_q1 (ih _ _ _ h))
set_option maxRecDepth 100000 in
theorem w_f_country_strideUnit {N : Nat} {σ : Sg} {z : Int32 × Sg} (h : f_country_strideUnit N σ = some z) : Fr [] σ z.2 := by
  unfold f_country_strideUnit at h
  exact (Fr.tr Fr.rf (Fr.mono (w_f_country_strideUnit_L3 _ _ _ _ h) rfl))
set_option maxRecDepth 100000 in
theorem w_f_x_over {N : Nat} {v1 : Int32} {σ : Sg} {z : Int32 × Sg} (h : f_x_over N v1 σ = some z) : Fr [(0, some 10)] σ z.2 := by
  unfold f_x_over at h
  obtain ⟨q1, e_q1, h⟩ := bind_some_inv h
  have h_q1 : Fr [(0, some 10)] _ q1.2 := (Fr.tr Fr.rf (Fr.mono (w_f_x_cellTrouble e_q1) rfl))
  obtain ⟨q2, e_q2, h⟩ := bind_some_inv h
  have h_q2 : Fr [(0, some 10)] _ q2.2 := (Fr.tr h_q1 (Fr.mono (w_f_x_granted e_q2) rfl))
  rcases ite_some_inv h with h | h
  · obtain ⟨q3, e_q3, h⟩ := bind_some_inv h
    have h_q3 : Fr [(0, some 10)] _ q3.2 := (Fr.tr h_q2 (Fr.mono (w_f_country_strideUnit e_q3) rfl))
    rcases ite_some_inv h with h | h
    · cases h
      exact h_q3
    · rcases ite_some_inv h with h | h
      · cases h
      · cases h
        exact h_q3
  · cases h
    exact h_q2
set_option maxRecDepth 100000 in
theorem w_f_x_passes {N : Nat} {v1 : Int32} {v2 : Int32} {σ : Sg} {z : Int32 × Sg} (h : f_x_passes N v1 v2 σ = some z) : Fr [(0, some 10)] σ z.2 := by
  unfold f_x_passes at h
  obtain ⟨q1, e_q1, h⟩ := bind_some_inv h
  have h_q1 : Fr [(0, some 10)] _ q1.2 := (Fr.tr Fr.rf (Fr.mono (w_f_x_strideTrouble e_q1) rfl))
  obtain ⟨q2, e_q2, h⟩ := bind_some_inv h
  have h_q2 : Fr [(0, some 10)] _ q2.2 := (Fr.tr h_q1 (Fr.mono (w_f_x_granted e_q2) rfl))
  rcases ite_some_inv h with h | h
  · obtain ⟨q3, e_q3, h⟩ := bind_some_inv h
    have h_q3 : Fr [(0, some 10)] _ q3.2 := (Fr.tr h_q2 (Fr.mono (w_f_x_targetNow e_q3) rfl))
    rcases ite_some_inv h with h | h
    · cases h
      exact h_q3
    · obtain ⟨q4, e_q4, h⟩ := bind_some_inv h
      have h_q4 : Fr [(0, some 10)] _ q4.2 := (Fr.tr h_q3 (Fr.mono (w_f_x_inside e_q4) rfl))
      obtain ⟨q5, e_q5, h⟩ := bind_some_inv h
      have h_q5 : Fr [(0, some 10)] _ q5.2 := (Fr.tr h_q4 (Fr.mono (w_f_state_goneCells e_q5) rfl))
      obtain ⟨q6, e_q6, h⟩ := bind_some_inv h
      have h_q6 : Fr [(0, some 10)] _ q6.2 := (Fr.tr h_q5 (Fr.mono (w_f_jl_bitCount e_q6) rfl))
      cases h
      exact h_q6
  · cases h
    exact h_q2
set_option maxRecDepth 100000 in
theorem w_f_x_place {N : Nat} {v1 : Int32} {v2 : Int32} {σ : Sg} {z : Int32 × Sg} (h : f_x_place N v1 v2 σ = some z) : Fr [(0, some 10)] σ z.2 := by
  unfold f_x_place at h
  rcases ite_some_inv h with h | h
  · obtain ⟨q1, e_q1, h⟩ := bind_some_inv h
    have h_q1 : Fr [(0, some 10)] _ q1.2 := (Fr.tr Fr.rf (Fr.mono (w_f_x_granted e_q1) rfl))
    rcases ite_some_inv h with h | h
    · rcases ite_some_inv h with h | h
      · obtain ⟨q2, e_q2, h⟩ := bind_some_inv h
        have h_q2 : Fr [(0, some 10)] _ q2.2 := (Fr.tr h_q1 (Fr.mono (w_f_numbers_at e_q2) rfl))
        cases h
        exact h_q2
      · rcases ite_some_inv h with h | h
        · obtain ⟨q3, e_q3, h⟩ := bind_some_inv h
          have h_q3 : Fr [(0, some 10)] _ q3.2 := (Fr.tr h_q1 (Fr.mono (w_f_numbers_at e_q3) rfl))
          cases h
          exact h_q3
        · obtain ⟨q4, e_q4, h⟩ := bind_some_inv h
          have h_q4 : Fr [(0, some 10)] _ q4.2 := (Fr.tr h_q1 (Fr.mono (w_f_state_goneCells e_q4) rfl))
          obtain ⟨q5, e_q5, h⟩ := bind_some_inv h
          have h_q5 : Fr [(0, some 10)] _ q5.2 := (Fr.tr h_q4 (Fr.mono (w_f_country_isLost e_q5) rfl))
          rcases ite_some_inv h with h | h
          · cases h
            exact h_q5
          · cases h
            exact h_q5
    · cases h
      exact h_q1
  · rcases ite_some_inv h with h | h
    · obtain ⟨q6, e_q6, h⟩ := bind_some_inv h
      have h_q6 : Fr [(0, some 10)] _ q6.2 := (Fr.tr Fr.rf (Fr.mono (w_f_x_granted e_q6) rfl))
      rcases ite_some_inv h with h | h
      · rcases ite_some_inv h with h | h
        · obtain ⟨q7, e_q7, h⟩ := bind_some_inv h
          have h_q7 : Fr [(0, some 10)] _ q7.2 := (Fr.tr h_q6 (Fr.mono (w_f_numbers_at e_q7) rfl))
          cases h
          exact h_q7
        · rcases ite_some_inv h with h | h
          · obtain ⟨q8, e_q8, h⟩ := bind_some_inv h
            have h_q8 : Fr [(0, some 10)] _ q8.2 := (Fr.tr h_q6 (Fr.mono (w_f_numbers_at e_q8) rfl))
            cases h
            exact h_q8
          · obtain ⟨q9, e_q9, h⟩ := bind_some_inv h
            have h_q9 : Fr [(0, some 10)] _ q9.2 := (Fr.tr h_q6 (Fr.mono (w_f_state_goneCells e_q9) rfl))
            obtain ⟨q10, e_q10, h⟩ := bind_some_inv h
            have h_q10 : Fr [(0, some 10)] _ q10.2 := (Fr.tr h_q9 (Fr.mono (w_f_country_isLost e_q10) rfl))
            rcases ite_some_inv h with h | h
            · cases h
              exact h_q10
            · cases h
              exact h_q10
      · cases h
        exact h_q6
    · rcases ite_some_inv h with h | h
      · obtain ⟨q11, e_q11, h⟩ := bind_some_inv h
        have h_q11 : Fr [(0, some 10)] _ q11.2 := (Fr.tr Fr.rf (Fr.mono (w_f_x_granted e_q11) rfl))
        rcases ite_some_inv h with h | h
        · rcases ite_some_inv h with h | h
          · obtain ⟨q12, e_q12, h⟩ := bind_some_inv h
            have h_q12 : Fr [(0, some 10)] _ q12.2 := (Fr.tr h_q11 (Fr.mono (w_f_numbers_at e_q12) rfl))
            cases h
            exact h_q12
          · rcases ite_some_inv h with h | h
            · obtain ⟨q13, e_q13, h⟩ := bind_some_inv h
              have h_q13 : Fr [(0, some 10)] _ q13.2 := (Fr.tr h_q11 (Fr.mono (w_f_numbers_at e_q13) rfl))
              cases h
              exact h_q13
            · obtain ⟨q14, e_q14, h⟩ := bind_some_inv h
              have h_q14 : Fr [(0, some 10)] _ q14.2 := (Fr.tr h_q11 (Fr.mono (w_f_state_goneCells e_q14) rfl))
              obtain ⟨q15, e_q15, h⟩ := bind_some_inv h
              have h_q15 : Fr [(0, some 10)] _ q15.2 := (Fr.tr h_q14 (Fr.mono (w_f_country_isLost e_q15) rfl))
              rcases ite_some_inv h with h | h
              · cases h
                exact h_q15
              · cases h
                exact h_q15
        · cases h
          exact h_q11
      · rcases ite_some_inv h with h | h
        · obtain ⟨q16, e_q16, h⟩ := bind_some_inv h
          have h_q16 : Fr [(0, some 10)] _ q16.2 := (Fr.tr Fr.rf (Fr.mono (w_f_x_granted e_q16) rfl))
          rcases ite_some_inv h with h | h
          · rcases ite_some_inv h with h | h
            · obtain ⟨q17, e_q17, h⟩ := bind_some_inv h
              have h_q17 : Fr [(0, some 10)] _ q17.2 := (Fr.tr h_q16 (Fr.mono (w_f_numbers_at e_q17) rfl))
              cases h
              exact h_q17
            · rcases ite_some_inv h with h | h
              · obtain ⟨q18, e_q18, h⟩ := bind_some_inv h
                have h_q18 : Fr [(0, some 10)] _ q18.2 := (Fr.tr h_q16 (Fr.mono (w_f_numbers_at e_q18) rfl))
                cases h
                exact h_q18
              · obtain ⟨q19, e_q19, h⟩ := bind_some_inv h
                have h_q19 : Fr [(0, some 10)] _ q19.2 := (Fr.tr h_q16 (Fr.mono (w_f_state_goneCells e_q19) rfl))
                obtain ⟨q20, e_q20, h⟩ := bind_some_inv h
                have h_q20 : Fr [(0, some 10)] _ q20.2 := (Fr.tr h_q19 (Fr.mono (w_f_country_isLost e_q20) rfl))
                rcases ite_some_inv h with h | h
                · cases h
                  exact h_q20
                · cases h
                  exact h_q20
          · cases h
            exact h_q16
        · obtain ⟨q21, e_q21, h⟩ := bind_some_inv h
          have h_q21 : Fr [(0, some 10)] _ q21.2 := (Fr.tr Fr.rf (Fr.mono (w_f_x_granted e_q21) rfl))
          rcases ite_some_inv h with h | h
          · rcases ite_some_inv h with h | h
            · obtain ⟨q22, e_q22, h⟩ := bind_some_inv h
              have h_q22 : Fr [(0, some 10)] _ q22.2 := (Fr.tr h_q21 (Fr.mono (w_f_numbers_at e_q22) rfl))
              cases h
              exact h_q22
            · rcases ite_some_inv h with h | h
              · obtain ⟨q23, e_q23, h⟩ := bind_some_inv h
                have h_q23 : Fr [(0, some 10)] _ q23.2 := (Fr.tr h_q21 (Fr.mono (w_f_numbers_at e_q23) rfl))
                cases h
                exact h_q23
              · obtain ⟨q24, e_q24, h⟩ := bind_some_inv h
                have h_q24 : Fr [(0, some 10)] _ q24.2 := (Fr.tr h_q21 (Fr.mono (w_f_state_goneCells e_q24) rfl))
                obtain ⟨q25, e_q25, h⟩ := bind_some_inv h
                have h_q25 : Fr [(0, some 10)] _ q25.2 := (Fr.tr h_q24 (Fr.mono (w_f_country_isLost e_q25) rfl))
                rcases ite_some_inv h with h | h
                · cases h
                  exact h_q25
                · cases h
                  exact h_q25
          · cases h
            exact h_q21
set_option maxRecDepth 100000 in
theorem w_f_paths_reached_L5 {N : Nat} : ∀ (n : Nat) (v1 : Int32) (v2 : Int64) (v4 : Int32) (σ : Sg) (z : Int64 × Sg), f_paths_reached_L5 N n v1 v2 v4 σ = some z → Fr [] σ z.2 := by
  intro n
  induction n with
  | zero => intro v1 v2 v4 σ z  h; exact nomatch (show (none : Option (Int64 × Sg)) = some z from h)
  | succ n ih =>
    intro v1 v2 v4 σ z  h
    unfold f_paths_reached_L5 at h
    rcases ite_some_inv h with h | h
    · cases h
      exact Fr.rf
    · rcases ite_some_inv h with h | h
      · cases h
        exact Fr.rf
      · rcases ite_some_inv h with h | h
        · exact (Fr.tr Fr.rf (ih _ _ _ _ _ h))
        · cases h
set_option maxRecDepth 100000 in
theorem w_f_paths_reached {N : Nat} {v1 : Int32} {σ : Sg} {z : Int64 × Sg} (h : f_paths_reached N v1 σ = some z) : Fr [] σ z.2 := by
  unfold f_paths_reached at h
  exact (Fr.tr Fr.rf (Fr.mono (w_f_paths_reached_L5 _ _ _ _ _ _ h) rfl))
set_option maxRecDepth 100000 in
theorem w_f_x_reach {N : Nat} {v1 : Int32} {σ : Sg} {z : Int32 × Sg} (h : f_x_reach N v1 σ = some z) : Fr [(0, some 10), (55, some 7), (55, some 8), (55, some 9), (55, some 10), (55, some 11), (56, none), (57, none), (58, none), (59, none), (60, none), (61, none)] σ z.2 := by
  unfold f_x_reach at h
  obtain ⟨q1, e_q1, h⟩ := bind_some_inv h
  have h_q1 : Fr [(0, some 10), (55, some 7), (55, some 8), (55, some 9), (55, some 10), (55, some 11), (56, none), (57, none), (58, none), (59, none), (60, none), (61, none)] _ q1.2 := (Fr.tr Fr.rf (Fr.mono (w_f_x_numberTrouble e_q1) rfl))
  obtain ⟨q2, e_q2, h⟩ := bind_some_inv h
  have h_q2 : Fr [(0, some 10), (55, some 7), (55, some 8), (55, some 9), (55, some 10), (55, some 11), (56, none), (57, none), (58, none), (59, none), (60, none), (61, none)] _ q2.2 := (Fr.tr h_q1 (Fr.mono (w_f_x_granted e_q2) rfl))
  rcases ite_some_inv h with h | h
  · obtain ⟨q3, e_q3, h⟩ := bind_some_inv h
    have h_q3 : Fr [(0, some 10), (55, some 7), (55, some 8), (55, some 9), (55, some 10), (55, some 11), (56, none), (57, none), (58, none), (59, none), (60, none), (61, none)] _ q3.2 := (Fr.tr h_q2 (Fr.mono (w_f_x_knownPaths e_q3) rfl))
    obtain ⟨q4, e_q4, h⟩ := bind_some_inv h
    have h_q4 : Fr [(0, some 10), (55, some 7), (55, some 8), (55, some 9), (55, some 10), (55, some 11), (56, none), (57, none), (58, none), (59, none), (60, none), (61, none)] _ q4.2 := (Fr.tr h_q3 (Fr.mono (w_f_paths_reached e_q4) rfl))
    cases h
    exact h_q4
  · cases h
    exact h_q2
set_option maxRecDepth 100000 in
theorem w_f_x_isRest {N : Nat} {v0 : Int32} {v1 : Int32} {v2 : Int32} {σ : Sg} {z : Bool × Sg} (h : f_x_isRest N v0 v1 v2 σ = some z) : Fr [] σ z.2 := by
  unfold f_x_isRest at h
  obtain ⟨q1, e_q1, h⟩ := bind_some_inv h
  have h_q1 : Fr [] _ q1.2 := (Fr.tr Fr.rf (Fr.mono (w_f_x_shareOf e_q1) rfl))
  obtain ⟨q2, e_q2, h⟩ := bind_some_inv h
  have h_q2 : Fr [] _ q2.2 := (Fr.tr h_q1 (Fr.mono (w_f_x_shareOf e_q2) rfl))
  rcases ite_some_inv h with h | h
  · cases h
    exact h_q2
  · obtain ⟨q3, e_q3, h⟩ := bind_some_inv h
    have h_q3 : Fr [] _ q3.2 := (Fr.tr h_q2 (Fr.mono (w_f_x_shareOf e_q3) rfl))
    obtain ⟨q4, e_q4, h⟩ := bind_some_inv h
    have h_q4 : Fr [] _ q4.2 := (Fr.tr h_q3 (Fr.mono (w_f_x_shareOf e_q4) rfl))
    rcases ite_some_inv h with h | h
    · cases h
      exact h_q4
    · cases h
      exact h_q4
set_option maxRecDepth 100000 in
theorem w_f_x_rest_L18 {N : Nat} : ∀ (n : Nat) (v1 : Int32) (v2 : Int32) (σ : Sg) (z : Int32 × Sg), f_x_rest_L18 N n v1 v2 σ = some z → Fr [] σ z.2 := by
  intro n
  induction n with
  | zero => intro v1 v2 σ z  h; exact nomatch (show (none : Option (Int32 × Sg)) = some z from h)
  | succ n ih =>
    intro v1 v2 σ z  h
    unfold f_x_rest_L18 at h
    rcases ite_some_inv h with h | h
    · cases h
      exact Fr.rf
    · obtain ⟨q3, e_q3, h⟩ := bind_some_inv h
      have h_q3 : Fr [] _ q3.2 := (Fr.tr Fr.rf (Fr.mono (w_f_x_isRest e_q3) rfl))
      rcases ite_some_inv h with h | h
      · rcases ite_some_inv h with h | h
        · cases h
          exact h_q3
        · cases h
          exact h_q3
      · exact (Fr.tr h_q3 (ih _ _ _ _ h))
set_option maxRecDepth 100000 in
theorem w_f_x_rest {N : Nat} {v1 : Int32} {σ : Sg} {z : Int32 × Sg} (h : f_x_rest N v1 σ = some z) : Fr [(0, some 10)] σ z.2 := by
  unfold f_x_rest at h
  obtain ⟨q1, e_q1, h⟩ := bind_some_inv h
  have h_q1 : Fr [(0, some 10)] _ q1.2 := (Fr.tr Fr.rf (Fr.mono (w_f_x_numberTrouble e_q1) rfl))
  obtain ⟨q2, e_q2, h⟩ := bind_some_inv h
  have h_q2 : Fr [(0, some 10)] _ q2.2 := (Fr.tr h_q1 (Fr.mono (w_f_x_granted e_q2) rfl))
  rcases ite_some_inv h with h | h
  · exact (Fr.tr h_q2 (Fr.mono (w_f_x_rest_L18 _ _ _ _ _ h) rfl))
  · cases h
    exact h_q2
set_option maxRecDepth 100000 in
theorem w_f_x_rests_L20 {N : Nat} : ∀ (n : Nat) (v1 : Int32) (v2 : Int32) (v3 : Int32) (σ : Sg) (z : Int32 × Sg), f_x_rests_L20 N n v1 v2 v3 σ = some z → Fr [] σ z.2 := by
  intro n
  induction n with
  | zero => intro v1 v2 v3 σ z  h; exact nomatch (show (none : Option (Int32 × Sg)) = some z from h)
  | succ n ih =>
    intro v1 v2 v3 σ z  h
    unfold f_x_rests_L20 at h
    rcases ite_some_inv h with h | h
    · cases h
      exact Fr.rf
    · obtain ⟨q3, e_q3, h⟩ := bind_some_inv h
      have h_q3 : Fr [] _ q3.2 := (Fr.tr Fr.rf (Fr.mono (w_f_x_isRest e_q3) rfl))
      rcases ite_some_inv h with h | h
      · exact (Fr.tr h_q3 (ih _ _ _ _ _ h))
      · exact (Fr.tr h_q3 (ih _ _ _ _ _ h))
set_option maxRecDepth 100000 in
theorem w_f_x_rests {N : Nat} {v1 : Int32} {σ : Sg} {z : Int32 × Sg} (h : f_x_rests N v1 σ = some z) : Fr [(0, some 10)] σ z.2 := by
  unfold f_x_rests at h
  obtain ⟨q1, e_q1, h⟩ := bind_some_inv h
  have h_q1 : Fr [(0, some 10)] _ q1.2 := (Fr.tr Fr.rf (Fr.mono (w_f_x_numberTrouble e_q1) rfl))
  obtain ⟨q2, e_q2, h⟩ := bind_some_inv h
  have h_q2 : Fr [(0, some 10)] _ q2.2 := (Fr.tr h_q1 (Fr.mono (w_f_x_granted e_q2) rfl))
  rcases ite_some_inv h with h | h
  · exact (Fr.tr h_q2 (Fr.mono (w_f_x_rests_L20 _ _ _ _ _ _ h) rfl))
  · cases h
    exact h_q2
set_option maxRecDepth 100000 in
theorem w_f_x_makeRow_L13 {N : Nat} : ∀ (n : Nat) (v1 : Int32) (v2 : Int32) (v3 : Int32) (σ : Sg) (z : Bool × Sg), f_x_makeRow_L13 N n v1 v2 v3 σ = some z → Fr [(41, some 0), (41, some 1), (41, some 2)] σ z.2 := by
  intro n
  induction n with
  | zero => intro v1 v2 v3 σ z  h; exact nomatch (show (none : Option (Bool × Sg)) = some z from h)
  | succ n ih =>
    intro v1 v2 v3 σ z  h
    unfold f_x_makeRow_L13 at h
    rcases ite_some_inv h with h | h
    · cases h
      exact Fr.rf
    · obtain ⟨q2, e_q2, h⟩ := bind_some_inv h
      have h_q2 : Fr [(41, some 0), (41, some 1), (41, some 2)] _ q2.2 := (Fr.tr Fr.rf (Fr.mono (w_f_x_digitOf e_q2) rfl))
      obtain ⟨q3, e_q3, h⟩ := bind_some_inv h
      have h_q3 : Fr [(41, some 0), (41, some 1), (41, some 2)] _ q3.2 := (Fr.tr h_q2 (Fr.mono (w_f_state_makeStride e_q3) rfl))
      rcases ite_some_inv h with h | h
      · exact (Fr.tr h_q3 (ih _ _ _ _ _ h))
      · cases h
        exact h_q3
set_option maxRecDepth 100000 in
theorem w_f_x_makeRow {N : Nat} {v1 : Int32} {v2 : Int32} {σ : Sg} {z : Bool × Sg} (h : f_x_makeRow N v1 v2 σ = some z) : Fr [(41, some 0), (41, some 1), (41, some 2), (41, some 3), (41, some 4)] σ z.2 := by
  unfold f_x_makeRow at h
  obtain ⟨q1, e_q1, h⟩ := bind_some_inv h
  have h_q1 : Fr [(41, some 0), (41, some 1), (41, some 2), (41, some 3), (41, some 4)] _ q1.2 := (Fr.tr Fr.rf (Fr.mono (w_f_state_copy e_q1) rfl))
  exact (Fr.tr h_q1 (Fr.mono (w_f_x_makeRow_L13 _ _ _ _ _ _ h) rfl))
set_option maxRecDepth 100000 in
theorem w_f_x_rowLeads {N : Nat} {v1 : Int32} {v2 : Int32} {σ : Sg} {z : Int32 × Sg} (h : f_x_rowLeads N v1 v2 σ = some z) : Fr [(0, some 10), (41, some 0), (41, some 1), (41, some 2), (41, some 3), (41, some 4)] σ z.2 := by
  unfold f_x_rowLeads at h
  obtain ⟨q1, e_q1, h⟩ := bind_some_inv h
  have h_q1 : Fr [(0, some 10), (41, some 0), (41, some 1), (41, some 2), (41, some 3), (41, some 4)] _ q1.2 := (Fr.tr Fr.rf (Fr.mono (w_f_x_rowTrouble e_q1) rfl))
  obtain ⟨q2, e_q2, h⟩ := bind_some_inv h
  have h_q2 : Fr [(0, some 10), (41, some 0), (41, some 1), (41, some 2), (41, some 3), (41, some 4)] _ q2.2 := (Fr.tr h_q1 (Fr.mono (w_f_x_granted e_q2) rfl))
  rcases ite_some_inv h with h | h
  · obtain ⟨q3, e_q3, h⟩ := bind_some_inv h
    have h_q3 : Fr [(0, some 10), (41, some 0), (41, some 1), (41, some 2), (41, some 3), (41, some 4)] _ q3.2 := (Fr.tr h_q2 (Fr.mono (w_f_x_makeRow e_q3) rfl))
    rcases ite_some_inv h with h | h
    · cases h
      exact h_q3
    · cases h
      exact h_q3
  · cases h
    exact h_q2
set_option maxRecDepth 100000 in
theorem w_f_x_rowLost {N : Nat} {v1 : Int32} {v2 : Int32} {σ : Sg} {z : Int32 × Sg} (h : f_x_rowLost N v1 v2 σ = some z) : Fr [(0, some 10), (41, some 0), (41, some 1), (41, some 2), (41, some 3), (41, some 4)] σ z.2 := by
  unfold f_x_rowLost at h
  obtain ⟨q1, e_q1, h⟩ := bind_some_inv h
  have h_q1 : Fr [(0, some 10), (41, some 0), (41, some 1), (41, some 2), (41, some 3), (41, some 4)] _ q1.2 := (Fr.tr Fr.rf (Fr.mono (w_f_x_rowTrouble e_q1) rfl))
  obtain ⟨q2, e_q2, h⟩ := bind_some_inv h
  have h_q2 : Fr [(0, some 10), (41, some 0), (41, some 1), (41, some 2), (41, some 3), (41, some 4)] _ q2.2 := (Fr.tr h_q1 (Fr.mono (w_f_x_granted e_q2) rfl))
  rcases ite_some_inv h with h | h
  · obtain ⟨q3, e_q3, h⟩ := bind_some_inv h
    have h_q3 : Fr [(0, some 10), (41, some 0), (41, some 1), (41, some 2), (41, some 3), (41, some 4)] _ q3.2 := (Fr.tr h_q2 (Fr.mono (w_f_x_makeRow e_q3) rfl))
    rcases ite_some_inv h with h | h
    · obtain ⟨q4, e_q4, h⟩ := bind_some_inv h
      have h_q4 : Fr [(0, some 10), (41, some 0), (41, some 1), (41, some 2), (41, some 3), (41, some 4)] _ q4.2 := (Fr.tr h_q3 (Fr.mono (w_f_state_goneCells e_q4) rfl))
      obtain ⟨q5, e_q5, h⟩ := bind_some_inv h
      have h_q5 : Fr [(0, some 10), (41, some 0), (41, some 1), (41, some 2), (41, some 3), (41, some 4)] _ q5.2 := (Fr.tr h_q4 (Fr.mono (w_f_country_lostFolk e_q5) rfl))
      cases h
      exact h_q5
    · cases h
      exact h_q3
  · cases h
    exact h_q2
set_option maxRecDepth 100000 in
theorem w_f_x_size {N : Nat} {v1 : Int32} {σ : Sg} {z : Int32 × Sg} (h : f_x_size N v1 σ = some z) : Fr [] σ z.2 := by
  unfold f_x_size at h
  rcases ite_some_inv h with h | h
  · cases h
    exact Fr.rf
  · rcases ite_some_inv h with h | h
    · cases h
      exact Fr.rf
    · rcases ite_some_inv h with h | h
      · cases h
        exact Fr.rf
      · rcases ite_some_inv h with h | h
        · cases h
          exact Fr.rf
        · rcases ite_some_inv h with h | h
          · cases h
            exact Fr.rf
          · rcases ite_some_inv h with h | h
            · cases h
              exact Fr.rf
            · rcases ite_some_inv h with h | h
              · cases h
                exact Fr.rf
              · rcases ite_some_inv h with h | h
                · cases h
                  exact Fr.rf
                · rcases ite_some_inv h with h | h
                  · cases h
                    exact Fr.rf
                  · rcases ite_some_inv h with h | h
                    · cases h
                      exact Fr.rf
                    · rcases ite_some_inv h with h | h
                      · cases h
                        exact Fr.rf
                      · cases h
                        exact Fr.rf
set_option maxRecDepth 100000 in
theorem w_f_x_son {N : Nat} {σ : Sg} {z : Int32 × Sg} (h : f_x_son N σ = some z) : Fr [(0, some 10)] σ z.2 := by
  unfold f_x_son at h
  obtain ⟨q1, e_q1, h⟩ := bind_some_inv h
  have h_q1 : Fr [(0, some 10)] _ q1.2 := (Fr.tr Fr.rf (Fr.mono (w_f_x_landTrouble e_q1) rfl))
  obtain ⟨q2, e_q2, h⟩ := bind_some_inv h
  have h_q2 : Fr [(0, some 10)] _ q2.2 := (Fr.tr h_q1 (Fr.mono (w_f_x_granted e_q2) rfl))
  rcases ite_some_inv h with h | h
  · cases h
    exact h_q2
  · cases h
    exact h_q2
set_option maxRecDepth 100000 in
theorem w_f_paths_spareLost {N : Nat} {v1 : Int32} {σ : Sg} {z : Int32 × Sg} (h : f_paths_spareLost N v1 σ = some z) : Fr [] σ z.2 := by
  unfold f_paths_spareLost at h
  obtain ⟨q1, e_q1, h⟩ := bind_some_inv h
  have h_q1 : Fr [] _ q1.2 := (Fr.tr Fr.rf (Fr.mono (w_f_paths_get e_q1) rfl))
  cases h
  exact h_q1
set_option maxRecDepth 100000 in
theorem w_f_x_spare {N : Nat} {v1 : Int32} {σ : Sg} {z : Int32 × Sg} (h : f_x_spare N v1 σ = some z) : Fr [(0, some 10), (55, some 7), (55, some 8), (55, some 9), (55, some 10), (55, some 11), (56, none), (57, none), (58, none), (59, none), (60, none), (61, none)] σ z.2 := by
  unfold f_x_spare at h
  obtain ⟨q1, e_q1, h⟩ := bind_some_inv h
  have h_q1 : Fr [(0, some 10), (55, some 7), (55, some 8), (55, some 9), (55, some 10), (55, some 11), (56, none), (57, none), (58, none), (59, none), (60, none), (61, none)] _ q1.2 := (Fr.tr Fr.rf (Fr.mono (w_f_x_cellTrouble e_q1) rfl))
  obtain ⟨q2, e_q2, h⟩ := bind_some_inv h
  have h_q2 : Fr [(0, some 10), (55, some 7), (55, some 8), (55, some 9), (55, some 10), (55, some 11), (56, none), (57, none), (58, none), (59, none), (60, none), (61, none)] _ q2.2 := (Fr.tr h_q1 (Fr.mono (w_f_x_granted e_q2) rfl))
  rcases ite_some_inv h with h | h
  · obtain ⟨q3, e_q3, h⟩ := bind_some_inv h
    have h_q3 : Fr [(0, some 10), (55, some 7), (55, some 8), (55, some 9), (55, some 10), (55, some 11), (56, none), (57, none), (58, none), (59, none), (60, none), (61, none)] _ q3.2 := (Fr.tr h_q2 (Fr.mono (w_f_x_knownPaths e_q3) rfl))
    obtain ⟨q4, e_q4, h⟩ := bind_some_inv h
    have h_q4 : Fr [(0, some 10), (55, some 7), (55, some 8), (55, some 9), (55, some 10), (55, some 11), (56, none), (57, none), (58, none), (59, none), (60, none), (61, none)] _ q4.2 := (Fr.tr h_q3 (Fr.mono (w_f_paths_spareLost e_q4) rfl))
    cases h
    exact h_q4
  · cases h
    exact h_q2
set_option maxRecDepth 100000 in
theorem w_f_paths_sparingRow {N : Nat} {v1 : Int32} {σ : Sg} {z : Int32 × Sg} (h : f_paths_sparingRow N v1 σ = some z) : Fr [] σ z.2 := by
  unfold f_paths_sparingRow at h
  obtain ⟨q1, e_q1, h⟩ := bind_some_inv h
  have h_q1 : Fr [] _ q1.2 := (Fr.tr Fr.rf (Fr.mono (w_f_paths_get e_q1) rfl))
  cases h
  exact h_q1
set_option maxRecDepth 100000 in
theorem w_f_x_spareRow {N : Nat} {v1 : Int32} {σ : Sg} {z : Int32 × Sg} (h : f_x_spareRow N v1 σ = some z) : Fr [(0, some 10), (55, some 7), (55, some 8), (55, some 9), (55, some 10), (55, some 11), (56, none), (57, none), (58, none), (59, none), (60, none), (61, none)] σ z.2 := by
  unfold f_x_spareRow at h
  obtain ⟨q1, e_q1, h⟩ := bind_some_inv h
  have h_q1 : Fr [(0, some 10), (55, some 7), (55, some 8), (55, some 9), (55, some 10), (55, some 11), (56, none), (57, none), (58, none), (59, none), (60, none), (61, none)] _ q1.2 := (Fr.tr Fr.rf (Fr.mono (w_f_x_cellTrouble e_q1) rfl))
  obtain ⟨q2, e_q2, h⟩ := bind_some_inv h
  have h_q2 : Fr [(0, some 10), (55, some 7), (55, some 8), (55, some 9), (55, some 10), (55, some 11), (56, none), (57, none), (58, none), (59, none), (60, none), (61, none)] _ q2.2 := (Fr.tr h_q1 (Fr.mono (w_f_x_granted e_q2) rfl))
  rcases ite_some_inv h with h | h
  · obtain ⟨q3, e_q3, h⟩ := bind_some_inv h
    have h_q3 : Fr [(0, some 10), (55, some 7), (55, some 8), (55, some 9), (55, some 10), (55, some 11), (56, none), (57, none), (58, none), (59, none), (60, none), (61, none)] _ q3.2 := (Fr.tr h_q2 (Fr.mono (w_f_x_knownPaths e_q3) rfl))
    obtain ⟨q4, e_q4, h⟩ := bind_some_inv h
    have h_q4 : Fr [(0, some 10), (55, some 7), (55, some 8), (55, some 9), (55, some 10), (55, some 11), (56, none), (57, none), (58, none), (59, none), (60, none), (61, none)] _ q4.2 := (Fr.tr h_q3 (Fr.mono (w_f_paths_sparingRow e_q4) rfl))
    cases h
    exact h_q4
  · cases h
    exact h_q2
set_option maxRecDepth 100000 in
theorem w_f_state_stepTo {N : Nat} {a0 : Nat} {v1 : Int32} {σ : Sg} {z : Unit × Sg} (h : f_state_stepTo N a0 v1 σ = some z) : Fr [(a0, some 0), (a0, some 1), (a0, some 3)] σ z.2 := by
  unfold f_state_stepTo at h
  obtain ⟨q1, e_q1, h⟩ := bind_some_inv h
  have h_q1 : Fr [(a0, some 0), (a0, some 1), (a0, some 3)] _ q1.2 := (Fr.tr (Fr.wI Fr.rf (by simp)) (Fr.mono (w_f_state_goneCells e_q1) rfl))
  obtain ⟨q2, e_q2, h⟩ := bind_some_inv h
  have h_q2 : Fr [(a0, some 0), (a0, some 1), (a0, some 3)] _ q2.2 := (Fr.tr h_q1 (Fr.mono (w_f_x_span e_q2) rfl))
  obtain ⟨q3, e_q3, h⟩ := bind_some_inv h
  have h_q3 : Fr [(a0, some 0), (a0, some 1), (a0, some 3)] _ q3.2 := (Fr.tr h_q2 (Fr.monoP (w_f_state_lessen e_q3) (by simp)))
  cases h
  exact h_q3
set_option maxRecDepth 100000 in
theorem w_f_x_step {N : Nat} {v1 : Int32} {σ : Sg} {z : Int32 × Sg} (h : f_x_step N v1 σ = some z) : Fr [(0, some 10), (40, some 0), (40, some 1), (40, some 3), (42, some 1), (42, some 2), (44, none), (45, none), (46, none), (47, none), (48, none)] σ z.2 := by
  unfold f_x_step at h
  obtain ⟨q1, e_q1, h⟩ := bind_some_inv h
  have h_q1 : Fr [(0, some 10), (40, some 0), (40, some 1), (40, some 3), (42, some 1), (42, some 2), (44, none), (45, none), (46, none), (47, none), (48, none)] _ q1.2 := (Fr.tr Fr.rf (Fr.mono (w_f_x_landTrouble e_q1) rfl))
  rcases ite_some_inv h with h | h
  · obtain ⟨q2, e_q2, h⟩ := bind_some_inv h
    have h_q2 : Fr [(0, some 10), (40, some 0), (40, some 1), (40, some 3), (42, some 1), (42, some 2), (44, none), (45, none), (46, none), (47, none), (48, none)] _ q2.2 := (Fr.tr h_q1 (Fr.mono (w_f_x_wayTrouble e_q2) rfl))
    obtain ⟨q3, e_q3, h⟩ := bind_some_inv h
    have h_q3 : Fr [(0, some 10), (40, some 0), (40, some 1), (40, some 3), (42, some 1), (42, some 2), (44, none), (45, none), (46, none), (47, none), (48, none)] _ q3.2 := (Fr.tr h_q2 (Fr.mono (w_f_x_granted e_q3) rfl))
    rcases ite_some_inv h with h | h
    · rcases ite_some_inv h with h | h
      · rcases ite_some_inv h with h | h
        · obtain ⟨q13, e_q13, h⟩ := bind_some_inv h
          have h_q13 : Fr [(0, some 10), (40, some 0), (40, some 1), (40, some 3), (42, some 1), (42, some 2), (44, none), (45, none), (46, none), (47, none), (48, none)] _ q13.2 := (Fr.tr h_q3 (Fr.mono (w_f_x_granted e_q13) rfl))
          rcases ite_some_inv h with h | h
          · obtain ⟨q14, e_q14, h⟩ := bind_some_inv h
            have h_q14 : Fr [(0, some 10), (40, some 0), (40, some 1), (40, some 3), (42, some 1), (42, some 2), (44, none), (45, none), (46, none), (47, none), (48, none)] _ q14.2 := (Fr.tr h_q13 (Fr.mono (w_f_history_keep e_q14) rfl))
            obtain ⟨q15, e_q15, h⟩ := bind_some_inv h
            have h_q15 : Fr [(0, some 10), (40, some 0), (40, some 1), (40, some 3), (42, some 1), (42, some 2), (44, none), (45, none), (46, none), (47, none), (48, none)] _ q15.2 := (Fr.tr h_q14 (Fr.mono (w_f_state_stepTo e_q15) rfl))
            cases h
            exact h_q15
          · cases h
            exact h_q13
        · rcases ite_some_inv h with h | h
          · obtain ⟨q16, e_q16, h⟩ := bind_some_inv h
            have h_q16 : Fr [(0, some 10), (40, some 0), (40, some 1), (40, some 3), (42, some 1), (42, some 2), (44, none), (45, none), (46, none), (47, none), (48, none)] _ q16.2 := (Fr.tr h_q3 (Fr.mono (w_f_x_granted e_q16) rfl))
            rcases ite_some_inv h with h | h
            · obtain ⟨q17, e_q17, h⟩ := bind_some_inv h
              have h_q17 : Fr [(0, some 10), (40, some 0), (40, some 1), (40, some 3), (42, some 1), (42, some 2), (44, none), (45, none), (46, none), (47, none), (48, none)] _ q17.2 := (Fr.tr h_q16 (Fr.mono (w_f_history_keep e_q17) rfl))
              obtain ⟨q18, e_q18, h⟩ := bind_some_inv h
              have h_q18 : Fr [(0, some 10), (40, some 0), (40, some 1), (40, some 3), (42, some 1), (42, some 2), (44, none), (45, none), (46, none), (47, none), (48, none)] _ q18.2 := (Fr.tr h_q17 (Fr.mono (w_f_state_stepTo e_q18) rfl))
              cases h
              exact h_q18
            · cases h
              exact h_q16
          · obtain ⟨q19, e_q19, h⟩ := bind_some_inv h
            have h_q19 : Fr [(0, some 10), (40, some 0), (40, some 1), (40, some 3), (42, some 1), (42, some 2), (44, none), (45, none), (46, none), (47, none), (48, none)] _ q19.2 := (Fr.tr h_q3 (Fr.mono (w_f_x_granted e_q19) rfl))
            rcases ite_some_inv h with h | h
            · obtain ⟨q20, e_q20, h⟩ := bind_some_inv h
              have h_q20 : Fr [(0, some 10), (40, some 0), (40, some 1), (40, some 3), (42, some 1), (42, some 2), (44, none), (45, none), (46, none), (47, none), (48, none)] _ q20.2 := (Fr.tr h_q19 (Fr.mono (w_f_history_keep e_q20) rfl))
              obtain ⟨q21, e_q21, h⟩ := bind_some_inv h
              have h_q21 : Fr [(0, some 10), (40, some 0), (40, some 1), (40, some 3), (42, some 1), (42, some 2), (44, none), (45, none), (46, none), (47, none), (48, none)] _ q21.2 := (Fr.tr h_q20 (Fr.mono (w_f_state_stepTo e_q21) rfl))
              cases h
              exact h_q21
            · cases h
              exact h_q19
      · rcases ite_some_inv h with h | h
        · obtain ⟨q4, e_q4, h⟩ := bind_some_inv h
          have h_q4 : Fr [(0, some 10), (40, some 0), (40, some 1), (40, some 3), (42, some 1), (42, some 2), (44, none), (45, none), (46, none), (47, none), (48, none)] _ q4.2 := (Fr.tr h_q3 (Fr.mono (w_f_x_granted e_q4) rfl))
          rcases ite_some_inv h with h | h
          · obtain ⟨q5, e_q5, h⟩ := bind_some_inv h
            have h_q5 : Fr [(0, some 10), (40, some 0), (40, some 1), (40, some 3), (42, some 1), (42, some 2), (44, none), (45, none), (46, none), (47, none), (48, none)] _ q5.2 := (Fr.tr h_q4 (Fr.mono (w_f_history_keep e_q5) rfl))
            obtain ⟨q6, e_q6, h⟩ := bind_some_inv h
            have h_q6 : Fr [(0, some 10), (40, some 0), (40, some 1), (40, some 3), (42, some 1), (42, some 2), (44, none), (45, none), (46, none), (47, none), (48, none)] _ q6.2 := (Fr.tr h_q5 (Fr.mono (w_f_state_stepTo e_q6) rfl))
            cases h
            exact h_q6
          · cases h
            exact h_q4
        · rcases ite_some_inv h with h | h
          · obtain ⟨q7, e_q7, h⟩ := bind_some_inv h
            have h_q7 : Fr [(0, some 10), (40, some 0), (40, some 1), (40, some 3), (42, some 1), (42, some 2), (44, none), (45, none), (46, none), (47, none), (48, none)] _ q7.2 := (Fr.tr h_q3 (Fr.mono (w_f_x_granted e_q7) rfl))
            rcases ite_some_inv h with h | h
            · obtain ⟨q8, e_q8, h⟩ := bind_some_inv h
              have h_q8 : Fr [(0, some 10), (40, some 0), (40, some 1), (40, some 3), (42, some 1), (42, some 2), (44, none), (45, none), (46, none), (47, none), (48, none)] _ q8.2 := (Fr.tr h_q7 (Fr.mono (w_f_history_keep e_q8) rfl))
              obtain ⟨q9, e_q9, h⟩ := bind_some_inv h
              have h_q9 : Fr [(0, some 10), (40, some 0), (40, some 1), (40, some 3), (42, some 1), (42, some 2), (44, none), (45, none), (46, none), (47, none), (48, none)] _ q9.2 := (Fr.tr h_q8 (Fr.mono (w_f_state_stepTo e_q9) rfl))
              cases h
              exact h_q9
            · cases h
              exact h_q7
          · obtain ⟨q10, e_q10, h⟩ := bind_some_inv h
            have h_q10 : Fr [(0, some 10), (40, some 0), (40, some 1), (40, some 3), (42, some 1), (42, some 2), (44, none), (45, none), (46, none), (47, none), (48, none)] _ q10.2 := (Fr.tr h_q3 (Fr.mono (w_f_x_granted e_q10) rfl))
            rcases ite_some_inv h with h | h
            · obtain ⟨q11, e_q11, h⟩ := bind_some_inv h
              have h_q11 : Fr [(0, some 10), (40, some 0), (40, some 1), (40, some 3), (42, some 1), (42, some 2), (44, none), (45, none), (46, none), (47, none), (48, none)] _ q11.2 := (Fr.tr h_q10 (Fr.mono (w_f_history_keep e_q11) rfl))
              obtain ⟨q12, e_q12, h⟩ := bind_some_inv h
              have h_q12 : Fr [(0, some 10), (40, some 0), (40, some 1), (40, some 3), (42, some 1), (42, some 2), (44, none), (45, none), (46, none), (47, none), (48, none)] _ q12.2 := (Fr.tr h_q11 (Fr.mono (w_f_state_stepTo e_q12) rfl))
              cases h
              exact h_q12
            · cases h
              exact h_q10
    · cases h
      exact h_q3
  · obtain ⟨q22, e_q22, h⟩ := bind_some_inv h
    have h_q22 : Fr [(0, some 10), (40, some 0), (40, some 1), (40, some 3), (42, some 1), (42, some 2), (44, none), (45, none), (46, none), (47, none), (48, none)] _ q22.2 := (Fr.tr h_q1 (Fr.mono (w_f_x_granted e_q22) rfl))
    rcases ite_some_inv h with h | h
    · rcases ite_some_inv h with h | h
      · rcases ite_some_inv h with h | h
        · obtain ⟨q32, e_q32, h⟩ := bind_some_inv h
          have h_q32 : Fr [(0, some 10), (40, some 0), (40, some 1), (40, some 3), (42, some 1), (42, some 2), (44, none), (45, none), (46, none), (47, none), (48, none)] _ q32.2 := (Fr.tr h_q22 (Fr.mono (w_f_x_granted e_q32) rfl))
          rcases ite_some_inv h with h | h
          · obtain ⟨q33, e_q33, h⟩ := bind_some_inv h
            have h_q33 : Fr [(0, some 10), (40, some 0), (40, some 1), (40, some 3), (42, some 1), (42, some 2), (44, none), (45, none), (46, none), (47, none), (48, none)] _ q33.2 := (Fr.tr h_q32 (Fr.mono (w_f_history_keep e_q33) rfl))
            obtain ⟨q34, e_q34, h⟩ := bind_some_inv h
            have h_q34 : Fr [(0, some 10), (40, some 0), (40, some 1), (40, some 3), (42, some 1), (42, some 2), (44, none), (45, none), (46, none), (47, none), (48, none)] _ q34.2 := (Fr.tr h_q33 (Fr.mono (w_f_state_stepTo e_q34) rfl))
            cases h
            exact h_q34
          · cases h
            exact h_q32
        · rcases ite_some_inv h with h | h
          · obtain ⟨q35, e_q35, h⟩ := bind_some_inv h
            have h_q35 : Fr [(0, some 10), (40, some 0), (40, some 1), (40, some 3), (42, some 1), (42, some 2), (44, none), (45, none), (46, none), (47, none), (48, none)] _ q35.2 := (Fr.tr h_q22 (Fr.mono (w_f_x_granted e_q35) rfl))
            rcases ite_some_inv h with h | h
            · obtain ⟨q36, e_q36, h⟩ := bind_some_inv h
              have h_q36 : Fr [(0, some 10), (40, some 0), (40, some 1), (40, some 3), (42, some 1), (42, some 2), (44, none), (45, none), (46, none), (47, none), (48, none)] _ q36.2 := (Fr.tr h_q35 (Fr.mono (w_f_history_keep e_q36) rfl))
              obtain ⟨q37, e_q37, h⟩ := bind_some_inv h
              have h_q37 : Fr [(0, some 10), (40, some 0), (40, some 1), (40, some 3), (42, some 1), (42, some 2), (44, none), (45, none), (46, none), (47, none), (48, none)] _ q37.2 := (Fr.tr h_q36 (Fr.mono (w_f_state_stepTo e_q37) rfl))
              cases h
              exact h_q37
            · cases h
              exact h_q35
          · obtain ⟨q38, e_q38, h⟩ := bind_some_inv h
            have h_q38 : Fr [(0, some 10), (40, some 0), (40, some 1), (40, some 3), (42, some 1), (42, some 2), (44, none), (45, none), (46, none), (47, none), (48, none)] _ q38.2 := (Fr.tr h_q22 (Fr.mono (w_f_x_granted e_q38) rfl))
            rcases ite_some_inv h with h | h
            · obtain ⟨q39, e_q39, h⟩ := bind_some_inv h
              have h_q39 : Fr [(0, some 10), (40, some 0), (40, some 1), (40, some 3), (42, some 1), (42, some 2), (44, none), (45, none), (46, none), (47, none), (48, none)] _ q39.2 := (Fr.tr h_q38 (Fr.mono (w_f_history_keep e_q39) rfl))
              obtain ⟨q40, e_q40, h⟩ := bind_some_inv h
              have h_q40 : Fr [(0, some 10), (40, some 0), (40, some 1), (40, some 3), (42, some 1), (42, some 2), (44, none), (45, none), (46, none), (47, none), (48, none)] _ q40.2 := (Fr.tr h_q39 (Fr.mono (w_f_state_stepTo e_q40) rfl))
              cases h
              exact h_q40
            · cases h
              exact h_q38
      · rcases ite_some_inv h with h | h
        · obtain ⟨q23, e_q23, h⟩ := bind_some_inv h
          have h_q23 : Fr [(0, some 10), (40, some 0), (40, some 1), (40, some 3), (42, some 1), (42, some 2), (44, none), (45, none), (46, none), (47, none), (48, none)] _ q23.2 := (Fr.tr h_q22 (Fr.mono (w_f_x_granted e_q23) rfl))
          rcases ite_some_inv h with h | h
          · obtain ⟨q24, e_q24, h⟩ := bind_some_inv h
            have h_q24 : Fr [(0, some 10), (40, some 0), (40, some 1), (40, some 3), (42, some 1), (42, some 2), (44, none), (45, none), (46, none), (47, none), (48, none)] _ q24.2 := (Fr.tr h_q23 (Fr.mono (w_f_history_keep e_q24) rfl))
            obtain ⟨q25, e_q25, h⟩ := bind_some_inv h
            have h_q25 : Fr [(0, some 10), (40, some 0), (40, some 1), (40, some 3), (42, some 1), (42, some 2), (44, none), (45, none), (46, none), (47, none), (48, none)] _ q25.2 := (Fr.tr h_q24 (Fr.mono (w_f_state_stepTo e_q25) rfl))
            cases h
            exact h_q25
          · cases h
            exact h_q23
        · rcases ite_some_inv h with h | h
          · obtain ⟨q26, e_q26, h⟩ := bind_some_inv h
            have h_q26 : Fr [(0, some 10), (40, some 0), (40, some 1), (40, some 3), (42, some 1), (42, some 2), (44, none), (45, none), (46, none), (47, none), (48, none)] _ q26.2 := (Fr.tr h_q22 (Fr.mono (w_f_x_granted e_q26) rfl))
            rcases ite_some_inv h with h | h
            · obtain ⟨q27, e_q27, h⟩ := bind_some_inv h
              have h_q27 : Fr [(0, some 10), (40, some 0), (40, some 1), (40, some 3), (42, some 1), (42, some 2), (44, none), (45, none), (46, none), (47, none), (48, none)] _ q27.2 := (Fr.tr h_q26 (Fr.mono (w_f_history_keep e_q27) rfl))
              obtain ⟨q28, e_q28, h⟩ := bind_some_inv h
              have h_q28 : Fr [(0, some 10), (40, some 0), (40, some 1), (40, some 3), (42, some 1), (42, some 2), (44, none), (45, none), (46, none), (47, none), (48, none)] _ q28.2 := (Fr.tr h_q27 (Fr.mono (w_f_state_stepTo e_q28) rfl))
              cases h
              exact h_q28
            · cases h
              exact h_q26
          · obtain ⟨q29, e_q29, h⟩ := bind_some_inv h
            have h_q29 : Fr [(0, some 10), (40, some 0), (40, some 1), (40, some 3), (42, some 1), (42, some 2), (44, none), (45, none), (46, none), (47, none), (48, none)] _ q29.2 := (Fr.tr h_q22 (Fr.mono (w_f_x_granted e_q29) rfl))
            rcases ite_some_inv h with h | h
            · obtain ⟨q30, e_q30, h⟩ := bind_some_inv h
              have h_q30 : Fr [(0, some 10), (40, some 0), (40, some 1), (40, some 3), (42, some 1), (42, some 2), (44, none), (45, none), (46, none), (47, none), (48, none)] _ q30.2 := (Fr.tr h_q29 (Fr.mono (w_f_history_keep e_q30) rfl))
              obtain ⟨q31, e_q31, h⟩ := bind_some_inv h
              have h_q31 : Fr [(0, some 10), (40, some 0), (40, some 1), (40, some 3), (42, some 1), (42, some 2), (44, none), (45, none), (46, none), (47, none), (48, none)] _ q31.2 := (Fr.tr h_q30 (Fr.mono (w_f_state_stepTo e_q31) rfl))
              cases h
              exact h_q31
            · cases h
              exact h_q29
    · cases h
      exact h_q22
set_option maxRecDepth 100000 in
theorem w_f_x_steps {N : Nat} {v1 : Int32} {σ : Sg} {z : Int32 × Sg} (h : f_x_steps N v1 σ = some z) : Fr [(0, some 10)] σ z.2 := by
  unfold f_x_steps at h
  obtain ⟨q1, e_q1, h⟩ := bind_some_inv h
  have h_q1 : Fr [(0, some 10)] _ q1.2 := (Fr.tr Fr.rf (Fr.mono (w_f_x_cellTrouble e_q1) rfl))
  obtain ⟨q2, e_q2, h⟩ := bind_some_inv h
  have h_q2 : Fr [(0, some 10)] _ q2.2 := (Fr.tr h_q1 (Fr.mono (w_f_x_granted e_q2) rfl))
  rcases ite_some_inv h with h | h
  · obtain ⟨q3, e_q3, h⟩ := bind_some_inv h
    have h_q3 : Fr [(0, some 10)] _ q3.2 := (Fr.tr h_q2 (Fr.mono (w_f_state_depthAt e_q3) rfl))
    rcases ite_some_inv h with h | h
    · cases h
      exact h_q3
    · rcases ite_some_inv h with h | h
      · cases h
        exact h_q3
      · cases h
        exact h_q3
  · cases h
    exact h_q2
set_option maxRecDepth 100000 in
theorem w_f_x_stillIn_L26 {N : Nat} : ∀ (n : Nat) (v1 : Int32) (σ : Sg) (z : Int32 × Sg), f_x_stillIn_L26 N n v1 σ = some z → Fr [(41, some 0), (41, some 1)] σ z.2 := by
  intro n
  induction n with
  | zero => intro v1 σ z  h; exact nomatch (show (none : Option (Int32 × Sg)) = some z from h)
  | succ n ih =>
    intro v1 σ z  h
    unfold f_x_stillIn_L26 at h
    rcases ite_some_inv h with h | h
    · cases h
      exact Fr.rf
    · obtain ⟨q4, e_q4, h⟩ := bind_some_inv h
      have h_q4 : Fr [(41, some 0), (41, some 1)] _ q4.2 := (Fr.tr Fr.rf (Fr.mono (w_f_state_healing e_q4) rfl))
      rcases ite_some_inv h with h | h
      · cases h
        exact h_q4
      · obtain ⟨q5, e_q5, h⟩ := bind_some_inv h
        have h_q5 : Fr [(41, some 0), (41, some 1)] _ q5.2 := (Fr.tr h_q4 (Fr.mono (w_f_state_passYear e_q5) rfl))
        exact (Fr.tr h_q5 (ih _ _ _ h))
set_option maxRecDepth 100000 in
theorem w_f_x_stillIn {N : Nat} {σ : Sg} {z : Int32 × Sg} (h : f_x_stillIn N σ = some z) : Fr [(0, some 10), (41, some 0), (41, some 1), (41, some 2), (41, some 3), (41, some 4)] σ z.2 := by
  unfold f_x_stillIn at h
  obtain ⟨q1, e_q1, h⟩ := bind_some_inv h
  have h_q1 : Fr [(0, some 10), (41, some 0), (41, some 1), (41, some 2), (41, some 3), (41, some 4)] _ q1.2 := (Fr.tr Fr.rf (Fr.mono (w_f_x_landTrouble e_q1) rfl))
  obtain ⟨q2, e_q2, h⟩ := bind_some_inv h
  have h_q2 : Fr [(0, some 10), (41, some 0), (41, some 1), (41, some 2), (41, some 3), (41, some 4)] _ q2.2 := (Fr.tr h_q1 (Fr.mono (w_f_x_granted e_q2) rfl))
  rcases ite_some_inv h with h | h
  · obtain ⟨q3, e_q3, h⟩ := bind_some_inv h
    have h_q3 : Fr [(0, some 10), (41, some 0), (41, some 1), (41, some 2), (41, some 3), (41, some 4)] _ q3.2 := (Fr.tr h_q2 (Fr.mono (w_f_state_copy e_q3) rfl))
    exact (Fr.tr h_q3 (Fr.mono (w_f_x_stillIn_L26 _ _ _ _ h) rfl))
  · cases h
    exact h_q2
set_option maxRecDepth 100000 in
theorem w_f_x_stretches {N : Nat} {σ : Sg} {z : Int32 × Sg} (h : f_x_stretches N σ = some z) : Fr [(0, some 10)] σ z.2 := by
  unfold f_x_stretches at h
  obtain ⟨q1, e_q1, h⟩ := bind_some_inv h
  have h_q1 : Fr [(0, some 10)] _ q1.2 := (Fr.tr Fr.rf (Fr.mono (w_f_x_landTrouble e_q1) rfl))
  obtain ⟨q2, e_q2, h⟩ := bind_some_inv h
  have h_q2 : Fr [(0, some 10)] _ q2.2 := (Fr.tr h_q1 (Fr.mono (w_f_x_granted e_q2) rfl))
  rcases ite_some_inv h with h | h
  · obtain ⟨q3, e_q3, h⟩ := bind_some_inv h
    have h_q3 : Fr [(0, some 10)] _ q3.2 := (Fr.tr h_q2 (Fr.mono (w_f_country_allCells e_q3) rfl))
    obtain ⟨q4, e_q4, h⟩ := bind_some_inv h
    have h_q4 : Fr [(0, some 10)] _ q4.2 := (Fr.tr h_q3 (Fr.mono (w_f_state_goneCells e_q4) rfl))
    obtain ⟨q5, e_q5, h⟩ := bind_some_inv h
    have h_q5 : Fr [(0, some 10)] _ q5.2 := (Fr.tr h_q4 (Fr.mono (w_f_jl_bitCount e_q5) rfl))
    cases h
    exact h_q5
  · cases h
    exact h_q2
set_option maxRecDepth 100000 in
theorem w_f_x_stride {N : Nat} {v1 : Int32} {v2 : Int32} {σ : Sg} {z : Int32 × Sg} (h : f_x_stride N v1 v2 σ = some z) : Fr [(0, some 10), (40, some 0), (40, some 1), (40, some 2), (42, some 1), (42, some 2), (44, none), (45, none), (46, none), (47, none), (48, none)] σ z.2 := by
  unfold f_x_stride at h
  obtain ⟨q1, e_q1, h⟩ := bind_some_inv h
  have h_q1 : Fr [(0, some 10), (40, some 0), (40, some 1), (40, some 2), (42, some 1), (42, some 2), (44, none), (45, none), (46, none), (47, none), (48, none)] _ q1.2 := (Fr.tr Fr.rf (Fr.mono (w_f_x_strideTrouble e_q1) rfl))
  obtain ⟨q2, e_q2, h⟩ := bind_some_inv h
  have h_q2 : Fr [(0, some 10), (40, some 0), (40, some 1), (40, some 2), (42, some 1), (42, some 2), (44, none), (45, none), (46, none), (47, none), (48, none)] _ q2.2 := (Fr.tr h_q1 (Fr.mono (w_f_x_granted e_q2) rfl))
  rcases ite_some_inv h with h | h
  · obtain ⟨q3, e_q3, h⟩ := bind_some_inv h
    have h_q3 : Fr [(0, some 10), (40, some 0), (40, some 1), (40, some 2), (42, some 1), (42, some 2), (44, none), (45, none), (46, none), (47, none), (48, none)] _ q3.2 := (Fr.tr h_q2 (Fr.mono (w_f_x_targetNow e_q3) rfl))
    rcases ite_some_inv h with h | h
    · obtain ⟨q8, e_q8, h⟩ := bind_some_inv h
      have h_q8 : Fr [(0, some 10), (40, some 0), (40, some 1), (40, some 2), (42, some 1), (42, some 2), (44, none), (45, none), (46, none), (47, none), (48, none)] _ q8.2 := (Fr.tr h_q3 (Fr.mono (w_f_x_granted e_q8) rfl))
      rcases ite_some_inv h with h | h
      · obtain ⟨q9, e_q9, h⟩ := bind_some_inv h
        have h_q9 : Fr [(0, some 10), (40, some 0), (40, some 1), (40, some 2), (42, some 1), (42, some 2), (44, none), (45, none), (46, none), (47, none), (48, none)] _ q9.2 := (Fr.tr h_q8 (Fr.mono (w_f_history_keep e_q9) rfl))
        obtain ⟨q10, e_q10, h⟩ := bind_some_inv h
        have h_q10 : Fr [(0, some 10), (40, some 0), (40, some 1), (40, some 2), (42, some 1), (42, some 2), (44, none), (45, none), (46, none), (47, none), (48, none)] _ q10.2 := (Fr.tr h_q9 (Fr.mono (w_f_x_digitFor e_q10) rfl))
        obtain ⟨q11, e_q11, h⟩ := bind_some_inv h
        have h_q11 : Fr [(0, some 10), (40, some 0), (40, some 1), (40, some 2), (42, some 1), (42, some 2), (44, none), (45, none), (46, none), (47, none), (48, none)] _ q11.2 := (Fr.tr h_q10 (Fr.mono (w_f_state_makeStride e_q11) rfl))
        cases h
        exact h_q11
      · cases h
        exact h_q8
    · obtain ⟨q4, e_q4, h⟩ := bind_some_inv h
      have h_q4 : Fr [(0, some 10), (40, some 0), (40, some 1), (40, some 2), (42, some 1), (42, some 2), (44, none), (45, none), (46, none), (47, none), (48, none)] _ q4.2 := (Fr.tr h_q3 (Fr.mono (w_f_x_granted e_q4) rfl))
      rcases ite_some_inv h with h | h
      · obtain ⟨q5, e_q5, h⟩ := bind_some_inv h
        have h_q5 : Fr [(0, some 10), (40, some 0), (40, some 1), (40, some 2), (42, some 1), (42, some 2), (44, none), (45, none), (46, none), (47, none), (48, none)] _ q5.2 := (Fr.tr h_q4 (Fr.mono (w_f_history_keep e_q5) rfl))
        obtain ⟨q6, e_q6, h⟩ := bind_some_inv h
        have h_q6 : Fr [(0, some 10), (40, some 0), (40, some 1), (40, some 2), (42, some 1), (42, some 2), (44, none), (45, none), (46, none), (47, none), (48, none)] _ q6.2 := (Fr.tr h_q5 (Fr.mono (w_f_x_digitFor e_q6) rfl))
        obtain ⟨q7, e_q7, h⟩ := bind_some_inv h
        have h_q7 : Fr [(0, some 10), (40, some 0), (40, some 1), (40, some 2), (42, some 1), (42, some 2), (44, none), (45, none), (46, none), (47, none), (48, none)] _ q7.2 := (Fr.tr h_q6 (Fr.mono (w_f_state_makeStride e_q7) rfl))
        cases h
        exact h_q7
      · cases h
        exact h_q4
  · cases h
    exact h_q2
set_option maxRecDepth 100000 in
theorem w_f_x_sum {N : Nat} {v1 : Int32} {σ : Sg} {z : Int32 × Sg} (h : f_x_sum N v1 σ = some z) : Fr [(0, some 10), (62, none)] σ z.2 := by
  unfold f_x_sum at h
  obtain ⟨q1, e_q1, h⟩ := bind_some_inv h
  have h_q1 : Fr [(0, some 10), (62, none)] _ q1.2 := (Fr.tr Fr.rf (Fr.mono (w_f_x_numberTrouble e_q1) rfl))
  obtain ⟨q2, e_q2, h⟩ := bind_some_inv h
  have h_q2 : Fr [(0, some 10), (62, none)] _ q2.2 := (Fr.tr h_q1 (Fr.mono (w_f_x_granted e_q2) rfl))
  rcases ite_some_inv h with h | h
  · obtain ⟨q3, e_q3, h⟩ := bind_some_inv h
    have h_q3 : Fr [(0, some 10), (62, none)] _ q3.2 := (Fr.tr h_q2 (Fr.mono (w_f_paths_fewestFor e_q3) rfl))
    cases h
    exact h_q3
  · cases h
    exact h_q2
set_option maxRecDepth 100000 in
theorem w_f_country_inAllFits_L18 {N : Nat} : ∀ (n : Nat) (v1 : Int32) (v2 : Int32) (v3 : Int32) (σ : Sg) (z : Int32 × Sg), f_country_inAllFits_L18 N n v1 v2 v3 σ = some z → Fr [] σ z.2 := by
  intro n
  induction n with
  | zero => intro v1 v2 v3 σ z  h; exact nomatch (show (none : Option (Int32 × Sg)) = some z from h)
  | succ n ih =>
    intro v1 v2 v3 σ z  h
    unfold f_country_inAllFits_L18 at h
    rcases ite_some_inv h with h | h
    · cases h
      exact Fr.rf
    · obtain ⟨q2, e_q2, h⟩ := bind_some_inv h
      have h_q2 : Fr [] _ q2.2 := (Fr.tr Fr.rf (Fr.mono (w_f_x_bit e_q2) rfl))
      rcases ite_some_inv h with h | h
      · exact (Fr.tr h_q2 (ih _ _ _ _ _ h))
      · exact (Fr.tr h_q2 (ih _ _ _ _ _ h))
set_option maxRecDepth 100000 in
theorem w_f_country_inAllFits {N : Nat} {σ : Sg} {z : Int32 × Sg} (h : f_country_inAllFits N σ = some z) : Fr [] σ z.2 := by
  unfold f_country_inAllFits at h
  obtain ⟨q1, e_q1, h⟩ := bind_some_inv h
  have h_q1 : Fr [] _ q1.2 := (Fr.tr Fr.rf (Fr.mono (w_f_country_fittingSets e_q1) rfl))
  rcases ite_some_inv h with h | h
  · exact (Fr.tr h_q1 (Fr.mono (w_f_country_inAllFits_L18 _ _ _ _ _ _ h) rfl))
  · exact (Fr.tr h_q1 (Fr.mono (w_f_country_inAllFits_L18 _ _ _ _ _ _ h) rfl))
set_option maxRecDepth 100000 in
theorem w_f_x_surely {N : Nat} {σ : Sg} {z : Int32 × Sg} (h : f_x_surely N σ = some z) : Fr [(0, some 10)] σ z.2 := by
  unfold f_x_surely at h
  obtain ⟨q1, e_q1, h⟩ := bind_some_inv h
  have h_q1 : Fr [(0, some 10)] _ q1.2 := (Fr.tr Fr.rf (Fr.mono (w_f_x_landTrouble e_q1) rfl))
  obtain ⟨q2, e_q2, h⟩ := bind_some_inv h
  have h_q2 : Fr [(0, some 10)] _ q2.2 := (Fr.tr h_q1 (Fr.mono (w_f_x_granted e_q2) rfl))
  rcases ite_some_inv h with h | h
  · obtain ⟨q3, e_q3, h⟩ := bind_some_inv h
    have h_q3 : Fr [(0, some 10)] _ q3.2 := (Fr.tr h_q2 (Fr.mono (w_f_country_inAllFits e_q3) rfl))
    cases h
    exact h_q3
  · cases h
    exact h_q2
set_option maxRecDepth 100000 in
theorem w_f_tours_compare {N : Nat} {v2 : Int64} {v4 : Int32} {σ : Sg} {z : Unit × Sg} (h : f_tours_compare N v2 v4 σ = some z) : Fr [(63, some 0), (63, some 1), (63, some 2), (63, some 4)] σ z.2 := by
  unfold f_tours_compare at h
  obtain ⟨q1, e_q1, h⟩ := bind_some_inv h
  have h_q1 : Fr [(63, some 0), (63, some 1), (63, some 2), (63, some 4)] _ q1.2 := (Fr.tr Fr.rf (Fr.mono (w_f_country_lostFolk e_q1) rfl))
  obtain ⟨q2, e_q2, h⟩ := bind_some_inv h
  have h_q2 : Fr [(63, some 0), (63, some 1), (63, some 2), (63, some 4)] _ q2.2 := (Fr.tr h_q1 (Fr.mono (w_f_jl_bitCount e_q2) rfl))
  rcases ite_some_inv h with h | h
  · cases h
    exact (Fr.wI (Fr.wI (Fr.wI (Fr.wI h_q2 (List.elem_iff.mp rfl)) (List.elem_iff.mp rfl)) (List.elem_iff.mp rfl)) (List.elem_iff.mp rfl))
  · rcases ite_some_inv h with h | h
    · cases h
      exact (Fr.wI (Fr.wI (Fr.wI (Fr.wI h_q2 (List.elem_iff.mp rfl)) (List.elem_iff.mp rfl)) (List.elem_iff.mp rfl)) (List.elem_iff.mp rfl))
    · rcases ite_some_inv h with h | h
      · rcases ite_some_inv h with h | h
        · cases h
          exact h_q2
        · cases h
          exact (Fr.wI (Fr.wI (Fr.wI (Fr.wI h_q2 (List.elem_iff.mp rfl)) (List.elem_iff.mp rfl)) (List.elem_iff.mp rfl)) (List.elem_iff.mp rfl))
      · cases h
        exact h_q2
set_option maxRecDepth 100000 in
theorem w_f_tours_walkOn_L29 {N : Nat} {rec : Int32 → Int64 → Int64 → Int32 → Int32 → Sg → Option (Unit × Sg)} {W : WL} (hW : ∀ e ∈ ([(64, some 0), (64, some 1), (64, some 3)] : WL), e ∈ W) (h_rec : ∀ (u0 : Int32) (u1 : Int64) (u2 : Int64) (u3 : Int32) (u4 : Int32) (u5 : Sg) z, rec u0 u1 u2 u3 u4 u5 = some z → Fr W u5 z.2) : ∀ (n : Nat) (v2 : Int32) (v3 : Int64) (v5 : Int64) (v7 : Int32) (v8 : Int32) (v9 : Int32) (σ : Sg) (z : Unit × Sg), f_tours_walkOn_L29 N rec n v2 v3 v5 v7 v8 v9 σ = some z → Fr W σ z.2 := by
  intro n
  induction n with
  | zero => intro v2 v3 v5 v7 v8 v9 σ z  h; exact nomatch (show (none : Option (Unit × Sg)) = some z from h)
  | succ n ih =>
    intro v2 v3 v5 v7 v8 v9 σ z  h
    unfold f_tours_walkOn_L29 at h
    rcases ite_some_inv h with h | h
    · cases h
      exact Fr.rf
    · rcases ite_some_inv h with h | h
      · rcases ite_some_inv h with h | h
        · exact (Fr.tr Fr.rf (ih _ _ _ _ _ _ _ _  h))
        · rcases ite_some_inv h with h | h
          · exact (Fr.tr Fr.rf (ih _ _ _ _ _ _ _ _  h))
          · obtain ⟨q4, e_q4, h⟩ := bind_some_inv h
            have h_q4 : Fr W _ q4.2 := (Fr.tr (Fr.wL (Fr.wL Fr.rf (hW _ (List.elem_iff.mp rfl))) (hW _ (List.elem_iff.mp rfl))) (Fr.monoP (Fr.mono (w_f_state_stepTo e_q4) rfl) hW))
            obtain ⟨q5, e_q5, h⟩ := bind_some_inv h
            have h_q5 : Fr W _ q5.2 := (Fr.tr h_q4 (h_rec _ _ _ _ _ _ _ e_q5))
            exact (Fr.tr h_q5 (ih _ _ _ _ _ _ _ _  h))
      · rcases ite_some_inv h with h | h
        · exact (Fr.tr Fr.rf (ih _ _ _ _ _ _ _ _  h))
        · rcases ite_some_inv h with h | h
          · exact (Fr.tr Fr.rf (ih _ _ _ _ _ _ _ _  h))
          · obtain ⟨q2, e_q2, h⟩ := bind_some_inv h
            have h_q2 : Fr W _ q2.2 := (Fr.tr (Fr.wL (Fr.wL Fr.rf (hW _ (List.elem_iff.mp rfl))) (hW _ (List.elem_iff.mp rfl))) (Fr.monoP (Fr.mono (w_f_state_stepTo e_q2) rfl) hW))
            obtain ⟨q3, e_q3, h⟩ := bind_some_inv h
            have h_q3 : Fr W _ q3.2 := (Fr.tr h_q2 (h_rec _ _ _ _ _ _ _ e_q3))
            exact (Fr.tr h_q3 (ih _ _ _ _ _ _ _ _  h))
set_option maxRecDepth 100000 in
theorem w_f_tours_walkOn_B {N : Nat} {rec : Int32 → Int64 → Int64 → Int32 → Int32 → Sg → Option (Unit × Sg)} {v2 : Int32} {v3 : Int64} {v5 : Int64} {v7 : Int32} {v8 : Int32} {σ : Sg} {z : Unit × Sg} {W : WL} (hW : ∀ e ∈ ([(63, some 0), (63, some 1), (63, some 2), (63, some 4), (64, some 0), (64, some 1), (64, some 3)] : WL), e ∈ W) (h_rec : ∀ (u0 : Int32) (u1 : Int64) (u2 : Int64) (u3 : Int32) (u4 : Int32) (u5 : Sg) z, rec u0 u1 u2 u3 u4 u5 = some z → Fr W u5 z.2) (h : f_tours_walkOn_B N rec v2 v3 v5 v7 v8 σ = some z) : Fr W σ z.2 := by
  unfold f_tours_walkOn_B at h
  rcases ite_some_inv h with h | h
  · obtain ⟨q1, e_q1, h⟩ := bind_some_inv h
    have h_q1 : Fr W _ q1.2 := (Fr.tr Fr.rf (Fr.monoP (Fr.mono (w_f_tours_compare e_q1) rfl) hW))
    cases h
    exact h_q1
  · rcases ite_some_inv h with h | h
    · exact (Fr.tr Fr.rf (w_f_tours_walkOn_L29 (W := W) (fun e he => hW e (List.mem_of_elem_eq_true (List.all_eq_true.mp (show ([(64, some 0), (64, some 1), (64, some 3)] : WL).all (fun e => List.elem e [(63, some 0), (63, some 1), (63, some 2), (63, some 4), (64, some 0), (64, some 1), (64, some 3)]) = true from rfl) e he))) h_rec _ _ _ _ _ _ _ _ _  h))
    · obtain ⟨q6, e_q6, h⟩ := bind_some_inv h
      have h_q6 : Fr W _ q6.2 := (Fr.tr Fr.rf (Fr.monoP (Fr.mono (w_f_tours_compare e_q6) rfl) hW))
      cases h
      exact h_q6
set_option maxRecDepth 100000 in
theorem w_f_tours_walkOn {N : Nat} : ∀ (n : Nat) (v2 : Int32) (v3 : Int64) (v5 : Int64) (v7 : Int32) (v8 : Int32) (σ : Sg) (z : Unit × Sg), f_tours_walkOn N n v2 v3 v5 v7 v8 σ = some z → Fr [(63, some 0), (63, some 1), (63, some 2), (63, some 4), (64, some 0), (64, some 1), (64, some 3)] σ z.2 := by
  intro n
  induction n with
  | zero => intro v2 v3 v5 v7 v8 σ z  h; exact nomatch (show (none : Option (Unit × Sg)) = some z from h)
  | succ D ih =>
    intro v2 v3 v5 v7 v8 σ z  h
    unfold f_tours_walkOn at h
    exact (Fr.tr Fr.rf (w_f_tours_walkOn_B (W := [(63, some 0), (63, some 1), (63, some 2), (63, some 4), (64, some 0), (64, some 1), (64, some 3)]) (fun e he => List.mem_of_elem_eq_true (List.all_eq_true.mp (show ([(63, some 0), (63, some 1), (63, some 2), (63, some 4), (64, some 0), (64, some 1), (64, some 3)] : WL).all (fun e => List.elem e [(63, some 0), (63, some 1), (63, some 2), (63, some 4), (64, some 0), (64, some 1), (64, some 3)]) = true from rfl) e he)) (fun u0 u1 u2 u3 u4 u5 z h => ih u0 u1 u2 u3 u4 u5 z h) h))
set_option maxRecDepth 100000 in
theorem w_f_tours_seek {N : Nat} {v3 : Int32} {σ : Sg} {z : Unit × Sg} (h : f_tours_seek N v3 σ = some z) : Fr [(63, some 0), (63, some 1), (63, some 2), (63, some 3), (63, some 4), (64, some 0), (64, some 1), (64, some 3)] σ z.2 := by
  unfold f_tours_seek at h
  obtain ⟨q1, e_q1, h⟩ := bind_some_inv h
  have h_q1 : Fr [(63, some 0), (63, some 1), (63, some 2), (63, some 3), (63, some 4), (64, some 0), (64, some 1), (64, some 3)] _ q1.2 := (Fr.tr (Fr.wI (Fr.wI Fr.rf (List.elem_iff.mp rfl)) (List.elem_iff.mp rfl)) (Fr.mono (w_f_tours_walkOn _ _ _ _ _ _ _ _ e_q1) rfl))
  cases h
  exact h_q1
set_option maxRecDepth 100000 in
theorem w_f_x_bestTour {N : Nat} {v1 : Int32} {σ : Sg} {z : Unit × Sg} (h : f_x_bestTour N v1 σ = some z) : Fr [(63, some 0), (63, some 1), (63, some 2), (63, some 3), (63, some 4), (64, some 0), (64, some 1), (64, some 3)] σ z.2 := by
  unfold f_x_bestTour at h
  obtain ⟨q1, e_q1, h⟩ := bind_some_inv h
  have h_q1 : Fr [(63, some 0), (63, some 1), (63, some 2), (63, some 3), (63, some 4), (64, some 0), (64, some 1), (64, some 3)] _ q1.2 := (Fr.tr Fr.rf (Fr.mono (w_f_tours_seek e_q1) rfl))
  cases h
  exact h_q1
set_option maxRecDepth 100000 in
theorem w_f_x_tour {N : Nat} {v1 : Int32} {σ : Sg} {z : Int32 × Sg} (h : f_x_tour N v1 σ = some z) : Fr [(0, some 10), (63, some 0), (63, some 1), (63, some 2), (63, some 3), (63, some 4), (64, some 0), (64, some 1), (64, some 3)] σ z.2 := by
  unfold f_x_tour at h
  obtain ⟨q1, e_q1, h⟩ := bind_some_inv h
  have h_q1 : Fr [(0, some 10), (63, some 0), (63, some 1), (63, some 2), (63, some 3), (63, some 4), (64, some 0), (64, some 1), (64, some 3)] _ q1.2 := (Fr.tr Fr.rf (Fr.mono (w_f_x_numberTrouble e_q1) rfl))
  obtain ⟨q2, e_q2, h⟩ := bind_some_inv h
  have h_q2 : Fr [(0, some 10), (63, some 0), (63, some 1), (63, some 2), (63, some 3), (63, some 4), (64, some 0), (64, some 1), (64, some 3)] _ q2.2 := (Fr.tr h_q1 (Fr.mono (w_f_x_granted e_q2) rfl))
  rcases ite_some_inv h with h | h
  · obtain ⟨q3, e_q3, h⟩ := bind_some_inv h
    have h_q3 : Fr [(0, some 10), (63, some 0), (63, some 1), (63, some 2), (63, some 3), (63, some 4), (64, some 0), (64, some 1), (64, some 3)] _ q3.2 := (Fr.tr h_q2 (Fr.mono (w_f_x_bestTour e_q3) rfl))
    cases h
    exact h_q3
  · cases h
    exact h_q2
set_option maxRecDepth 100000 in
theorem w_f_tours_standsBehind_L5 {N : Nat} : ∀ (n : Nat) (v2 : Int32) (v3 : Int32) (v4 : Int32) (σ : Sg) (z : Int32 × Sg), f_tours_standsBehind_L5 N n v2 v3 v4 σ = some z → Fr [] σ z.2 := by
  intro n
  induction n with
  | zero => intro v2 v3 v4 σ z  h; exact nomatch (show (none : Option (Int32 × Sg)) = some z from h)
  | succ n ih =>
    intro v2 v3 v4 σ z  h
    unfold f_tours_standsBehind_L5 at h
    rcases ite_some_inv h with h | h
    · cases h
      exact Fr.rf
    · obtain ⟨q1, e_q1, h⟩ := bind_some_inv h
      have h_q1 : Fr [] _ q1.2 := (Fr.tr Fr.rf (Fr.mono (w_f_x_bit e_q1) rfl))
      rcases ite_some_inv h with h | h
      · exact (Fr.tr h_q1 (ih _ _ _ _ _ h))
      · exact (Fr.tr h_q1 (ih _ _ _ _ _ h))
set_option maxRecDepth 100000 in
theorem w_f_tours_standsBehind {N : Nat} {v1 : Int32} {v2 : Int32} {σ : Sg} {z : Int32 × Sg} (h : f_tours_standsBehind N v1 v2 σ = some z) : Fr [] σ z.2 := by
  unfold f_tours_standsBehind at h
  exact (Fr.tr Fr.rf (Fr.mono (w_f_tours_standsBehind_L5 _ _ _ _ _ _ h) rfl))
set_option maxRecDepth 100000 in
theorem w_f_x_tourAt {N : Nat} {v1 : Int32} {v2 : Int32} {σ : Sg} {z : Int32 × Sg} (h : f_x_tourAt N v1 v2 σ = some z) : Fr [(0, some 10), (63, some 0), (63, some 1), (63, some 2), (63, some 3), (63, some 4), (64, some 0), (64, some 1), (64, some 3)] σ z.2 := by
  unfold f_x_tourAt at h
  obtain ⟨q1, e_q1, h⟩ := bind_some_inv h
  have h_q1 : Fr [(0, some 10), (63, some 0), (63, some 1), (63, some 2), (63, some 3), (63, some 4), (64, some 0), (64, some 1), (64, some 3)] _ q1.2 := (Fr.tr Fr.rf (Fr.mono (w_f_x_numberTrouble e_q1) rfl))
  obtain ⟨q2, e_q2, h⟩ := bind_some_inv h
  have h_q2 : Fr [(0, some 10), (63, some 0), (63, some 1), (63, some 2), (63, some 3), (63, some 4), (64, some 0), (64, some 1), (64, some 3)] _ q2.2 := (Fr.tr h_q1 (Fr.mono (w_f_x_granted e_q2) rfl))
  rcases ite_some_inv h with h | h
  · rcases ite_some_inv h with h | h
    · obtain ⟨q3, e_q3, h⟩ := bind_some_inv h
      have h_q3 : Fr [(0, some 10), (63, some 0), (63, some 1), (63, some 2), (63, some 3), (63, some 4), (64, some 0), (64, some 1), (64, some 3)] _ q3.2 := (Fr.tr h_q2 (Fr.mono (w_f_x_granted e_q3) rfl))
      rcases ite_some_inv h with h | h
      · obtain ⟨q4, e_q4, h⟩ := bind_some_inv h
        have h_q4 : Fr [(0, some 10), (63, some 0), (63, some 1), (63, some 2), (63, some 3), (63, some 4), (64, some 0), (64, some 1), (64, some 3)] _ q4.2 := (Fr.tr h_q3 (Fr.mono (w_f_x_bestTour e_q4) rfl))
        obtain ⟨q5, e_q5, h⟩ := bind_some_inv h
        have h_q5 : Fr [(0, some 10), (63, some 0), (63, some 1), (63, some 2), (63, some 3), (63, some 4), (64, some 0), (64, some 1), (64, some 3)] _ q5.2 := (Fr.tr h_q4 (Fr.mono (w_f_tours_standsBehind e_q5) rfl))
        cases h
        exact h_q5
      · cases h
        exact h_q3
    · obtain ⟨q6, e_q6, h⟩ := bind_some_inv h
      have h_q6 : Fr [(0, some 10), (63, some 0), (63, some 1), (63, some 2), (63, some 3), (63, some 4), (64, some 0), (64, some 1), (64, some 3)] _ q6.2 := (Fr.tr h_q2 (Fr.mono (w_f_x_granted e_q6) rfl))
      rcases ite_some_inv h with h | h
      · obtain ⟨q7, e_q7, h⟩ := bind_some_inv h
        have h_q7 : Fr [(0, some 10), (63, some 0), (63, some 1), (63, some 2), (63, some 3), (63, some 4), (64, some 0), (64, some 1), (64, some 3)] _ q7.2 := (Fr.tr h_q6 (Fr.mono (w_f_x_bestTour e_q7) rfl))
        obtain ⟨q8, e_q8, h⟩ := bind_some_inv h
        have h_q8 : Fr [(0, some 10), (63, some 0), (63, some 1), (63, some 2), (63, some 3), (63, some 4), (64, some 0), (64, some 1), (64, some 3)] _ q8.2 := (Fr.tr h_q7 (Fr.mono (w_f_tours_standsBehind e_q8) rfl))
        cases h
        exact h_q8
      · cases h
        exact h_q6
  · cases h
    exact h_q2
set_option maxRecDepth 100000 in
theorem w_f_x_tourGone {N : Nat} {v1 : Int32} {σ : Sg} {z : Int32 × Sg} (h : f_x_tourGone N v1 σ = some z) : Fr [(0, some 10), (63, some 0), (63, some 1), (63, some 2), (63, some 3), (63, some 4), (64, some 0), (64, some 1), (64, some 3)] σ z.2 := by
  unfold f_x_tourGone at h
  obtain ⟨q1, e_q1, h⟩ := bind_some_inv h
  have h_q1 : Fr [(0, some 10), (63, some 0), (63, some 1), (63, some 2), (63, some 3), (63, some 4), (64, some 0), (64, some 1), (64, some 3)] _ q1.2 := (Fr.tr Fr.rf (Fr.mono (w_f_x_numberTrouble e_q1) rfl))
  obtain ⟨q2, e_q2, h⟩ := bind_some_inv h
  have h_q2 : Fr [(0, some 10), (63, some 0), (63, some 1), (63, some 2), (63, some 3), (63, some 4), (64, some 0), (64, some 1), (64, some 3)] _ q2.2 := (Fr.tr h_q1 (Fr.mono (w_f_x_granted e_q2) rfl))
  rcases ite_some_inv h with h | h
  · obtain ⟨q3, e_q3, h⟩ := bind_some_inv h
    have h_q3 : Fr [(0, some 10), (63, some 0), (63, some 1), (63, some 2), (63, some 3), (63, some 4), (64, some 0), (64, some 1), (64, some 3)] _ q3.2 := (Fr.tr h_q2 (Fr.mono (w_f_x_bestTour e_q3) rfl))
    cases h
    exact h_q3
  · cases h
    exact h_q2
set_option maxRecDepth 100000 in
theorem w_f_x_trouble {N : Nat} {σ : Sg} {z : Int32 × Sg} (h : f_x_trouble N σ = some z) : Fr [] σ z.2 := by
  unfold f_x_trouble at h
  cases h
  exact Fr.rf
set_option maxRecDepth 100000 in
theorem w_f_history_takeBack {N : Nat} {σ : Sg} {z : Bool × Sg} (h : f_history_takeBack N σ = some z) : Fr [(40, some 0), (40, some 1), (40, some 2), (40, some 3), (40, some 4), (42, some 1), (42, some 2)] σ z.2 := by
  unfold f_history_takeBack at h
  rcases ite_some_inv h with h | h
  · cases h
    exact Fr.rf
  · obtain ⟨q1, e_q1, h⟩ := bind_some_inv h
    have h_q1 : Fr [(40, some 0), (40, some 1), (40, some 2), (40, some 3), (40, some 4), (42, some 1), (42, some 2)] _ q1.2 := (Fr.tr (Fr.wI (Fr.wI Fr.rf (List.elem_iff.mp rfl)) (List.elem_iff.mp rfl)) (Fr.mono (w_f_shelf_fetch e_q1) rfl))
    cases h
    exact h_q1
set_option maxRecDepth 100000 in
theorem w_f_x_undo {N : Nat} {σ : Sg} {z : Bool × Sg} (h : f_x_undo N σ = some z) : Fr [(0, some 10), (40, some 0), (40, some 1), (40, some 2), (40, some 3), (40, some 4), (42, some 1), (42, some 2)] σ z.2 := by
  unfold f_x_undo at h
  obtain ⟨q1, e_q1, h⟩ := bind_some_inv h
  have h_q1 : Fr [(0, some 10), (40, some 0), (40, some 1), (40, some 2), (40, some 3), (40, some 4), (42, some 1), (42, some 2)] _ q1.2 := (Fr.tr Fr.rf (Fr.mono (w_f_history_takeBack e_q1) rfl))
  rcases ite_some_inv h with h | h
  · obtain ⟨q3, e_q3, h⟩ := bind_some_inv h
    have h_q3 : Fr [(0, some 10), (40, some 0), (40, some 1), (40, some 2), (40, some 3), (40, some 4), (42, some 1), (42, some 2)] _ q3.2 := (Fr.tr h_q1 (Fr.mono (w_f_x_granted e_q3) rfl))
    cases h
    exact h_q3
  · obtain ⟨q2, e_q2, h⟩ := bind_some_inv h
    have h_q2 : Fr [(0, some 10), (40, some 0), (40, some 1), (40, some 2), (40, some 3), (40, some 4), (42, some 1), (42, some 2)] _ q2.2 := (Fr.tr h_q1 (Fr.mono (w_f_x_granted e_q2) rfl))
    cases h
    exact h_q2
set_option maxRecDepth 100000 in
theorem w_f_x_where {N : Nat} {σ : Sg} {z : Int32 × Sg} (h : f_x_where N σ = some z) : Fr [] σ z.2 := by
  unfold f_x_where at h
  rcases ite_some_inv h with h | h
  · cases h
    exact Fr.rf
  · cases h
    exact Fr.rf
set_option maxRecDepth 100000 in
theorem w_f_x_widest {N : Nat} {σ : Sg} {z : Int32 × Sg} (h : f_x_widest N σ = some z) : Fr [(0, some 10)] σ z.2 := by
  unfold f_x_widest at h
  obtain ⟨q1, e_q1, h⟩ := bind_some_inv h
  have h_q1 : Fr [(0, some 10)] _ q1.2 := (Fr.tr Fr.rf (Fr.mono (w_f_x_landTrouble e_q1) rfl))
  obtain ⟨q2, e_q2, h⟩ := bind_some_inv h
  have h_q2 : Fr [(0, some 10)] _ q2.2 := (Fr.tr h_q1 (Fr.mono (w_f_x_granted e_q2) rfl))
  rcases ite_some_inv h with h | h
  · obtain ⟨q3, e_q3, h⟩ := bind_some_inv h
    have h_q3 : Fr [(0, some 10)] _ q3.2 := (Fr.tr h_q2 (Fr.mono (w_f_state_goneCells e_q3) rfl))
    obtain ⟨q4, e_q4, h⟩ := bind_some_inv h
    have h_q4 : Fr [(0, some 10)] _ q4.2 := (Fr.tr h_q3 (Fr.mono (w_f_x_longestRun e_q4) rfl))
    rcases ite_some_inv h with h | h
    · cases h
      exact h_q4
    · obtain ⟨q5, e_q5, h⟩ := bind_some_inv h
      have h_q5 : Fr [(0, some 10)] _ q5.2 := (Fr.tr h_q4 (Fr.mono (w_f_state_goneCells e_q5) rfl))
      obtain ⟨q6, e_q6, h⟩ := bind_some_inv h
      have h_q6 : Fr [(0, some 10)] _ q6.2 := (Fr.tr h_q5 (Fr.mono (w_f_x_runFrom e_q6) rfl))
      cases h
      exact h_q6
  · cases h
    exact h_q2
set_option maxRecDepth 100000 in
theorem w_f_x_year {N : Nat} {σ : Sg} {z : Int32 × Sg} (h : f_x_year N σ = some z) : Fr [(0, some 10), (40, some 0), (40, some 1), (40, some 4), (42, some 1), (42, some 2), (44, none), (45, none), (46, none), (47, none), (48, none)] σ z.2 := by
  unfold f_x_year at h
  obtain ⟨q1, e_q1, h⟩ := bind_some_inv h
  have h_q1 : Fr [(0, some 10), (40, some 0), (40, some 1), (40, some 4), (42, some 1), (42, some 2), (44, none), (45, none), (46, none), (47, none), (48, none)] _ q1.2 := (Fr.tr Fr.rf (Fr.mono (w_f_x_landTrouble e_q1) rfl))
  obtain ⟨q2, e_q2, h⟩ := bind_some_inv h
  have h_q2 : Fr [(0, some 10), (40, some 0), (40, some 1), (40, some 4), (42, some 1), (42, some 2), (44, none), (45, none), (46, none), (47, none), (48, none)] _ q2.2 := (Fr.tr h_q1 (Fr.mono (w_f_x_granted e_q2) rfl))
  rcases ite_some_inv h with h | h
  · rcases ite_some_inv h with h | h
    · obtain ⟨q3, e_q3, h⟩ := bind_some_inv h
      have h_q3 : Fr [(0, some 10), (40, some 0), (40, some 1), (40, some 4), (42, some 1), (42, some 2), (44, none), (45, none), (46, none), (47, none), (48, none)] _ q3.2 := (Fr.tr h_q2 (Fr.mono (w_f_x_granted e_q3) rfl))
      rcases ite_some_inv h with h | h
      · obtain ⟨q4, e_q4, h⟩ := bind_some_inv h
        have h_q4 : Fr [(0, some 10), (40, some 0), (40, some 1), (40, some 4), (42, some 1), (42, some 2), (44, none), (45, none), (46, none), (47, none), (48, none)] _ q4.2 := (Fr.tr h_q3 (Fr.mono (w_f_history_keep e_q4) rfl))
        obtain ⟨q5, e_q5, h⟩ := bind_some_inv h
        have h_q5 : Fr [(0, some 10), (40, some 0), (40, some 1), (40, some 4), (42, some 1), (42, some 2), (44, none), (45, none), (46, none), (47, none), (48, none)] _ q5.2 := (Fr.tr h_q4 (Fr.mono (w_f_state_goneCells e_q5) rfl))
        obtain ⟨q6, e_q6, h⟩ := bind_some_inv h
        have h_q6 : Fr [(0, some 10), (40, some 0), (40, some 1), (40, some 4), (42, some 1), (42, some 2), (44, none), (45, none), (46, none), (47, none), (48, none)] _ q6.2 := (Fr.tr h_q5 (Fr.mono (w_f_jl_bitCount e_q6) rfl))
        obtain ⟨q7, e_q7, h⟩ := bind_some_inv h
        have h_q7 : Fr [(0, some 10), (40, some 0), (40, some 1), (40, some 4), (42, some 1), (42, some 2), (44, none), (45, none), (46, none), (47, none), (48, none)] _ q7.2 := (Fr.tr h_q6 (Fr.mono (w_f_state_passYear e_q7) rfl))
        obtain ⟨q8, e_q8, h⟩ := bind_some_inv h
        have h_q8 : Fr [(0, some 10), (40, some 0), (40, some 1), (40, some 4), (42, some 1), (42, some 2), (44, none), (45, none), (46, none), (47, none), (48, none)] _ q8.2 := (Fr.tr (Fr.wI h_q7 (List.elem_iff.mp rfl)) (Fr.mono (w_f_state_goneCells e_q8) rfl))
        obtain ⟨q9, e_q9, h⟩ := bind_some_inv h
        have h_q9 : Fr [(0, some 10), (40, some 0), (40, some 1), (40, some 4), (42, some 1), (42, some 2), (44, none), (45, none), (46, none), (47, none), (48, none)] _ q9.2 := (Fr.tr h_q8 (Fr.mono (w_f_jl_bitCount e_q9) rfl))
        cases h
        exact h_q9
      · cases h
        exact h_q3
    · obtain ⟨q10, e_q10, h⟩ := bind_some_inv h
      have h_q10 : Fr [(0, some 10), (40, some 0), (40, some 1), (40, some 4), (42, some 1), (42, some 2), (44, none), (45, none), (46, none), (47, none), (48, none)] _ q10.2 := (Fr.tr h_q2 (Fr.mono (w_f_x_granted e_q10) rfl))
      rcases ite_some_inv h with h | h
      · obtain ⟨q11, e_q11, h⟩ := bind_some_inv h
        have h_q11 : Fr [(0, some 10), (40, some 0), (40, some 1), (40, some 4), (42, some 1), (42, some 2), (44, none), (45, none), (46, none), (47, none), (48, none)] _ q11.2 := (Fr.tr h_q10 (Fr.mono (w_f_history_keep e_q11) rfl))
        obtain ⟨q12, e_q12, h⟩ := bind_some_inv h
        have h_q12 : Fr [(0, some 10), (40, some 0), (40, some 1), (40, some 4), (42, some 1), (42, some 2), (44, none), (45, none), (46, none), (47, none), (48, none)] _ q12.2 := (Fr.tr h_q11 (Fr.mono (w_f_state_goneCells e_q12) rfl))
        obtain ⟨q13, e_q13, h⟩ := bind_some_inv h
        have h_q13 : Fr [(0, some 10), (40, some 0), (40, some 1), (40, some 4), (42, some 1), (42, some 2), (44, none), (45, none), (46, none), (47, none), (48, none)] _ q13.2 := (Fr.tr h_q12 (Fr.mono (w_f_jl_bitCount e_q13) rfl))
        obtain ⟨q14, e_q14, h⟩ := bind_some_inv h
        have h_q14 : Fr [(0, some 10), (40, some 0), (40, some 1), (40, some 4), (42, some 1), (42, some 2), (44, none), (45, none), (46, none), (47, none), (48, none)] _ q14.2 := (Fr.tr h_q13 (Fr.mono (w_f_state_passYear e_q14) rfl))
        obtain ⟨q15, e_q15, h⟩ := bind_some_inv h
        have h_q15 : Fr [(0, some 10), (40, some 0), (40, some 1), (40, some 4), (42, some 1), (42, some 2), (44, none), (45, none), (46, none), (47, none), (48, none)] _ q15.2 := (Fr.tr (Fr.wI h_q14 (List.elem_iff.mp rfl)) (Fr.mono (w_f_state_goneCells e_q15) rfl))
        obtain ⟨q16, e_q16, h⟩ := bind_some_inv h
        have h_q16 : Fr [(0, some 10), (40, some 0), (40, some 1), (40, some 4), (42, some 1), (42, some 2), (44, none), (45, none), (46, none), (47, none), (48, none)] _ q16.2 := (Fr.tr h_q15 (Fr.mono (w_f_jl_bitCount e_q16) rfl))
        cases h
        exact h_q16
      · cases h
        exact h_q10
  · cases h
    exact h_q2
set_option maxRecDepth 100000 in
theorem w_f_m_anew {N : Nat} {σ : Sg} {z : Unit × Sg} (h : f_m_anew N σ = some z) : Fr [(66, some 0), (66, some 11)] σ z.2 := by
  unfold f_m_anew at h
  cases h
  exact (Fr.wI (Fr.wI Fr.rf (List.elem_iff.mp rfl)) (List.elem_iff.mp rfl))
set_option maxRecDepth 100000 in
theorem w_f_m_no {N : Nat} {v1 : Int32} {σ : Sg} {z : Int32 × Sg} (h : f_m_no N v1 σ = some z) : Fr [(66, some 11)] σ z.2 := by
  unfold f_m_no at h
  cases h
  exact (Fr.wI Fr.rf (List.elem_iff.mp rfl))
set_option maxRecDepth 100000 in
theorem w_f_m_copy_L3 {N : Nat} {a0 : Nat} {a1 : Nat} {a2 : Nat} {a3 : Nat} : ∀ (n : Nat) (v1 : Int32) (v3 : Int32) (v4 : Int32) (v5 : Int32) (σ : Sg) (z : Unit × Sg), f_m_copy_L3 N a0 a1 a2 a3 n v1 v3 v4 v5 σ = some z → Fr [(a2, none)] σ z.2 := by
  intro n
  induction n with
  | zero => intro v1 v3 v4 v5 σ z  h; exact nomatch (show (none : Option (Unit × Sg)) = some z from h)
  | succ n ih =>
    intro v1 v3 v4 v5 σ z  h
    unfold f_m_copy_L3 at h
    rcases ite_some_inv h with h | h
    · cases h
      exact Fr.rf
    · rcases ite_some_inv h with h | h
      · rcases ite_some_inv h with h | h
        · exact (Fr.tr (Fr.wA Fr.rf (by simp)) (ih _ _ _ _ _ _ h))
        · cases h
      · cases h
set_option maxRecDepth 100000 in
theorem w_f_m_copy {N : Nat} {a0 : Nat} {a1 : Nat} {a2 : Nat} {a3 : Nat} {v1 : Int32} {v3 : Int32} {v4 : Int32} {σ : Sg} {z : Unit × Sg} (h : f_m_copy N a0 a1 a2 a3 v1 v3 v4 σ = some z) : Fr [(a2, none)] σ z.2 := by
  unfold f_m_copy at h
  exact (Fr.tr Fr.rf (Fr.monoP (w_f_m_copy_L3 _ _ _ _ _ _ _ h) (by simp)))
set_option maxRecDepth 100000 in
theorem w_f_m_hasBit {N : Nat} {v0 : Int32} {v1 : Int32} {σ : Sg} {z : Bool × Sg} (h : f_m_hasBit N v0 v1 σ = some z) : Fr [] σ z.2 := by
  unfold f_m_hasBit at h
  rcases ite_some_inv h with h | h
  · cases h
    exact Fr.rf
  · cases h
    exact Fr.rf
set_option maxRecDepth 100000 in
theorem w_f_m_in {N : Nat} {v0 : Int32} {v1 : Int32} {v2 : Int32} {σ : Sg} {z : Bool × Sg} (h : f_m_in N v0 v1 v2 σ = some z) : Fr [] σ z.2 := by
  unfold f_m_in at h
  rcases ite_some_inv h with h | h
  · cases h
    exact Fr.rf
  · rcases ite_some_inv h with h | h
    · cases h
      exact Fr.rf
    · cases h
      exact Fr.rf
set_option maxRecDepth 100000 in
theorem w_f_m_leadOf {N : Nat} {a0 : Nat} {a1 : Nat} {a2 : Nat} {a3 : Nat} {v2 : Int32} {v3 : Int32} {σ : Sg} {z : Int32 × Sg} (h : f_m_leadOf N a0 a1 a2 a3 v2 v3 σ = some z) : Fr [] σ z.2 := by
  unfold f_m_leadOf at h
  rcases ite_some_inv h with h | h
  · rcases ite_some_inv h with h | h
    · obtain ⟨q2, e_q2, h⟩ := bind_some_inv h
      have h_q2 : Fr [] _ q2.2 := (Fr.tr Fr.rf (Fr.mono (w_f_m_in e_q2) rfl))
      rcases ite_some_inv h with h | h
      · rcases ite_some_inv h with h | h
        · rcases ite_some_inv h with h | h
          · cases h
            exact h_q2
          · cases h
            exact h_q2
        · cases h
      · cases h
        exact h_q2
    · cases h
  · rcases ite_some_inv h with h | h
    · obtain ⟨q1, e_q1, h⟩ := bind_some_inv h
      have h_q1 : Fr [] _ q1.2 := (Fr.tr Fr.rf (Fr.mono (w_f_m_in e_q1) rfl))
      rcases ite_some_inv h with h | h
      · rcases ite_some_inv h with h | h
        · rcases ite_some_inv h with h | h
          · cases h
            exact h_q1
          · cases h
            exact h_q1
        · cases h
      · cases h
        exact h_q1
    · cases h
set_option maxRecDepth 100000 in
theorem w_f_m_strideOn_L62 {N : Nat} {a0 : Nat} {a1 : Nat} {a2 : Nat} {a3 : Nat} : ∀ (n : Nat) (v4 : Int32) (v6 : Int32) (v7 : Int32) (σ : Sg) (z : Bool × Sg), f_m_strideOn_L62 N a0 a1 a2 a3 n v4 v6 v7 σ = some z → Fr [(a0, none)] σ z.2 := by
  intro n
  induction n with
  | zero => intro v4 v6 v7 σ z  h; exact nomatch (show (none : Option (Bool × Sg)) = some z from h)
  | succ n ih =>
    intro v4 v6 v7 σ z  h
    unfold f_m_strideOn_L62 at h
    rcases ite_some_inv h with h | h
    · cases h
      exact (Fr.wA Fr.rf (by simp))
    · rcases ite_some_inv h with h | h
      · rcases ite_some_inv h with h | h
        · rcases ite_some_inv h with h | h
          · rcases ite_some_inv h with h | h
            · exact (Fr.tr (Fr.wA Fr.rf (by simp)) (ih _ _ _ _ _ h))
            · cases h
          · cases h
        · exact (Fr.tr Fr.rf (ih _ _ _ _ _ h))
      · cases h
