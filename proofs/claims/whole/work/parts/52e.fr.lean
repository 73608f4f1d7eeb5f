set_option maxRecDepth 100000 in
theorem w_f_m_over_L22 {N : Nat} {W : WL} (hW : ∀ e ∈ ([] : WL), e ∈ W) : ∀ (n : Nat) (v1 : Int32) (v2 : Int32) (v3 : Int32) (σ : Sg) (k95 : (Int32 → Int32 → Sg → Option (Int32 × Sg))) (z : Int32 × Sg) (h_k95 : ∀ (u0 : Int32) (u1 : Int32) (u2 : Sg) z, k95 u0 u1 u2 = some z → Fr W u2 z.2), f_m_over_L22 N n v1 v2 v3 σ k95 = some z → Fr W σ z.2 := by
  intro n
  induction n with
  | zero => intro v1 v2 v3 σ k95 z h_k95 h; exact nomatch (show (none : Option (Int32 × Sg)) = some z from h)
  | succ n ih =>
    intro v1 v2 v3 σ k95 z h_k95 h
    unfold f_m_over_L22 at h
    rcases ite_some_inv h with h | h
    · exact (Fr.tr Fr.rf (h_k95 _ _ _ _ h))
    · exact (Fr.tr Fr.rf (w_f_m_over_L34 (W := W) (fun e he => by cases he)  _ _ _ _ _ _ _ _ _ (fun w1 w2 w3 w4 t3 z h => by
          rcases ite_some_inv h with h | h
          · exact (Fr.tr Fr.rf (ih _ _ _ _ _ _ h_k95 h))
          · exact (Fr.tr Fr.rf (ih _ _ _ _ _ _ h_k95 h))
        ) h))
set_option maxRecDepth 100000 in
theorem w_f_m_over {N : Nat} {v1 : Int32} {σ : Sg} {z : Int32 × Sg} (h : f_m_over N v1 σ = some z) : Fr [(66, some 0), (66, some 11)] σ z.2 := by
  unfold f_m_over at h
  obtain ⟨q1, e_q1, h⟩ := bind_some_inv h
  have h_q1 : Fr [(66, some 0), (66, some 11)] _ q1.2 := (Fr.tr Fr.rf (Fr.mono (w_f_m_anew e_q1) rfl))
  obtain ⟨q2, e_q2, h⟩ := bind_some_inv h
  have h_q2 : Fr [(66, some 0), (66, some 11)] _ q2.2 := (Fr.tr h_q1 (Fr.mono (w_f_m_isCell e_q2) rfl))
  rcases ite_some_inv h with h | h
  · exact (Fr.tr h_q2 (w_f_m_over_L22 (W := [(66, some 0), (66, some 11)]) (fun e he => by cases he)  _ _ _ _ _ _ _ (fun w1 w2 t4 z h => by
        rcases ite_some_inv h with h | h
        · rcases ite_some_inv h with h | h
          · cases h
          · cases h
            exact Fr.rf
        · rcases ite_some_inv h with h | h
          · cases h
          · cases h
            exact Fr.rf
      ) h))
  · obtain ⟨q5, e_q5, h⟩ := bind_some_inv h
    have h_q5 : Fr [(66, some 0), (66, some 11)] _ q5.2 := (Fr.tr h_q2 (Fr.mono (w_f_m_no e_q5) rfl))
    cases h
    exact h_q5
set_option maxRecDepth 100000 in
theorem w_f_m_passes {N : Nat} {v1 : Int32} {v2 : Int32} {σ : Sg} {z : Int32 × Sg} (h : f_m_passes N v1 v2 σ = some z) : Fr [(66, some 0), (66, some 11), (75, none)] σ z.2 := by
  unfold f_m_passes at h
  obtain ⟨q1, e_q1, h⟩ := bind_some_inv h
  have h_q1 : Fr [(66, some 0), (66, some 11), (75, none)] _ q1.2 := (Fr.tr Fr.rf (Fr.mono (w_f_m_anew e_q1) rfl))
  obtain ⟨q2, e_q2, h⟩ := bind_some_inv h
  have h_q2 : Fr [(66, some 0), (66, some 11), (75, none)] _ q2.2 := (Fr.tr h_q1 (Fr.mono (w_f_m_wayWhy e_q2) rfl))
  rcases ite_some_inv h with h | h
  · obtain ⟨q3, e_q3, h⟩ := bind_some_inv h
    have h_q3 : Fr [(66, some 0), (66, some 11), (75, none)] _ q3.2 := (Fr.tr h_q2 (Fr.mono (w_f_m_begin e_q3) rfl))
    obtain ⟨q4, e_q4, h⟩ := bind_some_inv h
    have h_q4 : Fr [(66, some 0), (66, some 11), (75, none)] _ q4.2 := (Fr.tr h_q3 (Fr.mono (w_f_m_strideOn e_q4) rfl))
    rcases ite_some_inv h with h | h
    · obtain ⟨q5, e_q5, h⟩ := bind_some_inv h
      have h_q5 : Fr [(66, some 0), (66, some 11), (75, none)] _ q5.2 := (Fr.tr h_q4 (Fr.mono (w_f_m_goneOn e_q5) rfl))
      obtain ⟨q6, e_q6, h⟩ := bind_some_inv h
      have h_q6 : Fr [(66, some 0), (66, some 11), (75, none)] _ q6.2 := (Fr.tr h_q5 (Fr.mono (w_f_m_goneOn e_q6) rfl))
      cases h
      exact h_q6
    · cases h
      exact h_q4
  · obtain ⟨q7, e_q7, h⟩ := bind_some_inv h
    have h_q7 : Fr [(66, some 0), (66, some 11), (75, none)] _ q7.2 := (Fr.tr h_q2 (Fr.mono (w_f_m_no e_q7) rfl))
    cases h
    exact h_q7
set_option maxRecDepth 100000 in
theorem w_f_m_isPlace {N : Nat} {v1 : Int32} {σ : Sg} {z : Bool × Sg} (h : f_m_isPlace N v1 σ = some z) : Fr [] σ z.2 := by
  unfold f_m_isPlace at h
  rcases ite_some_inv h with h | h
  · cases h
    exact Fr.rf
  · obtain ⟨q1, e_q1, h⟩ := bind_some_inv h
    have h_q1 : Fr [] _ q1.2 := (Fr.tr Fr.rf (Fr.mono (w_f_m_in e_q1) rfl))
    rcases ite_some_inv h with h | h
    · cases h
      exact h_q1
    · cases h
      exact h_q1
set_option maxRecDepth 100000 in
theorem w_f_m_place {N : Nat} {v1 : Int32} {v2 : Int32} {σ : Sg} {z : Int32 × Sg} (h : f_m_place N v1 v2 σ = some z) : Fr [(66, some 0), (66, some 11)] σ z.2 := by
  unfold f_m_place at h
  obtain ⟨q1, e_q1, h⟩ := bind_some_inv h
  have h_q1 : Fr [(66, some 0), (66, some 11)] _ q1.2 := (Fr.tr Fr.rf (Fr.mono (w_f_m_anew e_q1) rfl))
  obtain ⟨q2, e_q2, h⟩ := bind_some_inv h
  have h_q2 : Fr [(66, some 0), (66, some 11)] _ q2.2 := (Fr.tr h_q1 (Fr.mono (w_f_m_isPlace e_q2) rfl))
  rcases ite_some_inv h with h | h
  · obtain ⟨q4, e_q4, h⟩ := bind_some_inv h
    have h_q4 : Fr [(66, some 0), (66, some 11)] _ q4.2 := (Fr.tr h_q2 (Fr.mono (w_f_m_in e_q4) rfl))
    rcases ite_some_inv h with h | h
    · rcases ite_some_inv h with h | h
      · rcases ite_some_inv h with h | h
        · rcases ite_some_inv h with h | h
          · rcases ite_some_inv h with h | h
            · cases h
              exact h_q4
            · cases h
              exact h_q4
          · cases h
        · cases h
      · rcases ite_some_inv h with h | h
        · cases h
          exact h_q4
        · cases h
    · obtain ⟨q5, e_q5, h⟩ := bind_some_inv h
      have h_q5 : Fr [(66, some 0), (66, some 11)] _ q5.2 := (Fr.tr h_q4 (Fr.mono (w_f_m_no e_q5) rfl))
      cases h
      exact h_q5
  · obtain ⟨q3, e_q3, h⟩ := bind_some_inv h
    have h_q3 : Fr [(66, some 0), (66, some 11)] _ q3.2 := (Fr.tr h_q2 (Fr.mono (w_f_m_no e_q3) rfl))
    cases h
    exact h_q3
set_option maxRecDepth 100000 in
theorem w_f_m_reach_L40 {N : Nat} : ∀ (n : Nat) (v1 : Int32) (v3 : Int32) (v4 : Int32) (σ : Sg) (z : Int32 × Sg), f_m_reach_L40 N n v1 v3 v4 σ = some z → Fr [] σ z.2 := by
  intro n
  induction n with
  | zero => intro v1 v3 v4 σ z  h; exact nomatch (show (none : Option (Int32 × Sg)) = some z from h)
  | succ n ih =>
    intro v1 v3 v4 σ z  h
    unfold f_m_reach_L40 at h
    rcases ite_some_inv h with h | h
    · cases h
      exact Fr.rf
    · rcases ite_some_inv h with h | h
      · rcases ite_some_inv h with h | h
        · exact (Fr.tr Fr.rf (ih _ _ _ _ _ h))
        · exact (Fr.tr Fr.rf (ih _ _ _ _ _ h))
      · cases h
set_option maxRecDepth 100000 in
theorem w_f_m_reach {N : Nat} {v1 : Int32} {σ : Sg} {z : Int32 × Sg} (h : f_m_reach N v1 σ = some z) : Fr [(66, some 0), (66, some 11), (66, some 35), (66, some 36), (66, some 37), (66, some 38), (66, some 39), (80, none), (81, none), (82, none)] σ z.2 := by
  unfold f_m_reach at h
  obtain ⟨q1, e_q1, h⟩ := bind_some_inv h
  have h_q1 : Fr [(66, some 0), (66, some 11), (66, some 35), (66, some 36), (66, some 37), (66, some 38), (66, some 39), (80, none), (81, none), (82, none)] _ q1.2 := (Fr.tr Fr.rf (Fr.mono (w_f_m_anew e_q1) rfl))
  obtain ⟨q2, e_q2, h⟩ := bind_some_inv h
  have h_q2 : Fr [(66, some 0), (66, some 11), (66, some 35), (66, some 36), (66, some 37), (66, some 38), (66, some 39), (80, none), (81, none), (82, none)] _ q2.2 := (Fr.tr h_q1 (Fr.mono (w_f_m_in e_q2) rfl))
  obtain ⟨q3, e_q3, h⟩ := bind_some_inv h
  have h_q3 : Fr [(66, some 0), (66, some 11), (66, some 35), (66, some 36), (66, some 37), (66, some 38), (66, some 39), (80, none), (81, none), (82, none)] _ q3.2 := (Fr.tr h_q2 (Fr.mono (w_f_m_why e_q3) rfl))
  rcases ite_some_inv h with h | h
  · obtain ⟨q4, e_q4, h⟩ := bind_some_inv h
    have h_q4 : Fr [(66, some 0), (66, some 11), (66, some 35), (66, some 36), (66, some 37), (66, some 38), (66, some 39), (80, none), (81, none), (82, none)] _ q4.2 := (Fr.tr h_q3 (Fr.mono (w_f_m_seekRows e_q4) rfl))
    exact (Fr.tr h_q4 (Fr.mono (w_f_m_reach_L40 _ _ _ _ _ _ h) rfl))
  · obtain ⟨q5, e_q5, h⟩ := bind_some_inv h
    have h_q5 : Fr [(66, some 0), (66, some 11), (66, some 35), (66, some 36), (66, some 37), (66, some 38), (66, some 39), (80, none), (81, none), (82, none)] _ q5.2 := (Fr.tr h_q3 (Fr.mono (w_f_m_no e_q5) rfl))
    cases h
    exact h_q5
set_option maxRecDepth 100000 in
theorem w_f_m_seekRests_L10 {N : Nat} : ∀ (n : Nat) (v1 : Int32) (v2 : Int32) (v3 : Int32) (σ : Sg) (z : Int32 × Sg), f_m_seekRests_L10 N n v1 v2 v3 σ = some z → Fr [(66, some 48)] σ z.2 := by
  intro n
  induction n with
  | zero => intro v1 v2 v3 σ z  h; exact nomatch (show (none : Option (Int32 × Sg)) = some z from h)
  | succ n ih =>
    intro v1 v2 v3 σ z  h
    unfold f_m_seekRests_L10 at h
    rcases ite_some_inv h with h | h
    · cases h
      exact Fr.rf
    · rcases ite_some_inv h with h | h
      · rcases ite_some_inv h with h | h
        · obtain ⟨q5, e_q5, h⟩ := bind_some_inv h
          have h_q5 : Fr [(66, some 48)] _ q5.2 := (Fr.tr Fr.rf (Fr.mono (w_f_m_goesOf e_q5) rfl))
          obtain ⟨q6, e_q6, h⟩ := bind_some_inv h
          have h_q6 : Fr [(66, some 48)] _ q6.2 := (Fr.tr h_q5 (Fr.mono (w_f_m_goesOf e_q6) rfl))
          rcases ite_some_inv h with h | h
          · exact (Fr.tr h_q6 (ih _ _ _ _ _ h))
          · obtain ⟨q7, e_q7, h⟩ := bind_some_inv h
            have h_q7 : Fr [(66, some 48)] _ q7.2 := (Fr.tr h_q6 (Fr.mono (w_f_m_goesOf e_q7) rfl))
            obtain ⟨q8, e_q8, h⟩ := bind_some_inv h
            have h_q8 : Fr [(66, some 48)] _ q8.2 := (Fr.tr h_q7 (Fr.mono (w_f_m_goesOf e_q8) rfl))
            rcases ite_some_inv h with h | h
            · rcases ite_some_inv h with h | h
              · exact (Fr.tr (Fr.wI h_q8 (List.elem_iff.mp rfl)) (ih _ _ _ _ _ h))
              · exact (Fr.tr h_q8 (ih _ _ _ _ _ h))
            · exact (Fr.tr h_q8 (ih _ _ _ _ _ h))
        · obtain ⟨q1, e_q1, h⟩ := bind_some_inv h
          have h_q1 : Fr [(66, some 48)] _ q1.2 := (Fr.tr Fr.rf (Fr.mono (w_f_m_goesOf e_q1) rfl))
          obtain ⟨q2, e_q2, h⟩ := bind_some_inv h
          have h_q2 : Fr [(66, some 48)] _ q2.2 := (Fr.tr h_q1 (Fr.mono (w_f_m_goesOf e_q2) rfl))
          rcases ite_some_inv h with h | h
          · exact (Fr.tr h_q2 (ih _ _ _ _ _ h))
          · obtain ⟨q3, e_q3, h⟩ := bind_some_inv h
            have h_q3 : Fr [(66, some 48)] _ q3.2 := (Fr.tr h_q2 (Fr.mono (w_f_m_goesOf e_q3) rfl))
            obtain ⟨q4, e_q4, h⟩ := bind_some_inv h
            have h_q4 : Fr [(66, some 48)] _ q4.2 := (Fr.tr h_q3 (Fr.mono (w_f_m_goesOf e_q4) rfl))
            rcases ite_some_inv h with h | h
            · rcases ite_some_inv h with h | h
              · exact (Fr.tr (Fr.wI h_q4 (List.elem_iff.mp rfl)) (ih _ _ _ _ _ h))
              · exact (Fr.tr h_q4 (ih _ _ _ _ _ h))
            · exact (Fr.tr h_q4 (ih _ _ _ _ _ h))
      · rcases ite_some_inv h with h | h
        · obtain ⟨q13, e_q13, h⟩ := bind_some_inv h
          have h_q13 : Fr [(66, some 48)] _ q13.2 := (Fr.tr Fr.rf (Fr.mono (w_f_m_goesOf e_q13) rfl))
          obtain ⟨q14, e_q14, h⟩ := bind_some_inv h
          have h_q14 : Fr [(66, some 48)] _ q14.2 := (Fr.tr h_q13 (Fr.mono (w_f_m_goesOf e_q14) rfl))
          rcases ite_some_inv h with h | h
          · exact (Fr.tr h_q14 (ih _ _ _ _ _ h))
          · obtain ⟨q15, e_q15, h⟩ := bind_some_inv h
            have h_q15 : Fr [(66, some 48)] _ q15.2 := (Fr.tr h_q14 (Fr.mono (w_f_m_goesOf e_q15) rfl))
            obtain ⟨q16, e_q16, h⟩ := bind_some_inv h
            have h_q16 : Fr [(66, some 48)] _ q16.2 := (Fr.tr h_q15 (Fr.mono (w_f_m_goesOf e_q16) rfl))
            rcases ite_some_inv h with h | h
            · rcases ite_some_inv h with h | h
              · exact (Fr.tr (Fr.wI h_q16 (List.elem_iff.mp rfl)) (ih _ _ _ _ _ h))
              · exact (Fr.tr h_q16 (ih _ _ _ _ _ h))
            · exact (Fr.tr h_q16 (ih _ _ _ _ _ h))
        · obtain ⟨q9, e_q9, h⟩ := bind_some_inv h
          have h_q9 : Fr [(66, some 48)] _ q9.2 := (Fr.tr Fr.rf (Fr.mono (w_f_m_goesOf e_q9) rfl))
          obtain ⟨q10, e_q10, h⟩ := bind_some_inv h
          have h_q10 : Fr [(66, some 48)] _ q10.2 := (Fr.tr h_q9 (Fr.mono (w_f_m_goesOf e_q10) rfl))
          rcases ite_some_inv h with h | h
          · exact (Fr.tr h_q10 (ih _ _ _ _ _ h))
          · obtain ⟨q11, e_q11, h⟩ := bind_some_inv h
            have h_q11 : Fr [(66, some 48)] _ q11.2 := (Fr.tr h_q10 (Fr.mono (w_f_m_goesOf e_q11) rfl))
            obtain ⟨q12, e_q12, h⟩ := bind_some_inv h
            have h_q12 : Fr [(66, some 48)] _ q12.2 := (Fr.tr h_q11 (Fr.mono (w_f_m_goesOf e_q12) rfl))
            rcases ite_some_inv h with h | h
            · rcases ite_some_inv h with h | h
              · exact (Fr.tr (Fr.wI h_q12 (List.elem_iff.mp rfl)) (ih _ _ _ _ _ h))
              · exact (Fr.tr h_q12 (ih _ _ _ _ _ h))
            · exact (Fr.tr h_q12 (ih _ _ _ _ _ h))
set_option maxRecDepth 100000 in
theorem w_f_m_seekRests {N : Nat} {v1 : Int32} {σ : Sg} {z : Int32 × Sg} (h : f_m_seekRests N v1 σ = some z) : Fr [(66, some 48)] σ z.2 := by
  unfold f_m_seekRests at h
  exact (Fr.tr (Fr.wI Fr.rf (List.elem_iff.mp rfl)) (Fr.mono (w_f_m_seekRests_L10 _ _ _ _ _ _ h) rfl))
set_option maxRecDepth 100000 in
theorem w_f_m_rest {N : Nat} {v1 : Int32} {σ : Sg} {z : Int32 × Sg} (h : f_m_rest N v1 σ = some z) : Fr [(66, some 0), (66, some 11), (66, some 48)] σ z.2 := by
  unfold f_m_rest at h
  obtain ⟨q1, e_q1, h⟩ := bind_some_inv h
  have h_q1 : Fr [(66, some 0), (66, some 11), (66, some 48)] _ q1.2 := (Fr.tr Fr.rf (Fr.mono (w_f_m_anew e_q1) rfl))
  obtain ⟨q2, e_q2, h⟩ := bind_some_inv h
  have h_q2 : Fr [(66, some 0), (66, some 11), (66, some 48)] _ q2.2 := (Fr.tr h_q1 (Fr.mono (w_f_m_in e_q2) rfl))
  obtain ⟨q3, e_q3, h⟩ := bind_some_inv h
  have h_q3 : Fr [(66, some 0), (66, some 11), (66, some 48)] _ q3.2 := (Fr.tr h_q2 (Fr.mono (w_f_m_why e_q3) rfl))
  rcases ite_some_inv h with h | h
  · obtain ⟨q4, e_q4, h⟩ := bind_some_inv h
    have h_q4 : Fr [(66, some 0), (66, some 11), (66, some 48)] _ q4.2 := (Fr.tr h_q3 (Fr.mono (w_f_m_seekRests e_q4) rfl))
    cases h
    exact h_q4
  · obtain ⟨q5, e_q5, h⟩ := bind_some_inv h
    have h_q5 : Fr [(66, some 0), (66, some 11), (66, some 48)] _ q5.2 := (Fr.tr h_q3 (Fr.mono (w_f_m_no e_q5) rfl))
    cases h
    exact h_q5
set_option maxRecDepth 100000 in
theorem w_f_m_rests {N : Nat} {v1 : Int32} {σ : Sg} {z : Int32 × Sg} (h : f_m_rests N v1 σ = some z) : Fr [(66, some 0), (66, some 11), (66, some 48)] σ z.2 := by
  unfold f_m_rests at h
  obtain ⟨q1, e_q1, h⟩ := bind_some_inv h
  have h_q1 : Fr [(66, some 0), (66, some 11), (66, some 48)] _ q1.2 := (Fr.tr Fr.rf (Fr.mono (w_f_m_anew e_q1) rfl))
  obtain ⟨q2, e_q2, h⟩ := bind_some_inv h
  have h_q2 : Fr [(66, some 0), (66, some 11), (66, some 48)] _ q2.2 := (Fr.tr h_q1 (Fr.mono (w_f_m_in e_q2) rfl))
  obtain ⟨q3, e_q3, h⟩ := bind_some_inv h
  have h_q3 : Fr [(66, some 0), (66, some 11), (66, some 48)] _ q3.2 := (Fr.tr h_q2 (Fr.mono (w_f_m_why e_q3) rfl))
  rcases ite_some_inv h with h | h
  · obtain ⟨q4, e_q4, h⟩ := bind_some_inv h
    have h_q4 : Fr [(66, some 0), (66, some 11), (66, some 48)] _ q4.2 := (Fr.tr h_q3 (Fr.mono (w_f_m_seekRests e_q4) rfl))
    cases h
    exact h_q4
  · obtain ⟨q5, e_q5, h⟩ := bind_some_inv h
    have h_q5 : Fr [(66, some 0), (66, some 11), (66, some 48)] _ q5.2 := (Fr.tr h_q3 (Fr.mono (w_f_m_no e_q5) rfl))
    cases h
    exact h_q5
set_option maxRecDepth 100000 in
theorem w_f_m_rowLeads {N : Nat} {v1 : Int32} {v2 : Int32} {σ : Sg} {z : Int32 × Sg} (h : f_m_rowLeads N v1 v2 σ = some z) : Fr [(66, some 0), (66, some 11), (75, none), (79, none)] σ z.2 := by
  unfold f_m_rowLeads at h
  obtain ⟨q1, e_q1, h⟩ := bind_some_inv h
  have h_q1 : Fr [(66, some 0), (66, some 11), (75, none), (79, none)] _ q1.2 := (Fr.tr Fr.rf (Fr.mono (w_f_m_anew e_q1) rfl))
  obtain ⟨q2, e_q2, h⟩ := bind_some_inv h
  have h_q2 : Fr [(66, some 0), (66, some 11), (75, none), (79, none)] _ q2.2 := (Fr.tr h_q1 (Fr.mono (w_f_m_rowWhy e_q2) rfl))
  rcases ite_some_inv h with h | h
  · obtain ⟨q3, e_q3, h⟩ := bind_some_inv h
    have h_q3 : Fr [(66, some 0), (66, some 11), (75, none), (79, none)] _ q3.2 := (Fr.tr h_q2 (Fr.mono (w_f_m_makes e_q3) rfl))
    rcases ite_some_inv h with h | h
    · cases h
      exact h_q3
    · cases h
      exact h_q3
  · obtain ⟨q4, e_q4, h⟩ := bind_some_inv h
    have h_q4 : Fr [(66, some 0), (66, some 11), (75, none), (79, none)] _ q4.2 := (Fr.tr h_q2 (Fr.mono (w_f_m_no e_q4) rfl))
    cases h
    exact h_q4
set_option maxRecDepth 100000 in
theorem w_f_m_rowLost {N : Nat} {v1 : Int32} {v2 : Int32} {σ : Sg} {z : Int32 × Sg} (h : f_m_rowLost N v1 v2 σ = some z) : Fr [(66, some 0), (66, some 11), (75, none), (79, none)] σ z.2 := by
  unfold f_m_rowLost at h
  obtain ⟨q1, e_q1, h⟩ := bind_some_inv h
  have h_q1 : Fr [(66, some 0), (66, some 11), (75, none), (79, none)] _ q1.2 := (Fr.tr Fr.rf (Fr.mono (w_f_m_anew e_q1) rfl))
  obtain ⟨q2, e_q2, h⟩ := bind_some_inv h
  have h_q2 : Fr [(66, some 0), (66, some 11), (75, none), (79, none)] _ q2.2 := (Fr.tr h_q1 (Fr.mono (w_f_m_rowWhy e_q2) rfl))
  rcases ite_some_inv h with h | h
  · obtain ⟨q3, e_q3, h⟩ := bind_some_inv h
    have h_q3 : Fr [(66, some 0), (66, some 11), (75, none), (79, none)] _ q3.2 := (Fr.tr h_q2 (Fr.mono (w_f_m_makes e_q3) rfl))
    rcases ite_some_inv h with h | h
    · obtain ⟨q4, e_q4, h⟩ := bind_some_inv h
      have h_q4 : Fr [(66, some 0), (66, some 11), (75, none), (79, none)] _ q4.2 := (Fr.tr h_q3 (Fr.mono (w_f_m_lostOn e_q4) rfl))
      cases h
      exact h_q4
    · cases h
      exact h_q3
  · obtain ⟨q5, e_q5, h⟩ := bind_some_inv h
    have h_q5 : Fr [(66, some 0), (66, some 11), (75, none), (79, none)] _ q5.2 := (Fr.tr h_q2 (Fr.mono (w_f_m_no e_q5) rfl))
    cases h
    exact h_q5
set_option maxRecDepth 100000 in
theorem w_f_m_size {N : Nat} {v1 : Int32} {σ : Sg} {z : Int32 × Sg} (h : f_m_size N v1 σ = some z) : Fr [(66, some 0)] σ z.2 := by
  unfold f_m_size at h
  rcases ite_some_inv h with h | h
  · cases h
    exact (Fr.wI Fr.rf (List.elem_iff.mp rfl))
  · rcases ite_some_inv h with h | h
    · obtain ⟨q2, e_q2, h⟩ := bind_some_inv h
      have h_q2 : Fr [(66, some 0)] _ q2.2 := (Fr.tr (Fr.wI Fr.rf (List.elem_iff.mp rfl)) (Fr.mono (w_f_m_in e_q2) rfl))
      rcases ite_some_inv h with h | h
      · cases h
        exact h_q2
      · cases h
        exact h_q2
    · obtain ⟨q1, e_q1, h⟩ := bind_some_inv h
      have h_q1 : Fr [(66, some 0)] _ q1.2 := (Fr.tr (Fr.wI Fr.rf (List.elem_iff.mp rfl)) (Fr.mono (w_f_m_in e_q1) rfl))
      rcases ite_some_inv h with h | h
      · rcases ite_some_inv h with h | h
        · cases h
          exact h_q1
        · cases h
      · rcases ite_some_inv h with h | h
        · cases h
          exact h_q1
        · rcases ite_some_inv h with h | h
          · cases h
            exact h_q1
          · rcases ite_some_inv h with h | h
            · cases h
              exact h_q1
            · cases h
              exact h_q1
set_option maxRecDepth 100000 in
theorem w_f_m_son {N : Nat} {σ : Sg} {z : Int32 × Sg} (h : f_m_son N σ = some z) : Fr [(66, some 0), (66, some 11)] σ z.2 := by
  unfold f_m_son at h
  obtain ⟨q1, e_q1, h⟩ := bind_some_inv h
  have h_q1 : Fr [(66, some 0), (66, some 11)] _ q1.2 := (Fr.tr Fr.rf (Fr.mono (w_f_m_anew e_q1) rfl))
  rcases ite_some_inv h with h | h
  · obtain ⟨q2, e_q2, h⟩ := bind_some_inv h
    have h_q2 : Fr [(66, some 0), (66, some 11)] _ q2.2 := (Fr.tr h_q1 (Fr.mono (w_f_m_no e_q2) rfl))
    cases h
    exact h_q2
  · cases h
    exact h_q1
set_option maxRecDepth 100000 in
theorem w_f_m_spare {N : Nat} {v1 : Int32} {σ : Sg} {z : Int32 × Sg} (h : f_m_spare N v1 σ = some z) : Fr [(66, some 0), (66, some 11), (66, some 35), (66, some 36), (66, some 37), (66, some 38), (66, some 39), (80, none), (81, none), (82, none)] σ z.2 := by
  unfold f_m_spare at h
  obtain ⟨q1, e_q1, h⟩ := bind_some_inv h
  have h_q1 : Fr [(66, some 0), (66, some 11), (66, some 35), (66, some 36), (66, some 37), (66, some 38), (66, some 39), (80, none), (81, none), (82, none)] _ q1.2 := (Fr.tr Fr.rf (Fr.mono (w_f_m_anew e_q1) rfl))
  obtain ⟨q2, e_q2, h⟩ := bind_some_inv h
  have h_q2 : Fr [(66, some 0), (66, some 11), (66, some 35), (66, some 36), (66, some 37), (66, some 38), (66, some 39), (80, none), (81, none), (82, none)] _ q2.2 := (Fr.tr h_q1 (Fr.mono (w_f_m_isCell e_q2) rfl))
  rcases ite_some_inv h with h | h
  · obtain ⟨q3, e_q3, h⟩ := bind_some_inv h
    have h_q3 : Fr [(66, some 0), (66, some 11), (66, some 35), (66, some 36), (66, some 37), (66, some 38), (66, some 39), (80, none), (81, none), (82, none)] _ q3.2 := (Fr.tr h_q2 (Fr.mono (w_f_m_seekRows e_q3) rfl))
    rcases ite_some_inv h with h | h
    · obtain ⟨q4, e_q4, h⟩ := bind_some_inv h
      have h_q4 : Fr [(66, some 0), (66, some 11), (66, some 35), (66, some 36), (66, some 37), (66, some 38), (66, some 39), (80, none), (81, none), (82, none)] _ q4.2 := (Fr.tr h_q3 (Fr.mono (w_f_m_lostOn e_q4) rfl))
      cases h
      exact h_q4
    · cases h
      exact h_q3
  · obtain ⟨q5, e_q5, h⟩ := bind_some_inv h
    have h_q5 : Fr [(66, some 0), (66, some 11), (66, some 35), (66, some 36), (66, some 37), (66, some 38), (66, some 39), (80, none), (81, none), (82, none)] _ q5.2 := (Fr.tr h_q2 (Fr.mono (w_f_m_no e_q5) rfl))
    cases h
    exact h_q5
set_option maxRecDepth 100000 in
theorem w_f_m_spareRow {N : Nat} {v1 : Int32} {σ : Sg} {z : Int32 × Sg} (h : f_m_spareRow N v1 σ = some z) : Fr [(66, some 0), (66, some 11), (66, some 35), (66, some 36), (66, some 37), (66, some 38), (66, some 39), (80, none), (81, none), (82, none)] σ z.2 := by
  unfold f_m_spareRow at h
  obtain ⟨q1, e_q1, h⟩ := bind_some_inv h
  have h_q1 : Fr [(66, some 0), (66, some 11), (66, some 35), (66, some 36), (66, some 37), (66, some 38), (66, some 39), (80, none), (81, none), (82, none)] _ q1.2 := (Fr.tr Fr.rf (Fr.mono (w_f_m_anew e_q1) rfl))
  obtain ⟨q2, e_q2, h⟩ := bind_some_inv h
  have h_q2 : Fr [(66, some 0), (66, some 11), (66, some 35), (66, some 36), (66, some 37), (66, some 38), (66, some 39), (80, none), (81, none), (82, none)] _ q2.2 := (Fr.tr h_q1 (Fr.mono (w_f_m_isCell e_q2) rfl))
  rcases ite_some_inv h with h | h
  · obtain ⟨q3, e_q3, h⟩ := bind_some_inv h
    have h_q3 : Fr [(66, some 0), (66, some 11), (66, some 35), (66, some 36), (66, some 37), (66, some 38), (66, some 39), (80, none), (81, none), (82, none)] _ q3.2 := (Fr.tr h_q2 (Fr.mono (w_f_m_seekRows e_q3) rfl))
    rcases ite_some_inv h with h | h
    · cases h
      exact h_q3
    · cases h
      exact h_q3
  · obtain ⟨q4, e_q4, h⟩ := bind_some_inv h
    have h_q4 : Fr [(66, some 0), (66, some 11), (66, some 35), (66, some 36), (66, some 37), (66, some 38), (66, some 39), (80, none), (81, none), (82, none)] _ q4.2 := (Fr.tr h_q2 (Fr.mono (w_f_m_no e_q4) rfl))
    cases h
    exact h_q4
set_option maxRecDepth 100000 in
theorem w_f_m_stepOn {N : Nat} {a0 : Nat} {a1 : Nat} {a2 : Nat} {v2 : Int32} {σ : Sg} {z : Bool × Sg} (h : f_m_stepOn N a0 a1 a2 v2 σ = some z) : Fr [(a0, none)] σ z.2 := by
  unfold f_m_stepOn at h
  rcases ite_some_inv h with h | h
  · obtain ⟨q2, e_q2, h⟩ := bind_some_inv h
    have h_q2 : Fr [(a0, none)] _ q2.2 := (Fr.tr Fr.rf (Fr.mono (w_f_m_in e_q2) rfl))
    rcases ite_some_inv h with h | h
    · rcases ite_some_inv h with h | h
      · rcases ite_some_inv h with h | h
        · cases h
          exact (Fr.wA h_q2 (by simp))
        · rcases ite_some_inv h with h | h
          · rcases ite_some_inv h with h | h
            · cases h
              exact (Fr.wA (Fr.wA h_q2 (by simp)) (by simp))
            · cases h
          · cases h
      · cases h
    · cases h
      exact h_q2
  · obtain ⟨q1, e_q1, h⟩ := bind_some_inv h
    have h_q1 : Fr [(a0, none)] _ q1.2 := (Fr.tr Fr.rf (Fr.mono (w_f_m_in e_q1) rfl))
    rcases ite_some_inv h with h | h
    · rcases ite_some_inv h with h | h
      · rcases ite_some_inv h with h | h
        · cases h
          exact (Fr.wA h_q1 (by simp))
        · rcases ite_some_inv h with h | h
          · rcases ite_some_inv h with h | h
            · cases h
              exact (Fr.wA (Fr.wA h_q1 (by simp)) (by simp))
            · cases h
          · cases h
      · cases h
    · cases h
      exact h_q1
set_option maxRecDepth 100000 in
theorem w_f_m_step {N : Nat} {v1 : Int32} {σ : Sg} {z : Int32 × Sg} (h : f_m_step N v1 σ = some z) : Fr [(66, some 0), (66, some 11), (66, some 24), (74, none), (76, none)] σ z.2 := by
  unfold f_m_step at h
  obtain ⟨q1, e_q1, h⟩ := bind_some_inv h
  have h_q1 : Fr [(66, some 0), (66, some 11), (66, some 24), (74, none), (76, none)] _ q1.2 := (Fr.tr Fr.rf (Fr.mono (w_f_m_anew e_q1) rfl))
  obtain ⟨q2, e_q2, h⟩ := bind_some_inv h
  have h_q2 : Fr [(66, some 0), (66, some 11), (66, some 24), (74, none), (76, none)] _ q2.2 := (Fr.tr h_q1 (Fr.mono (w_f_m_in e_q2) rfl))
  obtain ⟨q3, e_q3, h⟩ := bind_some_inv h
  have h_q3 : Fr [(66, some 0), (66, some 11), (66, some 24), (74, none), (76, none)] _ q3.2 := (Fr.tr h_q2 (Fr.mono (w_f_m_why e_q3) rfl))
  rcases ite_some_inv h with h | h
  · rcases ite_some_inv h with h | h
    · obtain ⟨q12, e_q12, h⟩ := bind_some_inv h
      have h_q12 : Fr [(66, some 0), (66, some 11), (66, some 24), (74, none), (76, none)] _ q12.2 := (Fr.tr h_q3 (Fr.mono (w_f_m_in e_q12) rfl))
      rcases ite_some_inv h with h | h
      · rcases ite_some_inv h with h | h
        · obtain ⟨q13, e_q13, h⟩ := bind_some_inv h
          have h_q13 : Fr [(66, some 0), (66, some 11), (66, some 24), (74, none), (76, none)] _ q13.2 := (Fr.tr h_q12 (Fr.mono (w_f_m_note e_q13) rfl))
          obtain ⟨q14, e_q14, h⟩ := bind_some_inv h
          have h_q14 : Fr [(66, some 0), (66, some 11), (66, some 24), (74, none), (76, none)] _ q14.2 := (Fr.tr h_q13 (Fr.mono (w_f_m_stepOn e_q14) rfl))
          cases h
          exact h_q14
        · obtain ⟨q15, e_q15, h⟩ := bind_some_inv h
          have h_q15 : Fr [(66, some 0), (66, some 11), (66, some 24), (74, none), (76, none)] _ q15.2 := (Fr.tr h_q12 (Fr.mono (w_f_m_no e_q15) rfl))
          cases h
          exact h_q15
      · obtain ⟨q16, e_q16, h⟩ := bind_some_inv h
        have h_q16 : Fr [(66, some 0), (66, some 11), (66, some 24), (74, none), (76, none)] _ q16.2 := (Fr.tr h_q12 (Fr.mono (w_f_m_no e_q16) rfl))
        cases h
        exact h_q16
    · obtain ⟨q7, e_q7, h⟩ := bind_some_inv h
      have h_q7 : Fr [(66, some 0), (66, some 11), (66, some 24), (74, none), (76, none)] _ q7.2 := (Fr.tr h_q3 (Fr.mono (w_f_m_in e_q7) rfl))
      rcases ite_some_inv h with h | h
      · rcases ite_some_inv h with h | h
        · obtain ⟨q8, e_q8, h⟩ := bind_some_inv h
          have h_q8 : Fr [(66, some 0), (66, some 11), (66, some 24), (74, none), (76, none)] _ q8.2 := (Fr.tr h_q7 (Fr.mono (w_f_m_note e_q8) rfl))
          obtain ⟨q9, e_q9, h⟩ := bind_some_inv h
          have h_q9 : Fr [(66, some 0), (66, some 11), (66, some 24), (74, none), (76, none)] _ q9.2 := (Fr.tr h_q8 (Fr.mono (w_f_m_stepOn e_q9) rfl))
          cases h
          exact h_q9
        · obtain ⟨q10, e_q10, h⟩ := bind_some_inv h
          have h_q10 : Fr [(66, some 0), (66, some 11), (66, some 24), (74, none), (76, none)] _ q10.2 := (Fr.tr h_q7 (Fr.mono (w_f_m_no e_q10) rfl))
          cases h
          exact h_q10
      · obtain ⟨q11, e_q11, h⟩ := bind_some_inv h
        have h_q11 : Fr [(66, some 0), (66, some 11), (66, some 24), (74, none), (76, none)] _ q11.2 := (Fr.tr h_q7 (Fr.mono (w_f_m_no e_q11) rfl))
        cases h
        exact h_q11
  · rcases ite_some_inv h with h | h
    · obtain ⟨q4, e_q4, h⟩ := bind_some_inv h
      have h_q4 : Fr [(66, some 0), (66, some 11), (66, some 24), (74, none), (76, none)] _ q4.2 := (Fr.tr h_q3 (Fr.mono (w_f_m_note e_q4) rfl))
      obtain ⟨q5, e_q5, h⟩ := bind_some_inv h
      have h_q5 : Fr [(66, some 0), (66, some 11), (66, some 24), (74, none), (76, none)] _ q5.2 := (Fr.tr h_q4 (Fr.mono (w_f_m_stepOn e_q5) rfl))
      cases h
      exact h_q5
    · obtain ⟨q6, e_q6, h⟩ := bind_some_inv h
      have h_q6 : Fr [(66, some 0), (66, some 11), (66, some 24), (74, none), (76, none)] _ q6.2 := (Fr.tr h_q3 (Fr.mono (w_f_m_no e_q6) rfl))
      cases h
      exact h_q6
set_option maxRecDepth 100000 in
theorem w_f_m_steps {N : Nat} {v1 : Int32} {σ : Sg} {z : Int32 × Sg} (h : f_m_steps N v1 σ = some z) : Fr [(66, some 0), (66, some 11)] σ z.2 := by
  unfold f_m_steps at h
  obtain ⟨q1, e_q1, h⟩ := bind_some_inv h
  have h_q1 : Fr [(66, some 0), (66, some 11)] _ q1.2 := (Fr.tr Fr.rf (Fr.mono (w_f_m_anew e_q1) rfl))
  obtain ⟨q2, e_q2, h⟩ := bind_some_inv h
  have h_q2 : Fr [(66, some 0), (66, some 11)] _ q2.2 := (Fr.tr h_q1 (Fr.mono (w_f_m_isCell e_q2) rfl))
  rcases ite_some_inv h with h | h
  · rcases ite_some_inv h with h | h
    · rcases ite_some_inv h with h | h
      · cases h
        exact h_q2
      · rcases ite_some_inv h with h | h
        · rcases ite_some_inv h with h | h
          · rcases ite_some_inv h with h | h
            · cases h
              exact h_q2
            · cases h
          · rcases ite_some_inv h with h | h
            · cases h
              exact h_q2
            · cases h
        · rcases ite_some_inv h with h | h
          · rcases ite_some_inv h with h | h
            · cases h
              exact h_q2
            · cases h
          · rcases ite_some_inv h with h | h
            · cases h
              exact h_q2
            · cases h
    · cases h
  · obtain ⟨q3, e_q3, h⟩ := bind_some_inv h
    have h_q3 : Fr [(66, some 0), (66, some 11)] _ q3.2 := (Fr.tr h_q2 (Fr.mono (w_f_m_no e_q3) rfl))
    cases h
    exact h_q3
set_option maxRecDepth 100000 in
theorem w_f_m_stillIn_L23 {N : Nat} : ∀ (n : Nat) (v1 : Int32) (σ : Sg) (z : Int32 × Sg), f_m_stillIn_L23 N n v1 σ = some z → Fr [(66, some 27), (75, none), (78, none)] σ z.2 := by
  intro n
  induction n with
  | zero => intro v1 σ z  h; exact nomatch (show (none : Option (Int32 × Sg)) = some z from h)
  | succ n ih =>
    intro v1 σ z  h
    unfold f_m_stillIn_L23 at h
    rcases ite_some_inv h with h | h
    · cases h
      exact Fr.rf
    · obtain ⟨q3, e_q3, h⟩ := bind_some_inv h
      have h_q3 : Fr [(66, some 27), (75, none), (78, none)] _ q3.2 := (Fr.tr Fr.rf (Fr.mono (w_f_m_yearOn e_q3) rfl))
      rcases ite_some_inv h with h | h
      · cases h
        exact h_q3
      · exact (Fr.tr h_q3 (ih _ _ _ h))
set_option maxRecDepth 100000 in
theorem w_f_m_stillIn {N : Nat} {σ : Sg} {z : Int32 × Sg} (h : f_m_stillIn N σ = some z) : Fr [(66, some 0), (66, some 11), (66, some 27), (75, none), (78, none)] σ z.2 := by
  unfold f_m_stillIn at h
  obtain ⟨q1, e_q1, h⟩ := bind_some_inv h
  have h_q1 : Fr [(66, some 0), (66, some 11), (66, some 27), (75, none), (78, none)] _ q1.2 := (Fr.tr Fr.rf (Fr.mono (w_f_m_anew e_q1) rfl))
  rcases ite_some_inv h with h | h
  · obtain ⟨q4, e_q4, h⟩ := bind_some_inv h
    have h_q4 : Fr [(66, some 0), (66, some 11), (66, some 27), (75, none), (78, none)] _ q4.2 := (Fr.tr h_q1 (Fr.mono (w_f_m_no e_q4) rfl))
    cases h
    exact h_q4
  · obtain ⟨q2, e_q2, h⟩ := bind_some_inv h
    have h_q2 : Fr [(66, some 0), (66, some 11), (66, some 27), (75, none), (78, none)] _ q2.2 := (Fr.tr h_q1 (Fr.mono (w_f_m_begin e_q2) rfl))
    exact (Fr.tr h_q2 (Fr.mono (w_f_m_stillIn_L23 _ _ _ _ h) rfl))
set_option maxRecDepth 100000 in
theorem w_f_m_stretches {N : Nat} {σ : Sg} {z : Int32 × Sg} (h : f_m_stretches N σ = some z) : Fr [(66, some 0), (66, some 11), (66, some 28), (66, some 29), (66, some 30)] σ z.2 := by
  unfold f_m_stretches at h
  obtain ⟨q1, e_q1, h⟩ := bind_some_inv h
  have h_q1 : Fr [(66, some 0), (66, some 11), (66, some 28), (66, some 29), (66, some 30)] _ q1.2 := (Fr.tr Fr.rf (Fr.mono (w_f_m_anew e_q1) rfl))
  rcases ite_some_inv h with h | h
  · obtain ⟨q3, e_q3, h⟩ := bind_some_inv h
    have h_q3 : Fr [(66, some 0), (66, some 11), (66, some 28), (66, some 29), (66, some 30)] _ q3.2 := (Fr.tr h_q1 (Fr.mono (w_f_m_no e_q3) rfl))
    cases h
    exact h_q3
  · obtain ⟨q2, e_q2, h⟩ := bind_some_inv h
    have h_q2 : Fr [(66, some 0), (66, some 11), (66, some 28), (66, some 29), (66, some 30)] _ q2.2 := (Fr.tr h_q1 (Fr.mono (w_f_m_seekRuns e_q2) rfl))
    cases h
    exact h_q2
set_option maxRecDepth 100000 in
theorem w_f_m_stride {N : Nat} {v1 : Int32} {v2 : Int32} {σ : Sg} {z : Int32 × Sg} (h : f_m_stride N v1 v2 σ = some z) : Fr [(66, some 0), (66, some 11), (66, some 24), (74, none), (76, none)] σ z.2 := by
  unfold f_m_stride at h
  obtain ⟨q1, e_q1, h⟩ := bind_some_inv h
  have h_q1 : Fr [(66, some 0), (66, some 11), (66, some 24), (74, none), (76, none)] _ q1.2 := (Fr.tr Fr.rf (Fr.mono (w_f_m_anew e_q1) rfl))
  obtain ⟨q2, e_q2, h⟩ := bind_some_inv h
  have h_q2 : Fr [(66, some 0), (66, some 11), (66, some 24), (74, none), (76, none)] _ q2.2 := (Fr.tr h_q1 (Fr.mono (w_f_m_wayWhy e_q2) rfl))
  rcases ite_some_inv h with h | h
  · obtain ⟨q6, e_q6, h⟩ := bind_some_inv h
    have h_q6 : Fr [(66, some 0), (66, some 11), (66, some 24), (74, none), (76, none)] _ q6.2 := (Fr.tr h_q2 (Fr.mono (w_f_m_leadOf e_q6) rfl))
    rcases ite_some_inv h with h | h
    · rcases ite_some_inv h with h | h
      · obtain ⟨q7, e_q7, h⟩ := bind_some_inv h
        have h_q7 : Fr [(66, some 0), (66, some 11), (66, some 24), (74, none), (76, none)] _ q7.2 := (Fr.tr h_q6 (Fr.mono (w_f_m_note e_q7) rfl))
        obtain ⟨q8, e_q8, h⟩ := bind_some_inv h
        have h_q8 : Fr [(66, some 0), (66, some 11), (66, some 24), (74, none), (76, none)] _ q8.2 := (Fr.tr h_q7 (Fr.mono (w_f_m_strideOn e_q8) rfl))
        cases h
        exact h_q8
      · obtain ⟨q9, e_q9, h⟩ := bind_some_inv h
        have h_q9 : Fr [(66, some 0), (66, some 11), (66, some 24), (74, none), (76, none)] _ q9.2 := (Fr.tr h_q6 (Fr.mono (w_f_m_no e_q9) rfl))
        cases h
        exact h_q9
    · obtain ⟨q10, e_q10, h⟩ := bind_some_inv h
      have h_q10 : Fr [(66, some 0), (66, some 11), (66, some 24), (74, none), (76, none)] _ q10.2 := (Fr.tr h_q6 (Fr.mono (w_f_m_no e_q10) rfl))
      cases h
      exact h_q10
  · rcases ite_some_inv h with h | h
    · obtain ⟨q3, e_q3, h⟩ := bind_some_inv h
      have h_q3 : Fr [(66, some 0), (66, some 11), (66, some 24), (74, none), (76, none)] _ q3.2 := (Fr.tr h_q2 (Fr.mono (w_f_m_note e_q3) rfl))
      obtain ⟨q4, e_q4, h⟩ := bind_some_inv h
      have h_q4 : Fr [(66, some 0), (66, some 11), (66, some 24), (74, none), (76, none)] _ q4.2 := (Fr.tr h_q3 (Fr.mono (w_f_m_strideOn e_q4) rfl))
      cases h
      exact h_q4
    · obtain ⟨q5, e_q5, h⟩ := bind_some_inv h
      have h_q5 : Fr [(66, some 0), (66, some 11), (66, some 24), (74, none), (76, none)] _ q5.2 := (Fr.tr h_q2 (Fr.mono (w_f_m_no e_q5) rfl))
      cases h
      exact h_q5
set_option maxRecDepth 100000 in
theorem w_f_m_sum {N : Nat} {v1 : Int32} {σ : Sg} {z : Int32 × Sg} (h : f_m_sum N v1 σ = some z) : Fr [(66, some 0), (66, some 11), (83, none)] σ z.2 := by
  unfold f_m_sum at h
  obtain ⟨q1, e_q1, h⟩ := bind_some_inv h
  have h_q1 : Fr [(66, some 0), (66, some 11), (83, none)] _ q1.2 := (Fr.tr Fr.rf (Fr.mono (w_f_m_anew e_q1) rfl))
  obtain ⟨q2, e_q2, h⟩ := bind_some_inv h
  have h_q2 : Fr [(66, some 0), (66, some 11), (83, none)] _ q2.2 := (Fr.tr h_q1 (Fr.mono (w_f_m_aheadWhy e_q2) rfl))
  rcases ite_some_inv h with h | h
  · obtain ⟨q3, e_q3, h⟩ := bind_some_inv h
    have h_q3 : Fr [(66, some 0), (66, some 11), (83, none)] _ q3.2 := (Fr.tr h_q2 (Fr.mono (w_f_m_laySums e_q3) rfl))
    rcases ite_some_inv h with h | h
    · rcases ite_some_inv h with h | h
      · rcases ite_some_inv h with h | h
        · cases h
          exact h_q3
        · cases h
      · cases h
        exact h_q3
    · cases h
  · obtain ⟨q4, e_q4, h⟩ := bind_some_inv h
    have h_q4 : Fr [(66, some 0), (66, some 11), (83, none)] _ q4.2 := (Fr.tr h_q2 (Fr.mono (w_f_m_no e_q4) rfl))
    cases h
    exact h_q4
set_option maxRecDepth 100000 in
theorem w_f_m_surely {N : Nat} {σ : Sg} {z : Int32 × Sg} (h : f_m_surely N σ = some z) : Fr [(66, some 0), (66, some 11), (66, some 45), (66, some 46), (66, some 47), (75, none), (84, none)] σ z.2 := by
  unfold f_m_surely at h
  obtain ⟨q1, e_q1, h⟩ := bind_some_inv h
  have h_q1 : Fr [(66, some 0), (66, some 11), (66, some 45), (66, some 46), (66, some 47), (75, none), (84, none)] _ q1.2 := (Fr.tr Fr.rf (Fr.mono (w_f_m_anew e_q1) rfl))
  rcases ite_some_inv h with h | h
  · obtain ⟨q3, e_q3, h⟩ := bind_some_inv h
    have h_q3 : Fr [(66, some 0), (66, some 11), (66, some 45), (66, some 46), (66, some 47), (75, none), (84, none)] _ q3.2 := (Fr.tr h_q1 (Fr.mono (w_f_m_no e_q3) rfl))
    cases h
    exact h_q3
  · obtain ⟨q2, e_q2, h⟩ := bind_some_inv h
    have h_q2 : Fr [(66, some 0), (66, some 11), (66, some 45), (66, some 46), (66, some 47), (75, none), (84, none)] _ q2.2 := (Fr.tr h_q1 (Fr.mono (w_f_m_seekSets e_q2) rfl))
    cases h
    exact h_q2
set_option maxRecDepth 100000 in
theorem w_f_m_thrown {N : Nat} {σ : Sg} {z : Int32 × Sg} (h : f_m_thrown N σ = some z) : Fr [] σ z.2 := by
  unfold f_m_thrown at h
  cases h
  exact Fr.rf
set_option maxRecDepth 100000 in
theorem w_f_m_tourWhy {N : Nat} {v1 : Int32} {σ : Sg} {z : Int32 × Sg} (h : f_m_tourWhy N v1 σ = some z) : Fr [] σ z.2 := by
  unfold f_m_tourWhy at h
  obtain ⟨q1, e_q1, h⟩ := bind_some_inv h
  have h_q1 : Fr [] _ q1.2 := (Fr.tr Fr.rf (Fr.mono (w_f_m_in e_q1) rfl))
  obtain ⟨q2, e_q2, h⟩ := bind_some_inv h
  have h_q2 : Fr [] _ q2.2 := (Fr.tr h_q1 (Fr.mono (w_f_m_why e_q2) rfl))
  cases h
  exact h_q2
set_option maxRecDepth 100000 in
theorem w_f_m_walks_L8 {N : Nat} : ∀ (n : Nat) (v1 : Int32) (v3 : Int32) (σ : Sg) (z : Bool × Sg), f_m_walks_L8 N n v1 v3 σ = some z → Fr [(75, none)] σ z.2 := by
  intro n
  induction n with
  | zero => intro v1 v3 σ z  h; exact nomatch (show (none : Option (Bool × Sg)) = some z from h)
  | succ n ih =>
    intro v1 v3 σ z  h
    unfold f_m_walks_L8 at h
    rcases ite_some_inv h with h | h
    · cases h
      exact Fr.rf
    · obtain ⟨q2, e_q2, h⟩ := bind_some_inv h
      have h_q2 : Fr [(75, none)] _ q2.2 := (Fr.tr Fr.rf (Fr.mono (w_f_m_stepOn e_q2) rfl))
      rcases ite_some_inv h with h | h
      · exact (Fr.tr h_q2 (ih _ _ _ _ h))
      · cases h
        exact h_q2
set_option maxRecDepth 100000 in
theorem w_f_m_walks {N : Nat} {v1 : Int32} {v2 : Int32} {σ : Sg} {z : Bool × Sg} (h : f_m_walks N v1 v2 σ = some z) : Fr [(75, none)] σ z.2 := by
  unfold f_m_walks at h
  obtain ⟨q1, e_q1, h⟩ := bind_some_inv h
  have h_q1 : Fr [(75, none)] _ q1.2 := (Fr.tr Fr.rf (Fr.mono (w_f_m_begin e_q1) rfl))
  exact (Fr.tr h_q1 (Fr.mono (w_f_m_walks_L8 _ _ _ _ _ h) rfl))
set_option maxRecDepth 100000 in
theorem w_f_m_seekTour_L7 {N : Nat} : ∀ (n : Nat) (v1 : Int32) (v2 : Int32) (σ : Sg) (z : Unit × Sg), f_m_seekTour_L7 N n v1 v2 σ = some z → Fr [(66, some 41), (66, some 42), (66, some 43), (75, none)] σ z.2 := by
  intro n
  induction n with
  | zero => intro v1 v2 σ z  h; exact nomatch (show (none : Option (Unit × Sg)) = some z from h)
  | succ n ih =>
    intro v1 v2 σ z  h
    unfold f_m_seekTour_L7 at h
    rcases ite_some_inv h with h | h
    · cases h
      exact Fr.rf
    · obtain ⟨q1, e_q1, h⟩ := bind_some_inv h
      have h_q1 : Fr [(66, some 41), (66, some 42), (66, some 43), (75, none)] _ q1.2 := (Fr.tr Fr.rf (Fr.mono (w_f_m_walks e_q1) rfl))
      rcases ite_some_inv h with h | h
      · obtain ⟨q2, e_q2, h⟩ := bind_some_inv h
        have h_q2 : Fr [(66, some 41), (66, some 42), (66, some 43), (75, none)] _ q2.2 := (Fr.tr h_q1 (Fr.mono (w_f_m_lostOn e_q2) rfl))
        obtain ⟨q3, e_q3, h⟩ := bind_some_inv h
        have h_q3 : Fr [(66, some 41), (66, some 42), (66, some 43), (75, none)] _ q3.2 := (Fr.tr h_q2 (Fr.mono (w_f_m_goneOn e_q3) rfl))
        rcases ite_some_inv h with h | h
        · exact (Fr.tr (Fr.wI (Fr.wI (Fr.wI h_q3 (List.elem_iff.mp rfl)) (List.elem_iff.mp rfl)) (List.elem_iff.mp rfl)) (ih _ _ _ _ h))
        · rcases ite_some_inv h with h | h
          · exact (Fr.tr h_q3 (ih _ _ _ _ h))
          · rcases ite_some_inv h with h | h
            · rcases ite_some_inv h with h | h
              · exact (Fr.tr (Fr.wI (Fr.wI (Fr.wI h_q3 (List.elem_iff.mp rfl)) (List.elem_iff.mp rfl)) (List.elem_iff.mp rfl)) (ih _ _ _ _ h))
              · exact (Fr.tr h_q3 (ih _ _ _ _ h))
            · exact (Fr.tr (Fr.wI (Fr.wI (Fr.wI h_q3 (List.elem_iff.mp rfl)) (List.elem_iff.mp rfl)) (List.elem_iff.mp rfl)) (ih _ _ _ _ h))
      · exact (Fr.tr h_q1 (ih _ _ _ _ h))
set_option maxRecDepth 100000 in
theorem w_f_m_seekTour {N : Nat} {v1 : Int32} {σ : Sg} {z : Unit × Sg} (h : f_m_seekTour N v1 σ = some z) : Fr [(66, some 41), (66, some 42), (66, some 43), (75, none)] σ z.2 := by
  unfold f_m_seekTour at h
  exact (Fr.tr (Fr.wI Fr.rf (List.elem_iff.mp rfl)) (Fr.mono (w_f_m_seekTour_L7 _ _ _ _ _ h) rfl))
set_option maxRecDepth 100000 in
theorem w_f_m_tour {N : Nat} {v1 : Int32} {σ : Sg} {z : Int32 × Sg} (h : f_m_tour N v1 σ = some z) : Fr [(66, some 0), (66, some 11), (66, some 41), (66, some 42), (66, some 43), (75, none)] σ z.2 := by
  unfold f_m_tour at h
  obtain ⟨q1, e_q1, h⟩ := bind_some_inv h
  have h_q1 : Fr [(66, some 0), (66, some 11), (66, some 41), (66, some 42), (66, some 43), (75, none)] _ q1.2 := (Fr.tr Fr.rf (Fr.mono (w_f_m_anew e_q1) rfl))
  obtain ⟨q2, e_q2, h⟩ := bind_some_inv h
  have h_q2 : Fr [(66, some 0), (66, some 11), (66, some 41), (66, some 42), (66, some 43), (75, none)] _ q2.2 := (Fr.tr h_q1 (Fr.mono (w_f_m_tourWhy e_q2) rfl))
  rcases ite_some_inv h with h | h
  · obtain ⟨q3, e_q3, h⟩ := bind_some_inv h
    have h_q3 : Fr [(66, some 0), (66, some 11), (66, some 41), (66, some 42), (66, some 43), (75, none)] _ q3.2 := (Fr.tr h_q2 (Fr.mono (w_f_m_seekTour e_q3) rfl))
    cases h
    exact h_q3
  · obtain ⟨q4, e_q4, h⟩ := bind_some_inv h
    have h_q4 : Fr [(66, some 0), (66, some 11), (66, some 41), (66, some 42), (66, some 43), (75, none)] _ q4.2 := (Fr.tr h_q2 (Fr.mono (w_f_m_no e_q4) rfl))
    cases h
    exact h_q4
set_option maxRecDepth 100000 in
theorem w_f_m_tourAt_L52 {N : Nat} : ∀ (n : Nat) (v1 : Int32) (v2 : Int32) (v4 : Int32) (v5 : Int32) (σ : Sg) (z : Int32 × Sg), f_m_tourAt_L52 N n v1 v2 v4 v5 σ = some z → Fr [] σ z.2 := by
  intro n
  induction n with
  | zero => intro v1 v2 v4 v5 σ z  h; exact nomatch (show (none : Option (Int32 × Sg)) = some z from h)
  | succ n ih =>
    intro v1 v2 v4 v5 σ z  h
    unfold f_m_tourAt_L52 at h
    rcases ite_some_inv h with h | h
    · cases h
      exact Fr.rf
    · obtain ⟨q4, e_q4, h⟩ := bind_some_inv h
      have h_q4 : Fr [] _ q4.2 := (Fr.tr Fr.rf (Fr.mono (w_f_m_hasBit e_q4) rfl))
      rcases ite_some_inv h with h | h
      · exact (Fr.tr h_q4 (ih _ _ _ _ _ _ h))
      · exact (Fr.tr h_q4 (ih _ _ _ _ _ _ h))
set_option maxRecDepth 100000 in
theorem w_f_m_tourAt {N : Nat} {v1 : Int32} {v2 : Int32} {σ : Sg} {z : Int32 × Sg} (h : f_m_tourAt N v1 v2 σ = some z) : Fr [(66, some 0), (66, some 11), (66, some 41), (66, some 42), (66, some 43), (75, none)] σ z.2 := by
  unfold f_m_tourAt at h
  obtain ⟨q1, e_q1, h⟩ := bind_some_inv h
  have h_q1 : Fr [(66, some 0), (66, some 11), (66, some 41), (66, some 42), (66, some 43), (75, none)] _ q1.2 := (Fr.tr Fr.rf (Fr.mono (w_f_m_anew e_q1) rfl))
  obtain ⟨q2, e_q2, h⟩ := bind_some_inv h
  have h_q2 : Fr [(66, some 0), (66, some 11), (66, some 41), (66, some 42), (66, some 43), (75, none)] _ q2.2 := (Fr.tr h_q1 (Fr.mono (w_f_m_tourWhy e_q2) rfl))
  rcases ite_some_inv h with h | h
  · obtain ⟨q6, e_q6, h⟩ := bind_some_inv h
    have h_q6 : Fr [(66, some 0), (66, some 11), (66, some 41), (66, some 42), (66, some 43), (75, none)] _ q6.2 := (Fr.tr h_q2 (Fr.mono (w_f_m_in e_q6) rfl))
    rcases ite_some_inv h with h | h
    · rcases ite_some_inv h with h | h
      · obtain ⟨q7, e_q7, h⟩ := bind_some_inv h
        have h_q7 : Fr [(66, some 0), (66, some 11), (66, some 41), (66, some 42), (66, some 43), (75, none)] _ q7.2 := (Fr.tr h_q6 (Fr.mono (w_f_m_seekTour e_q7) rfl))
        exact (Fr.tr h_q7 (Fr.mono (w_f_m_tourAt_L52 _ _ _ _ _ _ _ h) rfl))
      · obtain ⟨q8, e_q8, h⟩ := bind_some_inv h
        have h_q8 : Fr [(66, some 0), (66, some 11), (66, some 41), (66, some 42), (66, some 43), (75, none)] _ q8.2 := (Fr.tr h_q6 (Fr.mono (w_f_m_no e_q8) rfl))
        cases h
        exact h_q8
    · obtain ⟨q9, e_q9, h⟩ := bind_some_inv h
      have h_q9 : Fr [(66, some 0), (66, some 11), (66, some 41), (66, some 42), (66, some 43), (75, none)] _ q9.2 := (Fr.tr h_q6 (Fr.mono (w_f_m_no e_q9) rfl))
      cases h
      exact h_q9
  · rcases ite_some_inv h with h | h
    · obtain ⟨q3, e_q3, h⟩ := bind_some_inv h
      have h_q3 : Fr [(66, some 0), (66, some 11), (66, some 41), (66, some 42), (66, some 43), (75, none)] _ q3.2 := (Fr.tr h_q2 (Fr.mono (w_f_m_seekTour e_q3) rfl))
      exact (Fr.tr h_q3 (Fr.mono (w_f_m_tourAt_L52 _ _ _ _ _ _ _ h) rfl))
    · obtain ⟨q5, e_q5, h⟩ := bind_some_inv h
      have h_q5 : Fr [(66, some 0), (66, some 11), (66, some 41), (66, some 42), (66, some 43), (75, none)] _ q5.2 := (Fr.tr h_q2 (Fr.mono (w_f_m_no e_q5) rfl))
      cases h
      exact h_q5
set_option maxRecDepth 100000 in
theorem w_f_m_tourGone {N : Nat} {v1 : Int32} {σ : Sg} {z : Int32 × Sg} (h : f_m_tourGone N v1 σ = some z) : Fr [(66, some 0), (66, some 11), (66, some 41), (66, some 42), (66, some 43), (75, none)] σ z.2 := by
  unfold f_m_tourGone at h
  obtain ⟨q1, e_q1, h⟩ := bind_some_inv h
  have h_q1 : Fr [(66, some 0), (66, some 11), (66, some 41), (66, some 42), (66, some 43), (75, none)] _ q1.2 := (Fr.tr Fr.rf (Fr.mono (w_f_m_anew e_q1) rfl))
  obtain ⟨q2, e_q2, h⟩ := bind_some_inv h
  have h_q2 : Fr [(66, some 0), (66, some 11), (66, some 41), (66, some 42), (66, some 43), (75, none)] _ q2.2 := (Fr.tr h_q1 (Fr.mono (w_f_m_tourWhy e_q2) rfl))
  rcases ite_some_inv h with h | h
  · obtain ⟨q3, e_q3, h⟩ := bind_some_inv h
    have h_q3 : Fr [(66, some 0), (66, some 11), (66, some 41), (66, some 42), (66, some 43), (75, none)] _ q3.2 := (Fr.tr h_q2 (Fr.mono (w_f_m_seekTour e_q3) rfl))
    cases h
    exact h_q3
  · obtain ⟨q4, e_q4, h⟩ := bind_some_inv h
    have h_q4 : Fr [(66, some 0), (66, some 11), (66, some 41), (66, some 42), (66, some 43), (75, none)] _ q4.2 := (Fr.tr h_q2 (Fr.mono (w_f_m_no e_q4) rfl))
    cases h
    exact h_q4
set_option maxRecDepth 100000 in
theorem w_f_m_trouble {N : Nat} {σ : Sg} {z : Int32 × Sg} (h : f_m_trouble N σ = some z) : Fr [(66, some 0)] σ z.2 := by
  unfold f_m_trouble at h
  cases h
  exact (Fr.wI Fr.rf (List.elem_iff.mp rfl))
set_option maxRecDepth 100000 in
theorem w_f_m_undo {N : Nat} {σ : Sg} {z : Bool × Sg} (h : f_m_undo N σ = some z) : Fr [(66, some 0), (66, some 11), (66, some 24), (74, none)] σ z.2 := by
  unfold f_m_undo at h
  obtain ⟨q1, e_q1, h⟩ := bind_some_inv h
  have h_q1 : Fr [(66, some 0), (66, some 11), (66, some 24), (74, none)] _ q1.2 := (Fr.tr Fr.rf (Fr.mono (w_f_m_anew e_q1) rfl))
  rcases ite_some_inv h with h | h
  · obtain ⟨q3, e_q3, h⟩ := bind_some_inv h
    have h_q3 : Fr [(66, some 0), (66, some 11), (66, some 24), (74, none)] _ q3.2 := (Fr.tr h_q1 (Fr.mono (w_f_m_isNot e_q3) rfl))
    cases h
    exact h_q3
  · obtain ⟨q2, e_q2, h⟩ := bind_some_inv h
    have h_q2 : Fr [(66, some 0), (66, some 11), (66, some 24), (74, none)] _ q2.2 := (Fr.tr (Fr.wI h_q1 (List.elem_iff.mp rfl)) (Fr.mono (w_f_m_copy e_q2) rfl))
    cases h
    exact h_q2
set_option maxRecDepth 100000 in
theorem w_f_m_where {N : Nat} {σ : Sg} {z : Int32 × Sg} (h : f_m_where N σ = some z) : Fr [(66, some 0)] σ z.2 := by
  unfold f_m_where at h
  rcases ite_some_inv h with h | h
  · cases h
    exact (Fr.wI Fr.rf (List.elem_iff.mp rfl))
  · cases h
    exact (Fr.wI Fr.rf (List.elem_iff.mp rfl))
set_option maxRecDepth 100000 in
theorem w_f_m_widest {N : Nat} {σ : Sg} {z : Int32 × Sg} (h : f_m_widest N σ = some z) : Fr [(66, some 0), (66, some 11), (66, some 28), (66, some 29), (66, some 30)] σ z.2 := by
  unfold f_m_widest at h
  obtain ⟨q1, e_q1, h⟩ := bind_some_inv h
  have h_q1 : Fr [(66, some 0), (66, some 11), (66, some 28), (66, some 29), (66, some 30)] _ q1.2 := (Fr.tr Fr.rf (Fr.mono (w_f_m_anew e_q1) rfl))
  rcases ite_some_inv h with h | h
  · obtain ⟨q3, e_q3, h⟩ := bind_some_inv h
    have h_q3 : Fr [(66, some 0), (66, some 11), (66, some 28), (66, some 29), (66, some 30)] _ q3.2 := (Fr.tr h_q1 (Fr.mono (w_f_m_no e_q3) rfl))
    cases h
    exact h_q3
  · obtain ⟨q2, e_q2, h⟩ := bind_some_inv h
    have h_q2 : Fr [(66, some 0), (66, some 11), (66, some 28), (66, some 29), (66, some 30)] _ q2.2 := (Fr.tr h_q1 (Fr.mono (w_f_m_seekRuns e_q2) rfl))
    cases h
    exact h_q2
set_option maxRecDepth 100000 in
theorem w_f_m_year {N : Nat} {σ : Sg} {z : Int32 × Sg} (h : f_m_year N σ = some z) : Fr [(66, some 0), (66, some 11), (66, some 24), (66, some 27), (74, none), (76, none), (78, none)] σ z.2 := by
  unfold f_m_year at h
  obtain ⟨q1, e_q1, h⟩ := bind_some_inv h
  have h_q1 : Fr [(66, some 0), (66, some 11), (66, some 24), (66, some 27), (74, none), (76, none), (78, none)] _ q1.2 := (Fr.tr Fr.rf (Fr.mono (w_f_m_anew e_q1) rfl))
  rcases ite_some_inv h with h | h
  · obtain ⟨q5, e_q5, h⟩ := bind_some_inv h
    have h_q5 : Fr [(66, some 0), (66, some 11), (66, some 24), (66, some 27), (74, none), (76, none), (78, none)] _ q5.2 := (Fr.tr h_q1 (Fr.mono (w_f_m_no e_q5) rfl))
    cases h
    exact h_q5
  · rcases ite_some_inv h with h | h
    · obtain ⟨q4, e_q4, h⟩ := bind_some_inv h
      have h_q4 : Fr [(66, some 0), (66, some 11), (66, some 24), (66, some 27), (74, none), (76, none), (78, none)] _ q4.2 := (Fr.tr h_q1 (Fr.mono (w_f_m_no e_q4) rfl))
      cases h
      exact h_q4
    · obtain ⟨q2, e_q2, h⟩ := bind_some_inv h
      have h_q2 : Fr [(66, some 0), (66, some 11), (66, some 24), (66, some 27), (74, none), (76, none), (78, none)] _ q2.2 := (Fr.tr h_q1 (Fr.mono (w_f_m_note e_q2) rfl))
      obtain ⟨q3, e_q3, h⟩ := bind_some_inv h
      have h_q3 : Fr [(66, some 0), (66, some 11), (66, some 24), (66, some 27), (74, none), (76, none), (78, none)] _ q3.2 := (Fr.tr h_q2 (Fr.mono (w_f_m_yearOn e_q3) rfl))
      cases h
      exact h_q3
set_option maxRecDepth 100000 in
theorem w_f_country_clear {N : Nat} {σ : Sg} {z : Unit × Sg} (h : f_country_clear N σ = some z) : Fr [(25, some 0), (25, some 1), (25, some 2), (25, some 3), (25, some 4), (25, some 5), (25, some 13), (25, some 14), (26, some 1), (28, some 1), (30, some 1), (32, some 1), (34, some 1), (36, some 1), (38, some 1)] σ z.2 := by
  unfold f_country_clear at h
  cases h
  exact (Fr.wL (Fr.wI (Fr.wI (Fr.wI (Fr.wI (Fr.wI (Fr.wI (Fr.wI (Fr.wI (Fr.wL (Fr.wL (Fr.wI (Fr.wI (Fr.wI (Fr.wI Fr.rf (List.elem_iff.mp rfl)) (List.elem_iff.mp rfl)) (List.elem_iff.mp rfl)) (List.elem_iff.mp rfl)) (List.elem_iff.mp rfl)) (List.elem_iff.mp rfl)) (List.elem_iff.mp rfl)) (List.elem_iff.mp rfl)) (List.elem_iff.mp rfl)) (List.elem_iff.mp rfl)) (List.elem_iff.mp rfl)) (List.elem_iff.mp rfl)) (List.elem_iff.mp rfl)) (List.elem_iff.mp rfl)) (List.elem_iff.mp rfl))
set_option maxRecDepth 100000 in
theorem w_f_reader_begin_L41 {N : Nat} : ∀ (n : Nat) (v2 : Int32) (σ : Sg) (z : Unit × Sg), f_reader_begin_L41 N n v2 σ = some z → Fr [(3, none), (4, some 1), (6, some 1), (8, some 1)] σ z.2 := by
  intro n
  induction n with
  | zero => intro v2 σ z  h; exact nomatch (show (none : Option (Unit × Sg)) = some z from h)
  | succ n ih =>
    intro v2 σ z  h
    unfold f_reader_begin_L41 at h
    rcases ite_some_inv h with h | h
    · cases h
      exact (Fr.wI (Fr.wI (Fr.wI Fr.rf (List.elem_iff.mp rfl)) (List.elem_iff.mp rfl)) (List.elem_iff.mp rfl))
    · rcases ite_some_inv h with h | h
      · exact (Fr.tr (Fr.wA Fr.rf (List.elem_iff.mp rfl)) (ih _ _ _ h))
      · cases h
set_option maxRecDepth 100000 in
theorem w_f_reader_begin {N : Nat} {v1 : Int32} {σ : Sg} {z : Unit × Sg} (h : f_reader_begin N v1 σ = some z) : Fr [(1, some 1), (1, some 2), (1, some 5), (1, some 12), (1, some 13), (3, none), (4, some 1), (6, some 1), (8, some 1), (25, some 0), (25, some 1), (25, some 2), (25, some 3), (25, some 4), (25, some 5), (25, some 13), (25, some 14), (26, some 1), (28, some 1), (30, some 1), (32, some 1), (34, some 1), (36, some 1), (38, some 1)] σ z.2 := by
  unfold f_reader_begin at h
  obtain ⟨q1, e_q1, h⟩ := bind_some_inv h
  have h_q1 : Fr [(1, some 1), (1, some 2), (1, some 5), (1, some 12), (1, some 13), (3, none), (4, some 1), (6, some 1), (8, some 1), (25, some 0), (25, some 1), (25, some 2), (25, some 3), (25, some 4), (25, some 5), (25, some 13), (25, some 14), (26, some 1), (28, some 1), (30, some 1), (32, some 1), (34, some 1), (36, some 1), (38, some 1)] _ q1.2 := (Fr.tr (Fr.wI (Fr.wI (Fr.wI (Fr.wI (Fr.wI Fr.rf (List.elem_iff.mp rfl)) (List.elem_iff.mp rfl)) (List.elem_iff.mp rfl)) (List.elem_iff.mp rfl)) (List.elem_iff.mp rfl)) (Fr.mono (w_f_country_clear e_q1) rfl))
  exact (Fr.tr h_q1 (Fr.mono (w_f_reader_begin_L41 _ _ _ _ h) rfl))
set_option maxRecDepth 100000 in
theorem w_f_reader_byteAt {N : Nat} {v1 : Int32} {σ : Sg} {z : Int32 × Sg} (h : f_reader_byteAt N v1 σ = some z) : Fr [] σ z.2 := by
  unfold f_reader_byteAt at h
  rcases ite_some_inv h with h | h
  · cases h
    exact Fr.rf
  · rcases ite_some_inv h with h | h
    · cases h
      exact Fr.rf
    · rcases ite_some_inv h with h | h
      · cases h
        exact Fr.rf
      · rcases ite_some_inv h with h | h
        · cases h
          exact Fr.rf
        · cases h
set_option maxRecDepth 100000 in
theorem w_f_reader_isLetter {N : Nat} {v0 : Int32} {σ : Sg} {z : Bool × Sg} (h : f_reader_isLetter N v0 σ = some z) : Fr [] σ z.2 := by
  unfold f_reader_isLetter at h
  rcases ite_some_inv h with h | h
  · cases h
    exact Fr.rf
  · rcases ite_some_inv h with h | h
    · cases h
      exact Fr.rf
    · cases h
      exact Fr.rf
set_option maxRecDepth 100000 in
theorem w_f_reader_isDigit {N : Nat} {v0 : Int32} {σ : Sg} {z : Bool × Sg} (h : f_reader_isDigit N v0 σ = some z) : Fr [] σ z.2 := by
  unfold f_reader_isDigit at h
  rcases ite_some_inv h with h | h
  · cases h
    exact Fr.rf
  · rcases ite_some_inv h with h | h
    · cases h
      exact Fr.rf
    · cases h
      exact Fr.rf
set_option maxRecDepth 100000 in
theorem w_f_reader_nextToken_L8 {N : Nat} {W : WL} (hW : ∀ e ∈ ([(1, some 4)] : WL), e ∈ W) : ∀ (n : Nat) (σ : Sg) (k45 : (Sg → Option (Unit × Sg))) (z : Unit × Sg) (h_k45 : ∀ (u0 : Sg) z, k45 u0 = some z → Fr W u0 z.2), f_reader_nextToken_L8 N n σ k45 = some z → Fr W σ z.2 := by
  intro n
  induction n with
  | zero => intro σ k45 z h_k45 h; exact nomatch (show (none : Option (Unit × Sg)) = some z from h)
  | succ n ih =>
    intro σ k45 z h_k45 h
    unfold f_reader_nextToken_L8 at h
    rcases ite_some_inv h with h | h
    · exact (Fr.tr Fr.rf (h_k45 _ _ h))
    · obtain ⟨q1, e_q1, h⟩ := bind_some_inv h
      have h_q1 : Fr W _ q1.2 := (Fr.tr Fr.rf (Fr.monoP (Fr.mono (w_f_reader_byteAt e_q1) rfl) hW))
      rcases ite_some_inv h with h | h
      · exact (Fr.tr (Fr.wI h_q1 (hW _ (List.elem_iff.mp rfl))) (ih _ _ _ h_k45 h))
      · exact (Fr.tr h_q1 (h_k45 _ _ h))
set_option maxRecDepth 100000 in
theorem w_f_reader_nextToken_L169 {N : Nat} : ∀ (n : Nat) (σ : Sg) (z : Unit × Sg), f_reader_nextToken_L169 N n σ = some z → Fr [(1, some 3), (1, some 5), (1, some 6)] σ z.2 := by
  intro n
  induction n with
  | zero => intro σ z  h; exact nomatch (show (none : Option (Unit × Sg)) = some z from h)
  | succ n ih =>
    intro σ z  h
    unfold f_reader_nextToken_L169 at h
    rcases ite_some_inv h with h | h
    · rcases ite_some_inv h with h | h
      · cases h
        exact (Fr.wI Fr.rf (List.elem_iff.mp rfl))
      · cases h
        exact (Fr.wI Fr.rf (List.elem_iff.mp rfl))
    · obtain ⟨q8, e_q8, h⟩ := bind_some_inv h
      have h_q8 : Fr [(1, some 3), (1, some 5), (1, some 6)] _ q8.2 := (Fr.tr Fr.rf (Fr.mono (w_f_reader_byteAt e_q8) rfl))
      obtain ⟨q9, e_q9, h⟩ := bind_some_inv h
      have h_q9 : Fr [(1, some 3), (1, some 5), (1, some 6)] _ q9.2 := (Fr.tr h_q8 (Fr.mono (w_f_reader_isDigit e_q9) rfl))
      rcases ite_some_inv h with h | h
      · rcases ite_some_inv h with h | h
        · exact (Fr.tr (Fr.wI (Fr.wI h_q9 (List.elem_iff.mp rfl)) (List.elem_iff.mp rfl)) (ih _ _ h))
        · obtain ⟨q10, e_q10, h⟩ := bind_some_inv h
          have h_q10 : Fr [(1, some 3), (1, some 5), (1, some 6)] _ q10.2 := (Fr.tr h_q9 (Fr.mono (w_f_reader_byteAt e_q10) rfl))
          exact (Fr.tr (Fr.wI (Fr.wI h_q10 (List.elem_iff.mp rfl)) (List.elem_iff.mp rfl)) (ih _ _ h))
      · rcases ite_some_inv h with h | h
        · cases h
          exact (Fr.wI h_q9 (List.elem_iff.mp rfl))
        · cases h
          exact (Fr.wI h_q9 (List.elem_iff.mp rfl))
set_option maxRecDepth 100000 in
theorem w_f_reader_nextToken_L86 {N : Nat} : ∀ (n : Nat) (σ : Sg) (z : Unit × Sg), f_reader_nextToken_L86 N n σ = some z → Fr [(1, some 3), (1, some 5)] σ z.2 := by
  intro n
  induction n with
  | zero => intro σ z  h; exact nomatch (show (none : Option (Unit × Sg)) = some z from h)
  | succ n ih =>
    intro σ z  h
    unfold f_reader_nextToken_L86 at h
    rcases ite_some_inv h with h | h
    · rcases ite_some_inv h with h | h
      · cases h
        exact (Fr.wI Fr.rf (List.elem_iff.mp rfl))
      · cases h
        exact (Fr.wI Fr.rf (List.elem_iff.mp rfl))
    · obtain ⟨q11, e_q11, h⟩ := bind_some_inv h
      have h_q11 : Fr [(1, some 3), (1, some 5)] _ q11.2 := (Fr.tr Fr.rf (Fr.mono (w_f_reader_byteAt e_q11) rfl))
      obtain ⟨q12, e_q12, h⟩ := bind_some_inv h
      have h_q12 : Fr [(1, some 3), (1, some 5)] _ q12.2 := (Fr.tr h_q11 (Fr.mono (w_f_reader_isLetter e_q12) rfl))
      rcases ite_some_inv h with h | h
      · exact (Fr.tr (Fr.wI h_q12 (List.elem_iff.mp rfl)) (ih _ _ h))
      · rcases ite_some_inv h with h | h
        · cases h
          exact (Fr.wI h_q12 (List.elem_iff.mp rfl))
        · cases h
          exact (Fr.wI h_q12 (List.elem_iff.mp rfl))
set_option maxRecDepth 100000 in
theorem w_f_reader_nextToken {N : Nat} {σ : Sg} {z : Unit × Sg} (h : f_reader_nextToken N σ = some z) : Fr [(1, some 3), (1, some 4), (1, some 5), (1, some 6)] σ z.2 := by
  unfold f_reader_nextToken at h
  exact (Fr.tr (Fr.wI Fr.rf (List.elem_iff.mp rfl)) (w_f_reader_nextToken_L8 (W := [(1, some 3), (1, some 4), (1, some 5), (1, some 6)]) (fun e he => List.mem_of_elem_eq_true (List.all_eq_true.mp (show ([(1, some 4)] : WL).all (fun e => List.elem e [(1, some 3), (1, some 4), (1, some 5), (1, some 6)]) = true from rfl) e he))  _ _ _ _ (fun t2 z h => by
      rcases ite_some_inv h with h | h
      · obtain ⟨q3, e_q3, h⟩ := bind_some_inv h
        have h_q3 : Fr [(1, some 3), (1, some 4), (1, some 5), (1, some 6)] _ q3.2 := (Fr.tr (Fr.wI Fr.rf (List.elem_iff.mp rfl)) (Fr.mono (w_f_reader_byteAt e_q3) rfl))
        obtain ⟨q4, e_q4, h⟩ := bind_some_inv h
        have h_q4 : Fr [(1, some 3), (1, some 4), (1, some 5), (1, some 6)] _ q4.2 := (Fr.tr h_q3 (Fr.mono (w_f_reader_isLetter e_q4) rfl))
        rcases ite_some_inv h with h | h
        · exact (Fr.tr h_q4 (Fr.mono (w_f_reader_nextToken_L86 _ _ _ h) rfl))
        · obtain ⟨q5, e_q5, h⟩ := bind_some_inv h
          have h_q5 : Fr [(1, some 3), (1, some 4), (1, some 5), (1, some 6)] _ q5.2 := (Fr.tr h_q4 (Fr.mono (w_f_reader_byteAt e_q5) rfl))
          obtain ⟨q6, e_q6, h⟩ := bind_some_inv h
          have h_q6 : Fr [(1, some 3), (1, some 4), (1, some 5), (1, some 6)] _ q6.2 := (Fr.tr h_q5 (Fr.mono (w_f_reader_isDigit e_q6) rfl))
          rcases ite_some_inv h with h | h
          · exact (Fr.tr (Fr.wI h_q6 (List.elem_iff.mp rfl)) (Fr.mono (w_f_reader_nextToken_L169 _ _ _ h) rfl))
          · obtain ⟨q7, e_q7, h⟩ := bind_some_inv h
            have h_q7 : Fr [(1, some 3), (1, some 4), (1, some 5), (1, some 6)] _ q7.2 := (Fr.tr h_q6 (Fr.mono (w_f_reader_byteAt e_q7) rfl))
            rcases ite_some_inv h with h | h
            · cases h
              exact (Fr.wI (Fr.wI h_q7 (List.elem_iff.mp rfl)) (List.elem_iff.mp rfl))
            · cases h
              exact (Fr.wI (Fr.wI h_q7 (List.elem_iff.mp rfl)) (List.elem_iff.mp rfl))
      · cases h
        exact (Fr.wI (Fr.wI Fr.rf (List.elem_iff.mp rfl)) (List.elem_iff.mp rfl))
    ) h))
set_option maxRecDepth 100000 in
theorem w_f_reader_isWord_L28 {N : Nat} {w1 : Nat} : ∀ (n : Nat) (v2 : Int32) (σ : Sg) (z : Bool × Sg), f_reader_isWord_L28 N w1 n v2 σ = some z → Fr [] σ z.2 := by
  intro n
  induction n with
  | zero => intro v2 σ z  h; exact nomatch (show (none : Option (Bool × Sg)) = some z from h)
  | succ n ih =>
    intro v2 σ z  h
    unfold f_reader_isWord_L28 at h
    obtain ⟨q2, e_q2, h⟩ := bind_some_inv h
    have h_q2 : Fr [] _ q2.2 := (Fr.tr Fr.rf (Fr.mono (w_f_js_length e_q2) rfl))
    rcases ite_some_inv h with h | h
    · cases h
      exact h_q2
    · obtain ⟨q3, e_q3, h⟩ := bind_some_inv h
      have h_q3 : Fr [] _ q3.2 := (Fr.tr h_q2 (Fr.mono (w_f_reader_byteAt e_q3) rfl))
      obtain ⟨q4, e_q4, h⟩ := bind_some_inv h
      have h_q4 : Fr [] _ q4.2 := (Fr.tr h_q3 (Fr.mono (w_f_js_charAt e_q4) rfl))
      rcases ite_some_inv h with h | h
      · exact (Fr.tr h_q4 (ih _ _ _ h))
      · cases h
        exact h_q4
set_option maxRecDepth 100000 in
theorem w_f_reader_isWord {N : Nat} {w1 : Nat} {σ : Sg} {z : Bool × Sg} (h : f_reader_isWord N w1 σ = some z) : Fr [] σ z.2 := by
  unfold f_reader_isWord at h
  rcases ite_some_inv h with h | h
  · obtain ⟨q1, e_q1, h⟩ := bind_some_inv h
    have h_q1 : Fr [] _ q1.2 := (Fr.tr Fr.rf (Fr.mono (w_f_js_length e_q1) rfl))
    rcases ite_some_inv h with h | h
    · exact (Fr.tr h_q1 (Fr.mono (w_f_reader_isWord_L28 _ _ _ _ h) rfl))
    · cases h
      exact h_q1
  · cases h
    exact Fr.rf
set_option maxRecDepth 100000 in
theorem w_f_reader_sortHere {N : Nat} {σ : Sg} {z : Int32 × Sg} (h : f_reader_sortHere N σ = some z) : Fr [] σ z.2 := by
  unfold f_reader_sortHere at h
  rcases ite_some_inv h with h | h
  · obtain ⟨q1, e_q1, h⟩ := bind_some_inv h
    have h_q1 : Fr [] _ q1.2 := (Fr.tr Fr.rf (Fr.mono (w_f_reader_isWord e_q1) rfl))
    rcases ite_some_inv h with h | h
    · cases h
      exact h_q1
    · obtain ⟨q2, e_q2, h⟩ := bind_some_inv h
      have h_q2 : Fr [] _ q2.2 := (Fr.tr h_q1 (Fr.mono (w_f_reader_isWord e_q2) rfl))
      rcases ite_some_inv h with h | h
      · cases h
        exact h_q2
      · obtain ⟨q3, e_q3, h⟩ := bind_some_inv h
        have h_q3 : Fr [] _ q3.2 := (Fr.tr h_q2 (Fr.mono (w_f_reader_isWord e_q3) rfl))
        rcases ite_some_inv h with h | h
        · cases h
          exact h_q3
        · obtain ⟨q4, e_q4, h⟩ := bind_some_inv h
          have h_q4 : Fr [] _ q4.2 := (Fr.tr h_q3 (Fr.mono (w_f_reader_isWord e_q4) rfl))
          rcases ite_some_inv h with h | h
          · cases h
            exact h_q4
          · obtain ⟨q5, e_q5, h⟩ := bind_some_inv h
            have h_q5 : Fr [] _ q5.2 := (Fr.tr h_q4 (Fr.mono (w_f_reader_isWord e_q5) rfl))
            rcases ite_some_inv h with h | h
            · cases h
              exact h_q5
            · obtain ⟨q6, e_q6, h⟩ := bind_some_inv h
              have h_q6 : Fr [] _ q6.2 := (Fr.tr h_q5 (Fr.mono (w_f_reader_isWord e_q6) rfl))
              rcases ite_some_inv h with h | h
              · cases h
                exact h_q6
              · obtain ⟨q7, e_q7, h⟩ := bind_some_inv h
                have h_q7 : Fr [] _ q7.2 := (Fr.tr h_q6 (Fr.mono (w_f_reader_isWord e_q7) rfl))
                rcases ite_some_inv h with h | h
                · cases h
                  exact h_q7
                · cases h
                  exact h_q7
  · cases h
    exact Fr.rf
set_option maxRecDepth 100000 in
theorem w_f_reader_fail {N : Nat} {v1 : Int32} {σ : Sg} {z : Bool × Sg} (h : f_reader_fail N v1 σ = some z) : Fr [(1, some 12), (1, some 13)] σ z.2 := by
  unfold f_reader_fail at h
  cases h
  exact (Fr.wI (Fr.wI Fr.rf (List.elem_iff.mp rfl)) (List.elem_iff.mp rfl))
set_option maxRecDepth 100000 in
theorem w_f_reader_headFits {N : Nat} {v1 : Int32} {σ : Sg} {z : Bool × Sg} (h : f_reader_headFits N v1 σ = some z) : Fr [(1, some 12), (1, some 13), (3, none)] σ z.2 := by
  unfold f_reader_headFits at h
  rcases ite_some_inv h with h | h
  · obtain ⟨q1, e_q1, h⟩ := bind_some_inv h
    have h_q1 : Fr [(1, some 12), (1, some 13), (3, none)] _ q1.2 := (Fr.tr Fr.rf (Fr.mono (w_f_reader_fail e_q1) rfl))
    cases h
    exact h_q1
  · rcases ite_some_inv h with h | h
    · obtain ⟨q2, e_q2, h⟩ := bind_some_inv h
      have h_q2 : Fr [(1, some 12), (1, some 13), (3, none)] _ q2.2 := (Fr.tr Fr.rf (Fr.mono (w_f_reader_fail e_q2) rfl))
      cases h
      exact h_q2
    · rcases ite_some_inv h with h | h
      · rcases ite_some_inv h with h | h
        · rcases ite_some_inv h with h | h
          · rcases ite_some_inv h with h | h
            · rcases ite_some_inv h with h | h
              · rcases ite_some_inv h with h | h
                · rcases ite_some_inv h with h | h
                  · rcases ite_some_inv h with h | h
                    · rcases ite_some_inv h with h | h
                      · cases h
                        exact (Fr.wA Fr.rf (List.elem_iff.mp rfl))
                      · cases h
                    · cases h
                  · obtain ⟨q3, e_q3, h⟩ := bind_some_inv h
                    have h_q3 : Fr [(1, some 12), (1, some 13), (3, none)] _ q3.2 := (Fr.tr Fr.rf (Fr.mono (w_f_reader_fail e_q3) rfl))
                    cases h
                    exact h_q3
                · rcases ite_some_inv h with h | h
                  · rcases ite_some_inv h with h | h
                    · cases h
                      exact (Fr.wA Fr.rf (List.elem_iff.mp rfl))
                    · cases h
                  · cases h
              · rcases ite_some_inv h with h | h
                · obtain ⟨q5, e_q5, h⟩ := bind_some_inv h
                  have h_q5 : Fr [(1, some 12), (1, some 13), (3, none)] _ q5.2 := (Fr.tr Fr.rf (Fr.mono (w_f_reader_fail e_q5) rfl))
                  cases h
                  exact h_q5
                · rcases ite_some_inv h with h | h
                  · rcases ite_some_inv h with h | h
                    · rcases ite_some_inv h with h | h
                      · rcases ite_some_inv h with h | h
                        · cases h
                          exact (Fr.wA Fr.rf (List.elem_iff.mp rfl))
                        · cases h
                      · cases h
                    · obtain ⟨q4, e_q4, h⟩ := bind_some_inv h
                      have h_q4 : Fr [(1, some 12), (1, some 13), (3, none)] _ q4.2 := (Fr.tr Fr.rf (Fr.mono (w_f_reader_fail e_q4) rfl))
                      cases h
                      exact h_q4
                  · rcases ite_some_inv h with h | h
                    · rcases ite_some_inv h with h | h
                      · cases h
                        exact (Fr.wA Fr.rf (List.elem_iff.mp rfl))
                      · cases h
                    · cases h
            · rcases ite_some_inv h with h | h
              · obtain ⟨q7, e_q7, h⟩ := bind_some_inv h
                have h_q7 : Fr [(1, some 12), (1, some 13), (3, none)] _ q7.2 := (Fr.tr Fr.rf (Fr.mono (w_f_reader_fail e_q7) rfl))
                cases h
                exact h_q7
              · obtain ⟨q6, e_q6, h⟩ := bind_some_inv h
                have h_q6 : Fr [(1, some 12), (1, some 13), (3, none)] _ q6.2 := (Fr.tr Fr.rf (Fr.mono (w_f_reader_fail e_q6) rfl))
                cases h
                exact h_q6
          · cases h
        · cases h
      · obtain ⟨q8, e_q8, h⟩ := bind_some_inv h
        have h_q8 : Fr [(1, some 12), (1, some 13), (3, none)] _ q8.2 := (Fr.tr Fr.rf (Fr.mono (w_f_reader_fail e_q8) rfl))
        cases h
        exact h_q8
set_option maxRecDepth 100000 in
theorem w_f_reader_expect {N : Nat} {w1 : Nat} {σ : Sg} {z : Bool × Sg} (h : f_reader_expect N w1 σ = some z) : Fr [(1, some 3), (1, some 4), (1, some 5), (1, some 6), (1, some 12), (1, some 13)] σ z.2 := by
  unfold f_reader_expect at h
  obtain ⟨q1, e_q1, h⟩ := bind_some_inv h
  have h_q1 : Fr [(1, some 3), (1, some 4), (1, some 5), (1, some 6), (1, some 12), (1, some 13)] _ q1.2 := (Fr.tr Fr.rf (Fr.mono (w_f_reader_nextToken e_q1) rfl))
  obtain ⟨q2, e_q2, h⟩ := bind_some_inv h
  have h_q2 : Fr [(1, some 3), (1, some 4), (1, some 5), (1, some 6), (1, some 12), (1, some 13)] _ q2.2 := (Fr.tr h_q1 (Fr.mono (w_f_reader_isWord e_q2) rfl))
  rcases ite_some_inv h with h | h
  · cases h
    exact h_q2
  · obtain ⟨q3, e_q3, h⟩ := bind_some_inv h
    have h_q3 : Fr [(1, some 3), (1, some 4), (1, some 5), (1, some 6), (1, some 12), (1, some 13)] _ q3.2 := (Fr.tr h_q2 (Fr.mono (w_f_reader_fail e_q3) rfl))
    rcases ite_some_inv h with h | h
    · cases h
      exact h_q3
    · cases h
      exact h_q3
set_option maxRecDepth 100000 in
theorem w_f_reader_expectWhole {N : Nat} {v1 : Int32} {v2 : Int32} {σ : Sg} {z : Bool × Sg} (h : f_reader_expectWhole N v1 v2 σ = some z) : Fr [(1, some 3), (1, some 4), (1, some 5), (1, some 6), (1, some 12), (1, some 13)] σ z.2 := by
  unfold f_reader_expectWhole at h
  obtain ⟨q1, e_q1, h⟩ := bind_some_inv h
  have h_q1 : Fr [(1, some 3), (1, some 4), (1, some 5), (1, some 6), (1, some 12), (1, some 13)] _ q1.2 := (Fr.tr Fr.rf (Fr.mono (w_f_reader_nextToken e_q1) rfl))
  rcases ite_some_inv h with h | h
  · rcases ite_some_inv h with h | h
    · obtain ⟨q2, e_q2, h⟩ := bind_some_inv h
      have h_q2 : Fr [(1, some 3), (1, some 4), (1, some 5), (1, some 6), (1, some 12), (1, some 13)] _ q2.2 := (Fr.tr h_q1 (Fr.mono (w_f_reader_fail e_q2) rfl))
      rcases ite_some_inv h with h | h
      · cases h
        exact h_q2
      · cases h
        exact h_q2
    · rcases ite_some_inv h with h | h
      · cases h
        exact h_q1
      · obtain ⟨q3, e_q3, h⟩ := bind_some_inv h
        have h_q3 : Fr [(1, some 3), (1, some 4), (1, some 5), (1, some 6), (1, some 12), (1, some 13)] _ q3.2 := (Fr.tr h_q1 (Fr.mono (w_f_reader_fail e_q3) rfl))
        rcases ite_some_inv h with h | h
        · cases h
          exact h_q3
        · cases h
          exact h_q3
  · obtain ⟨q4, e_q4, h⟩ := bind_some_inv h
    have h_q4 : Fr [(1, some 3), (1, some 4), (1, some 5), (1, some 6), (1, some 12), (1, some 13)] _ q4.2 := (Fr.tr h_q1 (Fr.mono (w_f_reader_fail e_q4) rfl))
    cases h
    exact h_q4
set_option maxRecDepth 100000 in
theorem w_f_reader_expectCell {N : Nat} {v1 : Int32} {σ : Sg} {z : Bool × Sg} (h : f_reader_expectCell N v1 σ = some z) : Fr [(1, some 3), (1, some 4), (1, some 5), (1, some 6), (1, some 12), (1, some 13)] σ z.2 := by
  unfold f_reader_expectCell at h
  obtain ⟨q1, e_q1, h⟩ := bind_some_inv h
  have h_q1 : Fr [(1, some 3), (1, some 4), (1, some 5), (1, some 6), (1, some 12), (1, some 13)] _ q1.2 := (Fr.tr Fr.rf (Fr.mono (w_f_reader_expectWhole e_q1) rfl))
  cases h
  exact h_q1
set_option maxRecDepth 100000 in
theorem w_f_reader_readLand {N : Nat} {σ : Sg} {z : Bool × Sg} (h : f_reader_readLand N σ = some z) : Fr [(1, some 3), (1, some 4), (1, some 5), (1, some 6), (1, some 12), (1, some 13), (25, some 0), (25, some 1), (25, some 2), (25, some 3), (25, some 13)] σ z.2 := by
  unfold f_reader_readLand at h
  obtain ⟨q1, e_q1, h⟩ := bind_some_inv h
  have h_q1 : Fr [(1, some 3), (1, some 4), (1, some 5), (1, some 6), (1, some 12), (1, some 13), (25, some 0), (25, some 1), (25, some 2), (25, some 3), (25, some 13)] _ q1.2 := (Fr.tr Fr.rf (Fr.mono (w_f_reader_expect e_q1) rfl))
  rcases ite_some_inv h with h | h
  · obtain ⟨q2, e_q2, h⟩ := bind_some_inv h
    have h_q2 : Fr [(1, some 3), (1, some 4), (1, some 5), (1, some 6), (1, some 12), (1, some 13), (25, some 0), (25, some 1), (25, some 2), (25, some 3), (25, some 13)] _ q2.2 := (Fr.tr h_q1 (Fr.mono (w_f_reader_expectWhole e_q2) rfl))
    rcases ite_some_inv h with h | h
    · obtain ⟨q3, e_q3, h⟩ := bind_some_inv h
      have h_q3 : Fr [(1, some 3), (1, some 4), (1, some 5), (1, some 6), (1, some 12), (1, some 13), (25, some 0), (25, some 1), (25, some 2), (25, some 3), (25, some 13)] _ q3.2 := (Fr.tr (Fr.wI h_q2 (List.elem_iff.mp rfl)) (Fr.mono (w_f_reader_expect e_q3) rfl))
      rcases ite_some_inv h with h | h
      · obtain ⟨q4, e_q4, h⟩ := bind_some_inv h
        have h_q4 : Fr [(1, some 3), (1, some 4), (1, some 5), (1, some 6), (1, some 12), (1, some 13), (25, some 0), (25, some 1), (25, some 2), (25, some 3), (25, some 13)] _ q4.2 := (Fr.tr h_q3 (Fr.mono (w_f_reader_expectCell e_q4) rfl))
        rcases ite_some_inv h with h | h
        · obtain ⟨q5, e_q5, h⟩ := bind_some_inv h
          have h_q5 : Fr [(1, some 3), (1, some 4), (1, some 5), (1, some 6), (1, some 12), (1, some 13), (25, some 0), (25, some 1), (25, some 2), (25, some 3), (25, some 13)] _ q5.2 := (Fr.tr (Fr.wI (Fr.wI h_q4 (List.elem_iff.mp rfl)) (List.elem_iff.mp rfl)) (Fr.mono (w_f_reader_expect e_q5) rfl))
          rcases ite_some_inv h with h | h
          · obtain ⟨q6, e_q6, h⟩ := bind_some_inv h
            have h_q6 : Fr [(1, some 3), (1, some 4), (1, some 5), (1, some 6), (1, some 12), (1, some 13), (25, some 0), (25, some 1), (25, some 2), (25, some 3), (25, some 13)] _ q6.2 := (Fr.tr h_q5 (Fr.mono (w_f_reader_expectCell e_q6) rfl))
            rcases ite_some_inv h with h | h
            · obtain ⟨q7, e_q7, h⟩ := bind_some_inv h
              have h_q7 : Fr [(1, some 3), (1, some 4), (1, some 5), (1, some 6), (1, some 12), (1, some 13), (25, some 0), (25, some 1), (25, some 2), (25, some 3), (25, some 13)] _ q7.2 := (Fr.tr (Fr.wI h_q6 (List.elem_iff.mp rfl)) (Fr.mono (w_f_reader_expect e_q7) rfl))
              rcases ite_some_inv h with h | h
              · obtain ⟨q8, e_q8, h⟩ := bind_some_inv h
                have h_q8 : Fr [(1, some 3), (1, some 4), (1, some 5), (1, some 6), (1, some 12), (1, some 13), (25, some 0), (25, some 1), (25, some 2), (25, some 3), (25, some 13)] _ q8.2 := (Fr.tr h_q7 (Fr.mono (w_f_reader_expectWhole e_q8) rfl))
                rcases ite_some_inv h with h | h
                · cases h
                  exact (Fr.wI h_q8 (List.elem_iff.mp rfl))
                · cases h
                  exact h_q8
              · cases h
                exact h_q7
            · cases h
              exact h_q6
          · cases h
            exact h_q5
        · cases h
          exact h_q4
      · cases h
        exact h_q3
    · cases h
      exact h_q2
  · cases h
    exact h_q1
set_option maxRecDepth 100000 in
theorem w_f_country_setGround {N : Nat} {v1 : Int32} {v2 : Int64} {σ : Sg} {z : Unit × Sg} (h : f_country_setGround N v1 v2 σ = some z) : Fr [(25, some 4), (25, some 5)] σ z.2 := by
  unfold f_country_setGround at h
  rcases ite_some_inv h with h | h
  · rcases ite_some_inv h with h | h
    · cases h
      exact (Fr.wL (Fr.wL Fr.rf (List.elem_iff.mp rfl)) (List.elem_iff.mp rfl))
    · cases h
      exact (Fr.wL (Fr.wL Fr.rf (List.elem_iff.mp rfl)) (List.elem_iff.mp rfl))
  · rcases ite_some_inv h with h | h
    · cases h
      exact (Fr.wL (Fr.wL Fr.rf (List.elem_iff.mp rfl)) (List.elem_iff.mp rfl))
    · cases h
      exact (Fr.wL (Fr.wL Fr.rf (List.elem_iff.mp rfl)) (List.elem_iff.mp rfl))
set_option maxRecDepth 100000 in
theorem w_f_reader_readGround {N : Nat} {σ : Sg} {z : Bool × Sg} (h : f_reader_readGround N σ = some z) : Fr [(1, some 3), (1, some 4), (1, some 5), (1, some 6), (1, some 12), (1, some 13), (25, some 4), (25, some 5)] σ z.2 := by
  unfold f_reader_readGround at h
  obtain ⟨q1, e_q1, h⟩ := bind_some_inv h
  have h_q1 : Fr [(1, some 3), (1, some 4), (1, some 5), (1, some 6), (1, some 12), (1, some 13), (25, some 4), (25, some 5)] _ q1.2 := (Fr.tr Fr.rf (Fr.mono (w_f_reader_nextToken e_q1) rfl))
  obtain ⟨q2, e_q2, h⟩ := bind_some_inv h
  have h_q2 : Fr [(1, some 3), (1, some 4), (1, some 5), (1, some 6), (1, some 12), (1, some 13), (25, some 4), (25, some 5)] _ q2.2 := (Fr.tr h_q1 (Fr.mono (w_f_reader_isWord e_q2) rfl))
  rcases ite_some_inv h with h | h
  · obtain ⟨q14, e_q14, h⟩ := bind_some_inv h
    have h_q14 : Fr [(1, some 3), (1, some 4), (1, some 5), (1, some 6), (1, some 12), (1, some 13), (25, some 4), (25, some 5)] _ q14.2 := (Fr.tr h_q2 (Fr.mono (w_f_reader_expectCell e_q14) rfl))
    rcases ite_some_inv h with h | h
    · obtain ⟨q15, e_q15, h⟩ := bind_some_inv h
      have h_q15 : Fr [(1, some 3), (1, some 4), (1, some 5), (1, some 6), (1, some 12), (1, some 13), (25, some 4), (25, some 5)] _ q15.2 := (Fr.tr h_q14 (Fr.mono (w_f_reader_expectCell e_q15) rfl))
      rcases ite_some_inv h with h | h
      · obtain ⟨q16, e_q16, h⟩ := bind_some_inv h
        have h_q16 : Fr [(1, some 3), (1, some 4), (1, some 5), (1, some 6), (1, some 12), (1, some 13), (25, some 4), (25, some 5)] _ q16.2 := (Fr.tr h_q15 (Fr.mono (w_f_x_span e_q16) rfl))
        obtain ⟨q17, e_q17, h⟩ := bind_some_inv h
        have h_q17 : Fr [(1, some 3), (1, some 4), (1, some 5), (1, some 6), (1, some 12), (1, some 13), (25, some 4), (25, some 5)] _ q17.2 := (Fr.tr h_q16 (Fr.mono (w_f_country_setGround e_q17) rfl))
        cases h
        exact h_q17
      · cases h
        exact h_q15
    · cases h
      exact h_q14
  · obtain ⟨q3, e_q3, h⟩ := bind_some_inv h
    have h_q3 : Fr [(1, some 3), (1, some 4), (1, some 5), (1, some 6), (1, some 12), (1, some 13), (25, some 4), (25, some 5)] _ q3.2 := (Fr.tr h_q2 (Fr.mono (w_f_reader_isWord e_q3) rfl))
    rcases ite_some_inv h with h | h
    · obtain ⟨q10, e_q10, h⟩ := bind_some_inv h
      have h_q10 : Fr [(1, some 3), (1, some 4), (1, some 5), (1, some 6), (1, some 12), (1, some 13), (25, some 4), (25, some 5)] _ q10.2 := (Fr.tr h_q3 (Fr.mono (w_f_reader_expectCell e_q10) rfl))
      rcases ite_some_inv h with h | h
      · obtain ⟨q11, e_q11, h⟩ := bind_some_inv h
        have h_q11 : Fr [(1, some 3), (1, some 4), (1, some 5), (1, some 6), (1, some 12), (1, some 13), (25, some 4), (25, some 5)] _ q11.2 := (Fr.tr h_q10 (Fr.mono (w_f_reader_expectCell e_q11) rfl))
        rcases ite_some_inv h with h | h
        · obtain ⟨q12, e_q12, h⟩ := bind_some_inv h
          have h_q12 : Fr [(1, some 3), (1, some 4), (1, some 5), (1, some 6), (1, some 12), (1, some 13), (25, some 4), (25, some 5)] _ q12.2 := (Fr.tr h_q11 (Fr.mono (w_f_x_span e_q12) rfl))
          obtain ⟨q13, e_q13, h⟩ := bind_some_inv h
          have h_q13 : Fr [(1, some 3), (1, some 4), (1, some 5), (1, some 6), (1, some 12), (1, some 13), (25, some 4), (25, some 5)] _ q13.2 := (Fr.tr h_q12 (Fr.mono (w_f_country_setGround e_q13) rfl))
          cases h
          exact h_q13
        · cases h
          exact h_q11
      · cases h
        exact h_q10
    · obtain ⟨q4, e_q4, h⟩ := bind_some_inv h
      have h_q4 : Fr [(1, some 3), (1, some 4), (1, some 5), (1, some 6), (1, some 12), (1, some 13), (25, some 4), (25, some 5)] _ q4.2 := (Fr.tr h_q3 (Fr.mono (w_f_reader_isWord e_q4) rfl))
      rcases ite_some_inv h with h | h
      · obtain ⟨q6, e_q6, h⟩ := bind_some_inv h
        have h_q6 : Fr [(1, some 3), (1, some 4), (1, some 5), (1, some 6), (1, some 12), (1, some 13), (25, some 4), (25, some 5)] _ q6.2 := (Fr.tr h_q4 (Fr.mono (w_f_reader_expectCell e_q6) rfl))
        rcases ite_some_inv h with h | h
        · obtain ⟨q7, e_q7, h⟩ := bind_some_inv h
          have h_q7 : Fr [(1, some 3), (1, some 4), (1, some 5), (1, some 6), (1, some 12), (1, some 13), (25, some 4), (25, some 5)] _ q7.2 := (Fr.tr h_q6 (Fr.mono (w_f_reader_expectCell e_q7) rfl))
          rcases ite_some_inv h with h | h
          · obtain ⟨q8, e_q8, h⟩ := bind_some_inv h
            have h_q8 : Fr [(1, some 3), (1, some 4), (1, some 5), (1, some 6), (1, some 12), (1, some 13), (25, some 4), (25, some 5)] _ q8.2 := (Fr.tr h_q7 (Fr.mono (w_f_x_span e_q8) rfl))
            obtain ⟨q9, e_q9, h⟩ := bind_some_inv h
            have h_q9 : Fr [(1, some 3), (1, some 4), (1, some 5), (1, some 6), (1, some 12), (1, some 13), (25, some 4), (25, some 5)] _ q9.2 := (Fr.tr h_q8 (Fr.mono (w_f_country_setGround e_q9) rfl))
            cases h
            exact h_q9
          · cases h
            exact h_q7
        · cases h
          exact h_q6
      · obtain ⟨q5, e_q5, h⟩ := bind_some_inv h
        have h_q5 : Fr [(1, some 3), (1, some 4), (1, some 5), (1, some 6), (1, some 12), (1, some 13), (25, some 4), (25, some 5)] _ q5.2 := (Fr.tr h_q4 (Fr.mono (w_f_reader_fail e_q5) rfl))
        cases h
        exact h_q5
set_option maxRecDepth 100000 in
theorem w_f_reader_isLike_L19 {N : Nat} : ∀ (n : Nat) (v1 : Int32) (v3 : Int32) (σ : Sg) (z : Bool × Sg), f_reader_isLike_L19 N n v1 v3 σ = some z → Fr [] σ z.2 := by
  intro n
  induction n with
  | zero => intro v1 v3 σ z  h; exact nomatch (show (none : Option (Bool × Sg)) = some z from h)
  | succ n ih =>
    intro v1 v3 σ z  h
    unfold f_reader_isLike_L19 at h
    rcases ite_some_inv h with h | h
    · cases h
      exact Fr.rf
    · obtain ⟨q1, e_q1, h⟩ := bind_some_inv h
      have h_q1 : Fr [] _ q1.2 := (Fr.tr Fr.rf (Fr.mono (w_f_reader_byteAt e_q1) rfl))
      obtain ⟨q2, e_q2, h⟩ := bind_some_inv h
      have h_q2 : Fr [] _ q2.2 := (Fr.tr h_q1 (Fr.mono (w_f_reader_byteAt e_q2) rfl))
      rcases ite_some_inv h with h | h
      · exact (Fr.tr h_q2 (ih _ _ _ _ h))
      · cases h
        exact h_q2
set_option maxRecDepth 100000 in
theorem w_f_reader_isLike {N : Nat} {v1 : Int32} {v2 : Int32} {σ : Sg} {z : Bool × Sg} (h : f_reader_isLike N v1 v2 σ = some z) : Fr [] σ z.2 := by
  unfold f_reader_isLike at h
  rcases ite_some_inv h with h | h
  · exact (Fr.tr Fr.rf (Fr.mono (w_f_reader_isLike_L19 _ _ _ _ _ h) rfl))
  · cases h
    exact Fr.rf
set_option maxRecDepth 100000 in
theorem w_f_reader_nameHere_L2 {N : Nat} : ∀ (n : Nat) (v1 : Int32) (σ : Sg) (z : Int32 × Sg), f_reader_nameHere_L2 N n v1 σ = some z → Fr [] σ z.2 := by
  intro n
  induction n with
  | zero => intro v1 σ z  h; exact nomatch (show (none : Option (Int32 × Sg)) = some z from h)
  | succ n ih =>
    intro v1 σ z  h
    unfold f_reader_nameHere_L2 at h
    rcases ite_some_inv h with h | h
    · cases h
      exact Fr.rf
    · obtain ⟨q1, e_q1, h⟩ := bind_some_inv h
      have h_q1 : Fr [] _ q1.2 := (Fr.tr Fr.rf (Fr.mono (w_f_numbers_at e_q1) rfl))
      obtain ⟨q2, e_q2, h⟩ := bind_some_inv h
      have h_q2 : Fr [] _ q2.2 := (Fr.tr h_q1 (Fr.mono (w_f_numbers_at e_q2) rfl))
      obtain ⟨q3, e_q3, h⟩ := bind_some_inv h
      have h_q3 : Fr [] _ q3.2 := (Fr.tr h_q2 (Fr.mono (w_f_reader_isLike e_q3) rfl))
      rcases ite_some_inv h with h | h
      · cases h
        exact h_q3
      · exact (Fr.tr h_q3 (ih _ _ _ h))
set_option maxRecDepth 100000 in
theorem w_f_reader_nameHere {N : Nat} {σ : Sg} {z : Int32 × Sg} (h : f_reader_nameHere N σ = some z) : Fr [] σ z.2 := by
  unfold f_reader_nameHere at h
  exact (Fr.tr Fr.rf (Fr.mono (w_f_reader_nameHere_L2 _ _ _ _ h) rfl))
set_option maxRecDepth 100000 in
theorem w_f_numbers_add {N : Nat} {a0 : Nat} {a1 : Nat} {a2 : Nat} {v1 : Int32} {σ : Sg} {z : Unit × Sg} (h : f_numbers_add N a0 a1 a2 v1 σ = some z) : Fr [(a0, some 1), (a2, none)] σ z.2 := by
  unfold f_numbers_add at h
  rcases ite_some_inv h with h | h
  · cases h
    exact Fr.rf
  · rcases ite_some_inv h with h | h
    · cases h
      exact Fr.rf
    · rcases ite_some_inv h with h | h
      · cases h
        exact (Fr.wI (Fr.wA Fr.rf (by simp)) (by simp))
      · cases h
set_option maxRecDepth 100000 in
theorem w_f_reader_expectNewName {N : Nat} {v1 : Int32} {σ : Sg} {z : Bool × Sg} (h : f_reader_expectNewName N v1 σ = some z) : Fr [(1, some 3), (1, some 4), (1, some 5), (1, some 6), (1, some 12), (1, some 13), (4, some 1), (5, none), (6, some 1), (7, none), (8, some 1), (9, none)] σ z.2 := by
  unfold f_reader_expectNewName at h
  obtain ⟨q1, e_q1, h⟩ := bind_some_inv h
  have h_q1 : Fr [(1, some 3), (1, some 4), (1, some 5), (1, some 6), (1, some 12), (1, some 13), (4, some 1), (5, none), (6, some 1), (7, none), (8, some 1), (9, none)] _ q1.2 := (Fr.tr Fr.rf (Fr.mono (w_f_reader_nextToken e_q1) rfl))
  obtain ⟨q2, e_q2, h⟩ := bind_some_inv h
  have h_q2 : Fr [(1, some 3), (1, some 4), (1, some 5), (1, some 6), (1, some 12), (1, some 13), (4, some 1), (5, none), (6, some 1), (7, none), (8, some 1), (9, none)] _ q2.2 := (Fr.tr h_q1 (Fr.mono (w_f_reader_sortHere e_q2) rfl))
  rcases ite_some_inv h with h | h
  · obtain ⟨q3, e_q3, h⟩ := bind_some_inv h
    have h_q3 : Fr [(1, some 3), (1, some 4), (1, some 5), (1, some 6), (1, some 12), (1, some 13), (4, some 1), (5, none), (6, some 1), (7, none), (8, some 1), (9, none)] _ q3.2 := (Fr.tr h_q2 (Fr.mono (w_f_reader_nameHere e_q3) rfl))
    rcases ite_some_inv h with h | h
    · obtain ⟨q4, e_q4, h⟩ := bind_some_inv h
      have h_q4 : Fr [(1, some 3), (1, some 4), (1, some 5), (1, some 6), (1, some 12), (1, some 13), (4, some 1), (5, none), (6, some 1), (7, none), (8, some 1), (9, none)] _ q4.2 := (Fr.tr h_q3 (Fr.mono (w_f_numbers_add e_q4) rfl))
      obtain ⟨q5, e_q5, h⟩ := bind_some_inv h
      have h_q5 : Fr [(1, some 3), (1, some 4), (1, some 5), (1, some 6), (1, some 12), (1, some 13), (4, some 1), (5, none), (6, some 1), (7, none), (8, some 1), (9, none)] _ q5.2 := (Fr.tr h_q4 (Fr.mono (w_f_numbers_add e_q5) rfl))
      obtain ⟨q6, e_q6, h⟩ := bind_some_inv h
      have h_q6 : Fr [(1, some 3), (1, some 4), (1, some 5), (1, some 6), (1, some 12), (1, some 13), (4, some 1), (5, none), (6, some 1), (7, none), (8, some 1), (9, none)] _ q6.2 := (Fr.tr h_q5 (Fr.mono (w_f_numbers_add e_q6) rfl))
      cases h
      exact h_q6
    · obtain ⟨q7, e_q7, h⟩ := bind_some_inv h
      have h_q7 : Fr [(1, some 3), (1, some 4), (1, some 5), (1, some 6), (1, some 12), (1, some 13), (4, some 1), (5, none), (6, some 1), (7, none), (8, some 1), (9, none)] _ q7.2 := (Fr.tr h_q3 (Fr.mono (w_f_reader_fail e_q7) rfl))
      cases h
      exact h_q7
  · obtain ⟨q8, e_q8, h⟩ := bind_some_inv h
    have h_q8 : Fr [(1, some 3), (1, some 4), (1, some 5), (1, some 6), (1, some 12), (1, some 13), (4, some 1), (5, none), (6, some 1), (7, none), (8, some 1), (9, none)] _ q8.2 := (Fr.tr h_q2 (Fr.mono (w_f_reader_fail e_q8) rfl))
    cases h
    exact h_q8
set_option maxRecDepth 100000 in
theorem w_f_reader_readBoots {N : Nat} {σ : Sg} {z : Bool × Sg} (h : f_reader_readBoots N σ = some z) : Fr [(1, some 3), (1, some 4), (1, some 5), (1, some 6), (1, some 12), (1, some 13), (4, some 1), (5, none), (6, some 1), (7, none), (8, some 1), (9, none), (26, some 1), (27, none)] σ z.2 := by
  unfold f_reader_readBoots at h
  obtain ⟨q1, e_q1, h⟩ := bind_some_inv h
  have h_q1 : Fr [(1, some 3), (1, some 4), (1, some 5), (1, some 6), (1, some 12), (1, some 13), (4, some 1), (5, none), (6, some 1), (7, none), (8, some 1), (9, none), (26, some 1), (27, none)] _ q1.2 := (Fr.tr Fr.rf (Fr.mono (w_f_reader_expectNewName e_q1) rfl))
  rcases ite_some_inv h with h | h
  · obtain ⟨q2, e_q2, h⟩ := bind_some_inv h
    have h_q2 : Fr [(1, some 3), (1, some 4), (1, some 5), (1, some 6), (1, some 12), (1, some 13), (4, some 1), (5, none), (6, some 1), (7, none), (8, some 1), (9, none), (26, some 1), (27, none)] _ q2.2 := (Fr.tr h_q1 (Fr.mono (w_f_reader_expectWhole e_q2) rfl))
    rcases ite_some_inv h with h | h
    · obtain ⟨q3, e_q3, h⟩ := bind_some_inv h
      have h_q3 : Fr [(1, some 3), (1, some 4), (1, some 5), (1, some 6), (1, some 12), (1, some 13), (4, some 1), (5, none), (6, some 1), (7, none), (8, some 1), (9, none), (26, some 1), (27, none)] _ q3.2 := (Fr.tr h_q2 (Fr.mono (w_f_numbers_add e_q3) rfl))
      cases h
      exact h_q3
    · cases h
      exact h_q2
  · cases h
    exact h_q1
set_option maxRecDepth 100000 in
theorem w_f_reader_readPlace {N : Nat} {σ : Sg} {z : Bool × Sg} (h : f_reader_readPlace N σ = some z) : Fr [(1, some 3), (1, some 4), (1, some 5), (1, some 6), (1, some 12), (1, some 13), (4, some 1), (5, none), (6, some 1), (7, none), (8, some 1), (9, none), (28, some 1), (29, none), (30, some 1), (31, none)] σ z.2 := by
  unfold f_reader_readPlace at h
  obtain ⟨q1, e_q1, h⟩ := bind_some_inv h
  have h_q1 : Fr [(1, some 3), (1, some 4), (1, some 5), (1, some 6), (1, some 12), (1, some 13), (4, some 1), (5, none), (6, some 1), (7, none), (8, some 1), (9, none), (28, some 1), (29, none), (30, some 1), (31, none)] _ q1.2 := (Fr.tr Fr.rf (Fr.mono (w_f_reader_expectNewName e_q1) rfl))
  rcases ite_some_inv h with h | h
  · obtain ⟨q2, e_q2, h⟩ := bind_some_inv h
    have h_q2 : Fr [(1, some 3), (1, some 4), (1, some 5), (1, some 6), (1, some 12), (1, some 13), (4, some 1), (5, none), (6, some 1), (7, none), (8, some 1), (9, none), (28, some 1), (29, none), (30, some 1), (31, none)] _ q2.2 := (Fr.tr h_q1 (Fr.mono (w_f_reader_expect e_q2) rfl))
    rcases ite_some_inv h with h | h
    · obtain ⟨q3, e_q3, h⟩ := bind_some_inv h
      have h_q3 : Fr [(1, some 3), (1, some 4), (1, some 5), (1, some 6), (1, some 12), (1, some 13), (4, some 1), (5, none), (6, some 1), (7, none), (8, some 1), (9, none), (28, some 1), (29, none), (30, some 1), (31, none)] _ q3.2 := (Fr.tr h_q2 (Fr.mono (w_f_reader_expectCell e_q3) rfl))
      rcases ite_some_inv h with h | h
      · obtain ⟨q4, e_q4, h⟩ := bind_some_inv h
        have h_q4 : Fr [(1, some 3), (1, some 4), (1, some 5), (1, some 6), (1, some 12), (1, some 13), (4, some 1), (5, none), (6, some 1), (7, none), (8, some 1), (9, none), (28, some 1), (29, none), (30, some 1), (31, none)] _ q4.2 := (Fr.tr h_q3 (Fr.mono (w_f_country_placeAt e_q4) rfl))
        rcases ite_some_inv h with h | h
        · obtain ⟨q5, e_q5, h⟩ := bind_some_inv h
          have h_q5 : Fr [(1, some 3), (1, some 4), (1, some 5), (1, some 6), (1, some 12), (1, some 13), (4, some 1), (5, none), (6, some 1), (7, none), (8, some 1), (9, none), (28, some 1), (29, none), (30, some 1), (31, none)] _ q5.2 := (Fr.tr h_q4 (Fr.mono (w_f_numbers_add e_q5) rfl))
          obtain ⟨q6, e_q6, h⟩ := bind_some_inv h
          have h_q6 : Fr [(1, some 3), (1, some 4), (1, some 5), (1, some 6), (1, some 12), (1, some 13), (4, some 1), (5, none), (6, some 1), (7, none), (8, some 1), (9, none), (28, some 1), (29, none), (30, some 1), (31, none)] _ q6.2 := (Fr.tr h_q5 (Fr.mono (w_f_reader_expect e_q6) rfl))
          rcases ite_some_inv h with h | h
          · obtain ⟨q7, e_q7, h⟩ := bind_some_inv h
            have h_q7 : Fr [(1, some 3), (1, some 4), (1, some 5), (1, some 6), (1, some 12), (1, some 13), (4, some 1), (5, none), (6, some 1), (7, none), (8, some 1), (9, none), (28, some 1), (29, none), (30, some 1), (31, none)] _ q7.2 := (Fr.tr h_q6 (Fr.mono (w_f_reader_expectWhole e_q7) rfl))
            rcases ite_some_inv h with h | h
            · obtain ⟨q8, e_q8, h⟩ := bind_some_inv h
              have h_q8 : Fr [(1, some 3), (1, some 4), (1, some 5), (1, some 6), (1, some 12), (1, some 13), (4, some 1), (5, none), (6, some 1), (7, none), (8, some 1), (9, none), (28, some 1), (29, none), (30, some 1), (31, none)] _ q8.2 := (Fr.tr h_q7 (Fr.mono (w_f_numbers_add e_q8) rfl))
              cases h
              exact h_q8
            · cases h
              exact h_q7
          · cases h
            exact h_q6
        · obtain ⟨q9, e_q9, h⟩ := bind_some_inv h
          have h_q9 : Fr [(1, some 3), (1, some 4), (1, some 5), (1, some 6), (1, some 12), (1, some 13), (4, some 1), (5, none), (6, some 1), (7, none), (8, some 1), (9, none), (28, some 1), (29, none), (30, some 1), (31, none)] _ q9.2 := (Fr.tr h_q4 (Fr.mono (w_f_reader_fail e_q9) rfl))
          cases h
          exact h_q9
      · cases h
        exact h_q3
    · cases h
      exact h_q2
  · cases h
    exact h_q1
set_option maxRecDepth 100000 in
theorem w_f_reader_readStride {N : Nat} {σ : Sg} {z : Bool × Sg} (h : f_reader_readStride N σ = some z) : Fr [(1, some 3), (1, some 4), (1, some 5), (1, some 6), (1, some 12), (1, some 13), (25, some 13), (25, some 14), (32, some 1), (33, none)] σ z.2 := by
  unfold f_reader_readStride at h
  obtain ⟨q1, e_q1, h⟩ := bind_some_inv h
  have h_q1 : Fr [(1, some 3), (1, some 4), (1, some 5), (1, some 6), (1, some 12), (1, some 13), (25, some 13), (25, some 14), (32, some 1), (33, none)] _ q1.2 := (Fr.tr Fr.rf (Fr.mono (w_f_reader_nextToken e_q1) rfl))
  obtain ⟨q2, e_q2, h⟩ := bind_some_inv h
  have h_q2 : Fr [(1, some 3), (1, some 4), (1, some 5), (1, some 6), (1, some 12), (1, some 13), (25, some 13), (25, some 14), (32, some 1), (33, none)] _ q2.2 := (Fr.tr h_q1 (Fr.mono (w_f_reader_sortHere e_q2) rfl))
  rcases ite_some_inv h with h | h
  · obtain ⟨q3, e_q3, h⟩ := bind_some_inv h
    have h_q3 : Fr [(1, some 3), (1, some 4), (1, some 5), (1, some 6), (1, some 12), (1, some 13), (25, some 13), (25, some 14), (32, some 1), (33, none)] _ q3.2 := (Fr.tr h_q2 (Fr.mono (w_f_reader_nameHere e_q3) rfl))
    obtain ⟨q4, e_q4, h⟩ := bind_some_inv h
    have h_q4 : Fr [(1, some 3), (1, some 4), (1, some 5), (1, some 6), (1, some 12), (1, some 13), (25, some 13), (25, some 14), (32, some 1), (33, none)] _ q4.2 := (Fr.tr h_q3 (Fr.mono (w_f_numbers_at e_q4) rfl))
    rcases ite_some_inv h with h | h
    · obtain ⟨q19, e_q19, h⟩ := bind_some_inv h
      have h_q19 : Fr [(1, some 3), (1, some 4), (1, some 5), (1, some 6), (1, some 12), (1, some 13), (25, some 13), (25, some 14), (32, some 1), (33, none)] _ q19.2 := (Fr.tr h_q4 (Fr.mono (w_f_reader_fail e_q19) rfl))
      cases h
      exact h_q19
    · obtain ⟨q5, e_q5, h⟩ := bind_some_inv h
      have h_q5 : Fr [(1, some 3), (1, some 4), (1, some 5), (1, some 6), (1, some 12), (1, some 13), (25, some 13), (25, some 14), (32, some 1), (33, none)] _ q5.2 := (Fr.tr h_q4 (Fr.mono (w_f_reader_nextToken e_q5) rfl))
      obtain ⟨q6, e_q6, h⟩ := bind_some_inv h
      have h_q6 : Fr [(1, some 3), (1, some 4), (1, some 5), (1, some 6), (1, some 12), (1, some 13), (25, some 13), (25, some 14), (32, some 1), (33, none)] _ q6.2 := (Fr.tr h_q5 (Fr.mono (w_f_reader_isWord e_q6) rfl))
      rcases ite_some_inv h with h | h
      · obtain ⟨q14, e_q14, h⟩ := bind_some_inv h
        have h_q14 : Fr [(1, some 3), (1, some 4), (1, some 5), (1, some 6), (1, some 12), (1, some 13), (25, some 13), (25, some 14), (32, some 1), (33, none)] _ q14.2 := (Fr.tr h_q6 (Fr.mono (w_f_x_digitFor e_q14) rfl))
        obtain ⟨q15, e_q15, h⟩ := bind_some_inv h
        have h_q15 : Fr [(1, some 3), (1, some 4), (1, some 5), (1, some 6), (1, some 12), (1, some 13), (25, some 13), (25, some 14), (32, some 1), (33, none)] _ q15.2 := (Fr.tr h_q14 (Fr.mono (w_f_country_target e_q15) rfl))
        rcases ite_some_inv h with h | h
        · obtain ⟨q18, e_q18, h⟩ := bind_some_inv h
          have h_q18 : Fr [(1, some 3), (1, some 4), (1, some 5), (1, some 6), (1, some 12), (1, some 13), (25, some 13), (25, some 14), (32, some 1), (33, none)] _ q18.2 := (Fr.tr h_q15 (Fr.mono (w_f_reader_fail e_q18) rfl))
          cases h
          exact h_q18
        · obtain ⟨q16, e_q16, h⟩ := bind_some_inv h
          have h_q16 : Fr [(1, some 3), (1, some 4), (1, some 5), (1, some 6), (1, some 12), (1, some 13), (25, some 13), (25, some 14), (32, some 1), (33, none)] _ q16.2 := (Fr.tr h_q15 (Fr.mono (w_f_x_inside e_q16) rfl))
          obtain ⟨q17, e_q17, h⟩ := bind_some_inv h
          have h_q17 : Fr [(1, some 3), (1, some 4), (1, some 5), (1, some 6), (1, some 12), (1, some 13), (25, some 13), (25, some 14), (32, some 1), (33, none)] _ q17.2 := (Fr.tr (Fr.wI (Fr.wL h_q16 (List.elem_iff.mp rfl)) (List.elem_iff.mp rfl)) (Fr.mono (w_f_numbers_add e_q17) rfl))
          cases h
          exact h_q17
      · obtain ⟨q7, e_q7, h⟩ := bind_some_inv h
        have h_q7 : Fr [(1, some 3), (1, some 4), (1, some 5), (1, some 6), (1, some 12), (1, some 13), (25, some 13), (25, some 14), (32, some 1), (33, none)] _ q7.2 := (Fr.tr h_q6 (Fr.mono (w_f_reader_isWord e_q7) rfl))
        rcases ite_some_inv h with h | h
        · obtain ⟨q9, e_q9, h⟩ := bind_some_inv h
          have h_q9 : Fr [(1, some 3), (1, some 4), (1, some 5), (1, some 6), (1, some 12), (1, some 13), (25, some 13), (25, some 14), (32, some 1), (33, none)] _ q9.2 := (Fr.tr h_q7 (Fr.mono (w_f_x_digitFor e_q9) rfl))
          obtain ⟨q10, e_q10, h⟩ := bind_some_inv h
          have h_q10 : Fr [(1, some 3), (1, some 4), (1, some 5), (1, some 6), (1, some 12), (1, some 13), (25, some 13), (25, some 14), (32, some 1), (33, none)] _ q10.2 := (Fr.tr h_q9 (Fr.mono (w_f_country_target e_q10) rfl))
          rcases ite_some_inv h with h | h
          · obtain ⟨q13, e_q13, h⟩ := bind_some_inv h
            have h_q13 : Fr [(1, some 3), (1, some 4), (1, some 5), (1, some 6), (1, some 12), (1, some 13), (25, some 13), (25, some 14), (32, some 1), (33, none)] _ q13.2 := (Fr.tr h_q10 (Fr.mono (w_f_reader_fail e_q13) rfl))
            cases h
            exact h_q13
          · obtain ⟨q11, e_q11, h⟩ := bind_some_inv h
            have h_q11 : Fr [(1, some 3), (1, some 4), (1, some 5), (1, some 6), (1, some 12), (1, some 13), (25, some 13), (25, some 14), (32, some 1), (33, none)] _ q11.2 := (Fr.tr h_q10 (Fr.mono (w_f_x_inside e_q11) rfl))
            obtain ⟨q12, e_q12, h⟩ := bind_some_inv h
            have h_q12 : Fr [(1, some 3), (1, some 4), (1, some 5), (1, some 6), (1, some 12), (1, some 13), (25, some 13), (25, some 14), (32, some 1), (33, none)] _ q12.2 := (Fr.tr (Fr.wI (Fr.wL h_q11 (List.elem_iff.mp rfl)) (List.elem_iff.mp rfl)) (Fr.mono (w_f_numbers_add e_q12) rfl))
            cases h
            exact h_q12
        · obtain ⟨q8, e_q8, h⟩ := bind_some_inv h
          have h_q8 : Fr [(1, some 3), (1, some 4), (1, some 5), (1, some 6), (1, some 12), (1, some 13), (25, some 13), (25, some 14), (32, some 1), (33, none)] _ q8.2 := (Fr.tr h_q7 (Fr.mono (w_f_reader_fail e_q8) rfl))
          cases h
          exact h_q8
  · obtain ⟨q20, e_q20, h⟩ := bind_some_inv h
    have h_q20 : Fr [(1, some 3), (1, some 4), (1, some 5), (1, some 6), (1, some 12), (1, some 13), (25, some 13), (25, some 14), (32, some 1), (33, none)] _ q20.2 := (Fr.tr h_q2 (Fr.mono (w_f_reader_fail e_q20) rfl))
    cases h
    exact h_q20
set_option maxRecDepth 100000 in
theorem w_f_reader_readUnsure {N : Nat} {σ : Sg} {z : Bool × Sg} (h : f_reader_readUnsure N σ = some z) : Fr [(1, some 3), (1, some 4), (1, some 5), (1, some 6), (1, some 12), (1, some 13), (34, some 1), (35, none)] σ z.2 := by
  unfold f_reader_readUnsure at h
  obtain ⟨q1, e_q1, h⟩ := bind_some_inv h
  have h_q1 : Fr [(1, some 3), (1, some 4), (1, some 5), (1, some 6), (1, some 12), (1, some 13), (34, some 1), (35, none)] _ q1.2 := (Fr.tr Fr.rf (Fr.mono (w_f_reader_expectWhole e_q1) rfl))
  rcases ite_some_inv h with h | h
  · obtain ⟨q2, e_q2, h⟩ := bind_some_inv h
    have h_q2 : Fr [(1, some 3), (1, some 4), (1, some 5), (1, some 6), (1, some 12), (1, some 13), (34, some 1), (35, none)] _ q2.2 := (Fr.tr h_q1 (Fr.mono (w_f_numbers_indexOf e_q2) rfl))
    rcases ite_some_inv h with h | h
    · obtain ⟨q3, e_q3, h⟩ := bind_some_inv h
      have h_q3 : Fr [(1, some 3), (1, some 4), (1, some 5), (1, some 6), (1, some 12), (1, some 13), (34, some 1), (35, none)] _ q3.2 := (Fr.tr h_q2 (Fr.mono (w_f_numbers_add e_q3) rfl))
      cases h
      exact h_q3
    · obtain ⟨q4, e_q4, h⟩ := bind_some_inv h
      have h_q4 : Fr [(1, some 3), (1, some 4), (1, some 5), (1, some 6), (1, some 12), (1, some 13), (34, some 1), (35, none)] _ q4.2 := (Fr.tr h_q2 (Fr.mono (w_f_reader_fail e_q4) rfl))
      cases h
      exact h_q4
  · cases h
    exact h_q1
set_option maxRecDepth 100000 in
theorem w_f_reader_readSeen {N : Nat} {σ : Sg} {z : Bool × Sg} (h : f_reader_readSeen N σ = some z) : Fr [(1, some 3), (1, some 4), (1, some 5), (1, some 6), (1, some 12), (1, some 13), (36, some 1), (37, none), (38, some 1), (39, none)] σ z.2 := by
  unfold f_reader_readSeen at h
  obtain ⟨q1, e_q1, h⟩ := bind_some_inv h
  have h_q1 : Fr [(1, some 3), (1, some 4), (1, some 5), (1, some 6), (1, some 12), (1, some 13), (36, some 1), (37, none), (38, some 1), (39, none)] _ q1.2 := (Fr.tr Fr.rf (Fr.mono (w_f_reader_expectCell e_q1) rfl))
  rcases ite_some_inv h with h | h
  · obtain ⟨q2, e_q2, h⟩ := bind_some_inv h
    have h_q2 : Fr [(1, some 3), (1, some 4), (1, some 5), (1, some 6), (1, some 12), (1, some 13), (36, some 1), (37, none), (38, some 1), (39, none)] _ q2.2 := (Fr.tr h_q1 (Fr.mono (w_f_numbers_indexOf e_q2) rfl))
    rcases ite_some_inv h with h | h
    · obtain ⟨q3, e_q3, h⟩ := bind_some_inv h
      have h_q3 : Fr [(1, some 3), (1, some 4), (1, some 5), (1, some 6), (1, some 12), (1, some 13), (36, some 1), (37, none), (38, some 1), (39, none)] _ q3.2 := (Fr.tr h_q2 (Fr.mono (w_f_numbers_add e_q3) rfl))
      obtain ⟨q4, e_q4, h⟩ := bind_some_inv h
      have h_q4 : Fr [(1, some 3), (1, some 4), (1, some 5), (1, some 6), (1, some 12), (1, some 13), (36, some 1), (37, none), (38, some 1), (39, none)] _ q4.2 := (Fr.tr h_q3 (Fr.mono (w_f_reader_nextToken e_q4) rfl))
      obtain ⟨q5, e_q5, h⟩ := bind_some_inv h
      have h_q5 : Fr [(1, some 3), (1, some 4), (1, some 5), (1, some 6), (1, some 12), (1, some 13), (36, some 1), (37, none), (38, some 1), (39, none)] _ q5.2 := (Fr.tr h_q4 (Fr.mono (w_f_reader_isWord e_q5) rfl))
      rcases ite_some_inv h with h | h
      · obtain ⟨q9, e_q9, h⟩ := bind_some_inv h
        have h_q9 : Fr [(1, some 3), (1, some 4), (1, some 5), (1, some 6), (1, some 12), (1, some 13), (36, some 1), (37, none), (38, some 1), (39, none)] _ q9.2 := (Fr.tr h_q5 (Fr.mono (w_f_numbers_add e_q9) rfl))
        cases h
        exact h_q9
      · obtain ⟨q6, e_q6, h⟩ := bind_some_inv h
        have h_q6 : Fr [(1, some 3), (1, some 4), (1, some 5), (1, some 6), (1, some 12), (1, some 13), (36, some 1), (37, none), (38, some 1), (39, none)] _ q6.2 := (Fr.tr h_q5 (Fr.mono (w_f_reader_isWord e_q6) rfl))
        rcases ite_some_inv h with h | h
        · obtain ⟨q8, e_q8, h⟩ := bind_some_inv h
          have h_q8 : Fr [(1, some 3), (1, some 4), (1, some 5), (1, some 6), (1, some 12), (1, some 13), (36, some 1), (37, none), (38, some 1), (39, none)] _ q8.2 := (Fr.tr h_q6 (Fr.mono (w_f_numbers_add e_q8) rfl))
          cases h
          exact h_q8
        · obtain ⟨q7, e_q7, h⟩ := bind_some_inv h
          have h_q7 : Fr [(1, some 3), (1, some 4), (1, some 5), (1, some 6), (1, some 12), (1, some 13), (36, some 1), (37, none), (38, some 1), (39, none)] _ q7.2 := (Fr.tr h_q6 (Fr.mono (w_f_reader_fail e_q7) rfl))
          cases h
          exact h_q7
    · obtain ⟨q10, e_q10, h⟩ := bind_some_inv h
      have h_q10 : Fr [(1, some 3), (1, some 4), (1, some 5), (1, some 6), (1, some 12), (1, some 13), (36, some 1), (37, none), (38, some 1), (39, none)] _ q10.2 := (Fr.tr h_q2 (Fr.mono (w_f_reader_fail e_q10) rfl))
      cases h
      exact h_q10
  · cases h
    exact h_q1
set_option maxRecDepth 100000 in
theorem w_f_reader_readLine {N : Nat} {σ : Sg} {z : Bool × Sg} (h : f_reader_readLine N σ = some z) : Fr [(1, some 3), (1, some 4), (1, some 5), (1, some 6), (1, some 12), (1, some 13), (3, none), (4, some 1), (5, none), (6, some 1), (7, none), (8, some 1), (9, none), (25, some 0), (25, some 1), (25, some 2), (25, some 3), (25, some 4), (25, some 5), (25, some 13), (25, some 14), (26, some 1), (27, none), (28, some 1), (29, none), (30, some 1), (31, none), (32, some 1), (33, none), (34, some 1), (35, none), (36, some 1), (37, none), (38, some 1), (39, none)] σ z.2 := by
  unfold f_reader_readLine at h
  obtain ⟨q1, e_q1, h⟩ := bind_some_inv h
  have h_q1 : Fr [(1, some 3), (1, some 4), (1, some 5), (1, some 6), (1, some 12), (1, some 13), (3, none), (4, some 1), (5, none), (6, some 1), (7, none), (8, some 1), (9, none), (25, some 0), (25, some 1), (25, some 2), (25, some 3), (25, some 4), (25, some 5), (25, some 13), (25, some 14), (26, some 1), (27, none), (28, some 1), (29, none), (30, some 1), (31, none), (32, some 1), (33, none), (34, some 1), (35, none), (36, some 1), (37, none), (38, some 1), (39, none)] _ q1.2 := (Fr.tr Fr.rf (Fr.mono (w_f_reader_sortHere e_q1) rfl))
  obtain ⟨q2, e_q2, h⟩ := bind_some_inv h
  have h_q2 : Fr [(1, some 3), (1, some 4), (1, some 5), (1, some 6), (1, some 12), (1, some 13), (3, none), (4, some 1), (5, none), (6, some 1), (7, none), (8, some 1), (9, none), (25, some 0), (25, some 1), (25, some 2), (25, some 3), (25, some 4), (25, some 5), (25, some 13), (25, some 14), (26, some 1), (27, none), (28, some 1), (29, none), (30, some 1), (31, none), (32, some 1), (33, none), (34, some 1), (35, none), (36, some 1), (37, none), (38, some 1), (39, none)] _ q2.2 := (Fr.tr h_q1 (Fr.mono (w_f_reader_headFits e_q2) rfl))
  rcases ite_some_inv h with h | h
  · rcases ite_some_inv h with h | h
    · obtain ⟨q3, e_q3, h⟩ := bind_some_inv h
      have h_q3 : Fr [(1, some 3), (1, some 4), (1, some 5), (1, some 6), (1, some 12), (1, some 13), (3, none), (4, some 1), (5, none), (6, some 1), (7, none), (8, some 1), (9, none), (25, some 0), (25, some 1), (25, some 2), (25, some 3), (25, some 4), (25, some 5), (25, some 13), (25, some 14), (26, some 1), (27, none), (28, some 1), (29, none), (30, some 1), (31, none), (32, some 1), (33, none), (34, some 1), (35, none), (36, some 1), (37, none), (38, some 1), (39, none)] _ q3.2 := (Fr.tr h_q2 (Fr.mono (w_f_reader_readLand e_q3) rfl))
      cases h
      exact h_q3
    · rcases ite_some_inv h with h | h
      · obtain ⟨q4, e_q4, h⟩ := bind_some_inv h
        have h_q4 : Fr [(1, some 3), (1, some 4), (1, some 5), (1, some 6), (1, some 12), (1, some 13), (3, none), (4, some 1), (5, none), (6, some 1), (7, none), (8, some 1), (9, none), (25, some 0), (25, some 1), (25, some 2), (25, some 3), (25, some 4), (25, some 5), (25, some 13), (25, some 14), (26, some 1), (27, none), (28, some 1), (29, none), (30, some 1), (31, none), (32, some 1), (33, none), (34, some 1), (35, none), (36, some 1), (37, none), (38, some 1), (39, none)] _ q4.2 := (Fr.tr h_q2 (Fr.mono (w_f_reader_readGround e_q4) rfl))
        cases h
        exact h_q4
      · rcases ite_some_inv h with h | h
        · obtain ⟨q5, e_q5, h⟩ := bind_some_inv h
          have h_q5 : Fr [(1, some 3), (1, some 4), (1, some 5), (1, some 6), (1, some 12), (1, some 13), (3, none), (4, some 1), (5, none), (6, some 1), (7, none), (8, some 1), (9, none), (25, some 0), (25, some 1), (25, some 2), (25, some 3), (25, some 4), (25, some 5), (25, some 13), (25, some 14), (26, some 1), (27, none), (28, some 1), (29, none), (30, some 1), (31, none), (32, some 1), (33, none), (34, some 1), (35, none), (36, some 1), (37, none), (38, some 1), (39, none)] _ q5.2 := (Fr.tr h_q2 (Fr.mono (w_f_reader_readBoots e_q5) rfl))
          cases h
          exact h_q5
        · rcases ite_some_inv h with h | h
          · obtain ⟨q6, e_q6, h⟩ := bind_some_inv h
            have h_q6 : Fr [(1, some 3), (1, some 4), (1, some 5), (1, some 6), (1, some 12), (1, some 13), (3, none), (4, some 1), (5, none), (6, some 1), (7, none), (8, some 1), (9, none), (25, some 0), (25, some 1), (25, some 2), (25, some 3), (25, some 4), (25, some 5), (25, some 13), (25, some 14), (26, some 1), (27, none), (28, some 1), (29, none), (30, some 1), (31, none), (32, some 1), (33, none), (34, some 1), (35, none), (36, some 1), (37, none), (38, some 1), (39, none)] _ q6.2 := (Fr.tr h_q2 (Fr.mono (w_f_reader_readPlace e_q6) rfl))
            cases h
            exact h_q6
          · rcases ite_some_inv h with h | h
            · obtain ⟨q7, e_q7, h⟩ := bind_some_inv h
              have h_q7 : Fr [(1, some 3), (1, some 4), (1, some 5), (1, some 6), (1, some 12), (1, some 13), (3, none), (4, some 1), (5, none), (6, some 1), (7, none), (8, some 1), (9, none), (25, some 0), (25, some 1), (25, some 2), (25, some 3), (25, some 4), (25, some 5), (25, some 13), (25, some 14), (26, some 1), (27, none), (28, some 1), (29, none), (30, some 1), (31, none), (32, some 1), (33, none), (34, some 1), (35, none), (36, some 1), (37, none), (38, some 1), (39, none)] _ q7.2 := (Fr.tr h_q2 (Fr.mono (w_f_reader_readStride e_q7) rfl))
              cases h
              exact h_q7
            · rcases ite_some_inv h with h | h
              · obtain ⟨q8, e_q8, h⟩ := bind_some_inv h
                have h_q8 : Fr [(1, some 3), (1, some 4), (1, some 5), (1, some 6), (1, some 12), (1, some 13), (3, none), (4, some 1), (5, none), (6, some 1), (7, none), (8, some 1), (9, none), (25, some 0), (25, some 1), (25, some 2), (25, some 3), (25, some 4), (25, some 5), (25, some 13), (25, some 14), (26, some 1), (27, none), (28, some 1), (29, none), (30, some 1), (31, none), (32, some 1), (33, none), (34, some 1), (35, none), (36, some 1), (37, none), (38, some 1), (39, none)] _ q8.2 := (Fr.tr h_q2 (Fr.mono (w_f_reader_readUnsure e_q8) rfl))
                cases h
                exact h_q8
              · obtain ⟨q9, e_q9, h⟩ := bind_some_inv h
                have h_q9 : Fr [(1, some 3), (1, some 4), (1, some 5), (1, some 6), (1, some 12), (1, some 13), (3, none), (4, some 1), (5, none), (6, some 1), (7, none), (8, some 1), (9, none), (25, some 0), (25, some 1), (25, some 2), (25, some 3), (25, some 4), (25, some 5), (25, some 13), (25, some 14), (26, some 1), (27, none), (28, some 1), (29, none), (30, some 1), (31, none), (32, some 1), (33, none), (34, some 1), (35, none), (36, some 1), (37, none), (38, some 1), (39, none)] _ q9.2 := (Fr.tr h_q2 (Fr.mono (w_f_reader_readSeen e_q9) rfl))
                cases h
                exact h_q9
  · cases h
    exact h_q2
set_option maxRecDepth 100000 in
theorem w_f_reader_endText {N : Nat} {σ : Sg} {z : Unit × Sg} (h : f_reader_endText N σ = some z) : Fr [(1, some 12), (1, some 13)] σ z.2 := by
  unfold f_reader_endText at h
  rcases ite_some_inv h with h | h
  · rcases ite_some_inv h with h | h
    · obtain ⟨q1, e_q1, h⟩ := bind_some_inv h
      have h_q1 : Fr [(1, some 12), (1, some 13)] _ q1.2 := (Fr.tr Fr.rf (Fr.mono (w_f_reader_fail e_q1) rfl))
      cases h
      exact h_q1
    · cases h
      exact Fr.rf
  · obtain ⟨q2, e_q2, h⟩ := bind_some_inv h
    have h_q2 : Fr [(1, some 12), (1, some 13)] _ q2.2 := (Fr.tr Fr.rf (Fr.mono (w_f_reader_fail e_q2) rfl))
    cases h
    exact h_q2
set_option maxRecDepth 100000 in
theorem w_f_reader_read_L7 {N : Nat} : ∀ (n : Nat) (v2 : Int32) (σ : Sg) (z : Unit × Sg), f_reader_read_L7 N n v2 σ = some z → Fr [(1, some 3), (1, some 4), (1, some 5), (1, some 6), (1, some 12), (1, some 13), (3, none), (4, some 1), (5, none), (6, some 1), (7, none), (8, some 1), (9, none), (25, some 0), (25, some 1), (25, some 2), (25, some 3), (25, some 4), (25, some 5), (25, some 13), (25, some 14), (26, some 1), (27, none), (28, some 1), (29, none), (30, some 1), (31, none), (32, some 1), (33, none), (34, some 1), (35, none), (36, some 1), (37, none), (38, some 1), (39, none)] σ z.2 := by
  intro n
  induction n with
  | zero => intro v2 σ z  h; exact nomatch (show (none : Option (Unit × Sg)) = some z from h)
  | succ n ih =>
    intro v2 σ z  h
    unfold f_reader_read_L7 at h
    rcases ite_some_inv h with h | h
    · cases h
      exact Fr.rf
    · obtain ⟨q2, e_q2, h⟩ := bind_some_inv h
      have h_q2 : Fr [(1, some 3), (1, some 4), (1, some 5), (1, some 6), (1, some 12), (1, some 13), (3, none), (4, some 1), (5, none), (6, some 1), (7, none), (8, some 1), (9, none), (25, some 0), (25, some 1), (25, some 2), (25, some 3), (25, some 4), (25, some 5), (25, some 13), (25, some 14), (26, some 1), (27, none), (28, some 1), (29, none), (30, some 1), (31, none), (32, some 1), (33, none), (34, some 1), (35, none), (36, some 1), (37, none), (38, some 1), (39, none)] _ q2.2 := (Fr.tr Fr.rf (Fr.mono (w_f_reader_nextToken e_q2) rfl))
      obtain ⟨q3, e_q3, h⟩ := bind_some_inv h
      have h_q3 : Fr [(1, some 3), (1, some 4), (1, some 5), (1, some 6), (1, some 12), (1, some 13), (3, none), (4, some 1), (5, none), (6, some 1), (7, none), (8, some 1), (9, none), (25, some 0), (25, some 1), (25, some 2), (25, some 3), (25, some 4), (25, some 5), (25, some 13), (25, some 14), (26, some 1), (27, none), (28, some 1), (29, none), (30, some 1), (31, none), (32, some 1), (33, none), (34, some 1), (35, none), (36, some 1), (37, none), (38, some 1), (39, none)] _ q3.2 := (Fr.tr h_q2 (Fr.mono (w_f_reader_readLine e_q3) rfl))
      rcases ite_some_inv h with h | h
      · obtain ⟨q4, e_q4, h⟩ := bind_some_inv h
        have h_q4 : Fr [(1, some 3), (1, some 4), (1, some 5), (1, some 6), (1, some 12), (1, some 13), (3, none), (4, some 1), (5, none), (6, some 1), (7, none), (8, some 1), (9, none), (25, some 0), (25, some 1), (25, some 2), (25, some 3), (25, some 4), (25, some 5), (25, some 13), (25, some 14), (26, some 1), (27, none), (28, some 1), (29, none), (30, some 1), (31, none), (32, some 1), (33, none), (34, some 1), (35, none), (36, some 1), (37, none), (38, some 1), (39, none)] _ q4.2 := (Fr.tr h_q3 (Fr.mono (w_f_reader_nextToken e_q4) rfl))
        rcases ite_some_inv h with h | h
        · exact (Fr.tr h_q4 (ih _ _ _ h))
        · obtain ⟨q5, e_q5, h⟩ := bind_some_inv h
          have h_q5 : Fr [(1, some 3), (1, some 4), (1, some 5), (1, some 6), (1, some 12), (1, some 13), (3, none), (4, some 1), (5, none), (6, some 1), (7, none), (8, some 1), (9, none), (25, some 0), (25, some 1), (25, some 2), (25, some 3), (25, some 4), (25, some 5), (25, some 13), (25, some 14), (26, some 1), (27, none), (28, some 1), (29, none), (30, some 1), (31, none), (32, some 1), (33, none), (34, some 1), (35, none), (36, some 1), (37, none), (38, some 1), (39, none)] _ q5.2 := (Fr.tr h_q4 (Fr.mono (w_f_reader_endText e_q5) rfl))
          cases h
          exact h_q5
      · cases h
        exact h_q3
