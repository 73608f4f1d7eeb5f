set_option maxRecDepth 100000 in
theorem w_f_reader_read {N : Nat} {v1 : Int32} {σ : Sg} {z : Unit × Sg} (h : f_reader_read N v1 σ = some z) : Fr [(1, some 1), (1, some 2), (1, some 3), (1, some 4), (1, some 5), (1, some 6), (1, some 12), (1, some 13), (3, none), (4, some 1), (5, none), (6, some 1), (7, none), (8, some 1), (9, none), (25, some 0), (25, some 1), (25, some 2), (25, some 3), (25, some 4), (25, some 5), (25, some 13), (25, some 14), (26, some 1), (27, none), (28, some 1), (29, none), (30, some 1), (31, none), (32, some 1), (33, none), (34, some 1), (35, none), (36, some 1), (37, none), (38, some 1), (39, none)] σ z.2 := by
  unfold f_reader_read at h
  obtain ⟨q1, e_q1, h⟩ := bind_some_inv h
  have h_q1 : Fr [(1, some 1), (1, some 2), (1, some 3), (1, some 4), (1, some 5), (1, some 6), (1, some 12), (1, some 13), (3, none), (4, some 1), (5, none), (6, some 1), (7, none), (8, some 1), (9, none), (25, some 0), (25, some 1), (25, some 2), (25, some 3), (25, some 4), (25, some 5), (25, some 13), (25, some 14), (26, some 1), (27, none), (28, some 1), (29, none), (30, some 1), (31, none), (32, some 1), (33, none), (34, some 1), (35, none), (36, some 1), (37, none), (38, some 1), (39, none)] _ q1.2 := (Fr.tr Fr.rf (Fr.mono (w_f_reader_begin e_q1) rfl))
  exact (Fr.tr h_q1 (Fr.mono (w_f_reader_read_L7 _ _ _ _ h) rfl))
set_option maxRecDepth 100000 in
theorem w_f_state_begin {N : Nat} {σ : Sg} {z : Unit × Sg} (h : f_state_begin N σ = some z) : Fr [(40, some 0), (40, some 1), (40, some 2), (40, some 3), (40, some 4)] σ z.2 := by
  unfold f_state_begin at h
  obtain ⟨q1, e_q1, h⟩ := bind_some_inv h
  have h_q1 : Fr [(40, some 0), (40, some 1), (40, some 2), (40, some 3), (40, some 4)] _ q1.2 := (Fr.tr Fr.rf (Fr.mono (w_f_country_lowDepth e_q1) rfl))
  obtain ⟨q2, e_q2, h⟩ := bind_some_inv h
  have h_q2 : Fr [(40, some 0), (40, some 1), (40, some 2), (40, some 3), (40, some 4)] _ q2.2 := (Fr.tr (Fr.wL h_q1 (List.elem_iff.mp rfl)) (Fr.mono (w_f_country_highDepth e_q2) rfl))
  cases h
  exact (Fr.wI (Fr.wI (Fr.wI (Fr.wL h_q2 (List.elem_iff.mp rfl)) (List.elem_iff.mp rfl)) (List.elem_iff.mp rfl)) (List.elem_iff.mp rfl))
set_option maxRecDepth 100000 in
theorem w_f_paths_forget {N : Nat} {σ : Sg} {z : Unit × Sg} (h : f_paths_forget N σ = some z) : Fr [(55, some 7)] σ z.2 := by
  unfold f_paths_forget at h
  cases h
  exact (Fr.wI Fr.rf (List.elem_iff.mp rfl))
set_option maxRecDepth 100000 in
theorem w_f_x_land {N : Nat} {v1 : Int32} {σ : Sg} {z : Int32 × Sg} (h : f_x_land N v1 σ = some z) : Fr [(0, some 6), (0, some 10), (1, some 1), (1, some 2), (1, some 3), (1, some 4), (1, some 5), (1, some 6), (1, some 12), (1, some 13), (3, none), (4, some 1), (5, none), (6, some 1), (7, none), (8, some 1), (9, none), (10, none), (11, none), (12, none), (13, none), (14, none), (15, none), (16, none), (17, none), (18, none), (19, none), (20, none), (21, none), (22, none), (23, none), (24, none), (25, none), (26, none), (27, none), (28, none), (29, none), (30, none), (31, none), (32, none), (33, none), (34, none), (35, none), (36, none), (37, none), (38, none), (39, none), (40, some 0), (40, some 1), (40, some 2), (40, some 3), (40, some 4), (42, some 2), (55, some 7)] σ z.2 := by
  unfold f_x_land at h
  rcases ite_some_inv h with h | h
  · obtain ⟨q1, e_q1, h⟩ := bind_some_inv h
    have h_q1 : Fr [(0, some 6), (0, some 10), (1, some 1), (1, some 2), (1, some 3), (1, some 4), (1, some 5), (1, some 6), (1, some 12), (1, some 13), (3, none), (4, some 1), (5, none), (6, some 1), (7, none), (8, some 1), (9, none), (10, none), (11, none), (12, none), (13, none), (14, none), (15, none), (16, none), (17, none), (18, none), (19, none), (20, none), (21, none), (22, none), (23, none), (24, none), (25, none), (26, none), (27, none), (28, none), (29, none), (30, none), (31, none), (32, none), (33, none), (34, none), (35, none), (36, none), (37, none), (38, none), (39, none), (40, some 0), (40, some 1), (40, some 2), (40, some 3), (40, some 4), (42, some 2), (55, some 7)] _ q1.2 := (Fr.tr Fr.rf (Fr.mono (w_f_x_granted e_q1) rfl))
    rcases ite_some_inv h with h | h
    · obtain ⟨q2, e_q2, h⟩ := bind_some_inv h
      have h_q2 : Fr [(0, some 6), (0, some 10), (1, some 1), (1, some 2), (1, some 3), (1, some 4), (1, some 5), (1, some 6), (1, some 12), (1, some 13), (3, none), (4, some 1), (5, none), (6, some 1), (7, none), (8, some 1), (9, none), (10, none), (11, none), (12, none), (13, none), (14, none), (15, none), (16, none), (17, none), (18, none), (19, none), (20, none), (21, none), (22, none), (23, none), (24, none), (25, none), (26, none), (27, none), (28, none), (29, none), (30, none), (31, none), (32, none), (33, none), (34, none), (35, none), (36, none), (37, none), (38, none), (39, none), (40, some 0), (40, some 1), (40, some 2), (40, some 3), (40, some 4), (42, some 2), (55, some 7)] _ q2.2 := (Fr.tr h_q1 (Fr.mono (w_f_reader_read e_q2) rfl))
      rcases ite_some_inv h with h | h
      · obtain ⟨q3, e_q3, h⟩ := bind_some_inv h
        have h_q3 : Fr [(0, some 6), (0, some 10), (1, some 1), (1, some 2), (1, some 3), (1, some 4), (1, some 5), (1, some 6), (1, some 12), (1, some 13), (3, none), (4, some 1), (5, none), (6, some 1), (7, none), (8, some 1), (9, none), (10, none), (11, none), (12, none), (13, none), (14, none), (15, none), (16, none), (17, none), (18, none), (19, none), (20, none), (21, none), (22, none), (23, none), (24, none), (25, none), (26, none), (27, none), (28, none), (29, none), (30, none), (31, none), (32, none), (33, none), (34, none), (35, none), (36, none), (37, none), (38, none), (39, none), (40, some 0), (40, some 1), (40, some 2), (40, some 3), (40, some 4), (42, some 2), (55, some 7)] _ q3.2 := (Fr.tr h_q2 (Fr.mono (w_f_x_granted e_q3) rfl))
        rcases ite_some_inv h with h | h
        · rcases ite_some_inv h with h | h
          · obtain ⟨q4, e_q4, h⟩ := bind_some_inv h
            have h_q4 : Fr [(0, some 6), (0, some 10), (1, some 1), (1, some 2), (1, some 3), (1, some 4), (1, some 5), (1, some 6), (1, some 12), (1, some 13), (3, none), (4, some 1), (5, none), (6, some 1), (7, none), (8, some 1), (9, none), (10, none), (11, none), (12, none), (13, none), (14, none), (15, none), (16, none), (17, none), (18, none), (19, none), (20, none), (21, none), (22, none), (23, none), (24, none), (25, none), (26, none), (27, none), (28, none), (29, none), (30, none), (31, none), (32, none), (33, none), (34, none), (35, none), (36, none), (37, none), (38, none), (39, none), (40, some 0), (40, some 1), (40, some 2), (40, some 3), (40, some 4), (42, some 2), (55, some 7)] _ q4.2 := (Fr.tr (Fr.wsw h_q3 (by decide +kernel)) (Fr.mono (w_f_state_begin e_q4) rfl))
            obtain ⟨q5, e_q5, h⟩ := bind_some_inv h
            have h_q5 : Fr [(0, some 6), (0, some 10), (1, some 1), (1, some 2), (1, some 3), (1, some 4), (1, some 5), (1, some 6), (1, some 12), (1, some 13), (3, none), (4, some 1), (5, none), (6, some 1), (7, none), (8, some 1), (9, none), (10, none), (11, none), (12, none), (13, none), (14, none), (15, none), (16, none), (17, none), (18, none), (19, none), (20, none), (21, none), (22, none), (23, none), (24, none), (25, none), (26, none), (27, none), (28, none), (29, none), (30, none), (31, none), (32, none), (33, none), (34, none), (35, none), (36, none), (37, none), (38, none), (39, none), (40, some 0), (40, some 1), (40, some 2), (40, some 3), (40, some 4), (42, some 2), (55, some 7)] _ q5.2 := (Fr.tr h_q4 (Fr.mono (w_f_history_forget e_q5) rfl))
            obtain ⟨q6, e_q6, h⟩ := bind_some_inv h
            have h_q6 : Fr [(0, some 6), (0, some 10), (1, some 1), (1, some 2), (1, some 3), (1, some 4), (1, some 5), (1, some 6), (1, some 12), (1, some 13), (3, none), (4, some 1), (5, none), (6, some 1), (7, none), (8, some 1), (9, none), (10, none), (11, none), (12, none), (13, none), (14, none), (15, none), (16, none), (17, none), (18, none), (19, none), (20, none), (21, none), (22, none), (23, none), (24, none), (25, none), (26, none), (27, none), (28, none), (29, none), (30, none), (31, none), (32, none), (33, none), (34, none), (35, none), (36, none), (37, none), (38, none), (39, none), (40, some 0), (40, some 1), (40, some 2), (40, some 3), (40, some 4), (42, some 2), (55, some 7)] _ q6.2 := (Fr.tr (Fr.wI h_q5 (List.elem_iff.mp rfl)) (Fr.mono (w_f_paths_forget e_q6) rfl))
            cases h
            exact h_q6
          · cases h
        · cases h
          exact h_q3
      · obtain ⟨q7, e_q7, h⟩ := bind_some_inv h
        have h_q7 : Fr [(0, some 6), (0, some 10), (1, some 1), (1, some 2), (1, some 3), (1, some 4), (1, some 5), (1, some 6), (1, some 12), (1, some 13), (3, none), (4, some 1), (5, none), (6, some 1), (7, none), (8, some 1), (9, none), (10, none), (11, none), (12, none), (13, none), (14, none), (15, none), (16, none), (17, none), (18, none), (19, none), (20, none), (21, none), (22, none), (23, none), (24, none), (25, none), (26, none), (27, none), (28, none), (29, none), (30, none), (31, none), (32, none), (33, none), (34, none), (35, none), (36, none), (37, none), (38, none), (39, none), (40, some 0), (40, some 1), (40, some 2), (40, some 3), (40, some 4), (42, some 2), (55, some 7)] _ q7.2 := (Fr.tr h_q2 (Fr.mono (w_f_x_granted e_q7) rfl))
        rcases ite_some_inv h with h | h
        · rcases ite_some_inv h with h | h
          · obtain ⟨q8, e_q8, h⟩ := bind_some_inv h
            have h_q8 : Fr [(0, some 6), (0, some 10), (1, some 1), (1, some 2), (1, some 3), (1, some 4), (1, some 5), (1, some 6), (1, some 12), (1, some 13), (3, none), (4, some 1), (5, none), (6, some 1), (7, none), (8, some 1), (9, none), (10, none), (11, none), (12, none), (13, none), (14, none), (15, none), (16, none), (17, none), (18, none), (19, none), (20, none), (21, none), (22, none), (23, none), (24, none), (25, none), (26, none), (27, none), (28, none), (29, none), (30, none), (31, none), (32, none), (33, none), (34, none), (35, none), (36, none), (37, none), (38, none), (39, none), (40, some 0), (40, some 1), (40, some 2), (40, some 3), (40, some 4), (42, some 2), (55, some 7)] _ q8.2 := (Fr.tr (Fr.wsw h_q7 (by decide +kernel)) (Fr.mono (w_f_state_begin e_q8) rfl))
            obtain ⟨q9, e_q9, h⟩ := bind_some_inv h
            have h_q9 : Fr [(0, some 6), (0, some 10), (1, some 1), (1, some 2), (1, some 3), (1, some 4), (1, some 5), (1, some 6), (1, some 12), (1, some 13), (3, none), (4, some 1), (5, none), (6, some 1), (7, none), (8, some 1), (9, none), (10, none), (11, none), (12, none), (13, none), (14, none), (15, none), (16, none), (17, none), (18, none), (19, none), (20, none), (21, none), (22, none), (23, none), (24, none), (25, none), (26, none), (27, none), (28, none), (29, none), (30, none), (31, none), (32, none), (33, none), (34, none), (35, none), (36, none), (37, none), (38, none), (39, none), (40, some 0), (40, some 1), (40, some 2), (40, some 3), (40, some 4), (42, some 2), (55, some 7)] _ q9.2 := (Fr.tr h_q8 (Fr.mono (w_f_history_forget e_q9) rfl))
            obtain ⟨q10, e_q10, h⟩ := bind_some_inv h
            have h_q10 : Fr [(0, some 6), (0, some 10), (1, some 1), (1, some 2), (1, some 3), (1, some 4), (1, some 5), (1, some 6), (1, some 12), (1, some 13), (3, none), (4, some 1), (5, none), (6, some 1), (7, none), (8, some 1), (9, none), (10, none), (11, none), (12, none), (13, none), (14, none), (15, none), (16, none), (17, none), (18, none), (19, none), (20, none), (21, none), (22, none), (23, none), (24, none), (25, none), (26, none), (27, none), (28, none), (29, none), (30, none), (31, none), (32, none), (33, none), (34, none), (35, none), (36, none), (37, none), (38, none), (39, none), (40, some 0), (40, some 1), (40, some 2), (40, some 3), (40, some 4), (42, some 2), (55, some 7)] _ q10.2 := (Fr.tr (Fr.wI h_q9 (List.elem_iff.mp rfl)) (Fr.mono (w_f_paths_forget e_q10) rfl))
            cases h
            exact h_q10
          · cases h
        · cases h
          exact h_q7
    · cases h
      exact h_q1
  · rcases ite_some_inv h with h | h
    · obtain ⟨q11, e_q11, h⟩ := bind_some_inv h
      have h_q11 : Fr [(0, some 6), (0, some 10), (1, some 1), (1, some 2), (1, some 3), (1, some 4), (1, some 5), (1, some 6), (1, some 12), (1, some 13), (3, none), (4, some 1), (5, none), (6, some 1), (7, none), (8, some 1), (9, none), (10, none), (11, none), (12, none), (13, none), (14, none), (15, none), (16, none), (17, none), (18, none), (19, none), (20, none), (21, none), (22, none), (23, none), (24, none), (25, none), (26, none), (27, none), (28, none), (29, none), (30, none), (31, none), (32, none), (33, none), (34, none), (35, none), (36, none), (37, none), (38, none), (39, none), (40, some 0), (40, some 1), (40, some 2), (40, some 3), (40, some 4), (42, some 2), (55, some 7)] _ q11.2 := (Fr.tr Fr.rf (Fr.mono (w_f_x_granted e_q11) rfl))
      rcases ite_some_inv h with h | h
      · obtain ⟨q12, e_q12, h⟩ := bind_some_inv h
        have h_q12 : Fr [(0, some 6), (0, some 10), (1, some 1), (1, some 2), (1, some 3), (1, some 4), (1, some 5), (1, some 6), (1, some 12), (1, some 13), (3, none), (4, some 1), (5, none), (6, some 1), (7, none), (8, some 1), (9, none), (10, none), (11, none), (12, none), (13, none), (14, none), (15, none), (16, none), (17, none), (18, none), (19, none), (20, none), (21, none), (22, none), (23, none), (24, none), (25, none), (26, none), (27, none), (28, none), (29, none), (30, none), (31, none), (32, none), (33, none), (34, none), (35, none), (36, none), (37, none), (38, none), (39, none), (40, some 0), (40, some 1), (40, some 2), (40, some 3), (40, some 4), (42, some 2), (55, some 7)] _ q12.2 := (Fr.tr h_q11 (Fr.mono (w_f_reader_read e_q12) rfl))
        rcases ite_some_inv h with h | h
        · obtain ⟨q13, e_q13, h⟩ := bind_some_inv h
          have h_q13 : Fr [(0, some 6), (0, some 10), (1, some 1), (1, some 2), (1, some 3), (1, some 4), (1, some 5), (1, some 6), (1, some 12), (1, some 13), (3, none), (4, some 1), (5, none), (6, some 1), (7, none), (8, some 1), (9, none), (10, none), (11, none), (12, none), (13, none), (14, none), (15, none), (16, none), (17, none), (18, none), (19, none), (20, none), (21, none), (22, none), (23, none), (24, none), (25, none), (26, none), (27, none), (28, none), (29, none), (30, none), (31, none), (32, none), (33, none), (34, none), (35, none), (36, none), (37, none), (38, none), (39, none), (40, some 0), (40, some 1), (40, some 2), (40, some 3), (40, some 4), (42, some 2), (55, some 7)] _ q13.2 := (Fr.tr h_q12 (Fr.mono (w_f_x_granted e_q13) rfl))
          rcases ite_some_inv h with h | h
          · rcases ite_some_inv h with h | h
            · obtain ⟨q14, e_q14, h⟩ := bind_some_inv h
              have h_q14 : Fr [(0, some 6), (0, some 10), (1, some 1), (1, some 2), (1, some 3), (1, some 4), (1, some 5), (1, some 6), (1, some 12), (1, some 13), (3, none), (4, some 1), (5, none), (6, some 1), (7, none), (8, some 1), (9, none), (10, none), (11, none), (12, none), (13, none), (14, none), (15, none), (16, none), (17, none), (18, none), (19, none), (20, none), (21, none), (22, none), (23, none), (24, none), (25, none), (26, none), (27, none), (28, none), (29, none), (30, none), (31, none), (32, none), (33, none), (34, none), (35, none), (36, none), (37, none), (38, none), (39, none), (40, some 0), (40, some 1), (40, some 2), (40, some 3), (40, some 4), (42, some 2), (55, some 7)] _ q14.2 := (Fr.tr (Fr.wsw h_q13 (by decide +kernel)) (Fr.mono (w_f_state_begin e_q14) rfl))
              obtain ⟨q15, e_q15, h⟩ := bind_some_inv h
              have h_q15 : Fr [(0, some 6), (0, some 10), (1, some 1), (1, some 2), (1, some 3), (1, some 4), (1, some 5), (1, some 6), (1, some 12), (1, some 13), (3, none), (4, some 1), (5, none), (6, some 1), (7, none), (8, some 1), (9, none), (10, none), (11, none), (12, none), (13, none), (14, none), (15, none), (16, none), (17, none), (18, none), (19, none), (20, none), (21, none), (22, none), (23, none), (24, none), (25, none), (26, none), (27, none), (28, none), (29, none), (30, none), (31, none), (32, none), (33, none), (34, none), (35, none), (36, none), (37, none), (38, none), (39, none), (40, some 0), (40, some 1), (40, some 2), (40, some 3), (40, some 4), (42, some 2), (55, some 7)] _ q15.2 := (Fr.tr h_q14 (Fr.mono (w_f_history_forget e_q15) rfl))
              obtain ⟨q16, e_q16, h⟩ := bind_some_inv h
              have h_q16 : Fr [(0, some 6), (0, some 10), (1, some 1), (1, some 2), (1, some 3), (1, some 4), (1, some 5), (1, some 6), (1, some 12), (1, some 13), (3, none), (4, some 1), (5, none), (6, some 1), (7, none), (8, some 1), (9, none), (10, none), (11, none), (12, none), (13, none), (14, none), (15, none), (16, none), (17, none), (18, none), (19, none), (20, none), (21, none), (22, none), (23, none), (24, none), (25, none), (26, none), (27, none), (28, none), (29, none), (30, none), (31, none), (32, none), (33, none), (34, none), (35, none), (36, none), (37, none), (38, none), (39, none), (40, some 0), (40, some 1), (40, some 2), (40, some 3), (40, some 4), (42, some 2), (55, some 7)] _ q16.2 := (Fr.tr (Fr.wI h_q15 (List.elem_iff.mp rfl)) (Fr.mono (w_f_paths_forget e_q16) rfl))
              cases h
              exact h_q16
            · cases h
          · cases h
            exact h_q13
        · obtain ⟨q17, e_q17, h⟩ := bind_some_inv h
          have h_q17 : Fr [(0, some 6), (0, some 10), (1, some 1), (1, some 2), (1, some 3), (1, some 4), (1, some 5), (1, some 6), (1, some 12), (1, some 13), (3, none), (4, some 1), (5, none), (6, some 1), (7, none), (8, some 1), (9, none), (10, none), (11, none), (12, none), (13, none), (14, none), (15, none), (16, none), (17, none), (18, none), (19, none), (20, none), (21, none), (22, none), (23, none), (24, none), (25, none), (26, none), (27, none), (28, none), (29, none), (30, none), (31, none), (32, none), (33, none), (34, none), (35, none), (36, none), (37, none), (38, none), (39, none), (40, some 0), (40, some 1), (40, some 2), (40, some 3), (40, some 4), (42, some 2), (55, some 7)] _ q17.2 := (Fr.tr h_q12 (Fr.mono (w_f_x_granted e_q17) rfl))
          rcases ite_some_inv h with h | h
          · rcases ite_some_inv h with h | h
            · obtain ⟨q18, e_q18, h⟩ := bind_some_inv h
              have h_q18 : Fr [(0, some 6), (0, some 10), (1, some 1), (1, some 2), (1, some 3), (1, some 4), (1, some 5), (1, some 6), (1, some 12), (1, some 13), (3, none), (4, some 1), (5, none), (6, some 1), (7, none), (8, some 1), (9, none), (10, none), (11, none), (12, none), (13, none), (14, none), (15, none), (16, none), (17, none), (18, none), (19, none), (20, none), (21, none), (22, none), (23, none), (24, none), (25, none), (26, none), (27, none), (28, none), (29, none), (30, none), (31, none), (32, none), (33, none), (34, none), (35, none), (36, none), (37, none), (38, none), (39, none), (40, some 0), (40, some 1), (40, some 2), (40, some 3), (40, some 4), (42, some 2), (55, some 7)] _ q18.2 := (Fr.tr (Fr.wsw h_q17 (by decide +kernel)) (Fr.mono (w_f_state_begin e_q18) rfl))
              obtain ⟨q19, e_q19, h⟩ := bind_some_inv h
              have h_q19 : Fr [(0, some 6), (0, some 10), (1, some 1), (1, some 2), (1, some 3), (1, some 4), (1, some 5), (1, some 6), (1, some 12), (1, some 13), (3, none), (4, some 1), (5, none), (6, some 1), (7, none), (8, some 1), (9, none), (10, none), (11, none), (12, none), (13, none), (14, none), (15, none), (16, none), (17, none), (18, none), (19, none), (20, none), (21, none), (22, none), (23, none), (24, none), (25, none), (26, none), (27, none), (28, none), (29, none), (30, none), (31, none), (32, none), (33, none), (34, none), (35, none), (36, none), (37, none), (38, none), (39, none), (40, some 0), (40, some 1), (40, some 2), (40, some 3), (40, some 4), (42, some 2), (55, some 7)] _ q19.2 := (Fr.tr h_q18 (Fr.mono (w_f_history_forget e_q19) rfl))
              obtain ⟨q20, e_q20, h⟩ := bind_some_inv h
              have h_q20 : Fr [(0, some 6), (0, some 10), (1, some 1), (1, some 2), (1, some 3), (1, some 4), (1, some 5), (1, some 6), (1, some 12), (1, some 13), (3, none), (4, some 1), (5, none), (6, some 1), (7, none), (8, some 1), (9, none), (10, none), (11, none), (12, none), (13, none), (14, none), (15, none), (16, none), (17, none), (18, none), (19, none), (20, none), (21, none), (22, none), (23, none), (24, none), (25, none), (26, none), (27, none), (28, none), (29, none), (30, none), (31, none), (32, none), (33, none), (34, none), (35, none), (36, none), (37, none), (38, none), (39, none), (40, some 0), (40, some 1), (40, some 2), (40, some 3), (40, some 4), (42, some 2), (55, some 7)] _ q20.2 := (Fr.tr (Fr.wI h_q19 (List.elem_iff.mp rfl)) (Fr.mono (w_f_paths_forget e_q20) rfl))
              cases h
              exact h_q20
            · cases h
          · cases h
            exact h_q17
      · cases h
        exact h_q11
    · obtain ⟨q21, e_q21, h⟩ := bind_some_inv h
      have h_q21 : Fr [(0, some 6), (0, some 10), (1, some 1), (1, some 2), (1, some 3), (1, some 4), (1, some 5), (1, some 6), (1, some 12), (1, some 13), (3, none), (4, some 1), (5, none), (6, some 1), (7, none), (8, some 1), (9, none), (10, none), (11, none), (12, none), (13, none), (14, none), (15, none), (16, none), (17, none), (18, none), (19, none), (20, none), (21, none), (22, none), (23, none), (24, none), (25, none), (26, none), (27, none), (28, none), (29, none), (30, none), (31, none), (32, none), (33, none), (34, none), (35, none), (36, none), (37, none), (38, none), (39, none), (40, some 0), (40, some 1), (40, some 2), (40, some 3), (40, some 4), (42, some 2), (55, some 7)] _ q21.2 := (Fr.tr Fr.rf (Fr.mono (w_f_x_granted e_q21) rfl))
      rcases ite_some_inv h with h | h
      · obtain ⟨q22, e_q22, h⟩ := bind_some_inv h
        have h_q22 : Fr [(0, some 6), (0, some 10), (1, some 1), (1, some 2), (1, some 3), (1, some 4), (1, some 5), (1, some 6), (1, some 12), (1, some 13), (3, none), (4, some 1), (5, none), (6, some 1), (7, none), (8, some 1), (9, none), (10, none), (11, none), (12, none), (13, none), (14, none), (15, none), (16, none), (17, none), (18, none), (19, none), (20, none), (21, none), (22, none), (23, none), (24, none), (25, none), (26, none), (27, none), (28, none), (29, none), (30, none), (31, none), (32, none), (33, none), (34, none), (35, none), (36, none), (37, none), (38, none), (39, none), (40, some 0), (40, some 1), (40, some 2), (40, some 3), (40, some 4), (42, some 2), (55, some 7)] _ q22.2 := (Fr.tr h_q21 (Fr.mono (w_f_reader_read e_q22) rfl))
        rcases ite_some_inv h with h | h
        · obtain ⟨q23, e_q23, h⟩ := bind_some_inv h
          have h_q23 : Fr [(0, some 6), (0, some 10), (1, some 1), (1, some 2), (1, some 3), (1, some 4), (1, some 5), (1, some 6), (1, some 12), (1, some 13), (3, none), (4, some 1), (5, none), (6, some 1), (7, none), (8, some 1), (9, none), (10, none), (11, none), (12, none), (13, none), (14, none), (15, none), (16, none), (17, none), (18, none), (19, none), (20, none), (21, none), (22, none), (23, none), (24, none), (25, none), (26, none), (27, none), (28, none), (29, none), (30, none), (31, none), (32, none), (33, none), (34, none), (35, none), (36, none), (37, none), (38, none), (39, none), (40, some 0), (40, some 1), (40, some 2), (40, some 3), (40, some 4), (42, some 2), (55, some 7)] _ q23.2 := (Fr.tr h_q22 (Fr.mono (w_f_x_granted e_q23) rfl))
          rcases ite_some_inv h with h | h
          · rcases ite_some_inv h with h | h
            · obtain ⟨q24, e_q24, h⟩ := bind_some_inv h
              have h_q24 : Fr [(0, some 6), (0, some 10), (1, some 1), (1, some 2), (1, some 3), (1, some 4), (1, some 5), (1, some 6), (1, some 12), (1, some 13), (3, none), (4, some 1), (5, none), (6, some 1), (7, none), (8, some 1), (9, none), (10, none), (11, none), (12, none), (13, none), (14, none), (15, none), (16, none), (17, none), (18, none), (19, none), (20, none), (21, none), (22, none), (23, none), (24, none), (25, none), (26, none), (27, none), (28, none), (29, none), (30, none), (31, none), (32, none), (33, none), (34, none), (35, none), (36, none), (37, none), (38, none), (39, none), (40, some 0), (40, some 1), (40, some 2), (40, some 3), (40, some 4), (42, some 2), (55, some 7)] _ q24.2 := (Fr.tr (Fr.wsw h_q23 (by decide +kernel)) (Fr.mono (w_f_state_begin e_q24) rfl))
              obtain ⟨q25, e_q25, h⟩ := bind_some_inv h
              have h_q25 : Fr [(0, some 6), (0, some 10), (1, some 1), (1, some 2), (1, some 3), (1, some 4), (1, some 5), (1, some 6), (1, some 12), (1, some 13), (3, none), (4, some 1), (5, none), (6, some 1), (7, none), (8, some 1), (9, none), (10, none), (11, none), (12, none), (13, none), (14, none), (15, none), (16, none), (17, none), (18, none), (19, none), (20, none), (21, none), (22, none), (23, none), (24, none), (25, none), (26, none), (27, none), (28, none), (29, none), (30, none), (31, none), (32, none), (33, none), (34, none), (35, none), (36, none), (37, none), (38, none), (39, none), (40, some 0), (40, some 1), (40, some 2), (40, some 3), (40, some 4), (42, some 2), (55, some 7)] _ q25.2 := (Fr.tr h_q24 (Fr.mono (w_f_history_forget e_q25) rfl))
              obtain ⟨q26, e_q26, h⟩ := bind_some_inv h
              have h_q26 : Fr [(0, some 6), (0, some 10), (1, some 1), (1, some 2), (1, some 3), (1, some 4), (1, some 5), (1, some 6), (1, some 12), (1, some 13), (3, none), (4, some 1), (5, none), (6, some 1), (7, none), (8, some 1), (9, none), (10, none), (11, none), (12, none), (13, none), (14, none), (15, none), (16, none), (17, none), (18, none), (19, none), (20, none), (21, none), (22, none), (23, none), (24, none), (25, none), (26, none), (27, none), (28, none), (29, none), (30, none), (31, none), (32, none), (33, none), (34, none), (35, none), (36, none), (37, none), (38, none), (39, none), (40, some 0), (40, some 1), (40, some 2), (40, some 3), (40, some 4), (42, some 2), (55, some 7)] _ q26.2 := (Fr.tr (Fr.wI h_q25 (List.elem_iff.mp rfl)) (Fr.mono (w_f_paths_forget e_q26) rfl))
              cases h
              exact h_q26
            · cases h
          · cases h
            exact h_q23
        · obtain ⟨q27, e_q27, h⟩ := bind_some_inv h
          have h_q27 : Fr [(0, some 6), (0, some 10), (1, some 1), (1, some 2), (1, some 3), (1, some 4), (1, some 5), (1, some 6), (1, some 12), (1, some 13), (3, none), (4, some 1), (5, none), (6, some 1), (7, none), (8, some 1), (9, none), (10, none), (11, none), (12, none), (13, none), (14, none), (15, none), (16, none), (17, none), (18, none), (19, none), (20, none), (21, none), (22, none), (23, none), (24, none), (25, none), (26, none), (27, none), (28, none), (29, none), (30, none), (31, none), (32, none), (33, none), (34, none), (35, none), (36, none), (37, none), (38, none), (39, none), (40, some 0), (40, some 1), (40, some 2), (40, some 3), (40, some 4), (42, some 2), (55, some 7)] _ q27.2 := (Fr.tr h_q22 (Fr.mono (w_f_x_granted e_q27) rfl))
          rcases ite_some_inv h with h | h
          · rcases ite_some_inv h with h | h
            · obtain ⟨q28, e_q28, h⟩ := bind_some_inv h
              have h_q28 : Fr [(0, some 6), (0, some 10), (1, some 1), (1, some 2), (1, some 3), (1, some 4), (1, some 5), (1, some 6), (1, some 12), (1, some 13), (3, none), (4, some 1), (5, none), (6, some 1), (7, none), (8, some 1), (9, none), (10, none), (11, none), (12, none), (13, none), (14, none), (15, none), (16, none), (17, none), (18, none), (19, none), (20, none), (21, none), (22, none), (23, none), (24, none), (25, none), (26, none), (27, none), (28, none), (29, none), (30, none), (31, none), (32, none), (33, none), (34, none), (35, none), (36, none), (37, none), (38, none), (39, none), (40, some 0), (40, some 1), (40, some 2), (40, some 3), (40, some 4), (42, some 2), (55, some 7)] _ q28.2 := (Fr.tr (Fr.wsw h_q27 (by decide +kernel)) (Fr.mono (w_f_state_begin e_q28) rfl))
              obtain ⟨q29, e_q29, h⟩ := bind_some_inv h
              have h_q29 : Fr [(0, some 6), (0, some 10), (1, some 1), (1, some 2), (1, some 3), (1, some 4), (1, some 5), (1, some 6), (1, some 12), (1, some 13), (3, none), (4, some 1), (5, none), (6, some 1), (7, none), (8, some 1), (9, none), (10, none), (11, none), (12, none), (13, none), (14, none), (15, none), (16, none), (17, none), (18, none), (19, none), (20, none), (21, none), (22, none), (23, none), (24, none), (25, none), (26, none), (27, none), (28, none), (29, none), (30, none), (31, none), (32, none), (33, none), (34, none), (35, none), (36, none), (37, none), (38, none), (39, none), (40, some 0), (40, some 1), (40, some 2), (40, some 3), (40, some 4), (42, some 2), (55, some 7)] _ q29.2 := (Fr.tr h_q28 (Fr.mono (w_f_history_forget e_q29) rfl))
              obtain ⟨q30, e_q30, h⟩ := bind_some_inv h
              have h_q30 : Fr [(0, some 6), (0, some 10), (1, some 1), (1, some 2), (1, some 3), (1, some 4), (1, some 5), (1, some 6), (1, some 12), (1, some 13), (3, none), (4, some 1), (5, none), (6, some 1), (7, none), (8, some 1), (9, none), (10, none), (11, none), (12, none), (13, none), (14, none), (15, none), (16, none), (17, none), (18, none), (19, none), (20, none), (21, none), (22, none), (23, none), (24, none), (25, none), (26, none), (27, none), (28, none), (29, none), (30, none), (31, none), (32, none), (33, none), (34, none), (35, none), (36, none), (37, none), (38, none), (39, none), (40, some 0), (40, some 1), (40, some 2), (40, some 3), (40, some 4), (42, some 2), (55, some 7)] _ q30.2 := (Fr.tr (Fr.wI h_q29 (List.elem_iff.mp rfl)) (Fr.mono (w_f_paths_forget e_q30) rfl))
              cases h
              exact h_q30
            · cases h
          · cases h
            exact h_q27
      · cases h
        exact h_q21
set_option maxRecDepth 100000 in
theorem w_f_x_led_L4 {N : Nat} : ∀ (n : Nat) (v2 : Int32) (v3 : Int32) (σ : Sg) (z : Option Int32 × Sg), f_x_led_L4 N n v2 v3 σ = some z → Fr [] σ z.2 := by
  intro n
  induction n with
  | zero => intro v2 v3 σ z  h; exact nomatch (show (none : Option (Option Int32 × Sg)) = some z from h)
  | succ n ih =>
    intro v2 v3 σ z  h
    unfold f_x_led_L4 at h
    rcases ite_some_inv h with h | h
    · cases h
      exact Fr.rf
    · obtain ⟨q1, e_q1, h⟩ := bind_some_inv h
      have h_q1 : Fr [] _ q1.2 := (Fr.tr Fr.rf (Fr.mono (w_f_state_goneCells e_q1) rfl))
      obtain ⟨q2, e_q2, h⟩ := bind_some_inv h
      have h_q2 : Fr [] _ q2.2 := (Fr.tr h_q1 (Fr.mono (w_f_country_isLost e_q2) rfl))
      rcases ite_some_inv h with h | h
      · rcases ite_some_inv h with h | h
        · cases h
          exact h_q2
        · exact (Fr.tr h_q2 (ih _ _ _ _ h))
      · exact (Fr.tr h_q2 (ih _ _ _ _ h))
set_option maxRecDepth 100000 in
theorem w_f_x_led {N : Nat} {v1 : Int32} {σ : Sg} {z : Option Int32 × Sg} (h : f_x_led N v1 σ = some z) : Fr [] σ z.2 := by
  unfold f_x_led at h
  exact (Fr.tr Fr.rf (Fr.mono (w_f_x_led_L4 _ _ _ _ _ h) rfl))
