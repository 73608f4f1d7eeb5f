set_option maxRecDepth 100000 in
theorem w_f_m_find_L44 {N : Nat} {W : WL} (hW : ∀ e ∈ ([] : WL), e ∈ W) : ∀ (n : Nat) (v1 : Int32) (v2 : Int32) (v3 : Int32) (σ : Sg) (k91 : (Int32 → Int32 → Sg → Option (Int32 × Sg))) (z : Int32 × Sg) (h_k91 : ∀ (u0 : Int32) (u1 : Int32) (u2 : Sg) z, k91 u0 u1 u2 = some z → Fr W u2 z.2), f_m_find_L44 N n v1 v2 v3 σ k91 = some z → Fr W σ z.2 := by
  intro n
  induction n with
  | zero => intro v1 v2 v3 σ k91 z h_k91 h; exact nomatch (show (none : Option (Int32 × Sg)) = some z from h)
  | succ n ih =>
    intro v1 v2 v3 σ k91 z h_k91 h
    unfold f_m_find_L44 at h
    rcases ite_some_inv h with h | h
    · exact (Fr.tr Fr.rf (h_k91 _ _ _ _ h))
    · rcases ite_some_inv h with h | h
      · exact (Fr.tr Fr.rf (h_k91 _ _ _ _ h))
      · rcases ite_some_inv h with h | h
        · rcases ite_some_inv h with h | h
          · rcases ite_some_inv h with h | h
            · exact (Fr.tr Fr.rf (ih _ _ _ _ _ _ h_k91 h))
            · exact (Fr.tr Fr.rf (ih _ _ _ _ _ _ h_k91 h))
          · cases h
        · cases h
set_option maxRecDepth 100000 in
theorem w_f_m_find_L2 {N : Nat} : ∀ (n : Nat) (v1 : Int32) (σ : Sg) (z : Int32 × Sg), f_m_find_L2 N n v1 σ = some z → Fr [] σ z.2 := by
  intro n
  induction n with
  | zero => intro v1 σ z  h; exact nomatch (show (none : Option (Int32 × Sg)) = some z from h)
  | succ n ih =>
    intro v1 σ z  h
    unfold f_m_find_L2 at h
    rcases ite_some_inv h with h | h
    · cases h
      exact Fr.rf
    · rcases ite_some_inv h with h | h
      · rcases ite_some_inv h with h | h
        · exact (Fr.tr Fr.rf (w_f_m_find_L44 (W := []) (fun e he => by cases he)  _ _ _ _ _ _ _ (fun w1 w2 t1 z h => by
              rcases ite_some_inv h with h | h
              · exact (Fr.tr Fr.rf (ih _ _ _ h))
              · cases h
                exact Fr.rf
            ) h))
        · rcases ite_some_inv h with h | h
          · rcases ite_some_inv h with h | h
            · exact (Fr.tr Fr.rf (w_f_m_find_L44 (W := []) (fun e he => by cases he)  _ _ _ _ _ _ _ (fun w1 w2 t3 z h => by
                  rcases ite_some_inv h with h | h
                  · exact (Fr.tr Fr.rf (ih _ _ _ h))
                  · cases h
                    exact Fr.rf
                ) h))
            · exact (Fr.tr Fr.rf (w_f_m_find_L44 (W := []) (fun e he => by cases he)  _ _ _ _ _ _ _ (fun w1 w2 t2 z h => by
                  rcases ite_some_inv h with h | h
                  · exact (Fr.tr Fr.rf (ih _ _ _ h))
                  · cases h
                    exact Fr.rf
                ) h))
          · cases h
      · cases h
set_option maxRecDepth 100000 in
theorem w_f_m_find {N : Nat} {σ : Sg} {z : Int32 × Sg} (h : f_m_find N σ = some z) : Fr [] σ z.2 := by
  unfold f_m_find at h
  exact (Fr.tr Fr.rf (Fr.mono (w_f_m_find_L2 _ _ _ _ h) rfl))
set_option maxRecDepth 100000 in
theorem w_f_m_strideLine {N : Nat} {σ : Sg} {z : Unit × Sg} (h : f_m_strideLine N σ = some z) : Fr [(66, some 4), (66, some 5), (66, some 6), (66, some 7), (66, some 8), (66, some 9), (66, some 10), (66, some 13), (68, none), (70, none), (73, none)] σ z.2 := by
  unfold f_m_strideLine at h
  rcases ite_some_inv h with h | h
  · obtain ⟨q1, e_q1, h⟩ := bind_some_inv h
    have h_q1 : Fr [(66, some 4), (66, some 5), (66, some 6), (66, some 7), (66, some 8), (66, some 9), (66, some 10), (66, some 13), (68, none), (70, none), (73, none)] _ q1.2 := (Fr.tr Fr.rf (Fr.mono (w_f_m_mustName e_q1) rfl))
    rcases ite_some_inv h with h | h
    · obtain ⟨q2, e_q2, h⟩ := bind_some_inv h
      have h_q2 : Fr [(66, some 4), (66, some 5), (66, some 6), (66, some 7), (66, some 8), (66, some 9), (66, some 10), (66, some 13), (68, none), (70, none), (73, none)] _ q2.2 := (Fr.tr h_q1 (Fr.mono (w_f_m_find e_q2) rfl))
      obtain ⟨q3, e_q3, h⟩ := bind_some_inv h
      have h_q3 : Fr [(66, some 4), (66, some 5), (66, some 6), (66, some 7), (66, some 8), (66, some 9), (66, some 10), (66, some 13), (68, none), (70, none), (73, none)] _ q3.2 := (Fr.tr h_q2 (Fr.mono (w_f_m_in e_q3) rfl))
      rcases ite_some_inv h with h | h
      · obtain ⟨q4, e_q4, h⟩ := bind_some_inv h
        have h_q4 : Fr [(66, some 4), (66, some 5), (66, some 6), (66, some 7), (66, some 8), (66, some 9), (66, some 10), (66, some 13), (68, none), (70, none), (73, none)] _ q4.2 := (Fr.tr h_q3 (Fr.mono (w_f_m_pass e_q4) rfl))
        obtain ⟨q5, e_q5, h⟩ := bind_some_inv h
        have h_q5 : Fr [(66, some 4), (66, some 5), (66, some 6), (66, some 7), (66, some 8), (66, some 9), (66, some 10), (66, some 13), (68, none), (70, none), (73, none)] _ q5.2 := (Fr.tr h_q4 (Fr.mono (w_f_m_isWord e_q5) rfl))
        rcases ite_some_inv h with h | h
        · rcases ite_some_inv h with h | h
          · obtain ⟨q19, e_q19, h⟩ := bind_some_inv h
            have h_q19 : Fr [(66, some 4), (66, some 5), (66, some 6), (66, some 7), (66, some 8), (66, some 9), (66, some 10), (66, some 13), (68, none), (70, none), (73, none)] _ q19.2 := (Fr.tr h_q5 (Fr.mono (w_f_m_strideOn e_q19) rfl))
            rcases ite_some_inv h with h | h
            · obtain ⟨q20, e_q20, h⟩ := bind_some_inv h
              have h_q20 : Fr [(66, some 4), (66, some 5), (66, some 6), (66, some 7), (66, some 8), (66, some 9), (66, some 10), (66, some 13), (68, none), (70, none), (73, none)] _ q20.2 := (Fr.tr h_q19 (Fr.mono (w_f_m_pass e_q20) rfl))
              rcases ite_some_inv h with h | h
              · rcases ite_some_inv h with h | h
                · cases h
                  exact (Fr.wA (Fr.wA h_q20 (List.elem_iff.mp rfl)) (List.elem_iff.mp rfl))
                · cases h
              · cases h
                exact h_q20
            · obtain ⟨q21, e_q21, h⟩ := bind_some_inv h
              have h_q21 : Fr [(66, some 4), (66, some 5), (66, some 6), (66, some 7), (66, some 8), (66, some 9), (66, some 10), (66, some 13), (68, none), (70, none), (73, none)] _ q21.2 := (Fr.tr h_q19 (Fr.mono (w_f_m_wrong e_q21) rfl))
              obtain ⟨q22, e_q22, h⟩ := bind_some_inv h
              have h_q22 : Fr [(66, some 4), (66, some 5), (66, some 6), (66, some 7), (66, some 8), (66, some 9), (66, some 10), (66, some 13), (68, none), (70, none), (73, none)] _ q22.2 := (Fr.tr h_q21 (Fr.mono (w_f_m_pass e_q22) rfl))
              rcases ite_some_inv h with h | h
              · rcases ite_some_inv h with h | h
                · cases h
                  exact (Fr.wA (Fr.wA h_q22 (List.elem_iff.mp rfl)) (List.elem_iff.mp rfl))
                · cases h
              · cases h
                exact h_q22
          · obtain ⟨q18, e_q18, h⟩ := bind_some_inv h
            have h_q18 : Fr [(66, some 4), (66, some 5), (66, some 6), (66, some 7), (66, some 8), (66, some 9), (66, some 10), (66, some 13), (68, none), (70, none), (73, none)] _ q18.2 := (Fr.tr h_q5 (Fr.mono (w_f_m_pass e_q18) rfl))
            rcases ite_some_inv h with h | h
            · rcases ite_some_inv h with h | h
              · cases h
                exact (Fr.wA (Fr.wA h_q18 (List.elem_iff.mp rfl)) (List.elem_iff.mp rfl))
              · cases h
            · cases h
              exact h_q18
        · obtain ⟨q6, e_q6, h⟩ := bind_some_inv h
          have h_q6 : Fr [(66, some 4), (66, some 5), (66, some 6), (66, some 7), (66, some 8), (66, some 9), (66, some 10), (66, some 13), (68, none), (70, none), (73, none)] _ q6.2 := (Fr.tr h_q5 (Fr.mono (w_f_m_isWord e_q6) rfl))
          rcases ite_some_inv h with h | h
          · rcases ite_some_inv h with h | h
            · obtain ⟨q14, e_q14, h⟩ := bind_some_inv h
              have h_q14 : Fr [(66, some 4), (66, some 5), (66, some 6), (66, some 7), (66, some 8), (66, some 9), (66, some 10), (66, some 13), (68, none), (70, none), (73, none)] _ q14.2 := (Fr.tr h_q6 (Fr.mono (w_f_m_strideOn e_q14) rfl))
              rcases ite_some_inv h with h | h
              · obtain ⟨q15, e_q15, h⟩ := bind_some_inv h
                have h_q15 : Fr [(66, some 4), (66, some 5), (66, some 6), (66, some 7), (66, some 8), (66, some 9), (66, some 10), (66, some 13), (68, none), (70, none), (73, none)] _ q15.2 := (Fr.tr h_q14 (Fr.mono (w_f_m_pass e_q15) rfl))
                rcases ite_some_inv h with h | h
                · rcases ite_some_inv h with h | h
                  · cases h
                    exact (Fr.wA (Fr.wA h_q15 (List.elem_iff.mp rfl)) (List.elem_iff.mp rfl))
                  · cases h
                · cases h
                  exact h_q15
              · obtain ⟨q16, e_q16, h⟩ := bind_some_inv h
                have h_q16 : Fr [(66, some 4), (66, some 5), (66, some 6), (66, some 7), (66, some 8), (66, some 9), (66, some 10), (66, some 13), (68, none), (70, none), (73, none)] _ q16.2 := (Fr.tr h_q14 (Fr.mono (w_f_m_wrong e_q16) rfl))
                obtain ⟨q17, e_q17, h⟩ := bind_some_inv h
                have h_q17 : Fr [(66, some 4), (66, some 5), (66, some 6), (66, some 7), (66, some 8), (66, some 9), (66, some 10), (66, some 13), (68, none), (70, none), (73, none)] _ q17.2 := (Fr.tr h_q16 (Fr.mono (w_f_m_pass e_q17) rfl))
                rcases ite_some_inv h with h | h
                · rcases ite_some_inv h with h | h
                  · cases h
                    exact (Fr.wA (Fr.wA h_q17 (List.elem_iff.mp rfl)) (List.elem_iff.mp rfl))
                  · cases h
                · cases h
                  exact h_q17
            · obtain ⟨q13, e_q13, h⟩ := bind_some_inv h
              have h_q13 : Fr [(66, some 4), (66, some 5), (66, some 6), (66, some 7), (66, some 8), (66, some 9), (66, some 10), (66, some 13), (68, none), (70, none), (73, none)] _ q13.2 := (Fr.tr h_q6 (Fr.mono (w_f_m_pass e_q13) rfl))
              rcases ite_some_inv h with h | h
              · rcases ite_some_inv h with h | h
                · cases h
                  exact (Fr.wA (Fr.wA h_q13 (List.elem_iff.mp rfl)) (List.elem_iff.mp rfl))
                · cases h
              · cases h
                exact h_q13
          · obtain ⟨q7, e_q7, h⟩ := bind_some_inv h
            have h_q7 : Fr [(66, some 4), (66, some 5), (66, some 6), (66, some 7), (66, some 8), (66, some 9), (66, some 10), (66, some 13), (68, none), (70, none), (73, none)] _ q7.2 := (Fr.tr h_q6 (Fr.mono (w_f_m_wrong e_q7) rfl))
            rcases ite_some_inv h with h | h
            · obtain ⟨q9, e_q9, h⟩ := bind_some_inv h
              have h_q9 : Fr [(66, some 4), (66, some 5), (66, some 6), (66, some 7), (66, some 8), (66, some 9), (66, some 10), (66, some 13), (68, none), (70, none), (73, none)] _ q9.2 := (Fr.tr h_q7 (Fr.mono (w_f_m_strideOn e_q9) rfl))
              rcases ite_some_inv h with h | h
              · obtain ⟨q10, e_q10, h⟩ := bind_some_inv h
                have h_q10 : Fr [(66, some 4), (66, some 5), (66, some 6), (66, some 7), (66, some 8), (66, some 9), (66, some 10), (66, some 13), (68, none), (70, none), (73, none)] _ q10.2 := (Fr.tr h_q9 (Fr.mono (w_f_m_pass e_q10) rfl))
                rcases ite_some_inv h with h | h
                · rcases ite_some_inv h with h | h
                  · cases h
                    exact (Fr.wA (Fr.wA h_q10 (List.elem_iff.mp rfl)) (List.elem_iff.mp rfl))
                  · cases h
                · cases h
                  exact h_q10
              · obtain ⟨q11, e_q11, h⟩ := bind_some_inv h
                have h_q11 : Fr [(66, some 4), (66, some 5), (66, some 6), (66, some 7), (66, some 8), (66, some 9), (66, some 10), (66, some 13), (68, none), (70, none), (73, none)] _ q11.2 := (Fr.tr h_q9 (Fr.mono (w_f_m_wrong e_q11) rfl))
                obtain ⟨q12, e_q12, h⟩ := bind_some_inv h
                have h_q12 : Fr [(66, some 4), (66, some 5), (66, some 6), (66, some 7), (66, some 8), (66, some 9), (66, some 10), (66, some 13), (68, none), (70, none), (73, none)] _ q12.2 := (Fr.tr h_q11 (Fr.mono (w_f_m_pass e_q12) rfl))
                rcases ite_some_inv h with h | h
                · rcases ite_some_inv h with h | h
                  · cases h
                    exact (Fr.wA (Fr.wA h_q12 (List.elem_iff.mp rfl)) (List.elem_iff.mp rfl))
                  · cases h
                · cases h
                  exact h_q12
            · obtain ⟨q8, e_q8, h⟩ := bind_some_inv h
              have h_q8 : Fr [(66, some 4), (66, some 5), (66, some 6), (66, some 7), (66, some 8), (66, some 9), (66, some 10), (66, some 13), (68, none), (70, none), (73, none)] _ q8.2 := (Fr.tr h_q7 (Fr.mono (w_f_m_pass e_q8) rfl))
              rcases ite_some_inv h with h | h
              · rcases ite_some_inv h with h | h
                · cases h
                  exact (Fr.wA (Fr.wA h_q8 (List.elem_iff.mp rfl)) (List.elem_iff.mp rfl))
                · cases h
              · cases h
                exact h_q8
      · obtain ⟨q23, e_q23, h⟩ := bind_some_inv h
        have h_q23 : Fr [(66, some 4), (66, some 5), (66, some 6), (66, some 7), (66, some 8), (66, some 9), (66, some 10), (66, some 13), (68, none), (70, none), (73, none)] _ q23.2 := (Fr.tr h_q3 (Fr.mono (w_f_m_wrong e_q23) rfl))
        obtain ⟨q24, e_q24, h⟩ := bind_some_inv h
        have h_q24 : Fr [(66, some 4), (66, some 5), (66, some 6), (66, some 7), (66, some 8), (66, some 9), (66, some 10), (66, some 13), (68, none), (70, none), (73, none)] _ q24.2 := (Fr.tr h_q23 (Fr.mono (w_f_m_pass e_q24) rfl))
        obtain ⟨q25, e_q25, h⟩ := bind_some_inv h
        have h_q25 : Fr [(66, some 4), (66, some 5), (66, some 6), (66, some 7), (66, some 8), (66, some 9), (66, some 10), (66, some 13), (68, none), (70, none), (73, none)] _ q25.2 := (Fr.tr h_q24 (Fr.mono (w_f_m_isWord e_q25) rfl))
        rcases ite_some_inv h with h | h
        · rcases ite_some_inv h with h | h
          · obtain ⟨q39, e_q39, h⟩ := bind_some_inv h
            have h_q39 : Fr [(66, some 4), (66, some 5), (66, some 6), (66, some 7), (66, some 8), (66, some 9), (66, some 10), (66, some 13), (68, none), (70, none), (73, none)] _ q39.2 := (Fr.tr h_q25 (Fr.mono (w_f_m_strideOn e_q39) rfl))
            rcases ite_some_inv h with h | h
            · obtain ⟨q40, e_q40, h⟩ := bind_some_inv h
              have h_q40 : Fr [(66, some 4), (66, some 5), (66, some 6), (66, some 7), (66, some 8), (66, some 9), (66, some 10), (66, some 13), (68, none), (70, none), (73, none)] _ q40.2 := (Fr.tr h_q39 (Fr.mono (w_f_m_pass e_q40) rfl))
              rcases ite_some_inv h with h | h
              · rcases ite_some_inv h with h | h
                · cases h
                  exact (Fr.wA (Fr.wA h_q40 (List.elem_iff.mp rfl)) (List.elem_iff.mp rfl))
                · cases h
              · cases h
                exact h_q40
            · obtain ⟨q41, e_q41, h⟩ := bind_some_inv h
              have h_q41 : Fr [(66, some 4), (66, some 5), (66, some 6), (66, some 7), (66, some 8), (66, some 9), (66, some 10), (66, some 13), (68, none), (70, none), (73, none)] _ q41.2 := (Fr.tr h_q39 (Fr.mono (w_f_m_wrong e_q41) rfl))
              obtain ⟨q42, e_q42, h⟩ := bind_some_inv h
              have h_q42 : Fr [(66, some 4), (66, some 5), (66, some 6), (66, some 7), (66, some 8), (66, some 9), (66, some 10), (66, some 13), (68, none), (70, none), (73, none)] _ q42.2 := (Fr.tr h_q41 (Fr.mono (w_f_m_pass e_q42) rfl))
              rcases ite_some_inv h with h | h
              · rcases ite_some_inv h with h | h
                · cases h
                  exact (Fr.wA (Fr.wA h_q42 (List.elem_iff.mp rfl)) (List.elem_iff.mp rfl))
                · cases h
              · cases h
                exact h_q42
          · obtain ⟨q38, e_q38, h⟩ := bind_some_inv h
            have h_q38 : Fr [(66, some 4), (66, some 5), (66, some 6), (66, some 7), (66, some 8), (66, some 9), (66, some 10), (66, some 13), (68, none), (70, none), (73, none)] _ q38.2 := (Fr.tr h_q25 (Fr.mono (w_f_m_pass e_q38) rfl))
            rcases ite_some_inv h with h | h
            · rcases ite_some_inv h with h | h
              · cases h
                exact (Fr.wA (Fr.wA h_q38 (List.elem_iff.mp rfl)) (List.elem_iff.mp rfl))
              · cases h
            · cases h
              exact h_q38
        · obtain ⟨q26, e_q26, h⟩ := bind_some_inv h
          have h_q26 : Fr [(66, some 4), (66, some 5), (66, some 6), (66, some 7), (66, some 8), (66, some 9), (66, some 10), (66, some 13), (68, none), (70, none), (73, none)] _ q26.2 := (Fr.tr h_q25 (Fr.mono (w_f_m_isWord e_q26) rfl))
          rcases ite_some_inv h with h | h
          · rcases ite_some_inv h with h | h
            · obtain ⟨q34, e_q34, h⟩ := bind_some_inv h
              have h_q34 : Fr [(66, some 4), (66, some 5), (66, some 6), (66, some 7), (66, some 8), (66, some 9), (66, some 10), (66, some 13), (68, none), (70, none), (73, none)] _ q34.2 := (Fr.tr h_q26 (Fr.mono (w_f_m_strideOn e_q34) rfl))
              rcases ite_some_inv h with h | h
              · obtain ⟨q35, e_q35, h⟩ := bind_some_inv h
                have h_q35 : Fr [(66, some 4), (66, some 5), (66, some 6), (66, some 7), (66, some 8), (66, some 9), (66, some 10), (66, some 13), (68, none), (70, none), (73, none)] _ q35.2 := (Fr.tr h_q34 (Fr.mono (w_f_m_pass e_q35) rfl))
                rcases ite_some_inv h with h | h
                · rcases ite_some_inv h with h | h
                  · cases h
                    exact (Fr.wA (Fr.wA h_q35 (List.elem_iff.mp rfl)) (List.elem_iff.mp rfl))
                  · cases h
                · cases h
                  exact h_q35
              · obtain ⟨q36, e_q36, h⟩ := bind_some_inv h
                have h_q36 : Fr [(66, some 4), (66, some 5), (66, some 6), (66, some 7), (66, some 8), (66, some 9), (66, some 10), (66, some 13), (68, none), (70, none), (73, none)] _ q36.2 := (Fr.tr h_q34 (Fr.mono (w_f_m_wrong e_q36) rfl))
                obtain ⟨q37, e_q37, h⟩ := bind_some_inv h
                have h_q37 : Fr [(66, some 4), (66, some 5), (66, some 6), (66, some 7), (66, some 8), (66, some 9), (66, some 10), (66, some 13), (68, none), (70, none), (73, none)] _ q37.2 := (Fr.tr h_q36 (Fr.mono (w_f_m_pass e_q37) rfl))
                rcases ite_some_inv h with h | h
                · rcases ite_some_inv h with h | h
                  · cases h
                    exact (Fr.wA (Fr.wA h_q37 (List.elem_iff.mp rfl)) (List.elem_iff.mp rfl))
                  · cases h
                · cases h
                  exact h_q37
            · obtain ⟨q33, e_q33, h⟩ := bind_some_inv h
              have h_q33 : Fr [(66, some 4), (66, some 5), (66, some 6), (66, some 7), (66, some 8), (66, some 9), (66, some 10), (66, some 13), (68, none), (70, none), (73, none)] _ q33.2 := (Fr.tr h_q26 (Fr.mono (w_f_m_pass e_q33) rfl))
              rcases ite_some_inv h with h | h
              · rcases ite_some_inv h with h | h
                · cases h
                  exact (Fr.wA (Fr.wA h_q33 (List.elem_iff.mp rfl)) (List.elem_iff.mp rfl))
                · cases h
              · cases h
                exact h_q33
          · obtain ⟨q27, e_q27, h⟩ := bind_some_inv h
            have h_q27 : Fr [(66, some 4), (66, some 5), (66, some 6), (66, some 7), (66, some 8), (66, some 9), (66, some 10), (66, some 13), (68, none), (70, none), (73, none)] _ q27.2 := (Fr.tr h_q26 (Fr.mono (w_f_m_wrong e_q27) rfl))
            rcases ite_some_inv h with h | h
            · obtain ⟨q29, e_q29, h⟩ := bind_some_inv h
              have h_q29 : Fr [(66, some 4), (66, some 5), (66, some 6), (66, some 7), (66, some 8), (66, some 9), (66, some 10), (66, some 13), (68, none), (70, none), (73, none)] _ q29.2 := (Fr.tr h_q27 (Fr.mono (w_f_m_strideOn e_q29) rfl))
              rcases ite_some_inv h with h | h
              · obtain ⟨q30, e_q30, h⟩ := bind_some_inv h
                have h_q30 : Fr [(66, some 4), (66, some 5), (66, some 6), (66, some 7), (66, some 8), (66, some 9), (66, some 10), (66, some 13), (68, none), (70, none), (73, none)] _ q30.2 := (Fr.tr h_q29 (Fr.mono (w_f_m_pass e_q30) rfl))
                rcases ite_some_inv h with h | h
                · rcases ite_some_inv h with h | h
                  · cases h
                    exact (Fr.wA (Fr.wA h_q30 (List.elem_iff.mp rfl)) (List.elem_iff.mp rfl))
                  · cases h
                · cases h
                  exact h_q30
              · obtain ⟨q31, e_q31, h⟩ := bind_some_inv h
                have h_q31 : Fr [(66, some 4), (66, some 5), (66, some 6), (66, some 7), (66, some 8), (66, some 9), (66, some 10), (66, some 13), (68, none), (70, none), (73, none)] _ q31.2 := (Fr.tr h_q29 (Fr.mono (w_f_m_wrong e_q31) rfl))
                obtain ⟨q32, e_q32, h⟩ := bind_some_inv h
                have h_q32 : Fr [(66, some 4), (66, some 5), (66, some 6), (66, some 7), (66, some 8), (66, some 9), (66, some 10), (66, some 13), (68, none), (70, none), (73, none)] _ q32.2 := (Fr.tr h_q31 (Fr.mono (w_f_m_pass e_q32) rfl))
                rcases ite_some_inv h with h | h
                · rcases ite_some_inv h with h | h
                  · cases h
                    exact (Fr.wA (Fr.wA h_q32 (List.elem_iff.mp rfl)) (List.elem_iff.mp rfl))
                  · cases h
                · cases h
                  exact h_q32
            · obtain ⟨q28, e_q28, h⟩ := bind_some_inv h
              have h_q28 : Fr [(66, some 4), (66, some 5), (66, some 6), (66, some 7), (66, some 8), (66, some 9), (66, some 10), (66, some 13), (68, none), (70, none), (73, none)] _ q28.2 := (Fr.tr h_q27 (Fr.mono (w_f_m_pass e_q28) rfl))
              rcases ite_some_inv h with h | h
              · rcases ite_some_inv h with h | h
                · cases h
                  exact (Fr.wA (Fr.wA h_q28 (List.elem_iff.mp rfl)) (List.elem_iff.mp rfl))
                · cases h
              · cases h
                exact h_q28
    · cases h
      exact h_q1
  · cases h
    exact Fr.rf
set_option maxRecDepth 100000 in
theorem w_f_m_newName_L45 {N : Nat} : ∀ (n : Nat) (v1 : Int32) (v2 : Int32) (σ : Sg) (z : Unit × Sg), f_m_newName_L45 N n v1 v2 σ = some z → Fr [(66, some 4), (66, some 5), (66, some 6), (66, some 7), (66, some 8), (68, none), (70, none)] σ z.2 := by
  intro n
  induction n with
  | zero => intro v1 v2 σ z  h; exact nomatch (show (none : Option (Unit × Sg)) = some z from h)
  | succ n ih =>
    intro v1 v2 σ z  h
    unfold f_m_newName_L45 at h
    rcases ite_some_inv h with h | h
    · rcases ite_some_inv h with h | h
      · obtain ⟨q2, e_q2, h⟩ := bind_some_inv h
        have h_q2 : Fr [(66, some 4), (66, some 5), (66, some 6), (66, some 7), (66, some 8), (68, none), (70, none)] _ q2.2 := (Fr.tr (Fr.wA Fr.rf (List.elem_iff.mp rfl)) (Fr.mono (w_f_m_next e_q2) rfl))
        cases h
        exact h_q2
      · cases h
    · rcases ite_some_inv h with h | h
      · rcases ite_some_inv h with h | h
        · exact (Fr.tr (Fr.wA Fr.rf (List.elem_iff.mp rfl)) (ih _ _ _ _ h))
        · cases h
      · cases h
set_option maxRecDepth 100000 in
theorem w_f_m_newName {N : Nat} {v1 : Int32} {σ : Sg} {z : Unit × Sg} (h : f_m_newName N v1 σ = some z) : Fr [(66, some 4), (66, some 5), (66, some 6), (66, some 7), (66, some 8), (66, some 9), (66, some 10), (66, some 13), (68, none), (70, none)] σ z.2 := by
  unfold f_m_newName at h
  rcases ite_some_inv h with h | h
  · obtain ⟨q1, e_q1, h⟩ := bind_some_inv h
    have h_q1 : Fr [(66, some 4), (66, some 5), (66, some 6), (66, some 7), (66, some 8), (66, some 9), (66, some 10), (66, some 13), (68, none), (70, none)] _ q1.2 := (Fr.tr Fr.rf (Fr.mono (w_f_m_mustName e_q1) rfl))
    rcases ite_some_inv h with h | h
    · obtain ⟨q3, e_q3, h⟩ := bind_some_inv h
      have h_q3 : Fr [(66, some 4), (66, some 5), (66, some 6), (66, some 7), (66, some 8), (66, some 9), (66, some 10), (66, some 13), (68, none), (70, none)] _ q3.2 := (Fr.tr h_q1 (Fr.mono (w_f_m_find e_q3) rfl))
      rcases ite_some_inv h with h | h
      · rcases ite_some_inv h with h | h
        · exact (Fr.tr h_q3 (Fr.mono (w_f_m_newName_L45 _ _ _ _ _ h) rfl))
        · cases h
          exact h_q3
      · obtain ⟨q4, e_q4, h⟩ := bind_some_inv h
        have h_q4 : Fr [(66, some 4), (66, some 5), (66, some 6), (66, some 7), (66, some 8), (66, some 9), (66, some 10), (66, some 13), (68, none), (70, none)] _ q4.2 := (Fr.tr h_q3 (Fr.mono (w_f_m_wrong e_q4) rfl))
        rcases ite_some_inv h with h | h
        · exact (Fr.tr h_q4 (Fr.mono (w_f_m_newName_L45 _ _ _ _ _ h) rfl))
        · cases h
          exact h_q4
    · rcases ite_some_inv h with h | h
      · exact (Fr.tr h_q1 (Fr.mono (w_f_m_newName_L45 _ _ _ _ _ h) rfl))
      · cases h
        exact h_q1
  · cases h
    exact Fr.rf
set_option maxRecDepth 100000 in
theorem w_f_m_takesWord {N : Nat} {w1 : Nat} {σ : Sg} {z : Bool × Sg} (h : f_m_takesWord N w1 σ = some z) : Fr [(66, some 4), (66, some 5), (66, some 6), (66, some 7), (66, some 8), (68, none)] σ z.2 := by
  unfold f_m_takesWord at h
  obtain ⟨q1, e_q1, h⟩ := bind_some_inv h
  have h_q1 : Fr [(66, some 4), (66, some 5), (66, some 6), (66, some 7), (66, some 8), (68, none)] _ q1.2 := (Fr.tr Fr.rf (Fr.mono (w_f_m_isWord e_q1) rfl))
  rcases ite_some_inv h with h | h
  · obtain ⟨q2, e_q2, h⟩ := bind_some_inv h
    have h_q2 : Fr [(66, some 4), (66, some 5), (66, some 6), (66, some 7), (66, some 8), (68, none)] _ q2.2 := (Fr.tr h_q1 (Fr.mono (w_f_m_next e_q2) rfl))
    cases h
    exact h_q2
  · cases h
    exact h_q1
set_option maxRecDepth 100000 in
theorem w_f_m_must {N : Nat} {w1 : Nat} {σ : Sg} {z : Unit × Sg} (h : f_m_must N w1 σ = some z) : Fr [(66, some 4), (66, some 5), (66, some 6), (66, some 7), (66, some 8), (66, some 9), (66, some 10), (66, some 13), (68, none)] σ z.2 := by
  unfold f_m_must at h
  rcases ite_some_inv h with h | h
  · obtain ⟨q1, e_q1, h⟩ := bind_some_inv h
    have h_q1 : Fr [(66, some 4), (66, some 5), (66, some 6), (66, some 7), (66, some 8), (66, some 9), (66, some 10), (66, some 13), (68, none)] _ q1.2 := (Fr.tr Fr.rf (Fr.mono (w_f_m_takesWord e_q1) rfl))
    rcases ite_some_inv h with h | h
    · cases h
      exact h_q1
    · obtain ⟨q2, e_q2, h⟩ := bind_some_inv h
      have h_q2 : Fr [(66, some 4), (66, some 5), (66, some 6), (66, some 7), (66, some 8), (66, some 9), (66, some 10), (66, some 13), (68, none)] _ q2.2 := (Fr.tr h_q1 (Fr.mono (w_f_m_wrong e_q2) rfl))
      cases h
      exact h_q2
  · cases h
    exact Fr.rf
set_option maxRecDepth 100000 in
theorem w_f_m_number {N : Nat} {v1 : Int32} {v2 : Int32} {σ : Sg} {z : Int32 × Sg} (h : f_m_number N v1 v2 σ = some z) : Fr [(66, some 4), (66, some 5), (66, some 6), (66, some 7), (66, some 8), (66, some 9), (66, some 10), (66, some 13), (68, none)] σ z.2 := by
  unfold f_m_number at h
  obtain ⟨q1, e_q1, h⟩ := bind_some_inv h
  have h_q1 : Fr [(66, some 4), (66, some 5), (66, some 6), (66, some 7), (66, some 8), (66, some 9), (66, some 10), (66, some 13), (68, none)] _ q1.2 := (Fr.tr Fr.rf (Fr.mono (w_f_m_numberHere e_q1) rfl))
  obtain ⟨q2, e_q2, h⟩ := bind_some_inv h
  have h_q2 : Fr [(66, some 4), (66, some 5), (66, some 6), (66, some 7), (66, some 8), (66, some 9), (66, some 10), (66, some 13), (68, none)] _ q2.2 := (Fr.tr h_q1 (Fr.mono (w_f_m_pass e_q2) rfl))
  cases h
  exact h_q2
set_option maxRecDepth 100000 in
theorem w_f_m_after {N : Nat} {w1 : Nat} {v2 : Int32} {v3 : Int32} {σ : Sg} {z : Int32 × Sg} (h : f_m_after N w1 v2 v3 σ = some z) : Fr [(66, some 4), (66, some 5), (66, some 6), (66, some 7), (66, some 8), (66, some 9), (66, some 10), (66, some 13), (68, none)] σ z.2 := by
  unfold f_m_after at h
  obtain ⟨q1, e_q1, h⟩ := bind_some_inv h
  have h_q1 : Fr [(66, some 4), (66, some 5), (66, some 6), (66, some 7), (66, some 8), (66, some 9), (66, some 10), (66, some 13), (68, none)] _ q1.2 := (Fr.tr Fr.rf (Fr.mono (w_f_m_must e_q1) rfl))
  obtain ⟨q2, e_q2, h⟩ := bind_some_inv h
  have h_q2 : Fr [(66, some 4), (66, some 5), (66, some 6), (66, some 7), (66, some 8), (66, some 9), (66, some 10), (66, some 13), (68, none)] _ q2.2 := (Fr.tr h_q1 (Fr.mono (w_f_m_number e_q2) rfl))
  cases h
  exact h_q2
set_option maxRecDepth 100000 in
theorem w_f_m_placeLine_L45 {N : Nat} {W : WL} (hW : ∀ e ∈ ([(66, some 9), (66, some 10), (66, some 13)] : WL), e ∈ W) : ∀ (n : Nat) (v1 : Int32) (v2 : Int32) (v3 : Int32) (σ : Sg) (k92 : (Int32 → Int32 → Sg → Option (Unit × Sg))) (z : Unit × Sg) (h_k92 : ∀ (u0 : Int32) (u1 : Int32) (u2 : Sg) z, k92 u0 u1 u2 = some z → Fr W u2 z.2), f_m_placeLine_L45 N n v1 v2 v3 σ k92 = some z → Fr W σ z.2 := by
  intro n
  induction n with
  | zero => intro v1 v2 v3 σ k92 z h_k92 h; exact nomatch (show (none : Option (Unit × Sg)) = some z from h)
  | succ n ih =>
    intro v1 v2 v3 σ k92 z h_k92 h
    unfold f_m_placeLine_L45 at h
    rcases ite_some_inv h with h | h
    · exact (Fr.tr Fr.rf (h_k92 _ _ _ _ h))
    · rcases ite_some_inv h with h | h
      · rcases ite_some_inv h with h | h
        · rcases ite_some_inv h with h | h
          · obtain ⟨q4, e_q4, h⟩ := bind_some_inv h
            have h_q4 : Fr W _ q4.2 := (Fr.tr Fr.rf (Fr.monoP (Fr.mono (w_f_m_wrong e_q4) rfl) hW))
            exact (Fr.tr h_q4 (ih _ _ _ _ _ _ h_k92 h))
          · exact (Fr.tr Fr.rf (ih _ _ _ _ _ _ h_k92 h))
        · cases h
      · exact (Fr.tr Fr.rf (ih _ _ _ _ _ _ h_k92 h))
set_option maxRecDepth 100000 in
theorem w_f_m_placeLine {N : Nat} {σ : Sg} {z : Unit × Sg} (h : f_m_placeLine N σ = some z) : Fr [(66, some 4), (66, some 5), (66, some 6), (66, some 7), (66, some 8), (66, some 9), (66, some 10), (66, some 13), (68, none), (70, none)] σ z.2 := by
  unfold f_m_placeLine at h
  rcases ite_some_inv h with h | h
  · obtain ⟨q1, e_q1, h⟩ := bind_some_inv h
    have h_q1 : Fr [(66, some 4), (66, some 5), (66, some 6), (66, some 7), (66, some 8), (66, some 9), (66, some 10), (66, some 13), (68, none), (70, none)] _ q1.2 := (Fr.tr Fr.rf (Fr.mono (w_f_m_newName e_q1) rfl))
    obtain ⟨q2, e_q2, h⟩ := bind_some_inv h
    have h_q2 : Fr [(66, some 4), (66, some 5), (66, some 6), (66, some 7), (66, some 8), (66, some 9), (66, some 10), (66, some 13), (68, none), (70, none)] _ q2.2 := (Fr.tr h_q1 (Fr.mono (w_f_m_must e_q2) rfl))
    obtain ⟨q3, e_q3, h⟩ := bind_some_inv h
    have h_q3 : Fr [(66, some 4), (66, some 5), (66, some 6), (66, some 7), (66, some 8), (66, some 9), (66, some 10), (66, some 13), (68, none), (70, none)] _ q3.2 := (Fr.tr h_q2 (Fr.mono (w_f_m_cellHere e_q3) rfl))
    exact (Fr.tr h_q3 (w_f_m_placeLine_L45 (W := [(66, some 4), (66, some 5), (66, some 6), (66, some 7), (66, some 8), (66, some 9), (66, some 10), (66, some 13), (68, none), (70, none)]) (fun e he => List.mem_of_elem_eq_true (List.all_eq_true.mp (show ([(66, some 9), (66, some 10), (66, some 13)] : WL).all (fun e => List.elem e [(66, some 4), (66, some 5), (66, some 6), (66, some 7), (66, some 8), (66, some 9), (66, some 10), (66, some 13), (68, none), (70, none)]) = true from rfl) e he))  _ _ _ _ _ _ _ (fun w1 w2 t5 z h => by
        obtain ⟨q6, e_q6, h⟩ := bind_some_inv h
        have h_q6 : Fr [(66, some 4), (66, some 5), (66, some 6), (66, some 7), (66, some 8), (66, some 9), (66, some 10), (66, some 13), (68, none), (70, none)] _ q6.2 := (Fr.tr Fr.rf (Fr.mono (w_f_m_pass e_q6) rfl))
        obtain ⟨q7, e_q7, h⟩ := bind_some_inv h
        have h_q7 : Fr [(66, some 4), (66, some 5), (66, some 6), (66, some 7), (66, some 8), (66, some 9), (66, some 10), (66, some 13), (68, none), (70, none)] _ q7.2 := (Fr.tr h_q6 (Fr.mono (w_f_m_after e_q7) rfl))
        rcases ite_some_inv h with h | h
        · rcases ite_some_inv h with h | h
          · rcases ite_some_inv h with h | h
            · cases h
              exact (Fr.wA (Fr.wA (Fr.wA h_q7 (List.elem_iff.mp rfl)) (List.elem_iff.mp rfl)) (List.elem_iff.mp rfl))
            · cases h
          · cases h
        · cases h
          exact h_q7
      ) h))
  · cases h
    exact Fr.rf
set_option maxRecDepth 100000 in
theorem w_f_m_bootsLine {N : Nat} {σ : Sg} {z : Unit × Sg} (h : f_m_bootsLine N σ = some z) : Fr [(66, some 4), (66, some 5), (66, some 6), (66, some 7), (66, some 8), (66, some 9), (66, some 10), (66, some 13), (68, none), (70, none)] σ z.2 := by
  unfold f_m_bootsLine at h
  rcases ite_some_inv h with h | h
  · obtain ⟨q1, e_q1, h⟩ := bind_some_inv h
    have h_q1 : Fr [(66, some 4), (66, some 5), (66, some 6), (66, some 7), (66, some 8), (66, some 9), (66, some 10), (66, some 13), (68, none), (70, none)] _ q1.2 := (Fr.tr Fr.rf (Fr.mono (w_f_m_newName e_q1) rfl))
    obtain ⟨q2, e_q2, h⟩ := bind_some_inv h
    have h_q2 : Fr [(66, some 4), (66, some 5), (66, some 6), (66, some 7), (66, some 8), (66, some 9), (66, some 10), (66, some 13), (68, none), (70, none)] _ q2.2 := (Fr.tr h_q1 (Fr.mono (w_f_m_number e_q2) rfl))
    rcases ite_some_inv h with h | h
    · rcases ite_some_inv h with h | h
      · cases h
        exact (Fr.wA (Fr.wA h_q2 (List.elem_iff.mp rfl)) (List.elem_iff.mp rfl))
      · cases h
        exact (Fr.wA h_q2 (List.elem_iff.mp rfl))
    · cases h
  · cases h
    exact Fr.rf
set_option maxRecDepth 100000 in
theorem w_f_m_groundLine_L105 {N : Nat} : ∀ (n : Nat) (v1 : Int32) (v3 : Int32) (v4 : Int32) (σ : Sg) (z : Unit × Sg), f_m_groundLine_L105 N n v1 v3 v4 σ = some z → Fr [(70, none)] σ z.2 := by
  intro n
  induction n with
  | zero => intro v1 v3 v4 σ z  h; exact nomatch (show (none : Option (Unit × Sg)) = some z from h)
  | succ n ih =>
    intro v1 v3 v4 σ z  h
    unfold f_m_groundLine_L105 at h
    rcases ite_some_inv h with h | h
    · cases h
      exact (Fr.wA Fr.rf (List.elem_iff.mp rfl))
    · rcases ite_some_inv h with h | h
      · exact (Fr.tr (Fr.wA Fr.rf (List.elem_iff.mp rfl)) (ih _ _ _ _ _ h))
      · cases h
set_option maxRecDepth 100000 in
theorem w_f_m_groundLine {N : Nat} {σ : Sg} {z : Unit × Sg} (h : f_m_groundLine N σ = some z) : Fr [(66, some 4), (66, some 5), (66, some 6), (66, some 7), (66, some 8), (66, some 9), (66, some 10), (66, some 13), (68, none), (70, none)] σ z.2 := by
  unfold f_m_groundLine at h
  rcases ite_some_inv h with h | h
  · obtain ⟨q1, e_q1, h⟩ := bind_some_inv h
    have h_q1 : Fr [(66, some 4), (66, some 5), (66, some 6), (66, some 7), (66, some 8), (66, some 9), (66, some 10), (66, some 13), (68, none), (70, none)] _ q1.2 := (Fr.tr Fr.rf (Fr.mono (w_f_m_isWord e_q1) rfl))
    rcases ite_some_inv h with h | h
    · obtain ⟨q14, e_q14, h⟩ := bind_some_inv h
      have h_q14 : Fr [(66, some 4), (66, some 5), (66, some 6), (66, some 7), (66, some 8), (66, some 9), (66, some 10), (66, some 13), (68, none), (70, none)] _ q14.2 := (Fr.tr h_q1 (Fr.mono (w_f_m_pass e_q14) rfl))
      obtain ⟨q15, e_q15, h⟩ := bind_some_inv h
      have h_q15 : Fr [(66, some 4), (66, some 5), (66, some 6), (66, some 7), (66, some 8), (66, some 9), (66, some 10), (66, some 13), (68, none), (70, none)] _ q15.2 := (Fr.tr h_q14 (Fr.mono (w_f_m_number e_q15) rfl))
      obtain ⟨q16, e_q16, h⟩ := bind_some_inv h
      have h_q16 : Fr [(66, some 4), (66, some 5), (66, some 6), (66, some 7), (66, some 8), (66, some 9), (66, some 10), (66, some 13), (68, none), (70, none)] _ q16.2 := (Fr.tr h_q15 (Fr.mono (w_f_m_number e_q16) rfl))
      rcases ite_some_inv h with h | h
      · exact (Fr.tr h_q16 (Fr.mono (w_f_m_groundLine_L105 _ _ _ _ _ _ h) rfl))
      · cases h
        exact h_q16
    · obtain ⟨q2, e_q2, h⟩ := bind_some_inv h
      have h_q2 : Fr [(66, some 4), (66, some 5), (66, some 6), (66, some 7), (66, some 8), (66, some 9), (66, some 10), (66, some 13), (68, none), (70, none)] _ q2.2 := (Fr.tr h_q1 (Fr.mono (w_f_m_isWord e_q2) rfl))
      rcases ite_some_inv h with h | h
      · obtain ⟨q11, e_q11, h⟩ := bind_some_inv h
        have h_q11 : Fr [(66, some 4), (66, some 5), (66, some 6), (66, some 7), (66, some 8), (66, some 9), (66, some 10), (66, some 13), (68, none), (70, none)] _ q11.2 := (Fr.tr h_q2 (Fr.mono (w_f_m_pass e_q11) rfl))
        obtain ⟨q12, e_q12, h⟩ := bind_some_inv h
        have h_q12 : Fr [(66, some 4), (66, some 5), (66, some 6), (66, some 7), (66, some 8), (66, some 9), (66, some 10), (66, some 13), (68, none), (70, none)] _ q12.2 := (Fr.tr h_q11 (Fr.mono (w_f_m_number e_q12) rfl))
        obtain ⟨q13, e_q13, h⟩ := bind_some_inv h
        have h_q13 : Fr [(66, some 4), (66, some 5), (66, some 6), (66, some 7), (66, some 8), (66, some 9), (66, some 10), (66, some 13), (68, none), (70, none)] _ q13.2 := (Fr.tr h_q12 (Fr.mono (w_f_m_number e_q13) rfl))
        rcases ite_some_inv h with h | h
        · exact (Fr.tr h_q13 (Fr.mono (w_f_m_groundLine_L105 _ _ _ _ _ _ h) rfl))
        · cases h
          exact h_q13
      · obtain ⟨q3, e_q3, h⟩ := bind_some_inv h
        have h_q3 : Fr [(66, some 4), (66, some 5), (66, some 6), (66, some 7), (66, some 8), (66, some 9), (66, some 10), (66, some 13), (68, none), (70, none)] _ q3.2 := (Fr.tr h_q2 (Fr.mono (w_f_m_isWord e_q3) rfl))
        rcases ite_some_inv h with h | h
        · obtain ⟨q8, e_q8, h⟩ := bind_some_inv h
          have h_q8 : Fr [(66, some 4), (66, some 5), (66, some 6), (66, some 7), (66, some 8), (66, some 9), (66, some 10), (66, some 13), (68, none), (70, none)] _ q8.2 := (Fr.tr h_q3 (Fr.mono (w_f_m_pass e_q8) rfl))
          obtain ⟨q9, e_q9, h⟩ := bind_some_inv h
          have h_q9 : Fr [(66, some 4), (66, some 5), (66, some 6), (66, some 7), (66, some 8), (66, some 9), (66, some 10), (66, some 13), (68, none), (70, none)] _ q9.2 := (Fr.tr h_q8 (Fr.mono (w_f_m_number e_q9) rfl))
          obtain ⟨q10, e_q10, h⟩ := bind_some_inv h
          have h_q10 : Fr [(66, some 4), (66, some 5), (66, some 6), (66, some 7), (66, some 8), (66, some 9), (66, some 10), (66, some 13), (68, none), (70, none)] _ q10.2 := (Fr.tr h_q9 (Fr.mono (w_f_m_number e_q10) rfl))
          rcases ite_some_inv h with h | h
          · exact (Fr.tr h_q10 (Fr.mono (w_f_m_groundLine_L105 _ _ _ _ _ _ h) rfl))
          · cases h
            exact h_q10
        · obtain ⟨q4, e_q4, h⟩ := bind_some_inv h
          have h_q4 : Fr [(66, some 4), (66, some 5), (66, some 6), (66, some 7), (66, some 8), (66, some 9), (66, some 10), (66, some 13), (68, none), (70, none)] _ q4.2 := (Fr.tr h_q3 (Fr.mono (w_f_m_wrong e_q4) rfl))
          obtain ⟨q5, e_q5, h⟩ := bind_some_inv h
          have h_q5 : Fr [(66, some 4), (66, some 5), (66, some 6), (66, some 7), (66, some 8), (66, some 9), (66, some 10), (66, some 13), (68, none), (70, none)] _ q5.2 := (Fr.tr h_q4 (Fr.mono (w_f_m_pass e_q5) rfl))
          obtain ⟨q6, e_q6, h⟩ := bind_some_inv h
          have h_q6 : Fr [(66, some 4), (66, some 5), (66, some 6), (66, some 7), (66, some 8), (66, some 9), (66, some 10), (66, some 13), (68, none), (70, none)] _ q6.2 := (Fr.tr h_q5 (Fr.mono (w_f_m_number e_q6) rfl))
          obtain ⟨q7, e_q7, h⟩ := bind_some_inv h
          have h_q7 : Fr [(66, some 4), (66, some 5), (66, some 6), (66, some 7), (66, some 8), (66, some 9), (66, some 10), (66, some 13), (68, none), (70, none)] _ q7.2 := (Fr.tr h_q6 (Fr.mono (w_f_m_number e_q7) rfl))
          rcases ite_some_inv h with h | h
          · exact (Fr.tr h_q7 (Fr.mono (w_f_m_groundLine_L105 _ _ _ _ _ _ h) rfl))
          · cases h
            exact h_q7
  · cases h
    exact Fr.rf
set_option maxRecDepth 100000 in
theorem w_f_m_landLine {N : Nat} {σ : Sg} {z : Unit × Sg} (h : f_m_landLine N σ = some z) : Fr [(66, some 4), (66, some 5), (66, some 6), (66, some 7), (66, some 8), (66, some 9), (66, some 10), (66, some 13), (68, none), (70, none), (72, none), (73, none)] σ z.2 := by
  unfold f_m_landLine at h
  rcases ite_some_inv h with h | h
  · rcases ite_some_inv h with h | h
    · obtain ⟨q1, e_q1, h⟩ := bind_some_inv h
      have h_q1 : Fr [(66, some 4), (66, some 5), (66, some 6), (66, some 7), (66, some 8), (66, some 9), (66, some 10), (66, some 13), (68, none), (70, none), (72, none), (73, none)] _ q1.2 := (Fr.tr Fr.rf (Fr.mono (w_f_m_next e_q1) rfl))
      obtain ⟨q2, e_q2, h⟩ := bind_some_inv h
      have h_q2 : Fr [(66, some 4), (66, some 5), (66, some 6), (66, some 7), (66, some 8), (66, some 9), (66, some 10), (66, some 13), (68, none), (70, none), (72, none), (73, none)] _ q2.2 := (Fr.tr h_q1 (Fr.mono (w_f_m_after e_q2) rfl))
      obtain ⟨q3, e_q3, h⟩ := bind_some_inv h
      have h_q3 : Fr [(66, some 4), (66, some 5), (66, some 6), (66, some 7), (66, some 8), (66, some 9), (66, some 10), (66, some 13), (68, none), (70, none), (72, none), (73, none)] _ q3.2 := (Fr.tr (Fr.wA h_q2 (List.elem_iff.mp rfl)) (Fr.mono (w_f_m_after e_q3) rfl))
      obtain ⟨q4, e_q4, h⟩ := bind_some_inv h
      have h_q4 : Fr [(66, some 4), (66, some 5), (66, some 6), (66, some 7), (66, some 8), (66, some 9), (66, some 10), (66, some 13), (68, none), (70, none), (72, none), (73, none)] _ q4.2 := (Fr.tr (Fr.wA h_q3 (List.elem_iff.mp rfl)) (Fr.mono (w_f_m_after e_q4) rfl))
      obtain ⟨q5, e_q5, h⟩ := bind_some_inv h
      have h_q5 : Fr [(66, some 4), (66, some 5), (66, some 6), (66, some 7), (66, some 8), (66, some 9), (66, some 10), (66, some 13), (68, none), (70, none), (72, none), (73, none)] _ q5.2 := (Fr.tr (Fr.wA h_q4 (List.elem_iff.mp rfl)) (Fr.mono (w_f_m_after e_q5) rfl))
      rcases ite_some_inv h with h | h
      · obtain ⟨q6, e_q6, h⟩ := bind_some_inv h
        have h_q6 : Fr [(66, some 4), (66, some 5), (66, some 6), (66, some 7), (66, some 8), (66, some 9), (66, some 10), (66, some 13), (68, none), (70, none), (72, none), (73, none)] _ q6.2 := (Fr.tr (Fr.wA (Fr.wA h_q5 (List.elem_iff.mp rfl)) (List.elem_iff.mp rfl)) (Fr.mono (w_f_m_copy e_q6) rfl))
        cases h
        exact h_q6
      · cases h
        exact (Fr.wA h_q5 (List.elem_iff.mp rfl))
    · cases h
      exact Fr.rf
  · obtain ⟨q7, e_q7, h⟩ := bind_some_inv h
    have h_q7 : Fr [(66, some 4), (66, some 5), (66, some 6), (66, some 7), (66, some 8), (66, some 9), (66, some 10), (66, some 13), (68, none), (70, none), (72, none), (73, none)] _ q7.2 := (Fr.tr Fr.rf (Fr.mono (w_f_m_wrong e_q7) rfl))
    rcases ite_some_inv h with h | h
    · obtain ⟨q8, e_q8, h⟩ := bind_some_inv h
      have h_q8 : Fr [(66, some 4), (66, some 5), (66, some 6), (66, some 7), (66, some 8), (66, some 9), (66, some 10), (66, some 13), (68, none), (70, none), (72, none), (73, none)] _ q8.2 := (Fr.tr h_q7 (Fr.mono (w_f_m_next e_q8) rfl))
      obtain ⟨q9, e_q9, h⟩ := bind_some_inv h
      have h_q9 : Fr [(66, some 4), (66, some 5), (66, some 6), (66, some 7), (66, some 8), (66, some 9), (66, some 10), (66, some 13), (68, none), (70, none), (72, none), (73, none)] _ q9.2 := (Fr.tr h_q8 (Fr.mono (w_f_m_after e_q9) rfl))
      obtain ⟨q10, e_q10, h⟩ := bind_some_inv h
      have h_q10 : Fr [(66, some 4), (66, some 5), (66, some 6), (66, some 7), (66, some 8), (66, some 9), (66, some 10), (66, some 13), (68, none), (70, none), (72, none), (73, none)] _ q10.2 := (Fr.tr (Fr.wA h_q9 (List.elem_iff.mp rfl)) (Fr.mono (w_f_m_after e_q10) rfl))
      obtain ⟨q11, e_q11, h⟩ := bind_some_inv h
      have h_q11 : Fr [(66, some 4), (66, some 5), (66, some 6), (66, some 7), (66, some 8), (66, some 9), (66, some 10), (66, some 13), (68, none), (70, none), (72, none), (73, none)] _ q11.2 := (Fr.tr (Fr.wA h_q10 (List.elem_iff.mp rfl)) (Fr.mono (w_f_m_after e_q11) rfl))
      obtain ⟨q12, e_q12, h⟩ := bind_some_inv h
      have h_q12 : Fr [(66, some 4), (66, some 5), (66, some 6), (66, some 7), (66, some 8), (66, some 9), (66, some 10), (66, some 13), (68, none), (70, none), (72, none), (73, none)] _ q12.2 := (Fr.tr (Fr.wA h_q11 (List.elem_iff.mp rfl)) (Fr.mono (w_f_m_after e_q12) rfl))
      rcases ite_some_inv h with h | h
      · obtain ⟨q13, e_q13, h⟩ := bind_some_inv h
        have h_q13 : Fr [(66, some 4), (66, some 5), (66, some 6), (66, some 7), (66, some 8), (66, some 9), (66, some 10), (66, some 13), (68, none), (70, none), (72, none), (73, none)] _ q13.2 := (Fr.tr (Fr.wA (Fr.wA h_q12 (List.elem_iff.mp rfl)) (List.elem_iff.mp rfl)) (Fr.mono (w_f_m_copy e_q13) rfl))
        cases h
        exact h_q13
      · cases h
        exact (Fr.wA h_q12 (List.elem_iff.mp rfl))
    · cases h
      exact h_q7
set_option maxRecDepth 100000 in
theorem w_f_m_readLine {N : Nat} {σ : Sg} {z : Unit × Sg} (h : f_m_readLine N σ = some z) : Fr [(66, some 4), (66, some 5), (66, some 6), (66, some 7), (66, some 8), (66, some 9), (66, some 10), (66, some 13), (68, none), (70, none), (72, none), (73, none)] σ z.2 := by
  unfold f_m_readLine at h
  obtain ⟨q1, e_q1, h⟩ := bind_some_inv h
  have h_q1 : Fr [(66, some 4), (66, some 5), (66, some 6), (66, some 7), (66, some 8), (66, some 9), (66, some 10), (66, some 13), (68, none), (70, none), (72, none), (73, none)] _ q1.2 := (Fr.tr Fr.rf (Fr.mono (w_f_m_isWord e_q1) rfl))
  rcases ite_some_inv h with h | h
  · obtain ⟨q15, e_q15, h⟩ := bind_some_inv h
    have h_q15 : Fr [(66, some 4), (66, some 5), (66, some 6), (66, some 7), (66, some 8), (66, some 9), (66, some 10), (66, some 13), (68, none), (70, none), (72, none), (73, none)] _ q15.2 := (Fr.tr h_q1 (Fr.mono (w_f_m_landLine e_q15) rfl))
    cases h
    exact h_q15
  · obtain ⟨q2, e_q2, h⟩ := bind_some_inv h
    have h_q2 : Fr [(66, some 4), (66, some 5), (66, some 6), (66, some 7), (66, some 8), (66, some 9), (66, some 10), (66, some 13), (68, none), (70, none), (72, none), (73, none)] _ q2.2 := (Fr.tr h_q1 (Fr.mono (w_f_m_begins e_q2) rfl))
    rcases ite_some_inv h with h | h
    · obtain ⟨q14, e_q14, h⟩ := bind_some_inv h
      have h_q14 : Fr [(66, some 4), (66, some 5), (66, some 6), (66, some 7), (66, some 8), (66, some 9), (66, some 10), (66, some 13), (68, none), (70, none), (72, none), (73, none)] _ q14.2 := (Fr.tr h_q2 (Fr.mono (w_f_m_groundLine e_q14) rfl))
      cases h
      exact h_q14
    · obtain ⟨q3, e_q3, h⟩ := bind_some_inv h
      have h_q3 : Fr [(66, some 4), (66, some 5), (66, some 6), (66, some 7), (66, some 8), (66, some 9), (66, some 10), (66, some 13), (68, none), (70, none), (72, none), (73, none)] _ q3.2 := (Fr.tr h_q2 (Fr.mono (w_f_m_begins e_q3) rfl))
      rcases ite_some_inv h with h | h
      · obtain ⟨q13, e_q13, h⟩ := bind_some_inv h
        have h_q13 : Fr [(66, some 4), (66, some 5), (66, some 6), (66, some 7), (66, some 8), (66, some 9), (66, some 10), (66, some 13), (68, none), (70, none), (72, none), (73, none)] _ q13.2 := (Fr.tr h_q3 (Fr.mono (w_f_m_bootsLine e_q13) rfl))
        cases h
        exact h_q13
      · obtain ⟨q4, e_q4, h⟩ := bind_some_inv h
        have h_q4 : Fr [(66, some 4), (66, some 5), (66, some 6), (66, some 7), (66, some 8), (66, some 9), (66, some 10), (66, some 13), (68, none), (70, none), (72, none), (73, none)] _ q4.2 := (Fr.tr h_q3 (Fr.mono (w_f_m_begins e_q4) rfl))
        rcases ite_some_inv h with h | h
        · obtain ⟨q12, e_q12, h⟩ := bind_some_inv h
          have h_q12 : Fr [(66, some 4), (66, some 5), (66, some 6), (66, some 7), (66, some 8), (66, some 9), (66, some 10), (66, some 13), (68, none), (70, none), (72, none), (73, none)] _ q12.2 := (Fr.tr h_q4 (Fr.mono (w_f_m_placeLine e_q12) rfl))
          cases h
          exact h_q12
        · obtain ⟨q5, e_q5, h⟩ := bind_some_inv h
          have h_q5 : Fr [(66, some 4), (66, some 5), (66, some 6), (66, some 7), (66, some 8), (66, some 9), (66, some 10), (66, some 13), (68, none), (70, none), (72, none), (73, none)] _ q5.2 := (Fr.tr h_q4 (Fr.mono (w_f_m_begins e_q5) rfl))
          rcases ite_some_inv h with h | h
          · obtain ⟨q11, e_q11, h⟩ := bind_some_inv h
            have h_q11 : Fr [(66, some 4), (66, some 5), (66, some 6), (66, some 7), (66, some 8), (66, some 9), (66, some 10), (66, some 13), (68, none), (70, none), (72, none), (73, none)] _ q11.2 := (Fr.tr h_q5 (Fr.mono (w_f_m_strideLine e_q11) rfl))
            cases h
            exact h_q11
          · obtain ⟨q6, e_q6, h⟩ := bind_some_inv h
            have h_q6 : Fr [(66, some 4), (66, some 5), (66, some 6), (66, some 7), (66, some 8), (66, some 9), (66, some 10), (66, some 13), (68, none), (70, none), (72, none), (73, none)] _ q6.2 := (Fr.tr h_q5 (Fr.mono (w_f_m_begins e_q6) rfl))
            rcases ite_some_inv h with h | h
            · obtain ⟨q10, e_q10, h⟩ := bind_some_inv h
              have h_q10 : Fr [(66, some 4), (66, some 5), (66, some 6), (66, some 7), (66, some 8), (66, some 9), (66, some 10), (66, some 13), (68, none), (70, none), (72, none), (73, none)] _ q10.2 := (Fr.tr h_q6 (Fr.mono (w_f_m_unsureLine e_q10) rfl))
              cases h
              exact h_q10
            · obtain ⟨q7, e_q7, h⟩ := bind_some_inv h
              have h_q7 : Fr [(66, some 4), (66, some 5), (66, some 6), (66, some 7), (66, some 8), (66, some 9), (66, some 10), (66, some 13), (68, none), (70, none), (72, none), (73, none)] _ q7.2 := (Fr.tr h_q6 (Fr.mono (w_f_m_begins e_q7) rfl))
              rcases ite_some_inv h with h | h
              · obtain ⟨q9, e_q9, h⟩ := bind_some_inv h
                have h_q9 : Fr [(66, some 4), (66, some 5), (66, some 6), (66, some 7), (66, some 8), (66, some 9), (66, some 10), (66, some 13), (68, none), (70, none), (72, none), (73, none)] _ q9.2 := (Fr.tr h_q7 (Fr.mono (w_f_m_seenLine e_q9) rfl))
                cases h
                exact h_q9
              · obtain ⟨q8, e_q8, h⟩ := bind_some_inv h
                have h_q8 : Fr [(66, some 4), (66, some 5), (66, some 6), (66, some 7), (66, some 8), (66, some 9), (66, some 10), (66, some 13), (68, none), (70, none), (72, none), (73, none)] _ q8.2 := (Fr.tr h_q7 (Fr.mono (w_f_m_wrong e_q8) rfl))
                cases h
                exact h_q8
set_option maxRecDepth 100000 in
theorem w_f_m_land_L39 {N : Nat} {W : WL} (hW : ∀ e ∈ ([(70, none)] : WL), e ∈ W) : ∀ (n : Nat) (v1 : Int32) (v2 : Int32) (σ : Sg) (k59 : (Int32 → Sg → Option (Int32 × Sg))) (z : Int32 × Sg) (h_k59 : ∀ (u0 : Int32) (u1 : Sg) z, k59 u0 u1 = some z → Fr W u1 z.2), f_m_land_L39 N n v1 v2 σ k59 = some z → Fr W σ z.2 := by
  intro n
  induction n with
  | zero => intro v1 v2 σ k59 z h_k59 h; exact nomatch (show (none : Option (Int32 × Sg)) = some z from h)
  | succ n ih =>
    intro v1 v2 σ k59 z h_k59 h
    unfold f_m_land_L39 at h
    rcases ite_some_inv h with h | h
    · exact (Fr.tr Fr.rf (h_k59 _ _ _ h))
    · rcases ite_some_inv h with h | h
      · exact (Fr.tr (Fr.wA Fr.rf (hW _ (List.elem_iff.mp rfl))) (ih _ _ _ _ _ h_k59 h))
      · cases h
set_option maxRecDepth 100000 in
theorem w_f_m_land_L61 {N : Nat} {W : WL} (hW : ∀ e ∈ ([(73, none)] : WL), e ∈ W) : ∀ (n : Nat) (v1 : Int32) (v2 : Int32) (σ : Sg) (k80 : (Int32 → Sg → Option (Int32 × Sg))) (z : Int32 × Sg) (h_k80 : ∀ (u0 : Int32) (u1 : Sg) z, k80 u0 u1 = some z → Fr W u1 z.2), f_m_land_L61 N n v1 v2 σ k80 = some z → Fr W σ z.2 := by
  intro n
  induction n with
  | zero => intro v1 v2 σ k80 z h_k80 h; exact nomatch (show (none : Option (Int32 × Sg)) = some z from h)
  | succ n ih =>
    intro v1 v2 σ k80 z h_k80 h
    unfold f_m_land_L61 at h
    rcases ite_some_inv h with h | h
    · exact (Fr.tr Fr.rf (h_k80 _ _ _ h))
    · rcases ite_some_inv h with h | h
      · exact (Fr.tr (Fr.wA Fr.rf (hW _ (List.elem_iff.mp rfl))) (ih _ _ _ _ _ h_k80 h))
      · cases h
set_option maxRecDepth 100000 in
theorem w_f_m_land_L98 {N : Nat} {W : WL} (hW : ∀ e ∈ ([(66, some 4), (66, some 5), (66, some 6), (66, some 7), (66, some 8), (66, some 9), (66, some 10), (66, some 13), (68, none), (70, none), (72, none), (73, none)] : WL), e ∈ W) : ∀ (n : Nat) (σ : Sg) (k125 : (Sg → Option (Int32 × Sg))) (z : Int32 × Sg) (h_k125 : ∀ (u0 : Sg) z, k125 u0 = some z → Fr W u0 z.2), f_m_land_L98 N n σ k125 = some z → Fr W σ z.2 := by
  intro n
  induction n with
  | zero => intro σ k125 z h_k125 h; exact nomatch (show (none : Option (Int32 × Sg)) = some z from h)
  | succ n ih =>
    intro σ k125 z h_k125 h
    unfold f_m_land_L98 at h
    rcases ite_some_inv h with h | h
    · rcases ite_some_inv h with h | h
      · obtain ⟨q7, e_q7, h⟩ := bind_some_inv h
        have h_q7 : Fr W _ q7.2 := (Fr.tr Fr.rf (Fr.monoP (Fr.mono (w_f_m_next e_q7) rfl) hW))
        obtain ⟨q8, e_q8, h⟩ := bind_some_inv h
        have h_q8 : Fr W _ q8.2 := (Fr.tr h_q7 (Fr.monoP (Fr.mono (w_f_m_readLine e_q8) rfl) hW))
        exact (Fr.tr h_q8 (ih _ _ _ h_k125 h))
      · exact (Fr.tr Fr.rf (h_k125 _ _ h))
    · exact (Fr.tr Fr.rf (h_k125 _ _ h))
set_option maxRecDepth 100000 in
theorem w_f_m_land {N : Nat} {v1 : Int32} {σ : Sg} {z : Int32 × Sg} (h : f_m_land N v1 σ = some z) : Fr [(66, some 0), (66, some 2), (66, some 3), (66, some 4), (66, some 5), (66, some 6), (66, some 7), (66, some 8), (66, some 9), (66, some 10), (66, some 11), (66, some 13), (66, some 14), (66, some 24), (66, some 25), (68, none), (69, none), (70, none), (71, none), (72, none), (73, none), (74, none)] σ z.2 := by
  unfold f_m_land at h
  obtain ⟨q1, e_q1, h⟩ := bind_some_inv h
  have h_q1 : Fr [(66, some 0), (66, some 2), (66, some 3), (66, some 4), (66, some 5), (66, some 6), (66, some 7), (66, some 8), (66, some 9), (66, some 10), (66, some 11), (66, some 13), (66, some 14), (66, some 24), (66, some 25), (68, none), (69, none), (70, none), (71, none), (72, none), (73, none), (74, none)] _ q1.2 := (Fr.tr Fr.rf (Fr.mono (w_f_m_anew e_q1) rfl))
  obtain ⟨q2, e_q2, h⟩ := bind_some_inv h
  have h_q2 : Fr [(66, some 0), (66, some 2), (66, some 3), (66, some 4), (66, some 5), (66, some 6), (66, some 7), (66, some 8), (66, some 9), (66, some 10), (66, some 11), (66, some 13), (66, some 14), (66, some 24), (66, some 25), (68, none), (69, none), (70, none), (71, none), (72, none), (73, none), (74, none)] _ q2.2 := (Fr.tr h_q1 (Fr.mono (w_f_m_in e_q2) rfl))
  rcases ite_some_inv h with h | h
  · exact (Fr.tr (Fr.wI (Fr.wI (Fr.wI h_q2 (List.elem_iff.mp rfl)) (List.elem_iff.mp rfl)) (List.elem_iff.mp rfl)) (w_f_m_land_L39 (W := [(66, some 0), (66, some 2), (66, some 3), (66, some 4), (66, some 5), (66, some 6), (66, some 7), (66, some 8), (66, some 9), (66, some 10), (66, some 11), (66, some 13), (66, some 14), (66, some 24), (66, some 25), (68, none), (69, none), (70, none), (71, none), (72, none), (73, none), (74, none)]) (fun e he => List.mem_of_elem_eq_true (List.all_eq_true.mp (show ([(70, none)] : WL).all (fun e => List.elem e [(66, some 0), (66, some 2), (66, some 3), (66, some 4), (66, some 5), (66, some 6), (66, some 7), (66, some 8), (66, some 9), (66, some 10), (66, some 11), (66, some 13), (66, some 14), (66, some 24), (66, some 25), (68, none), (69, none), (70, none), (71, none), (72, none), (73, none), (74, none)]) = true from rfl) e he))  _ _ _ _ _ _ (fun w1 t3 z h => by
        exact (Fr.tr Fr.rf (w_f_m_land_L61 (W := [(66, some 0), (66, some 2), (66, some 3), (66, some 4), (66, some 5), (66, some 6), (66, some 7), (66, some 8), (66, some 9), (66, some 10), (66, some 11), (66, some 13), (66, some 14), (66, some 24), (66, some 25), (68, none), (69, none), (70, none), (71, none), (72, none), (73, none), (74, none)]) (fun e he => List.mem_of_elem_eq_true (List.all_eq_true.mp (show ([(73, none)] : WL).all (fun e => List.elem e [(66, some 0), (66, some 2), (66, some 3), (66, some 4), (66, some 5), (66, some 6), (66, some 7), (66, some 8), (66, some 9), (66, some 10), (66, some 11), (66, some 13), (66, some 14), (66, some 24), (66, some 25), (68, none), (69, none), (70, none), (71, none), (72, none), (73, none), (74, none)]) = true from rfl) e he))  _ _ _ _ _ _ (fun w1 t4 z h => by
            obtain ⟨q5, e_q5, h⟩ := bind_some_inv h
            have h_q5 : Fr [(66, some 0), (66, some 2), (66, some 3), (66, some 4), (66, some 5), (66, some 6), (66, some 7), (66, some 8), (66, some 9), (66, some 10), (66, some 11), (66, some 13), (66, some 14), (66, some 24), (66, some 25), (68, none), (69, none), (70, none), (71, none), (72, none), (73, none), (74, none)] _ q5.2 := (Fr.tr (Fr.wI (Fr.wI Fr.rf (List.elem_iff.mp rfl)) (List.elem_iff.mp rfl)) (Fr.mono (w_f_m_next e_q5) rfl))
            obtain ⟨q6, e_q6, h⟩ := bind_some_inv h
            have h_q6 : Fr [(66, some 0), (66, some 2), (66, some 3), (66, some 4), (66, some 5), (66, some 6), (66, some 7), (66, some 8), (66, some 9), (66, some 10), (66, some 11), (66, some 13), (66, some 14), (66, some 24), (66, some 25), (68, none), (69, none), (70, none), (71, none), (72, none), (73, none), (74, none)] _ q6.2 := (Fr.tr h_q5 (Fr.mono (w_f_m_readLine e_q6) rfl))
            exact (Fr.tr h_q6 (w_f_m_land_L98 (W := [(66, some 0), (66, some 2), (66, some 3), (66, some 4), (66, some 5), (66, some 6), (66, some 7), (66, some 8), (66, some 9), (66, some 10), (66, some 11), (66, some 13), (66, some 14), (66, some 24), (66, some 25), (68, none), (69, none), (70, none), (71, none), (72, none), (73, none), (74, none)]) (fun e he => List.mem_of_elem_eq_true (List.all_eq_true.mp (show ([(66, some 4), (66, some 5), (66, some 6), (66, some 7), (66, some 8), (66, some 9), (66, some 10), (66, some 13), (68, none), (70, none), (72, none), (73, none)] : WL).all (fun e => List.elem e [(66, some 0), (66, some 2), (66, some 3), (66, some 4), (66, some 5), (66, some 6), (66, some 7), (66, some 8), (66, some 9), (66, some 10), (66, some 11), (66, some 13), (66, some 14), (66, some 24), (66, some 25), (68, none), (69, none), (70, none), (71, none), (72, none), (73, none), (74, none)]) = true from rfl) e he))  _ _ _ _ (fun t9 z h => by
                rcases ite_some_inv h with h | h
                · rcases ite_some_inv h with h | h
                  · rcases ite_some_inv h with h | h
                    · rcases ite_some_inv h with h | h
                      · obtain ⟨q32, e_q32, h⟩ := bind_some_inv h
                        have h_q32 : Fr [(66, some 0), (66, some 2), (66, some 3), (66, some 4), (66, some 5), (66, some 6), (66, some 7), (66, some 8), (66, some 9), (66, some 10), (66, some 11), (66, some 13), (66, some 14), (66, some 24), (66, some 25), (68, none), (69, none), (70, none), (71, none), (72, none), (73, none), (74, none)] _ q32.2 := (Fr.tr Fr.rf (Fr.mono (w_f_m_wrong e_q32) rfl))
                        rcases ite_some_inv h with h | h
                        · obtain ⟨q33, e_q33, h⟩ := bind_some_inv h
                          have h_q33 : Fr [(66, some 0), (66, some 2), (66, some 3), (66, some 4), (66, some 5), (66, some 6), (66, some 7), (66, some 8), (66, some 9), (66, some 10), (66, some 11), (66, some 13), (66, some 14), (66, some 24), (66, some 25), (68, none), (69, none), (70, none), (71, none), (72, none), (73, none), (74, none)] _ q33.2 := (Fr.tr h_q32 (Fr.mono (w_f_m_copy e_q33) rfl))
                          obtain ⟨q34, e_q34, h⟩ := bind_some_inv h
                          have h_q34 : Fr [(66, some 0), (66, some 2), (66, some 3), (66, some 4), (66, some 5), (66, some 6), (66, some 7), (66, some 8), (66, some 9), (66, some 10), (66, some 11), (66, some 13), (66, some 14), (66, some 24), (66, some 25), (68, none), (69, none), (70, none), (71, none), (72, none), (73, none), (74, none)] _ q34.2 := (Fr.tr h_q33 (Fr.mono (w_f_m_copy e_q34) rfl))
                          obtain ⟨q35, e_q35, h⟩ := bind_some_inv h
                          have h_q35 : Fr [(66, some 0), (66, some 2), (66, some 3), (66, some 4), (66, some 5), (66, some 6), (66, some 7), (66, some 8), (66, some 9), (66, some 10), (66, some 11), (66, some 13), (66, some 14), (66, some 24), (66, some 25), (68, none), (69, none), (70, none), (71, none), (72, none), (73, none), (74, none)] _ q35.2 := (Fr.tr h_q34 (Fr.mono (w_f_m_copy e_q35) rfl))
                          cases h
                          exact (Fr.wI (Fr.wI (Fr.wI h_q35 (List.elem_iff.mp rfl)) (List.elem_iff.mp rfl)) (List.elem_iff.mp rfl))
                        · obtain ⟨q36, e_q36, h⟩ := bind_some_inv h
                          have h_q36 : Fr [(66, some 0), (66, some 2), (66, some 3), (66, some 4), (66, some 5), (66, some 6), (66, some 7), (66, some 8), (66, some 9), (66, some 10), (66, some 11), (66, some 13), (66, some 14), (66, some 24), (66, some 25), (68, none), (69, none), (70, none), (71, none), (72, none), (73, none), (74, none)] _ q36.2 := (Fr.tr h_q32 (Fr.mono (w_f_m_no e_q36) rfl))
                          cases h
                          exact h_q36
                      · rcases ite_some_inv h with h | h
                        · obtain ⟨q41, e_q41, h⟩ := bind_some_inv h
                          have h_q41 : Fr [(66, some 0), (66, some 2), (66, some 3), (66, some 4), (66, some 5), (66, some 6), (66, some 7), (66, some 8), (66, some 9), (66, some 10), (66, some 11), (66, some 13), (66, some 14), (66, some 24), (66, some 25), (68, none), (69, none), (70, none), (71, none), (72, none), (73, none), (74, none)] _ q41.2 := (Fr.tr Fr.rf (Fr.mono (w_f_m_wrong e_q41) rfl))
                          rcases ite_some_inv h with h | h
                          · obtain ⟨q42, e_q42, h⟩ := bind_some_inv h
                            have h_q42 : Fr [(66, some 0), (66, some 2), (66, some 3), (66, some 4), (66, some 5), (66, some 6), (66, some 7), (66, some 8), (66, some 9), (66, some 10), (66, some 11), (66, some 13), (66, some 14), (66, some 24), (66, some 25), (68, none), (69, none), (70, none), (71, none), (72, none), (73, none), (74, none)] _ q42.2 := (Fr.tr h_q41 (Fr.mono (w_f_m_copy e_q42) rfl))
                            obtain ⟨q43, e_q43, h⟩ := bind_some_inv h
                            have h_q43 : Fr [(66, some 0), (66, some 2), (66, some 3), (66, some 4), (66, some 5), (66, some 6), (66, some 7), (66, some 8), (66, some 9), (66, some 10), (66, some 11), (66, some 13), (66, some 14), (66, some 24), (66, some 25), (68, none), (69, none), (70, none), (71, none), (72, none), (73, none), (74, none)] _ q43.2 := (Fr.tr h_q42 (Fr.mono (w_f_m_copy e_q43) rfl))
                            obtain ⟨q44, e_q44, h⟩ := bind_some_inv h
                            have h_q44 : Fr [(66, some 0), (66, some 2), (66, some 3), (66, some 4), (66, some 5), (66, some 6), (66, some 7), (66, some 8), (66, some 9), (66, some 10), (66, some 11), (66, some 13), (66, some 14), (66, some 24), (66, some 25), (68, none), (69, none), (70, none), (71, none), (72, none), (73, none), (74, none)] _ q44.2 := (Fr.tr h_q43 (Fr.mono (w_f_m_copy e_q44) rfl))
                            cases h
                            exact (Fr.wI (Fr.wI (Fr.wI h_q44 (List.elem_iff.mp rfl)) (List.elem_iff.mp rfl)) (List.elem_iff.mp rfl))
                          · obtain ⟨q45, e_q45, h⟩ := bind_some_inv h
                            have h_q45 : Fr [(66, some 0), (66, some 2), (66, some 3), (66, some 4), (66, some 5), (66, some 6), (66, some 7), (66, some 8), (66, some 9), (66, some 10), (66, some 11), (66, some 13), (66, some 14), (66, some 24), (66, some 25), (68, none), (69, none), (70, none), (71, none), (72, none), (73, none), (74, none)] _ q45.2 := (Fr.tr h_q41 (Fr.mono (w_f_m_no e_q45) rfl))
                            cases h
                            exact h_q45
                        · rcases ite_some_inv h with h | h
                          · obtain ⟨q37, e_q37, h⟩ := bind_some_inv h
                            have h_q37 : Fr [(66, some 0), (66, some 2), (66, some 3), (66, some 4), (66, some 5), (66, some 6), (66, some 7), (66, some 8), (66, some 9), (66, some 10), (66, some 11), (66, some 13), (66, some 14), (66, some 24), (66, some 25), (68, none), (69, none), (70, none), (71, none), (72, none), (73, none), (74, none)] _ q37.2 := (Fr.tr Fr.rf (Fr.mono (w_f_m_copy e_q37) rfl))
                            obtain ⟨q38, e_q38, h⟩ := bind_some_inv h
                            have h_q38 : Fr [(66, some 0), (66, some 2), (66, some 3), (66, some 4), (66, some 5), (66, some 6), (66, some 7), (66, some 8), (66, some 9), (66, some 10), (66, some 11), (66, some 13), (66, some 14), (66, some 24), (66, some 25), (68, none), (69, none), (70, none), (71, none), (72, none), (73, none), (74, none)] _ q38.2 := (Fr.tr h_q37 (Fr.mono (w_f_m_copy e_q38) rfl))
                            obtain ⟨q39, e_q39, h⟩ := bind_some_inv h
                            have h_q39 : Fr [(66, some 0), (66, some 2), (66, some 3), (66, some 4), (66, some 5), (66, some 6), (66, some 7), (66, some 8), (66, some 9), (66, some 10), (66, some 11), (66, some 13), (66, some 14), (66, some 24), (66, some 25), (68, none), (69, none), (70, none), (71, none), (72, none), (73, none), (74, none)] _ q39.2 := (Fr.tr h_q38 (Fr.mono (w_f_m_copy e_q39) rfl))
                            cases h
                            exact (Fr.wI (Fr.wI (Fr.wI h_q39 (List.elem_iff.mp rfl)) (List.elem_iff.mp rfl)) (List.elem_iff.mp rfl))
                          · obtain ⟨q40, e_q40, h⟩ := bind_some_inv h
                            have h_q40 : Fr [(66, some 0), (66, some 2), (66, some 3), (66, some 4), (66, some 5), (66, some 6), (66, some 7), (66, some 8), (66, some 9), (66, some 10), (66, some 11), (66, some 13), (66, some 14), (66, some 24), (66, some 25), (68, none), (69, none), (70, none), (71, none), (72, none), (73, none), (74, none)] _ q40.2 := (Fr.tr Fr.rf (Fr.mono (w_f_m_no e_q40) rfl))
                            cases h
                            exact h_q40
                    · rcases ite_some_inv h with h | h
                      · obtain ⟨q28, e_q28, h⟩ := bind_some_inv h
                        have h_q28 : Fr [(66, some 0), (66, some 2), (66, some 3), (66, some 4), (66, some 5), (66, some 6), (66, some 7), (66, some 8), (66, some 9), (66, some 10), (66, some 11), (66, some 13), (66, some 14), (66, some 24), (66, some 25), (68, none), (69, none), (70, none), (71, none), (72, none), (73, none), (74, none)] _ q28.2 := (Fr.tr Fr.rf (Fr.mono (w_f_m_copy e_q28) rfl))
                        obtain ⟨q29, e_q29, h⟩ := bind_some_inv h
                        have h_q29 : Fr [(66, some 0), (66, some 2), (66, some 3), (66, some 4), (66, some 5), (66, some 6), (66, some 7), (66, some 8), (66, some 9), (66, some 10), (66, some 11), (66, some 13), (66, some 14), (66, some 24), (66, some 25), (68, none), (69, none), (70, none), (71, none), (72, none), (73, none), (74, none)] _ q29.2 := (Fr.tr h_q28 (Fr.mono (w_f_m_copy e_q29) rfl))
                        obtain ⟨q30, e_q30, h⟩ := bind_some_inv h
                        have h_q30 : Fr [(66, some 0), (66, some 2), (66, some 3), (66, some 4), (66, some 5), (66, some 6), (66, some 7), (66, some 8), (66, some 9), (66, some 10), (66, some 11), (66, some 13), (66, some 14), (66, some 24), (66, some 25), (68, none), (69, none), (70, none), (71, none), (72, none), (73, none), (74, none)] _ q30.2 := (Fr.tr h_q29 (Fr.mono (w_f_m_copy e_q30) rfl))
                        cases h
                        exact (Fr.wI (Fr.wI (Fr.wI h_q30 (List.elem_iff.mp rfl)) (List.elem_iff.mp rfl)) (List.elem_iff.mp rfl))
                      · obtain ⟨q31, e_q31, h⟩ := bind_some_inv h
                        have h_q31 : Fr [(66, some 0), (66, some 2), (66, some 3), (66, some 4), (66, some 5), (66, some 6), (66, some 7), (66, some 8), (66, some 9), (66, some 10), (66, some 11), (66, some 13), (66, some 14), (66, some 24), (66, some 25), (68, none), (69, none), (70, none), (71, none), (72, none), (73, none), (74, none)] _ q31.2 := (Fr.tr Fr.rf (Fr.mono (w_f_m_no e_q31) rfl))
                        cases h
                        exact h_q31
                  · obtain ⟨q46, e_q46, h⟩ := bind_some_inv h
                    have h_q46 : Fr [(66, some 0), (66, some 2), (66, some 3), (66, some 4), (66, some 5), (66, some 6), (66, some 7), (66, some 8), (66, some 9), (66, some 10), (66, some 11), (66, some 13), (66, some 14), (66, some 24), (66, some 25), (68, none), (69, none), (70, none), (71, none), (72, none), (73, none), (74, none)] _ q46.2 := (Fr.tr Fr.rf (Fr.mono (w_f_m_wrong e_q46) rfl))
                    rcases ite_some_inv h with h | h
                    · rcases ite_some_inv h with h | h
                      · obtain ⟨q51, e_q51, h⟩ := bind_some_inv h
                        have h_q51 : Fr [(66, some 0), (66, some 2), (66, some 3), (66, some 4), (66, some 5), (66, some 6), (66, some 7), (66, some 8), (66, some 9), (66, some 10), (66, some 11), (66, some 13), (66, some 14), (66, some 24), (66, some 25), (68, none), (69, none), (70, none), (71, none), (72, none), (73, none), (74, none)] _ q51.2 := (Fr.tr h_q46 (Fr.mono (w_f_m_wrong e_q51) rfl))
                        rcases ite_some_inv h with h | h
                        · obtain ⟨q52, e_q52, h⟩ := bind_some_inv h
                          have h_q52 : Fr [(66, some 0), (66, some 2), (66, some 3), (66, some 4), (66, some 5), (66, some 6), (66, some 7), (66, some 8), (66, some 9), (66, some 10), (66, some 11), (66, some 13), (66, some 14), (66, some 24), (66, some 25), (68, none), (69, none), (70, none), (71, none), (72, none), (73, none), (74, none)] _ q52.2 := (Fr.tr h_q51 (Fr.mono (w_f_m_copy e_q52) rfl))
                          obtain ⟨q53, e_q53, h⟩ := bind_some_inv h
                          have h_q53 : Fr [(66, some 0), (66, some 2), (66, some 3), (66, some 4), (66, some 5), (66, some 6), (66, some 7), (66, some 8), (66, some 9), (66, some 10), (66, some 11), (66, some 13), (66, some 14), (66, some 24), (66, some 25), (68, none), (69, none), (70, none), (71, none), (72, none), (73, none), (74, none)] _ q53.2 := (Fr.tr h_q52 (Fr.mono (w_f_m_copy e_q53) rfl))
                          obtain ⟨q54, e_q54, h⟩ := bind_some_inv h
                          have h_q54 : Fr [(66, some 0), (66, some 2), (66, some 3), (66, some 4), (66, some 5), (66, some 6), (66, some 7), (66, some 8), (66, some 9), (66, some 10), (66, some 11), (66, some 13), (66, some 14), (66, some 24), (66, some 25), (68, none), (69, none), (70, none), (71, none), (72, none), (73, none), (74, none)] _ q54.2 := (Fr.tr h_q53 (Fr.mono (w_f_m_copy e_q54) rfl))
                          cases h
                          exact (Fr.wI (Fr.wI (Fr.wI h_q54 (List.elem_iff.mp rfl)) (List.elem_iff.mp rfl)) (List.elem_iff.mp rfl))
                        · obtain ⟨q55, e_q55, h⟩ := bind_some_inv h
                          have h_q55 : Fr [(66, some 0), (66, some 2), (66, some 3), (66, some 4), (66, some 5), (66, some 6), (66, some 7), (66, some 8), (66, some 9), (66, some 10), (66, some 11), (66, some 13), (66, some 14), (66, some 24), (66, some 25), (68, none), (69, none), (70, none), (71, none), (72, none), (73, none), (74, none)] _ q55.2 := (Fr.tr h_q51 (Fr.mono (w_f_m_no e_q55) rfl))
                          cases h
                          exact h_q55
                      · rcases ite_some_inv h with h | h
                        · obtain ⟨q60, e_q60, h⟩ := bind_some_inv h
                          have h_q60 : Fr [(66, some 0), (66, some 2), (66, some 3), (66, some 4), (66, some 5), (66, some 6), (66, some 7), (66, some 8), (66, some 9), (66, some 10), (66, some 11), (66, some 13), (66, some 14), (66, some 24), (66, some 25), (68, none), (69, none), (70, none), (71, none), (72, none), (73, none), (74, none)] _ q60.2 := (Fr.tr h_q46 (Fr.mono (w_f_m_wrong e_q60) rfl))
                          rcases ite_some_inv h with h | h
                          · obtain ⟨q61, e_q61, h⟩ := bind_some_inv h
                            have h_q61 : Fr [(66, some 0), (66, some 2), (66, some 3), (66, some 4), (66, some 5), (66, some 6), (66, some 7), (66, some 8), (66, some 9), (66, some 10), (66, some 11), (66, some 13), (66, some 14), (66, some 24), (66, some 25), (68, none), (69, none), (70, none), (71, none), (72, none), (73, none), (74, none)] _ q61.2 := (Fr.tr h_q60 (Fr.mono (w_f_m_copy e_q61) rfl))
                            obtain ⟨q62, e_q62, h⟩ := bind_some_inv h
                            have h_q62 : Fr [(66, some 0), (66, some 2), (66, some 3), (66, some 4), (66, some 5), (66, some 6), (66, some 7), (66, some 8), (66, some 9), (66, some 10), (66, some 11), (66, some 13), (66, some 14), (66, some 24), (66, some 25), (68, none), (69, none), (70, none), (71, none), (72, none), (73, none), (74, none)] _ q62.2 := (Fr.tr h_q61 (Fr.mono (w_f_m_copy e_q62) rfl))
                            obtain ⟨q63, e_q63, h⟩ := bind_some_inv h
                            have h_q63 : Fr [(66, some 0), (66, some 2), (66, some 3), (66, some 4), (66, some 5), (66, some 6), (66, some 7), (66, some 8), (66, some 9), (66, some 10), (66, some 11), (66, some 13), (66, some 14), (66, some 24), (66, some 25), (68, none), (69, none), (70, none), (71, none), (72, none), (73, none), (74, none)] _ q63.2 := (Fr.tr h_q62 (Fr.mono (w_f_m_copy e_q63) rfl))
                            cases h
                            exact (Fr.wI (Fr.wI (Fr.wI h_q63 (List.elem_iff.mp rfl)) (List.elem_iff.mp rfl)) (List.elem_iff.mp rfl))
                          · obtain ⟨q64, e_q64, h⟩ := bind_some_inv h
                            have h_q64 : Fr [(66, some 0), (66, some 2), (66, some 3), (66, some 4), (66, some 5), (66, some 6), (66, some 7), (66, some 8), (66, some 9), (66, some 10), (66, some 11), (66, some 13), (66, some 14), (66, some 24), (66, some 25), (68, none), (69, none), (70, none), (71, none), (72, none), (73, none), (74, none)] _ q64.2 := (Fr.tr h_q60 (Fr.mono (w_f_m_no e_q64) rfl))
                            cases h
                            exact h_q64
                        · rcases ite_some_inv h with h | h
                          · obtain ⟨q56, e_q56, h⟩ := bind_some_inv h
                            have h_q56 : Fr [(66, some 0), (66, some 2), (66, some 3), (66, some 4), (66, some 5), (66, some 6), (66, some 7), (66, some 8), (66, some 9), (66, some 10), (66, some 11), (66, some 13), (66, some 14), (66, some 24), (66, some 25), (68, none), (69, none), (70, none), (71, none), (72, none), (73, none), (74, none)] _ q56.2 := (Fr.tr h_q46 (Fr.mono (w_f_m_copy e_q56) rfl))
                            obtain ⟨q57, e_q57, h⟩ := bind_some_inv h
                            have h_q57 : Fr [(66, some 0), (66, some 2), (66, some 3), (66, some 4), (66, some 5), (66, some 6), (66, some 7), (66, some 8), (66, some 9), (66, some 10), (66, some 11), (66, some 13), (66, some 14), (66, some 24), (66, some 25), (68, none), (69, none), (70, none), (71, none), (72, none), (73, none), (74, none)] _ q57.2 := (Fr.tr h_q56 (Fr.mono (w_f_m_copy e_q57) rfl))
                            obtain ⟨q58, e_q58, h⟩ := bind_some_inv h
                            have h_q58 : Fr [(66, some 0), (66, some 2), (66, some 3), (66, some 4), (66, some 5), (66, some 6), (66, some 7), (66, some 8), (66, some 9), (66, some 10), (66, some 11), (66, some 13), (66, some 14), (66, some 24), (66, some 25), (68, none), (69, none), (70, none), (71, none), (72, none), (73, none), (74, none)] _ q58.2 := (Fr.tr h_q57 (Fr.mono (w_f_m_copy e_q58) rfl))
                            cases h
                            exact (Fr.wI (Fr.wI (Fr.wI h_q58 (List.elem_iff.mp rfl)) (List.elem_iff.mp rfl)) (List.elem_iff.mp rfl))
                          · obtain ⟨q59, e_q59, h⟩ := bind_some_inv h
                            have h_q59 : Fr [(66, some 0), (66, some 2), (66, some 3), (66, some 4), (66, some 5), (66, some 6), (66, some 7), (66, some 8), (66, some 9), (66, some 10), (66, some 11), (66, some 13), (66, some 14), (66, some 24), (66, some 25), (68, none), (69, none), (70, none), (71, none), (72, none), (73, none), (74, none)] _ q59.2 := (Fr.tr h_q46 (Fr.mono (w_f_m_no e_q59) rfl))
                            cases h
                            exact h_q59
                    · rcases ite_some_inv h with h | h
                      · obtain ⟨q47, e_q47, h⟩ := bind_some_inv h
                        have h_q47 : Fr [(66, some 0), (66, some 2), (66, some 3), (66, some 4), (66, some 5), (66, some 6), (66, some 7), (66, some 8), (66, some 9), (66, some 10), (66, some 11), (66, some 13), (66, some 14), (66, some 24), (66, some 25), (68, none), (69, none), (70, none), (71, none), (72, none), (73, none), (74, none)] _ q47.2 := (Fr.tr h_q46 (Fr.mono (w_f_m_copy e_q47) rfl))
                        obtain ⟨q48, e_q48, h⟩ := bind_some_inv h
                        have h_q48 : Fr [(66, some 0), (66, some 2), (66, some 3), (66, some 4), (66, some 5), (66, some 6), (66, some 7), (66, some 8), (66, some 9), (66, some 10), (66, some 11), (66, some 13), (66, some 14), (66, some 24), (66, some 25), (68, none), (69, none), (70, none), (71, none), (72, none), (73, none), (74, none)] _ q48.2 := (Fr.tr h_q47 (Fr.mono (w_f_m_copy e_q48) rfl))
                        obtain ⟨q49, e_q49, h⟩ := bind_some_inv h
                        have h_q49 : Fr [(66, some 0), (66, some 2), (66, some 3), (66, some 4), (66, some 5), (66, some 6), (66, some 7), (66, some 8), (66, some 9), (66, some 10), (66, some 11), (66, some 13), (66, some 14), (66, some 24), (66, some 25), (68, none), (69, none), (70, none), (71, none), (72, none), (73, none), (74, none)] _ q49.2 := (Fr.tr h_q48 (Fr.mono (w_f_m_copy e_q49) rfl))
                        cases h
                        exact (Fr.wI (Fr.wI (Fr.wI h_q49 (List.elem_iff.mp rfl)) (List.elem_iff.mp rfl)) (List.elem_iff.mp rfl))
                      · obtain ⟨q50, e_q50, h⟩ := bind_some_inv h
                        have h_q50 : Fr [(66, some 0), (66, some 2), (66, some 3), (66, some 4), (66, some 5), (66, some 6), (66, some 7), (66, some 8), (66, some 9), (66, some 10), (66, some 11), (66, some 13), (66, some 14), (66, some 24), (66, some 25), (68, none), (69, none), (70, none), (71, none), (72, none), (73, none), (74, none)] _ q50.2 := (Fr.tr h_q46 (Fr.mono (w_f_m_no e_q50) rfl))
                        cases h
                        exact h_q50
                · rcases ite_some_inv h with h | h
                  · rcases ite_some_inv h with h | h
                    · obtain ⟨q14, e_q14, h⟩ := bind_some_inv h
                      have h_q14 : Fr [(66, some 0), (66, some 2), (66, some 3), (66, some 4), (66, some 5), (66, some 6), (66, some 7), (66, some 8), (66, some 9), (66, some 10), (66, some 11), (66, some 13), (66, some 14), (66, some 24), (66, some 25), (68, none), (69, none), (70, none), (71, none), (72, none), (73, none), (74, none)] _ q14.2 := (Fr.tr Fr.rf (Fr.mono (w_f_m_wrong e_q14) rfl))
                      rcases ite_some_inv h with h | h
                      · obtain ⟨q15, e_q15, h⟩ := bind_some_inv h
                        have h_q15 : Fr [(66, some 0), (66, some 2), (66, some 3), (66, some 4), (66, some 5), (66, some 6), (66, some 7), (66, some 8), (66, some 9), (66, some 10), (66, some 11), (66, some 13), (66, some 14), (66, some 24), (66, some 25), (68, none), (69, none), (70, none), (71, none), (72, none), (73, none), (74, none)] _ q15.2 := (Fr.tr h_q14 (Fr.mono (w_f_m_copy e_q15) rfl))
                        obtain ⟨q16, e_q16, h⟩ := bind_some_inv h
                        have h_q16 : Fr [(66, some 0), (66, some 2), (66, some 3), (66, some 4), (66, some 5), (66, some 6), (66, some 7), (66, some 8), (66, some 9), (66, some 10), (66, some 11), (66, some 13), (66, some 14), (66, some 24), (66, some 25), (68, none), (69, none), (70, none), (71, none), (72, none), (73, none), (74, none)] _ q16.2 := (Fr.tr h_q15 (Fr.mono (w_f_m_copy e_q16) rfl))
                        obtain ⟨q17, e_q17, h⟩ := bind_some_inv h
                        have h_q17 : Fr [(66, some 0), (66, some 2), (66, some 3), (66, some 4), (66, some 5), (66, some 6), (66, some 7), (66, some 8), (66, some 9), (66, some 10), (66, some 11), (66, some 13), (66, some 14), (66, some 24), (66, some 25), (68, none), (69, none), (70, none), (71, none), (72, none), (73, none), (74, none)] _ q17.2 := (Fr.tr h_q16 (Fr.mono (w_f_m_copy e_q17) rfl))
                        cases h
                        exact (Fr.wI (Fr.wI (Fr.wI h_q17 (List.elem_iff.mp rfl)) (List.elem_iff.mp rfl)) (List.elem_iff.mp rfl))
                      · obtain ⟨q18, e_q18, h⟩ := bind_some_inv h
                        have h_q18 : Fr [(66, some 0), (66, some 2), (66, some 3), (66, some 4), (66, some 5), (66, some 6), (66, some 7), (66, some 8), (66, some 9), (66, some 10), (66, some 11), (66, some 13), (66, some 14), (66, some 24), (66, some 25), (68, none), (69, none), (70, none), (71, none), (72, none), (73, none), (74, none)] _ q18.2 := (Fr.tr h_q14 (Fr.mono (w_f_m_no e_q18) rfl))
                        cases h
                        exact h_q18
                    · rcases ite_some_inv h with h | h
                      · obtain ⟨q23, e_q23, h⟩ := bind_some_inv h
                        have h_q23 : Fr [(66, some 0), (66, some 2), (66, some 3), (66, some 4), (66, some 5), (66, some 6), (66, some 7), (66, some 8), (66, some 9), (66, some 10), (66, some 11), (66, some 13), (66, some 14), (66, some 24), (66, some 25), (68, none), (69, none), (70, none), (71, none), (72, none), (73, none), (74, none)] _ q23.2 := (Fr.tr Fr.rf (Fr.mono (w_f_m_wrong e_q23) rfl))
                        rcases ite_some_inv h with h | h
                        · obtain ⟨q24, e_q24, h⟩ := bind_some_inv h
                          have h_q24 : Fr [(66, some 0), (66, some 2), (66, some 3), (66, some 4), (66, some 5), (66, some 6), (66, some 7), (66, some 8), (66, some 9), (66, some 10), (66, some 11), (66, some 13), (66, some 14), (66, some 24), (66, some 25), (68, none), (69, none), (70, none), (71, none), (72, none), (73, none), (74, none)] _ q24.2 := (Fr.tr h_q23 (Fr.mono (w_f_m_copy e_q24) rfl))
                          obtain ⟨q25, e_q25, h⟩ := bind_some_inv h
                          have h_q25 : Fr [(66, some 0), (66, some 2), (66, some 3), (66, some 4), (66, some 5), (66, some 6), (66, some 7), (66, some 8), (66, some 9), (66, some 10), (66, some 11), (66, some 13), (66, some 14), (66, some 24), (66, some 25), (68, none), (69, none), (70, none), (71, none), (72, none), (73, none), (74, none)] _ q25.2 := (Fr.tr h_q24 (Fr.mono (w_f_m_copy e_q25) rfl))
                          obtain ⟨q26, e_q26, h⟩ := bind_some_inv h
                          have h_q26 : Fr [(66, some 0), (66, some 2), (66, some 3), (66, some 4), (66, some 5), (66, some 6), (66, some 7), (66, some 8), (66, some 9), (66, some 10), (66, some 11), (66, some 13), (66, some 14), (66, some 24), (66, some 25), (68, none), (69, none), (70, none), (71, none), (72, none), (73, none), (74, none)] _ q26.2 := (Fr.tr h_q25 (Fr.mono (w_f_m_copy e_q26) rfl))
                          cases h
                          exact (Fr.wI (Fr.wI (Fr.wI h_q26 (List.elem_iff.mp rfl)) (List.elem_iff.mp rfl)) (List.elem_iff.mp rfl))
                        · obtain ⟨q27, e_q27, h⟩ := bind_some_inv h
                          have h_q27 : Fr [(66, some 0), (66, some 2), (66, some 3), (66, some 4), (66, some 5), (66, some 6), (66, some 7), (66, some 8), (66, some 9), (66, some 10), (66, some 11), (66, some 13), (66, some 14), (66, some 24), (66, some 25), (68, none), (69, none), (70, none), (71, none), (72, none), (73, none), (74, none)] _ q27.2 := (Fr.tr h_q23 (Fr.mono (w_f_m_no e_q27) rfl))
                          cases h
                          exact h_q27
                      · rcases ite_some_inv h with h | h
                        · obtain ⟨q19, e_q19, h⟩ := bind_some_inv h
                          have h_q19 : Fr [(66, some 0), (66, some 2), (66, some 3), (66, some 4), (66, some 5), (66, some 6), (66, some 7), (66, some 8), (66, some 9), (66, some 10), (66, some 11), (66, some 13), (66, some 14), (66, some 24), (66, some 25), (68, none), (69, none), (70, none), (71, none), (72, none), (73, none), (74, none)] _ q19.2 := (Fr.tr Fr.rf (Fr.mono (w_f_m_copy e_q19) rfl))
                          obtain ⟨q20, e_q20, h⟩ := bind_some_inv h
                          have h_q20 : Fr [(66, some 0), (66, some 2), (66, some 3), (66, some 4), (66, some 5), (66, some 6), (66, some 7), (66, some 8), (66, some 9), (66, some 10), (66, some 11), (66, some 13), (66, some 14), (66, some 24), (66, some 25), (68, none), (69, none), (70, none), (71, none), (72, none), (73, none), (74, none)] _ q20.2 := (Fr.tr h_q19 (Fr.mono (w_f_m_copy e_q20) rfl))
                          obtain ⟨q21, e_q21, h⟩ := bind_some_inv h
                          have h_q21 : Fr [(66, some 0), (66, some 2), (66, some 3), (66, some 4), (66, some 5), (66, some 6), (66, some 7), (66, some 8), (66, some 9), (66, some 10), (66, some 11), (66, some 13), (66, some 14), (66, some 24), (66, some 25), (68, none), (69, none), (70, none), (71, none), (72, none), (73, none), (74, none)] _ q21.2 := (Fr.tr h_q20 (Fr.mono (w_f_m_copy e_q21) rfl))
                          cases h
                          exact (Fr.wI (Fr.wI (Fr.wI h_q21 (List.elem_iff.mp rfl)) (List.elem_iff.mp rfl)) (List.elem_iff.mp rfl))
                        · obtain ⟨q22, e_q22, h⟩ := bind_some_inv h
                          have h_q22 : Fr [(66, some 0), (66, some 2), (66, some 3), (66, some 4), (66, some 5), (66, some 6), (66, some 7), (66, some 8), (66, some 9), (66, some 10), (66, some 11), (66, some 13), (66, some 14), (66, some 24), (66, some 25), (68, none), (69, none), (70, none), (71, none), (72, none), (73, none), (74, none)] _ q22.2 := (Fr.tr Fr.rf (Fr.mono (w_f_m_no e_q22) rfl))
                          cases h
                          exact h_q22
                  · rcases ite_some_inv h with h | h
                    · obtain ⟨q10, e_q10, h⟩ := bind_some_inv h
                      have h_q10 : Fr [(66, some 0), (66, some 2), (66, some 3), (66, some 4), (66, some 5), (66, some 6), (66, some 7), (66, some 8), (66, some 9), (66, some 10), (66, some 11), (66, some 13), (66, some 14), (66, some 24), (66, some 25), (68, none), (69, none), (70, none), (71, none), (72, none), (73, none), (74, none)] _ q10.2 := (Fr.tr Fr.rf (Fr.mono (w_f_m_copy e_q10) rfl))
                      obtain ⟨q11, e_q11, h⟩ := bind_some_inv h
                      have h_q11 : Fr [(66, some 0), (66, some 2), (66, some 3), (66, some 4), (66, some 5), (66, some 6), (66, some 7), (66, some 8), (66, some 9), (66, some 10), (66, some 11), (66, some 13), (66, some 14), (66, some 24), (66, some 25), (68, none), (69, none), (70, none), (71, none), (72, none), (73, none), (74, none)] _ q11.2 := (Fr.tr h_q10 (Fr.mono (w_f_m_copy e_q11) rfl))
                      obtain ⟨q12, e_q12, h⟩ := bind_some_inv h
                      have h_q12 : Fr [(66, some 0), (66, some 2), (66, some 3), (66, some 4), (66, some 5), (66, some 6), (66, some 7), (66, some 8), (66, some 9), (66, some 10), (66, some 11), (66, some 13), (66, some 14), (66, some 24), (66, some 25), (68, none), (69, none), (70, none), (71, none), (72, none), (73, none), (74, none)] _ q12.2 := (Fr.tr h_q11 (Fr.mono (w_f_m_copy e_q12) rfl))
                      cases h
                      exact (Fr.wI (Fr.wI (Fr.wI h_q12 (List.elem_iff.mp rfl)) (List.elem_iff.mp rfl)) (List.elem_iff.mp rfl))
                    · obtain ⟨q13, e_q13, h⟩ := bind_some_inv h
                      have h_q13 : Fr [(66, some 0), (66, some 2), (66, some 3), (66, some 4), (66, some 5), (66, some 6), (66, some 7), (66, some 8), (66, some 9), (66, some 10), (66, some 11), (66, some 13), (66, some 14), (66, some 24), (66, some 25), (68, none), (69, none), (70, none), (71, none), (72, none), (73, none), (74, none)] _ q13.2 := (Fr.tr Fr.rf (Fr.mono (w_f_m_no e_q13) rfl))
                      cases h
                      exact h_q13
              ) h))
          ) h))
      ) h))
  · obtain ⟨q65, e_q65, h⟩ := bind_some_inv h
    have h_q65 : Fr [(66, some 0), (66, some 2), (66, some 3), (66, some 4), (66, some 5), (66, some 6), (66, some 7), (66, some 8), (66, some 9), (66, some 10), (66, some 11), (66, some 13), (66, some 14), (66, some 24), (66, some 25), (68, none), (69, none), (70, none), (71, none), (72, none), (73, none), (74, none)] _ q65.2 := (Fr.tr h_q2 (Fr.mono (w_f_m_no e_q65) rfl))
    cases h
    exact h_q65
set_option maxRecDepth 100000 in
theorem w_f_m_leads {N : Nat} {v1 : Int32} {v2 : Int32} {σ : Sg} {z : Int32 × Sg} (h : f_m_leads N v1 v2 σ = some z) : Fr [(66, some 0), (66, some 11)] σ z.2 := by
  unfold f_m_leads at h
  obtain ⟨q1, e_q1, h⟩ := bind_some_inv h
  have h_q1 : Fr [(66, some 0), (66, some 11)] _ q1.2 := (Fr.tr Fr.rf (Fr.mono (w_f_m_anew e_q1) rfl))
  obtain ⟨q2, e_q2, h⟩ := bind_some_inv h
  have h_q2 : Fr [(66, some 0), (66, some 11)] _ q2.2 := (Fr.tr h_q1 (Fr.mono (w_f_m_wayWhy e_q2) rfl))
  rcases ite_some_inv h with h | h
  · obtain ⟨q3, e_q3, h⟩ := bind_some_inv h
    have h_q3 : Fr [(66, some 0), (66, some 11)] _ q3.2 := (Fr.tr h_q2 (Fr.mono (w_f_m_leadOf e_q3) rfl))
    cases h
    exact h_q3
  · obtain ⟨q4, e_q4, h⟩ := bind_some_inv h
    have h_q4 : Fr [(66, some 0), (66, some 11)] _ q4.2 := (Fr.tr h_q2 (Fr.mono (w_f_m_no e_q4) rfl))
    cases h
    exact h_q4
set_option maxRecDepth 100000 in
theorem w_f_m_led_L4 {N : Nat} : ∀ (n : Nat) (v1 : Int32) (v2 : Int32) (v3 : Int32) (σ : Sg) (z : Int32 × Sg), f_m_led_L4 N n v1 v2 v3 σ = some z → Fr [(66, some 0)] σ z.2 := by
  intro n
  induction n with
  | zero => intro v1 v2 v3 σ z  h; exact nomatch (show (none : Option (Int32 × Sg)) = some z from h)
  | succ n ih =>
    intro v1 v2 v3 σ z  h
    unfold f_m_led_L4 at h
    rcases ite_some_inv h with h | h
    · cases h
      exact (Fr.wI Fr.rf (List.elem_iff.mp rfl))
    · rcases ite_some_inv h with h | h
      · cases h
        exact (Fr.wI Fr.rf (List.elem_iff.mp rfl))
      · rcases ite_some_inv h with h | h
        · rcases ite_some_inv h with h | h
          · rcases ite_some_inv h with h | h
            · exact (Fr.tr Fr.rf (ih _ _ _ _ _ h))
            · rcases ite_some_inv h with h | h
              · cases h
                exact (Fr.wI Fr.rf (List.elem_iff.mp rfl))
              · exact (Fr.tr Fr.rf (ih _ _ _ _ _ h))
          · cases h
        · cases h
set_option maxRecDepth 100000 in
theorem w_f_m_led {N : Nat} {v1 : Int32} {σ : Sg} {z : Int32 × Sg} (h : f_m_led N v1 σ = some z) : Fr [(66, some 0)] σ z.2 := by
  unfold f_m_led at h
  exact (Fr.tr Fr.rf (Fr.mono (w_f_m_led_L4 _ _ _ _ _ _ h) rfl))
set_option maxRecDepth 100000 in
theorem w_f_m_seekRuns_L20 {N : Nat} : ∀ (n : Nat) (v1 : Int32) (v2 : Int32) (v3 : Int32) (σ : Sg) (z : Unit × Sg), f_m_seekRuns_L20 N n v1 v2 v3 σ = some z → Fr [(66, some 28), (66, some 29), (66, some 30)] σ z.2 := by
  intro n
  induction n with
  | zero => intro v1 v2 v3 σ z  h; exact nomatch (show (none : Option (Unit × Sg)) = some z from h)
  | succ n ih =>
    intro v1 v2 v3 σ z  h
    unfold f_m_seekRuns_L20 at h
    rcases ite_some_inv h with h | h
    · cases h
      exact Fr.rf
    · rcases ite_some_inv h with h | h
      · rcases ite_some_inv h with h | h
        · rcases ite_some_inv h with h | h
          · exact (Fr.tr (Fr.wI Fr.rf (List.elem_iff.mp rfl)) (ih _ _ _ _ _ h))
          · exact (Fr.tr (Fr.wI (Fr.wI (Fr.wI Fr.rf (List.elem_iff.mp rfl)) (List.elem_iff.mp rfl)) (List.elem_iff.mp rfl)) (ih _ _ _ _ _ h))
        · exact (Fr.tr Fr.rf (ih _ _ _ _ _ h))
      · rcases ite_some_inv h with h | h
        · rcases ite_some_inv h with h | h
          · rcases ite_some_inv h with h | h
            · exact (Fr.tr Fr.rf (ih _ _ _ _ _ h))
            · exact (Fr.tr Fr.rf (ih _ _ _ _ _ h))
          · rcases ite_some_inv h with h | h
            · rcases ite_some_inv h with h | h
              · exact (Fr.tr (Fr.wI Fr.rf (List.elem_iff.mp rfl)) (ih _ _ _ _ _ h))
              · exact (Fr.tr (Fr.wI (Fr.wI (Fr.wI Fr.rf (List.elem_iff.mp rfl)) (List.elem_iff.mp rfl)) (List.elem_iff.mp rfl)) (ih _ _ _ _ _ h))
            · exact (Fr.tr Fr.rf (ih _ _ _ _ _ h))
        · cases h
set_option maxRecDepth 100000 in
theorem w_f_m_seekRuns {N : Nat} {v1 : Int32} {σ : Sg} {z : Unit × Sg} (h : f_m_seekRuns N v1 σ = some z) : Fr [(66, some 28), (66, some 29), (66, some 30)] σ z.2 := by
  unfold f_m_seekRuns at h
  exact (Fr.tr (Fr.wI (Fr.wI (Fr.wI Fr.rf (List.elem_iff.mp rfl)) (List.elem_iff.mp rfl)) (List.elem_iff.mp rfl)) (Fr.mono (w_f_m_seekRuns_L20 _ _ _ _ _ _ h) rfl))
set_option maxRecDepth 100000 in
theorem w_f_m_longest {N : Nat} {σ : Sg} {z : Int32 × Sg} (h : f_m_longest N σ = some z) : Fr [(66, some 0), (66, some 11), (66, some 28), (66, some 29), (66, some 30)] σ z.2 := by
  unfold f_m_longest at h
  obtain ⟨q1, e_q1, h⟩ := bind_some_inv h
  have h_q1 : Fr [(66, some 0), (66, some 11), (66, some 28), (66, some 29), (66, some 30)] _ q1.2 := (Fr.tr Fr.rf (Fr.mono (w_f_m_anew e_q1) rfl))
  rcases ite_some_inv h with h | h
  · obtain ⟨q3, e_q3, h⟩ := bind_some_inv h
    have h_q3 : Fr [(66, some 0), (66, some 11), (66, some 28), (66, some 29), (66, some 30)] _ q3.2 := (Fr.tr h_q1 (Fr.mono (w_f_m_no e_q3) rfl))
    cases h
    exact h_q3
  · obtain ⟨q2, e_q2, h⟩ := bind_some_inv h
    have h_q2 : Fr [(66, some 0), (66, some 11), (66, some 28), (66, some 29), (66, some 30)] _ q2.2 := (Fr.tr h_q1 (Fr.mono (w_f_m_seekRuns e_q2) rfl))
    cases h
    exact h_q2
set_option maxRecDepth 100000 in
theorem w_f_m_lost {N : Nat} {σ : Sg} {z : Int32 × Sg} (h : f_m_lost N σ = some z) : Fr [(66, some 0), (66, some 11)] σ z.2 := by
  unfold f_m_lost at h
  obtain ⟨q1, e_q1, h⟩ := bind_some_inv h
  have h_q1 : Fr [(66, some 0), (66, some 11)] _ q1.2 := (Fr.tr Fr.rf (Fr.mono (w_f_m_anew e_q1) rfl))
  rcases ite_some_inv h with h | h
  · obtain ⟨q2, e_q2, h⟩ := bind_some_inv h
    have h_q2 : Fr [(66, some 0), (66, some 11)] _ q2.2 := (Fr.tr h_q1 (Fr.mono (w_f_m_no e_q2) rfl))
    cases h
    exact h_q2
  · obtain ⟨q3, e_q3, h⟩ := bind_some_inv h
    have h_q3 : Fr [(66, some 0), (66, some 11)] _ q3.2 := (Fr.tr h_q1 (Fr.mono (w_f_m_lostOn e_q3) rfl))
    cases h
    exact h_q3
set_option maxRecDepth 100000 in
theorem w_f_m_lostIn {N : Nat} {v1 : Int32} {σ : Sg} {z : Int32 × Sg} (h : f_m_lostIn N v1 σ = some z) : Fr [(66, some 0), (66, some 11), (66, some 27), (75, none), (78, none)] σ z.2 := by
  unfold f_m_lostIn at h
  obtain ⟨q1, e_q1, h⟩ := bind_some_inv h
  have h_q1 : Fr [(66, some 0), (66, some 11), (66, some 27), (75, none), (78, none)] _ q1.2 := (Fr.tr Fr.rf (Fr.mono (w_f_m_anew e_q1) rfl))
  obtain ⟨q2, e_q2, h⟩ := bind_some_inv h
  have h_q2 : Fr [(66, some 0), (66, some 11), (66, some 27), (75, none), (78, none)] _ q2.2 := (Fr.tr h_q1 (Fr.mono (w_f_m_aheadWhy e_q2) rfl))
  rcases ite_some_inv h with h | h
  · obtain ⟨q3, e_q3, h⟩ := bind_some_inv h
    have h_q3 : Fr [(66, some 0), (66, some 11), (66, some 27), (75, none), (78, none)] _ q3.2 := (Fr.tr h_q2 (Fr.mono (w_f_m_yearsOn e_q3) rfl))
    obtain ⟨q4, e_q4, h⟩ := bind_some_inv h
    have h_q4 : Fr [(66, some 0), (66, some 11), (66, some 27), (75, none), (78, none)] _ q4.2 := (Fr.tr h_q3 (Fr.mono (w_f_m_lostOn e_q4) rfl))
    cases h
    exact h_q4
  · obtain ⟨q5, e_q5, h⟩ := bind_some_inv h
    have h_q5 : Fr [(66, some 0), (66, some 11), (66, some 27), (75, none), (78, none)] _ q5.2 := (Fr.tr h_q2 (Fr.mono (w_f_m_no e_q5) rfl))
    cases h
    exact h_q5
set_option maxRecDepth 100000 in
theorem w_f_m_tryGout_L34 {N : Nat} {W : WL} (hW : ∀ e ∈ ([(75, none)] : WL), e ∈ W) : ∀ (n : Nat) (v1 : Int32) (v2 : Int32) (v3 : Int32) (v4 : Int64) (v6 : Int32) (σ : Sg) (k105 : (Int32 → Int32 → Int32 → Int64 → Sg → Option (Unit × Sg))) (z : Unit × Sg) (h_k105 : ∀ (u0 : Int32) (u1 : Int32) (u2 : Int32) (u3 : Int64) (u4 : Sg) z, k105 u0 u1 u2 u3 u4 = some z → Fr W u4 z.2), f_m_tryGout_L34 N n v1 v2 v3 v4 v6 σ k105 = some z → Fr W σ z.2 := by
  intro n
  induction n with
  | zero => intro v1 v2 v3 v4 v6 σ k105 z h_k105 h; exact nomatch (show (none : Option (Unit × Sg)) = some z from h)
  | succ n ih =>
    intro v1 v2 v3 v4 v6 σ k105 z h_k105 h
    unfold f_m_tryGout_L34 at h
    rcases ite_some_inv h with h | h
    · exact (Fr.tr Fr.rf (h_k105 _ _ _ _ _ _ h))
    · obtain ⟨q2, e_q2, h⟩ := bind_some_inv h
      have h_q2 : Fr W _ q2.2 := (Fr.tr Fr.rf (Fr.monoP (Fr.mono (w_f_m_hasBit e_q2) rfl) hW))
      rcases ite_some_inv h with h | h
      · obtain ⟨q5, e_q5, h⟩ := bind_some_inv h
        have h_q5 : Fr W _ q5.2 := (Fr.tr h_q2 (Fr.monoP (Fr.mono (w_f_m_hasBit e_q5) rfl) hW))
        rcases ite_some_inv h with h | h
        · exact (Fr.tr h_q5 (ih _ _ _ _ _ _ _ _ h_k105 h))
        · rcases ite_some_inv h with h | h
          · obtain ⟨q6, e_q6, h⟩ := bind_some_inv h
            have h_q6 : Fr W _ q6.2 := (Fr.tr h_q5 (Fr.monoP (Fr.mono (w_f_m_digitOn e_q6) rfl) hW))
            exact (Fr.tr h_q6 (ih _ _ _ _ _ _ _ _ h_k105 h))
          · cases h
      · obtain ⟨q3, e_q3, h⟩ := bind_some_inv h
        have h_q3 : Fr W _ q3.2 := (Fr.tr h_q2 (Fr.monoP (Fr.mono (w_f_m_hasBit e_q3) rfl) hW))
        rcases ite_some_inv h with h | h
        · exact (Fr.tr h_q3 (ih _ _ _ _ _ _ _ _ h_k105 h))
        · rcases ite_some_inv h with h | h
          · obtain ⟨q4, e_q4, h⟩ := bind_some_inv h
            have h_q4 : Fr W _ q4.2 := (Fr.tr h_q3 (Fr.monoP (Fr.mono (w_f_m_digitOn e_q4) rfl) hW))
            exact (Fr.tr h_q4 (ih _ _ _ _ _ _ _ _ h_k105 h))
          · cases h
set_option maxRecDepth 100000 in
theorem w_f_m_tryGout_L17 {N : Nat} : ∀ (n : Nat) (v1 : Int32) (v2 : Int32) (v3 : Int32) (σ : Sg) (z : Unit × Sg), f_m_tryGout_L17 N n v1 v2 v3 σ = some z → Fr [(66, some 49), (66, some 50), (66, some 51), (75, none)] σ z.2 := by
  intro n
  induction n with
  | zero => intro v1 v2 v3 σ z  h; exact nomatch (show (none : Option (Unit × Sg)) = some z from h)
  | succ n ih =>
    intro v1 v2 v3 σ z  h
    unfold f_m_tryGout_L17 at h
    rcases ite_some_inv h with h | h
    · cases h
      exact Fr.rf
    · obtain ⟨q1, e_q1, h⟩ := bind_some_inv h
      have h_q1 : Fr [(66, some 49), (66, some 50), (66, some 51), (75, none)] _ q1.2 := (Fr.tr Fr.rf (Fr.mono (w_f_m_begin e_q1) rfl))
      exact (Fr.tr h_q1 (w_f_m_tryGout_L34 (W := [(66, some 49), (66, some 50), (66, some 51), (75, none)]) (fun e he => List.mem_of_elem_eq_true (List.all_eq_true.mp (show ([(75, none)] : WL).all (fun e => List.elem e [(66, some 49), (66, some 50), (66, some 51), (75, none)]) = true from rfl) e he))  _ _ _ _ _ _ _ _ _ (fun w1 w2 w3 w4 t7 z h => by
          rcases ite_some_inv h with h | h
          · obtain ⟨q9, e_q9, h⟩ := bind_some_inv h
            have h_q9 : Fr [(66, some 49), (66, some 50), (66, some 51), (75, none)] _ q9.2 := (Fr.tr (Fr.wL (Fr.wL Fr.rf (List.elem_iff.mp rfl)) (List.elem_iff.mp rfl)) (Fr.mono (w_f_m_lostOn e_q9) rfl))
            exact (Fr.tr (Fr.wL h_q9 (List.elem_iff.mp rfl)) (ih _ _ _ _ _ h))
          · obtain ⟨q8, e_q8, h⟩ := bind_some_inv h
            have h_q8 : Fr [(66, some 49), (66, some 50), (66, some 51), (75, none)] _ q8.2 := (Fr.tr (Fr.wL (Fr.wL Fr.rf (List.elem_iff.mp rfl)) (List.elem_iff.mp rfl)) (Fr.mono (w_f_m_lostOn e_q8) rfl))
            exact (Fr.tr (Fr.wL h_q8 (List.elem_iff.mp rfl)) (ih _ _ _ _ _ h))
        ) h))
set_option maxRecDepth 100000 in
theorem w_f_m_tryGout {N : Nat} {v1 : Int32} {v2 : Int32} {σ : Sg} {z : Unit × Sg} (h : f_m_tryGout N v1 v2 σ = some z) : Fr [(66, some 49), (66, some 50), (66, some 51), (75, none)] σ z.2 := by
  unfold f_m_tryGout at h
  exact (Fr.tr (Fr.wL (Fr.wL (Fr.wL Fr.rf (List.elem_iff.mp rfl)) (List.elem_iff.mp rfl)) (List.elem_iff.mp rfl)) (Fr.mono (w_f_m_tryGout_L17 _ _ _ _ _ _ h) rfl))
set_option maxRecDepth 100000 in
theorem w_f_m_lowest_L6 {N : Nat} : ∀ (n : Nat) (v0 : Int64) (v2 : Int64) (v4 : Int32) (v5 : Int64) (v7 : Int64) (σ : Sg) (z : Int64 × Sg), f_m_lowest_L6 N n v0 v2 v4 v5 v7 σ = some z → Fr [] σ z.2 := by
  intro n
  induction n with
  | zero => intro v0 v2 v4 v5 v7 σ z  h; exact nomatch (show (none : Option (Int64 × Sg)) = some z from h)
  | succ n ih =>
    intro v0 v2 v4 v5 v7 σ z  h
    unfold f_m_lowest_L6 at h
    rcases ite_some_inv h with h | h
    · rcases ite_some_inv h with h | h
      · rcases ite_some_inv h with h | h
        · cases h
        · cases h
          exact Fr.rf
      · rcases ite_some_inv h with h | h
        · cases h
        · cases h
          exact Fr.rf
    · rcases ite_some_inv h with h | h
      · cases h
      · exact (Fr.tr Fr.rf (ih _ _ _ _ _ _ _ h))
set_option maxRecDepth 100000 in
theorem w_f_m_lowest {N : Nat} {v0 : Int64} {v2 : Int64} {v4 : Int32} {σ : Sg} {z : Int64 × Sg} (h : f_m_lowest N v0 v2 v4 σ = some z) : Fr [] σ z.2 := by
  unfold f_m_lowest at h
  exact (Fr.tr Fr.rf (Fr.mono (w_f_m_lowest_L6 _ _ _ _ _ _ _ _ h) rfl))
set_option maxRecDepth 100000 in
theorem w_f_m_mean {N : Nat} {v1 : Int32} {v2 : Int32} {v3 : Int32} {σ : Sg} {z : Int64 × Sg} (h : f_m_mean N v1 v2 v3 σ = some z) : Fr [(66, some 0), (66, some 11), (66, some 49), (66, some 50), (66, some 51), (75, none), (79, none)] σ z.2 := by
  unfold f_m_mean at h
  obtain ⟨q1, e_q1, h⟩ := bind_some_inv h
  have h_q1 : Fr [(66, some 0), (66, some 11), (66, some 49), (66, some 50), (66, some 51), (75, none), (79, none)] _ q1.2 := (Fr.tr Fr.rf (Fr.mono (w_f_m_anew e_q1) rfl))
  obtain ⟨q2, e_q2, h⟩ := bind_some_inv h
  have h_q2 : Fr [(66, some 0), (66, some 11), (66, some 49), (66, some 50), (66, some 51), (75, none), (79, none)] _ q2.2 := (Fr.tr h_q1 (Fr.mono (w_f_m_rowWhy e_q2) rfl))
  rcases ite_some_inv h with h | h
  · obtain ⟨q3, e_q3, h⟩ := bind_some_inv h
    have h_q3 : Fr [(66, some 0), (66, some 11), (66, some 49), (66, some 50), (66, some 51), (75, none), (79, none)] _ q3.2 := (Fr.tr h_q2 (Fr.mono (w_f_m_tryGout e_q3) rfl))
    obtain ⟨q4, e_q4, h⟩ := bind_some_inv h
    have h_q4 : Fr [(66, some 0), (66, some 11), (66, some 49), (66, some 50), (66, some 51), (75, none), (79, none)] _ q4.2 := (Fr.tr h_q3 (Fr.mono (w_f_m_lowest e_q4) rfl))
    cases h
    exact h_q4
  · obtain ⟨q5, e_q5, h⟩ := bind_some_inv h
    have h_q5 : Fr [(66, some 0), (66, some 11), (66, some 49), (66, some 50), (66, some 51), (75, none), (79, none)] _ q5.2 := (Fr.tr h_q2 (Fr.mono (w_f_m_no e_q5) rfl))
    cases h
    exact h_q5
set_option maxRecDepth 100000 in
theorem w_f_m_nearest_L41 {N : Nat} {W : WL} (hW : ∀ e ∈ ([] : WL), e ∈ W) : ∀ (n : Nat) (v1 : Int32) (v2 : Int32) (v3 : Int32) (v4 : Int32) (σ : Sg) (k140 : (Int32 → Int32 → Int32 → Sg → Option (Int32 × Sg))) (z : Int32 × Sg) (h_k140 : ∀ (u0 : Int32) (u1 : Int32) (u2 : Int32) (u3 : Sg) z, k140 u0 u1 u2 u3 = some z → Fr W u3 z.2), f_m_nearest_L41 N n v1 v2 v3 v4 σ k140 = some z → Fr W σ z.2 := by
  intro n
  induction n with
  | zero => intro v1 v2 v3 v4 σ k140 z h_k140 h; exact nomatch (show (none : Option (Int32 × Sg)) = some z from h)
  | succ n ih =>
    intro v1 v2 v3 v4 σ k140 z h_k140 h
    unfold f_m_nearest_L41 at h
    rcases ite_some_inv h with h | h
    · exact (Fr.tr Fr.rf (h_k140 _ _ _ _ _ h))
    · rcases ite_some_inv h with h | h
      · rcases ite_some_inv h with h | h
        · obtain ⟨q2, e_q2, h⟩ := bind_some_inv h
          have h_q2 : Fr W _ q2.2 := (Fr.tr Fr.rf (Fr.monoP (Fr.mono (w_f_m_goneFrom e_q2) rfl) hW))
          rcases ite_some_inv h with h | h
          · rcases ite_some_inv h with h | h
            · exact (Fr.tr h_q2 (ih _ _ _ _ _ _ _ h_k140 h))
            · rcases ite_some_inv h with h | h
              · rcases ite_some_inv h with h | h
                · exact (Fr.tr h_q2 (ih _ _ _ _ _ _ _ h_k140 h))
                · rcases ite_some_inv h with h | h
                  · exact (Fr.tr h_q2 (ih _ _ _ _ _ _ _ h_k140 h))
                  · rcases ite_some_inv h with h | h
                    · exact (Fr.tr h_q2 (ih _ _ _ _ _ _ _ h_k140 h))
                    · exact (Fr.tr h_q2 (ih _ _ _ _ _ _ _ h_k140 h))
              · cases h
          · cases h
        · cases h
      · cases h
set_option maxRecDepth 100000 in
theorem w_f_m_nearest_L26 {N : Nat} : ∀ (n : Nat) (v1 : Int32) (v2 : Int32) (v3 : Int32) (σ : Sg) (z : Int32 × Sg), f_m_nearest_L26 N n v1 v2 v3 σ = some z → Fr [] σ z.2 := by
  intro n
  induction n with
  | zero => intro v1 v2 v3 σ z  h; exact nomatch (show (none : Option (Int32 × Sg)) = some z from h)
  | succ n ih =>
    intro v1 v2 v3 σ z  h
    unfold f_m_nearest_L26 at h
    rcases ite_some_inv h with h | h
    · cases h
      exact Fr.rf
    · exact (Fr.tr Fr.rf (w_f_m_nearest_L41 (W := []) (fun e he => by cases he)  _ _ _ _ _ _ _ _ (fun w1 w2 w3 t3 z h => by
          exact (Fr.tr Fr.rf (ih _ _ _ _ _ h))
        ) h))
set_option maxRecDepth 100000 in
theorem w_f_m_nearest {N : Nat} {σ : Sg} {z : Int32 × Sg} (h : f_m_nearest N σ = some z) : Fr [(66, some 0), (66, some 11)] σ z.2 := by
  unfold f_m_nearest at h
  obtain ⟨q1, e_q1, h⟩ := bind_some_inv h
  have h_q1 : Fr [(66, some 0), (66, some 11)] _ q1.2 := (Fr.tr Fr.rf (Fr.mono (w_f_m_anew e_q1) rfl))
  rcases ite_some_inv h with h | h
  · obtain ⟨q4, e_q4, h⟩ := bind_some_inv h
    have h_q4 : Fr [(66, some 0), (66, some 11)] _ q4.2 := (Fr.tr h_q1 (Fr.mono (w_f_m_no e_q4) rfl))
    cases h
    exact h_q4
  · exact (Fr.tr h_q1 (Fr.mono (w_f_m_nearest_L26 _ _ _ _ _ _ h) rfl))
set_option maxRecDepth 100000 in
theorem w_f_m_laySums_L26 {N : Nat} {W : WL} (hW : ∀ e ∈ ([(83, none)] : WL), e ∈ W) : ∀ (n : Nat) (v1 : Int32) (v2 : Int32) (σ : Sg) (k106 : (Int32 → Sg → Option (Unit × Sg))) (z : Unit × Sg) (h_k106 : ∀ (u0 : Int32) (u1 : Sg) z, k106 u0 u1 = some z → Fr W u1 z.2), f_m_laySums_L26 N n v1 v2 σ k106 = some z → Fr W σ z.2 := by
  intro n
  induction n with
  | zero => intro v1 v2 σ k106 z h_k106 h; exact nomatch (show (none : Option (Unit × Sg)) = some z from h)
  | succ n ih =>
    intro v1 v2 σ k106 z h_k106 h
    unfold f_m_laySums_L26 at h
    rcases ite_some_inv h with h | h
    · exact (Fr.tr Fr.rf (h_k106 _ _ _ h))
    · rcases ite_some_inv h with h | h
      · rcases ite_some_inv h with h | h
        · exact (Fr.tr Fr.rf (ih _ _ _ _ _ h_k106 h))
        · rcases ite_some_inv h with h | h
          · rcases ite_some_inv h with h | h
            · rcases ite_some_inv h with h | h
              · rcases ite_some_inv h with h | h
                · exact (Fr.tr Fr.rf (ih _ _ _ _ _ h_k106 h))
                · rcases ite_some_inv h with h | h
                  · rcases ite_some_inv h with h | h
                    · rcases ite_some_inv h with h | h
                      · exact (Fr.tr (Fr.wA Fr.rf (hW _ (List.elem_iff.mp rfl))) (ih _ _ _ _ _ h_k106 h))
                      · cases h
                    · cases h
                  · cases h
              · cases h
            · cases h
          · cases h
      · cases h
set_option maxRecDepth 100000 in
theorem w_f_m_laySums_L9 {N : Nat} : ∀ (n : Nat) (v1 : Int32) (σ : Sg) (z : Unit × Sg), f_m_laySums_L9 N n v1 σ = some z → Fr [(83, none)] σ z.2 := by
  intro n
  induction n with
  | zero => intro v1 σ z  h; exact nomatch (show (none : Option (Unit × Sg)) = some z from h)
  | succ n ih =>
    intro v1 σ z  h
    unfold f_m_laySums_L9 at h
    rcases ite_some_inv h with h | h
    · cases h
      exact Fr.rf
    · rcases ite_some_inv h with h | h
      · exact (Fr.tr (Fr.wA Fr.rf (List.elem_iff.mp rfl)) (w_f_m_laySums_L26 (W := [(83, none)]) (fun e he => List.mem_of_elem_eq_true (List.all_eq_true.mp (show ([(83, none)] : WL).all (fun e => List.elem e [(83, none)]) = true from rfl) e he))  _ _ _ _ _ _ (fun w1 t1 z h => by
            exact (Fr.tr Fr.rf (ih _ _ _ h))
          ) h))
      · cases h
set_option maxRecDepth 100000 in
theorem w_f_m_laySums {N : Nat} {σ : Sg} {z : Unit × Sg} (h : f_m_laySums N σ = some z) : Fr [(83, none)] σ z.2 := by
  unfold f_m_laySums at h
  exact (Fr.tr (Fr.wA Fr.rf (List.elem_iff.mp rfl)) (Fr.mono (w_f_m_laySums_L9 _ _ _ _ h) rfl))
set_option maxRecDepth 100000 in
theorem w_f_m_never_L24 {N : Nat} : ∀ (n : Nat) (v1 : Int32) (σ : Sg) (z : Int32 × Sg), f_m_never_L24 N n v1 σ = some z → Fr [] σ z.2 := by
  intro n
  induction n with
  | zero => intro v1 σ z  h; exact nomatch (show (none : Option (Int32 × Sg)) = some z from h)
  | succ n ih =>
    intro v1 σ z  h
    unfold f_m_never_L24 at h
    rcases ite_some_inv h with h | h
    · cases h
      exact Fr.rf
    · rcases ite_some_inv h with h | h
      · rcases ite_some_inv h with h | h
        · exact (Fr.tr Fr.rf (ih _ _ _ h))
        · cases h
          exact Fr.rf
      · cases h
set_option maxRecDepth 100000 in
theorem w_f_m_never {N : Nat} {σ : Sg} {z : Int32 × Sg} (h : f_m_never N σ = some z) : Fr [(66, some 0), (66, some 11), (83, none)] σ z.2 := by
  unfold f_m_never at h
  obtain ⟨q1, e_q1, h⟩ := bind_some_inv h
  have h_q1 : Fr [(66, some 0), (66, some 11), (83, none)] _ q1.2 := (Fr.tr Fr.rf (Fr.mono (w_f_m_anew e_q1) rfl))
  rcases ite_some_inv h with h | h
  · obtain ⟨q3, e_q3, h⟩ := bind_some_inv h
    have h_q3 : Fr [(66, some 0), (66, some 11), (83, none)] _ q3.2 := (Fr.tr h_q1 (Fr.mono (w_f_m_no e_q3) rfl))
    cases h
    exact h_q3
  · obtain ⟨q2, e_q2, h⟩ := bind_some_inv h
    have h_q2 : Fr [(66, some 0), (66, some 11), (83, none)] _ q2.2 := (Fr.tr h_q1 (Fr.mono (w_f_m_laySums e_q2) rfl))
    exact (Fr.tr h_q2 (Fr.mono (w_f_m_never_L24 _ _ _ _ h) rfl))
set_option maxRecDepth 100000 in
theorem w_f_m_odds {N : Nat} {v1 : Int32} {v2 : Int32} {v3 : Int32} {v4 : Int32} {σ : Sg} {z : Int64 × Sg} (h : f_m_odds N v1 v2 v3 v4 σ = some z) : Fr [(66, some 0), (66, some 11), (66, some 49), (66, some 50), (66, some 51), (75, none), (79, none)] σ z.2 := by
  unfold f_m_odds at h
  obtain ⟨q1, e_q1, h⟩ := bind_some_inv h
  have h_q1 : Fr [(66, some 0), (66, some 11), (66, some 49), (66, some 50), (66, some 51), (75, none), (79, none)] _ q1.2 := (Fr.tr Fr.rf (Fr.mono (w_f_m_anew e_q1) rfl))
  obtain ⟨q2, e_q2, h⟩ := bind_some_inv h
  have h_q2 : Fr [(66, some 0), (66, some 11), (66, some 49), (66, some 50), (66, some 51), (75, none), (79, none)] _ q2.2 := (Fr.tr h_q1 (Fr.mono (w_f_m_isCell e_q2) rfl))
  obtain ⟨q3, e_q3, h⟩ := bind_some_inv h
  have h_q3 : Fr [(66, some 0), (66, some 11), (66, some 49), (66, some 50), (66, some 51), (75, none), (79, none)] _ q3.2 := (Fr.tr h_q2 (Fr.mono (w_f_m_rowWhy e_q3) rfl))
  rcases ite_some_inv h with h | h
  · obtain ⟨q4, e_q4, h⟩ := bind_some_inv h
    have h_q4 : Fr [(66, some 0), (66, some 11), (66, some 49), (66, some 50), (66, some 51), (75, none), (79, none)] _ q4.2 := (Fr.tr h_q3 (Fr.mono (w_f_m_tryGout e_q4) rfl))
    obtain ⟨q5, e_q5, h⟩ := bind_some_inv h
    have h_q5 : Fr [(66, some 0), (66, some 11), (66, some 49), (66, some 50), (66, some 51), (75, none), (79, none)] _ q5.2 := (Fr.tr h_q4 (Fr.mono (w_f_m_lowest e_q5) rfl))
    cases h
    exact h_q5
  · obtain ⟨q6, e_q6, h⟩ := bind_some_inv h
    have h_q6 : Fr [(66, some 0), (66, some 11), (66, some 49), (66, some 50), (66, some 51), (75, none), (79, none)] _ q6.2 := (Fr.tr h_q3 (Fr.mono (w_f_m_no e_q6) rfl))
    cases h
    exact h_q6
set_option maxRecDepth 100000 in
theorem w_f_m_over_L34 {N : Nat} {W : WL} (hW : ∀ e ∈ ([] : WL), e ∈ W) : ∀ (n : Nat) (v1 : Int32) (v2 : Int32) (v3 : Int32) (v4 : Int32) (v5 : Int32) (σ : Sg) (k78 : (Int32 → Int32 → Int32 → Int32 → Sg → Option (Int32 × Sg))) (z : Int32 × Sg) (h_k78 : ∀ (u0 : Int32) (u1 : Int32) (u2 : Int32) (u3 : Int32) (u4 : Sg) z, k78 u0 u1 u2 u3 u4 = some z → Fr W u4 z.2), f_m_over_L34 N n v1 v2 v3 v4 v5 σ k78 = some z → Fr W σ z.2 := by
  intro n
  induction n with
  | zero => intro v1 v2 v3 v4 v5 σ k78 z h_k78 h; exact nomatch (show (none : Option (Int32 × Sg)) = some z from h)
  | succ n ih =>
    intro v1 v2 v3 v4 v5 σ k78 z h_k78 h
    unfold f_m_over_L34 at h
    rcases ite_some_inv h with h | h
    · exact (Fr.tr Fr.rf (h_k78 _ _ _ _ _ _ h))
    · rcases ite_some_inv h with h | h
      · exact (Fr.tr Fr.rf (ih _ _ _ _ _ _ _ _ h_k78 h))
      · rcases ite_some_inv h with h | h
        · rcases ite_some_inv h with h | h
          · cases h
          · rcases ite_some_inv h with h | h
            · exact (Fr.tr Fr.rf (ih _ _ _ _ _ _ _ _ h_k78 h))
            · exact (Fr.tr Fr.rf (ih _ _ _ _ _ _ _ _ h_k78 h))
        · cases h
