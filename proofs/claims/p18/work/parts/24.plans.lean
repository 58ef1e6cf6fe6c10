theorem p_X5_taught {h : HI} {g : HL} (hC : CI h) {x1 : Int32} {x2 : Int32} {x3 : Int32}  (hP : PL h) (hx : ¬ h 118 8 ≤ x3) : w_X5_taught x1 x2 x3 h g (fun r h' g' => h = h' ∧ g = g') := by
  unfold w_X5_taught
  refine c_w (fun c c' => ?_) (fun c => ?_)
  · skip
    refine ⟨fun c => ?_, fun c => ?_⟩
    · skip
      refine c_w (fun c c' => ?_) (fun c => ?_)
      · skip
        refine ⟨fun c => ?_, fun c => ?_⟩
        · exact absI c
        · skip
          refine c_w (fun c c' => ?_) (fun c => ?_)
          · skip
            refine ⟨fun c => ?_, fun c => ?_⟩
            · skip
              refine and_have (by first | with_reducible assumption | exact vin (by with_reducible assumption) (by with_reducible assumption) (by decide) | exact vinc (by with_reducible assumption) (by with_reducible assumption) (by decide) | exact vinw (by with_reducible assumption) (by with_reducible assumption) (by decide) (by decide) | exact vinl (by with_reducible assumption) (by with_reducible assumption) (by decide) | exact v60a (by with_reducible assumption) (by with_reducible assumption) | exact v60b (by with_reducible assumption) (by with_reducible assumption) | exact v60b' (by with_reducible assumption) (by with_reducible assumption) | exact v60c (by with_reducible assumption) (by with_reducible assumption) | exact v60d (by with_reducible assumption) (by with_reducible assumption)) (fun hv => ?_)
              rintro _ rfl
              refine and_have (by first | with_reducible assumption | exact vin (by with_reducible assumption) (by with_reducible assumption) (by decide) | exact vinc (by with_reducible assumption) (by with_reducible assumption) (by decide) | exact vinw (by with_reducible assumption) (by with_reducible assumption) (by decide) (by decide) | exact vinl (by with_reducible assumption) (by with_reducible assumption) (by decide) | exact v60a (by with_reducible assumption) (by with_reducible assumption) | exact v60b (by with_reducible assumption) (by with_reducible assumption) | exact v60b' (by with_reducible assumption) (by with_reducible assumption) | exact v60c (by with_reducible assumption) (by with_reducible assumption) | exact v60d (by with_reducible assumption) (by with_reducible assumption)) (fun hv => ?_)
              rintro _ rfl
              refine and_have (by first | with_reducible assumption | exact vin (by with_reducible assumption) (by with_reducible assumption) (by decide) | exact vinc (by with_reducible assumption) (by with_reducible assumption) (by decide) | exact vinw (by with_reducible assumption) (by with_reducible assumption) (by decide) (by decide) | exact vinl (by with_reducible assumption) (by with_reducible assumption) (by decide) | exact v60a (by with_reducible assumption) (by with_reducible assumption) | exact v60b (by with_reducible assumption) (by with_reducible assumption) | exact v60b' (by with_reducible assumption) (by with_reducible assumption) | exact v60c (by with_reducible assumption) (by with_reducible assumption) | exact v60d (by with_reducible assumption) (by with_reducible assumption)) (fun hv => ?_)
              rintro _ rfl
              refine and_have (by first | with_reducible assumption | exact vin (by with_reducible assumption) (by with_reducible assumption) (by decide) | exact vinc (by with_reducible assumption) (by with_reducible assumption) (by decide) | exact vinw (by with_reducible assumption) (by with_reducible assumption) (by decide) (by decide) | exact vinl (by with_reducible assumption) (by with_reducible assumption) (by decide) | exact v60a (by with_reducible assumption) (by with_reducible assumption) | exact v60b (by with_reducible assumption) (by with_reducible assumption) | exact v60b' (by with_reducible assumption) (by with_reducible assumption) | exact v60c (by with_reducible assumption) (by with_reducible assumption) | exact v60d (by with_reducible assumption) (by with_reducible assumption)) (fun hv => ?_)
              refine ⟨fun c => ?_, fun c => ?_⟩
              · skip
                exact ⟨rfl, rfl⟩
              · skip
                refine ⟨fun c => ?_, fun c => ?_⟩
                · skip
                  exact ⟨rfl, rfl⟩
                · skip
                  refine ⟨fun c => ?_, fun c => ?_⟩
                  · skip
                    refine and_have (by first | with_reducible assumption | exact vin (by with_reducible assumption) (by with_reducible assumption) (by decide) | exact vinc (by with_reducible assumption) (by with_reducible assumption) (by decide) | exact vinw (by with_reducible assumption) (by with_reducible assumption) (by decide) (by decide) | exact vinl (by with_reducible assumption) (by with_reducible assumption) (by decide) | exact v60a (by with_reducible assumption) (by with_reducible assumption) | exact v60b (by with_reducible assumption) (by with_reducible assumption) | exact v60b' (by with_reducible assumption) (by with_reducible assumption) | exact v60c (by with_reducible assumption) (by with_reducible assumption) | exact v60d (by with_reducible assumption) (by with_reducible assumption)) (fun hv => ?_)
                    refine and_have (by first | with_reducible assumption | exact vin (by with_reducible assumption) (by with_reducible assumption) (by decide) | exact vinc (by with_reducible assumption) (by with_reducible assumption) (by decide) | exact vinw (by with_reducible assumption) (by with_reducible assumption) (by decide) (by decide) | exact vinl (by with_reducible assumption) (by with_reducible assumption) (by decide) | exact v60a (by with_reducible assumption) (by with_reducible assumption) | exact v60b (by with_reducible assumption) (by with_reducible assumption) | exact v60b' (by with_reducible assumption) (by with_reducible assumption) | exact v60c (by with_reducible assumption) (by with_reducible assumption) | exact v60d (by with_reducible assumption) (by with_reducible assumption)) (fun hv => ?_)
                    refine c_z (p_X5_knows hC ) ?_
                    rintro r_120 _ _ ⟨rfl, rfl⟩
                    refine ⟨fun c => ?_, fun c => ?_⟩
                    · skip
                      refine and_have (by first | with_reducible assumption | exact vin (by with_reducible assumption) (by with_reducible assumption) (by decide) | exact vinc (by with_reducible assumption) (by with_reducible assumption) (by decide) | exact vinw (by with_reducible assumption) (by with_reducible assumption) (by decide) (by decide) | exact vinl (by with_reducible assumption) (by with_reducible assumption) (by decide) | exact v60a (by with_reducible assumption) (by with_reducible assumption) | exact v60b (by with_reducible assumption) (by with_reducible assumption) | exact v60b' (by with_reducible assumption) (by with_reducible assumption) | exact v60c (by with_reducible assumption) (by with_reducible assumption) | exact v60d (by with_reducible assumption) (by with_reducible assumption)) (fun hv => ?_)
                      refine c_i (p_X5_runsBy hC ) ?_
                      rintro r_141 _ _ ⟨rfl, rfl⟩
                      refine and_have (by exact vinw1 (by with_reducible assumption) (by with_reducible assumption) (by decide) (by decide)) (fun hv => ?_)
                      refine and_have (by exact tg_ix hP hx (by with_reducible assumption) (by with_reducible assumption) (by with_reducible assumption)) (fun hv => ?_)
                      exact ⟨rfl, rfl⟩
                    · skip
                      exact ⟨rfl, rfl⟩
                  · skip
                    exact ⟨rfl, rfl⟩
            · exact absI c
          · skip
            refine ⟨fun c => ?_, fun c => ?_⟩
            · exact absN c
            · skip
              exact ⟨rfl, rfl⟩
      · skip
        refine ⟨fun c => ?_, fun c => ?_⟩
        · skip
          exact ⟨rfl, rfl⟩
        · exact absN c
    · exact absI c
  · skip
    refine ⟨fun c => ?_, fun c => ?_⟩
    · exact absN c
    · skip
      exact ⟨rfl, rfl⟩
theorem p_X5_mostOf {h : HI} {g : HL} (hC : CI h) {x1 : Int32} {x2 : Int32}  (hP : PL h) : w_X5_mostOf x1 x2 h g (fun r h' g' => h = h' ∧ g = g') := by
  unfold w_X5_mostOf
  refine c_i (p_X5_idle hC ) ?_
  rintro r_3 _ _ ⟨rfl, rfl⟩
  refine lpE_intro (fun ⟨x1_q, x2_q, x3_q, x4_q, h_q, g_q⟩ => x1 = x1_q ∧ x2 = x2_q ∧ h = h_q ∧ g = g_q ∧ True) (fun ⟨x1_q, x2_q, x3_q, x4_q, h_q, g_q⟩ => dif (h 118 8) x4_q) ?_ _ ⟨rfl, rfl, rfl, rfl, trivial⟩
  rintro ⟨x1_1, x2_1, x3_1, x4_1, h_1, g_1⟩ K1 ⟨rfl, rfl, rfl, rfl, -⟩ hK1
  unfold F_X5_mostOf_10; dsimp only; unfold b_X5_mostOf_10
  refine ⟨fun c => ?_, fun c => ?_⟩
  · skip
    exact ⟨rfl, rfl⟩
  · skip
    refine c_i (p_X5_taught hC hP (by with_reducible assumption)) ?_
    rintro r_25 _ _ ⟨rfl, rfl⟩
    rintro _ rfl
    rintro _ rfl
    exact hK1 _ ⟨rfl, rfl, rfl, rfl, trivial⟩ (dif_lt (by with_reducible assumption))
theorem p_X5_bestIn {h : HI} {g : HL} (hC : CI h) {x1 : Int32} {x2 : Int32}  (hP : PL h) : w_X5_bestIn x1 x2 h g (fun r h' g' => h = h' ∧ g = g') := by
  unfold w_X5_bestIn
  refine c_i (p_X5_mostOf hC hP) ?_
  rintro r_3 _ _ ⟨rfl, rfl⟩
  refine c_i (p_X5_idle hC ) ?_
  rintro r_10 _ _ ⟨rfl, rfl⟩
  refine ⟨fun c => ?_, fun c => ?_⟩
  · skip
    refine lpE_intro (fun ⟨x1_q, x2_q, x3_q, x4_q, h_q, g_q⟩ => x1 = x1_q ∧ x2 = x2_q ∧ r_3 = x3_q ∧ h = h_q ∧ g = g_q ∧ True) (fun ⟨x1_q, x2_q, x3_q, x4_q, h_q, g_q⟩ => dif (h 118 8) x4_q) ?_ _ ⟨rfl, rfl, rfl, rfl, rfl, trivial⟩
    rintro ⟨x1_1, x2_1, x3_1, x4_1, h_1, g_1⟩ K1 ⟨rfl, rfl, rfl, rfl, rfl, -⟩ hK1
    unfold F_X5_bestIn_22; dsimp only; unfold b_X5_bestIn_22
    refine ⟨fun c => ?_, fun c => ?_⟩
    · skip
      exact ⟨rfl, rfl⟩
    · skip
      refine c_i (p_X5_taught hC hP (by with_reducible assumption)) ?_
      rintro r_36 _ _ ⟨rfl, rfl⟩
      refine ⟨fun c => ?_, fun c => ?_⟩
      · skip
        rintro _ rfl
        exact hK1 _ ⟨rfl, rfl, rfl, rfl, rfl, trivial⟩ (dif_lt (by with_reducible assumption))
      · skip
        exact ⟨rfl, rfl⟩
  · skip
    exact ⟨rfl, rfl⟩
theorem p_X5_lessonIn {h : HI} {g : HL} (hC : CI h) {x1 : Int32}  (hP : PL h) : w_X5_lessonIn x1 h g (fun r h' g' => h = h' ∧ g = g') := by
  unfold w_X5_lessonIn
  refine lpE_intro (fun ⟨x1_q, x2_q, x3_q, h_q, g_q⟩ => x1 = x1_q ∧ h = h_q ∧ g = g_q ∧ True) (fun ⟨x1_q, x2_q, x3_q, h_q, g_q⟩ => dif (h 118 10) x3_q) ?_ _ ⟨rfl, rfl, rfl, trivial⟩
  rintro ⟨x1_1, x2_1, x3_1, h_1, g_1⟩ K1 ⟨rfl, rfl, rfl, -⟩ hK1
  unfold F_X5_lessonIn_4; dsimp only; unfold b_X5_lessonIn_4
  refine ⟨fun c => ?_, fun c => ?_⟩
  · skip
    exact ⟨rfl, rfl⟩
  · skip
    refine c_i (p_X5_bestIn hC hP) ?_
    rintro r_15 _ _ ⟨rfl, rfl⟩
    refine c_w (fun c c' => ?_) (fun c => ?_)
    · skip
      refine ⟨fun c => ?_, fun c => ?_⟩
      · skip
        refine ⟨fun c => ?_, fun c => ?_⟩
        · exact absI c
        · skip
          refine and_have (by first | with_reducible assumption | exact vin (by with_reducible assumption) (by with_reducible assumption) (by decide) | exact vinc (by with_reducible assumption) (by with_reducible assumption) (by decide) | exact vinw (by with_reducible assumption) (by with_reducible assumption) (by decide) (by decide) | exact vinl (by with_reducible assumption) (by with_reducible assumption) (by decide) | exact v60a (by with_reducible assumption) (by with_reducible assumption) | exact v60b (by with_reducible assumption) (by with_reducible assumption) | exact v60b' (by with_reducible assumption) (by with_reducible assumption) | exact v60c (by with_reducible assumption) (by with_reducible assumption) | exact v60d (by with_reducible assumption) (by with_reducible assumption)) (fun hv => ?_)
          rintro _ rfl
          unfold j_X5_lessonIn_67
          rintro _ rfl
          exact hK1 _ ⟨rfl, rfl, rfl, trivial⟩ (dif_lt (by with_reducible assumption))
      · skip
        refine ⟨fun c => ?_, fun c => ?_⟩
        · exact absI c
        · skip
          refine and_have (by first | with_reducible assumption | exact vin (by with_reducible assumption) (by with_reducible assumption) (by decide) | exact vinc (by with_reducible assumption) (by with_reducible assumption) (by decide) | exact vinw (by with_reducible assumption) (by with_reducible assumption) (by decide) (by decide) | exact vinl (by with_reducible assumption) (by with_reducible assumption) (by decide) | exact v60a (by with_reducible assumption) (by with_reducible assumption) | exact v60b (by with_reducible assumption) (by with_reducible assumption) | exact v60b' (by with_reducible assumption) (by with_reducible assumption) | exact v60c (by with_reducible assumption) (by with_reducible assumption) | exact v60d (by with_reducible assumption) (by with_reducible assumption)) (fun hv => ?_)
          exact ⟨rfl, rfl⟩
    · skip
      refine ⟨fun c => ?_, fun c => ?_⟩
      · skip
        refine ⟨fun c => ?_, fun c => ?_⟩
        · skip
          unfold j_X5_lessonIn_67
          rintro _ rfl
          exact hK1 _ ⟨rfl, rfl, rfl, trivial⟩ (dif_lt (by with_reducible assumption))
        · exact absN c
      · skip
        refine ⟨fun c => ?_, fun c => ?_⟩
        · skip
          exact ⟨rfl, rfl⟩
        · exact absN c
