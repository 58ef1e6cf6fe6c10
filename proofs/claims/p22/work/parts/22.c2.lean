section
-- 22.c2
theorem p_X7_chooseFamily {h : HI} {g : HL} (hC : CI h) {x1 : Int32}   : w_X7_chooseFamily x1 h g (fun h' g' => JJ (SSz) h h') := by
  unfold w_X7_chooseFamily
  have hJ : JJ (SSz) h h := JJ.rf
  refine c_h (fun c c' => ?_) (fun c => ?_)
  · skip
    refine ⟨fun c => ?_, fun c => ?_⟩
    · exact absI c
    · skip
      refine c_i (p_atJ hC hJ nSSz gs_4) ?_
      rintro _ _ _ ⟨rfl, rfl, rfl⟩
      unfold j_X7_chooseFamily_33
      intro h_33 e_h_33
      have hJ := hJ.hu e_h_33 (by unfold SSz; omega)
      refine ⟨fun c => ?_, fun c => ?_⟩
      · exact absI c
      · skip
        refine c_i (p_atJ hC hJ nSSz gs_4) ?_
        rintro _ _ _ ⟨rfl, rfl, rfl⟩
        unfold j_X7_chooseFamily_61
        intro h_61 e_h_61
        have hJ := hJ.hu e_h_61 (by unfold SSz; omega)
        refine ⟨fun c => ?_, fun c => ?_⟩
        · exact absI c
        · skip
          refine c_i (p_atJ hC hJ nSSz gs_4) ?_
          rintro _ _ _ ⟨rfl, rfl, rfl⟩
          unfold j_X7_chooseFamily_86
          intro h_88 e_h_88
          have hJ := hJ.hu e_h_88 (by unfold SSz; omega)
          exact hJ
  · skip
    refine ⟨fun c => ?_, fun c => ?_⟩
    · skip
      unfold j_X7_chooseFamily_33
      intro h_33 e_h_33
      have hJ := hJ.hu e_h_33 (by unfold SSz; omega)
      refine ⟨fun c => ?_, fun c => ?_⟩
      · skip
        unfold j_X7_chooseFamily_61
        intro h_61 e_h_61
        have hJ := hJ.hu e_h_61 (by unfold SSz; omega)
        refine ⟨fun c => ?_, fun c => ?_⟩
        · skip
          unfold j_X7_chooseFamily_86
          intro h_88 e_h_88
          have hJ := hJ.hu e_h_88 (by unfold SSz; omega)
          exact hJ
        · exact absN c
      · exact absN c
    · exact absN c
theorem p_X7_allow {h : HI} {g : HL} (hC : CI h) {x1 : Int32} {x2 : Int32} {x3 : Int32}   : w_X7_allow x1 x2 x3 h g (fun h' g' => JJ (SSz) h h') := by
  unfold w_X7_allow
  have hJ : JJ (SSz) h h := JJ.rf
  refine ⟨fun c => ?_, fun c => ?_⟩
  · skip
    exact hJ
  · skip
    refine ⟨fun c => ?_, fun c => ?_⟩
    · skip
      exact hJ
    · skip
      refine ⟨fun c => ?_, fun c => ?_⟩
      · skip
        exact hJ
      · skip
        refine ⟨fun c => ?_, fun c => ?_⟩
        · skip
          refine c_i (p_atJ hC hJ nSSz gs_6) ?_
          rintro _ _ _ ⟨rfl, rfl, rfl⟩
          refine c_i (p_atJ hC hJ nSSz gs_6) ?_
          rintro _ _ _ ⟨rfl, rfl, rfl⟩
          refine c_i (p_atJ hC hJ nSSz gs_6) ?_
          rintro _ _ _ ⟨rfl, rfl, rfl⟩
          refine ⟨fun c => ?_, fun c => ?_⟩
          · skip
            unfold j_X7_allow_104
            refine ⟨fun c => ?_, fun c => ?_⟩
            · skip
              unfold j_X7_allow_125
              refine and_have (by first | with_reducible assumption | exact vin (by with_reducible assumption) (by with_reducible assumption) (by decide) | exact vinc (by with_reducible assumption) (by with_reducible assumption) (by decide) | exact vinw (by with_reducible assumption) (by with_reducible assumption) (by decide) (by decide) | exact vinl (by with_reducible assumption) (by with_reducible assumption) (by decide) | exact v60a (by with_reducible assumption) (by with_reducible assumption) | exact v60b (by with_reducible assumption) (by with_reducible assumption) | exact v60b' (by with_reducible assumption) (by with_reducible assumption) | exact v60c (by with_reducible assumption) (by with_reducible assumption) | exact v60d (by with_reducible assumption) (by with_reducible assumption)) (fun hv => ?_)
              intro h_125 e_h_125
              have hJ := hJ.hu e_h_125 (by unfold SSz; omega)
              refine ⟨fun c => ?_, fun c => ?_⟩
              · skip
                unfold j_X7_allow_147
                refine and_have (by first | with_reducible assumption | exact vin (by with_reducible assumption) (by with_reducible assumption) (by decide) | exact vinc (by with_reducible assumption) (by with_reducible assumption) (by decide) | exact vinw (by with_reducible assumption) (by with_reducible assumption) (by decide) (by decide) | exact vinl (by with_reducible assumption) (by with_reducible assumption) (by decide) | exact v60a (by with_reducible assumption) (by with_reducible assumption) | exact v60b (by with_reducible assumption) (by with_reducible assumption) | exact v60b' (by with_reducible assumption) (by with_reducible assumption) | exact v60c (by with_reducible assumption) (by with_reducible assumption) | exact v60d (by with_reducible assumption) (by with_reducible assumption)) (fun hv => ?_)
                intro h_147 e_h_147
                have hJ := hJ.hu e_h_147 (by unfold SSz; omega)
                refine and_have (by first | with_reducible assumption | exact vin (by with_reducible assumption) (by with_reducible assumption) (by decide) | exact vinc (by with_reducible assumption) (by with_reducible assumption) (by decide) | exact vinw (by with_reducible assumption) (by with_reducible assumption) (by decide) (by decide) | exact vinl (by with_reducible assumption) (by with_reducible assumption) (by decide) | exact v60a (by with_reducible assumption) (by with_reducible assumption) | exact v60b (by with_reducible assumption) (by with_reducible assumption) | exact v60b' (by with_reducible assumption) (by with_reducible assumption) | exact v60c (by with_reducible assumption) (by with_reducible assumption) | exact v60d (by with_reducible assumption) (by with_reducible assumption)) (fun hv => ?_)
                intro h_154 e_h_154
                have hJ := hJ.hu e_h_154 (by unfold SSz; omega)
                exact hJ
              · skip
                unfold j_X7_allow_147
                refine and_have (by first | with_reducible assumption | exact vin (by with_reducible assumption) (by with_reducible assumption) (by decide) | exact vinc (by with_reducible assumption) (by with_reducible assumption) (by decide) | exact vinw (by with_reducible assumption) (by with_reducible assumption) (by decide) (by decide) | exact vinl (by with_reducible assumption) (by with_reducible assumption) (by decide) | exact v60a (by with_reducible assumption) (by with_reducible assumption) | exact v60b (by with_reducible assumption) (by with_reducible assumption) | exact v60b' (by with_reducible assumption) (by with_reducible assumption) | exact v60c (by with_reducible assumption) (by with_reducible assumption) | exact v60d (by with_reducible assumption) (by with_reducible assumption)) (fun hv => ?_)
                intro h_147 e_h_147
                have hJ := hJ.hu e_h_147 (by unfold SSz; omega)
                refine and_have (by first | with_reducible assumption | exact vin (by with_reducible assumption) (by with_reducible assumption) (by decide) | exact vinc (by with_reducible assumption) (by with_reducible assumption) (by decide) | exact vinw (by with_reducible assumption) (by with_reducible assumption) (by decide) (by decide) | exact vinl (by with_reducible assumption) (by with_reducible assumption) (by decide) | exact v60a (by with_reducible assumption) (by with_reducible assumption) | exact v60b (by with_reducible assumption) (by with_reducible assumption) | exact v60b' (by with_reducible assumption) (by with_reducible assumption) | exact v60c (by with_reducible assumption) (by with_reducible assumption) | exact v60d (by with_reducible assumption) (by with_reducible assumption)) (fun hv => ?_)
                intro h_154 e_h_154
                have hJ := hJ.hu e_h_154 (by unfold SSz; omega)
                exact hJ
            · skip
              unfold j_X7_allow_125
              refine and_have (by first | with_reducible assumption | exact vin (by with_reducible assumption) (by with_reducible assumption) (by decide) | exact vinc (by with_reducible assumption) (by with_reducible assumption) (by decide) | exact vinw (by with_reducible assumption) (by with_reducible assumption) (by decide) (by decide) | exact vinl (by with_reducible assumption) (by with_reducible assumption) (by decide) | exact v60a (by with_reducible assumption) (by with_reducible assumption) | exact v60b (by with_reducible assumption) (by with_reducible assumption) | exact v60b' (by with_reducible assumption) (by with_reducible assumption) | exact v60c (by with_reducible assumption) (by with_reducible assumption) | exact v60d (by with_reducible assumption) (by with_reducible assumption)) (fun hv => ?_)
              intro h_125 e_h_125
              have hJ := hJ.hu e_h_125 (by unfold SSz; omega)
              refine ⟨fun c => ?_, fun c => ?_⟩
              · skip
                unfold j_X7_allow_147
                refine and_have (by first | with_reducible assumption | exact vin (by with_reducible assumption) (by with_reducible assumption) (by decide) | exact vinc (by with_reducible assumption) (by with_reducible assumption) (by decide) | exact vinw (by with_reducible assumption) (by with_reducible assumption) (by decide) (by decide) | exact vinl (by with_reducible assumption) (by with_reducible assumption) (by decide) | exact v60a (by with_reducible assumption) (by with_reducible assumption) | exact v60b (by with_reducible assumption) (by with_reducible assumption) | exact v60b' (by with_reducible assumption) (by with_reducible assumption) | exact v60c (by with_reducible assumption) (by with_reducible assumption) | exact v60d (by with_reducible assumption) (by with_reducible assumption)) (fun hv => ?_)
                intro h_147 e_h_147
                have hJ := hJ.hu e_h_147 (by unfold SSz; omega)
                refine and_have (by first | with_reducible assumption | exact vin (by with_reducible assumption) (by with_reducible assumption) (by decide) | exact vinc (by with_reducible assumption) (by with_reducible assumption) (by decide) | exact vinw (by with_reducible assumption) (by with_reducible assumption) (by decide) (by decide) | exact vinl (by with_reducible assumption) (by with_reducible assumption) (by decide) | exact v60a (by with_reducible assumption) (by with_reducible assumption) | exact v60b (by with_reducible assumption) (by with_reducible assumption) | exact v60b' (by with_reducible assumption) (by with_reducible assumption) | exact v60c (by with_reducible assumption) (by with_reducible assumption) | exact v60d (by with_reducible assumption) (by with_reducible assumption)) (fun hv => ?_)
                intro h_154 e_h_154
                have hJ := hJ.hu e_h_154 (by unfold SSz; omega)
                exact hJ
              · skip
                unfold j_X7_allow_147
                refine and_have (by first | with_reducible assumption | exact vin (by with_reducible assumption) (by with_reducible assumption) (by decide) | exact vinc (by with_reducible assumption) (by with_reducible assumption) (by decide) | exact vinw (by with_reducible assumption) (by with_reducible assumption) (by decide) (by decide) | exact vinl (by with_reducible assumption) (by with_reducible assumption) (by decide) | exact v60a (by with_reducible assumption) (by with_reducible assumption) | exact v60b (by with_reducible assumption) (by with_reducible assumption) | exact v60b' (by with_reducible assumption) (by with_reducible assumption) | exact v60c (by with_reducible assumption) (by with_reducible assumption) | exact v60d (by with_reducible assumption) (by with_reducible assumption)) (fun hv => ?_)
                intro h_147 e_h_147
                have hJ := hJ.hu e_h_147 (by unfold SSz; omega)
                refine and_have (by first | with_reducible assumption | exact vin (by with_reducible assumption) (by with_reducible assumption) (by decide) | exact vinc (by with_reducible assumption) (by with_reducible assumption) (by decide) | exact vinw (by with_reducible assumption) (by with_reducible assumption) (by decide) (by decide) | exact vinl (by with_reducible assumption) (by with_reducible assumption) (by decide) | exact v60a (by with_reducible assumption) (by with_reducible assumption) | exact v60b (by with_reducible assumption) (by with_reducible assumption) | exact v60b' (by with_reducible assumption) (by with_reducible assumption) | exact v60c (by with_reducible assumption) (by with_reducible assumption) | exact v60d (by with_reducible assumption) (by with_reducible assumption)) (fun hv => ?_)
                intro h_154 e_h_154
                have hJ := hJ.hu e_h_154 (by unfold SSz; omega)
                exact hJ
          · skip
            refine c_i (p_atJ hC hJ nSSz gs_6) ?_
            rintro _ _ _ ⟨rfl, rfl, rfl⟩
            refine c_i (p_X4_wornOf (hC.jj hJ nSSz) ) ?_
            rintro r_98 _ g_98 rfl
            rintro _ rfl
            unfold j_X7_allow_104
            refine ⟨fun c => ?_, fun c => ?_⟩
            · skip
              unfold j_X7_allow_125
              refine and_have (by first | with_reducible assumption | exact vin (by with_reducible assumption) (by with_reducible assumption) (by decide) | exact vinc (by with_reducible assumption) (by with_reducible assumption) (by decide) | exact vinw (by with_reducible assumption) (by with_reducible assumption) (by decide) (by decide) | exact vinl (by with_reducible assumption) (by with_reducible assumption) (by decide) | exact v60a (by with_reducible assumption) (by with_reducible assumption) | exact v60b (by with_reducible assumption) (by with_reducible assumption) | exact v60b' (by with_reducible assumption) (by with_reducible assumption) | exact v60c (by with_reducible assumption) (by with_reducible assumption) | exact v60d (by with_reducible assumption) (by with_reducible assumption)) (fun hv => ?_)
              intro h_125 e_h_125
              have hJ := hJ.hu e_h_125 (by unfold SSz; omega)
              refine ⟨fun c => ?_, fun c => ?_⟩
              · skip
                unfold j_X7_allow_147
                refine and_have (by first | with_reducible assumption | exact vin (by with_reducible assumption) (by with_reducible assumption) (by decide) | exact vinc (by with_reducible assumption) (by with_reducible assumption) (by decide) | exact vinw (by with_reducible assumption) (by with_reducible assumption) (by decide) (by decide) | exact vinl (by with_reducible assumption) (by with_reducible assumption) (by decide) | exact v60a (by with_reducible assumption) (by with_reducible assumption) | exact v60b (by with_reducible assumption) (by with_reducible assumption) | exact v60b' (by with_reducible assumption) (by with_reducible assumption) | exact v60c (by with_reducible assumption) (by with_reducible assumption) | exact v60d (by with_reducible assumption) (by with_reducible assumption)) (fun hv => ?_)
                intro h_147 e_h_147
                have hJ := hJ.hu e_h_147 (by unfold SSz; omega)
                refine and_have (by first | with_reducible assumption | exact vin (by with_reducible assumption) (by with_reducible assumption) (by decide) | exact vinc (by with_reducible assumption) (by with_reducible assumption) (by decide) | exact vinw (by with_reducible assumption) (by with_reducible assumption) (by decide) (by decide) | exact vinl (by with_reducible assumption) (by with_reducible assumption) (by decide) | exact v60a (by with_reducible assumption) (by with_reducible assumption) | exact v60b (by with_reducible assumption) (by with_reducible assumption) | exact v60b' (by with_reducible assumption) (by with_reducible assumption) | exact v60c (by with_reducible assumption) (by with_reducible assumption) | exact v60d (by with_reducible assumption) (by with_reducible assumption)) (fun hv => ?_)
                intro h_154 e_h_154
                have hJ := hJ.hu e_h_154 (by unfold SSz; omega)
                exact hJ
              · skip
                unfold j_X7_allow_147
                refine and_have (by first | with_reducible assumption | exact vin (by with_reducible assumption) (by with_reducible assumption) (by decide) | exact vinc (by with_reducible assumption) (by with_reducible assumption) (by decide) | exact vinw (by with_reducible assumption) (by with_reducible assumption) (by decide) (by decide) | exact vinl (by with_reducible assumption) (by with_reducible assumption) (by decide) | exact v60a (by with_reducible assumption) (by with_reducible assumption) | exact v60b (by with_reducible assumption) (by with_reducible assumption) | exact v60b' (by with_reducible assumption) (by with_reducible assumption) | exact v60c (by with_reducible assumption) (by with_reducible assumption) | exact v60d (by with_reducible assumption) (by with_reducible assumption)) (fun hv => ?_)
                intro h_147 e_h_147
                have hJ := hJ.hu e_h_147 (by unfold SSz; omega)
                refine and_have (by first | with_reducible assumption | exact vin (by with_reducible assumption) (by with_reducible assumption) (by decide) | exact vinc (by with_reducible assumption) (by with_reducible assumption) (by decide) | exact vinw (by with_reducible assumption) (by with_reducible assumption) (by decide) (by decide) | exact vinl (by with_reducible assumption) (by with_reducible assumption) (by decide) | exact v60a (by with_reducible assumption) (by with_reducible assumption) | exact v60b (by with_reducible assumption) (by with_reducible assumption) | exact v60b' (by with_reducible assumption) (by with_reducible assumption) | exact v60c (by with_reducible assumption) (by with_reducible assumption) | exact v60d (by with_reducible assumption) (by with_reducible assumption)) (fun hv => ?_)
                intro h_154 e_h_154
                have hJ := hJ.hu e_h_154 (by unfold SSz; omega)
                exact hJ
            · skip
              unfold j_X7_allow_125
              refine and_have (by first | with_reducible assumption | exact vin (by with_reducible assumption) (by with_reducible assumption) (by decide) | exact vinc (by with_reducible assumption) (by with_reducible assumption) (by decide) | exact vinw (by with_reducible assumption) (by with_reducible assumption) (by decide) (by decide) | exact vinl (by with_reducible assumption) (by with_reducible assumption) (by decide) | exact v60a (by with_reducible assumption) (by with_reducible assumption) | exact v60b (by with_reducible assumption) (by with_reducible assumption) | exact v60b' (by with_reducible assumption) (by with_reducible assumption) | exact v60c (by with_reducible assumption) (by with_reducible assumption) | exact v60d (by with_reducible assumption) (by with_reducible assumption)) (fun hv => ?_)
              intro h_125 e_h_125
              have hJ := hJ.hu e_h_125 (by unfold SSz; omega)
              refine ⟨fun c => ?_, fun c => ?_⟩
              · skip
                unfold j_X7_allow_147
                refine and_have (by first | with_reducible assumption | exact vin (by with_reducible assumption) (by with_reducible assumption) (by decide) | exact vinc (by with_reducible assumption) (by with_reducible assumption) (by decide) | exact vinw (by with_reducible assumption) (by with_reducible assumption) (by decide) (by decide) | exact vinl (by with_reducible assumption) (by with_reducible assumption) (by decide) | exact v60a (by with_reducible assumption) (by with_reducible assumption) | exact v60b (by with_reducible assumption) (by with_reducible assumption) | exact v60b' (by with_reducible assumption) (by with_reducible assumption) | exact v60c (by with_reducible assumption) (by with_reducible assumption) | exact v60d (by with_reducible assumption) (by with_reducible assumption)) (fun hv => ?_)
                intro h_147 e_h_147
                have hJ := hJ.hu e_h_147 (by unfold SSz; omega)
                refine and_have (by first | with_reducible assumption | exact vin (by with_reducible assumption) (by with_reducible assumption) (by decide) | exact vinc (by with_reducible assumption) (by with_reducible assumption) (by decide) | exact vinw (by with_reducible assumption) (by with_reducible assumption) (by decide) (by decide) | exact vinl (by with_reducible assumption) (by with_reducible assumption) (by decide) | exact v60a (by with_reducible assumption) (by with_reducible assumption) | exact v60b (by with_reducible assumption) (by with_reducible assumption) | exact v60b' (by with_reducible assumption) (by with_reducible assumption) | exact v60c (by with_reducible assumption) (by with_reducible assumption) | exact v60d (by with_reducible assumption) (by with_reducible assumption)) (fun hv => ?_)
                intro h_154 e_h_154
                have hJ := hJ.hu e_h_154 (by unfold SSz; omega)
                exact hJ
              · skip
                unfold j_X7_allow_147
                refine and_have (by first | with_reducible assumption | exact vin (by with_reducible assumption) (by with_reducible assumption) (by decide) | exact vinc (by with_reducible assumption) (by with_reducible assumption) (by decide) | exact vinw (by with_reducible assumption) (by with_reducible assumption) (by decide) (by decide) | exact vinl (by with_reducible assumption) (by with_reducible assumption) (by decide) | exact v60a (by with_reducible assumption) (by with_reducible assumption) | exact v60b (by with_reducible assumption) (by with_reducible assumption) | exact v60b' (by with_reducible assumption) (by with_reducible assumption) | exact v60c (by with_reducible assumption) (by with_reducible assumption) | exact v60d (by with_reducible assumption) (by with_reducible assumption)) (fun hv => ?_)
                intro h_147 e_h_147
                have hJ := hJ.hu e_h_147 (by unfold SSz; omega)
                refine and_have (by first | with_reducible assumption | exact vin (by with_reducible assumption) (by with_reducible assumption) (by decide) | exact vinc (by with_reducible assumption) (by with_reducible assumption) (by decide) | exact vinw (by with_reducible assumption) (by with_reducible assumption) (by decide) (by decide) | exact vinl (by with_reducible assumption) (by with_reducible assumption) (by decide) | exact v60a (by with_reducible assumption) (by with_reducible assumption) | exact v60b (by with_reducible assumption) (by with_reducible assumption) | exact v60b' (by with_reducible assumption) (by with_reducible assumption) | exact v60c (by with_reducible assumption) (by with_reducible assumption) | exact v60d (by with_reducible assumption) (by with_reducible assumption)) (fun hv => ?_)
                intro h_154 e_h_154
                have hJ := hJ.hu e_h_154 (by unfold SSz; omega)
                exact hJ
        · skip
          exact hJ
theorem p_X7_placeFrom {h : HI} {g : HL} (hC : CI h) {x1 : Int32}   : w_X7_placeFrom x1 h g (fun r h' g' => h = h' ∧ g = g') := by
  unfold w_X7_placeFrom
  refine ⟨fun c => ?_, fun c => ?_⟩
  · skip
    unfold j_X7_placeFrom_16
    exact ⟨rfl, rfl⟩
  · skip
    refine ⟨fun c => ?_, fun c => ?_⟩
    · skip
      refine and_have (by exact ne1 (by with_reducible assumption)) (fun hv => ?_)
      exact ⟨rfl, rfl⟩
    · skip
      unfold j_X7_placeFrom_16
      exact ⟨rfl, rfl⟩
theorem p_X7_chooseSizes {h : HI} {g : HL} (hC : CI h)    : w_X7_chooseSizes h g (fun h' g' => JJ (SSz) h h') := by
  unfold w_X7_chooseSizes
  have hJ : JJ (SSz) h h := JJ.rf
  refine lpE_intro (fun ⟨x1_q, x2_q, x3_q, h_q, g_q⟩ => JJ (SSz) h h_q ∧ ¬ x3_q < 0 ∧ True) (fun ⟨x1_q, x2_q, x3_q, h_q, g_q⟩ => dif (60 : Int32) x3_q) ?_ _ ⟨hJ, nn0, trivial⟩
  rintro ⟨x1_1, x2_1, x3_1, h_1, g_1⟩ K1 ⟨hJ, i1_0, -⟩ hK1
  unfold F_X7_chooseSizes_8; dsimp only; unfold b_X7_chooseSizes_8
  refine ⟨fun c => ?_, fun c => ?_⟩
  · skip
    unfold j_X7_chooseSizes_62
    refine c_i (p_X7_placeFrom (hC.jj hJ nSSz) ) ?_
    rintro r_64 _ _ ⟨rfl, rfl⟩
    refine ⟨fun c => ?_, fun c => ?_⟩
    · skip
      unfold j_X7_chooseSizes_84
      unfold j_X7_chooseSizes_106
      intro h_119 e_h_119
      have hJ := hJ.hu e_h_119 (by unfold SSz; omega)
      refine ⟨fun c => ?_, fun c => ?_⟩
      · skip
        unfold j_X7_chooseSizes_145
        intro h_145 e_h_145
        have hJ := hJ.hu e_h_145 (by unfold SSz; omega)
        refine ⟨fun c => ?_, fun c => ?_⟩
        · skip
          unfold j_X7_chooseSizes_172
          intro h_172 e_h_172
          have hJ := hJ.hu e_h_172 (by unfold SSz; omega)
          exact hJ
        · skip
          unfold j_X7_chooseSizes_172
          intro h_172 e_h_172
          have hJ := hJ.hu e_h_172 (by unfold SSz; omega)
          exact hJ
      · skip
        unfold j_X7_chooseSizes_145
        intro h_145 e_h_145
        have hJ := hJ.hu e_h_145 (by unfold SSz; omega)
        refine ⟨fun c => ?_, fun c => ?_⟩
        · skip
          unfold j_X7_chooseSizes_172
          intro h_172 e_h_172
          have hJ := hJ.hu e_h_172 (by unfold SSz; omega)
          exact hJ
        · skip
          unfold j_X7_chooseSizes_172
          intro h_172 e_h_172
          have hJ := hJ.hu e_h_172 (by unfold SSz; omega)
          exact hJ
    · skip
      refine ⟨fun c => ?_, fun c => ?_⟩
      · skip
        refine and_have (by exact ne1 (by with_reducible assumption)) (fun hv => ?_)
        unfold j_X7_chooseSizes_106
        intro h_119 e_h_119
        have hJ := hJ.hu e_h_119 (by unfold SSz; omega)
        refine ⟨fun c => ?_, fun c => ?_⟩
        · skip
          unfold j_X7_chooseSizes_145
          intro h_145 e_h_145
          have hJ := hJ.hu e_h_145 (by unfold SSz; omega)
          refine ⟨fun c => ?_, fun c => ?_⟩
          · skip
            unfold j_X7_chooseSizes_172
            intro h_172 e_h_172
            have hJ := hJ.hu e_h_172 (by unfold SSz; omega)
            exact hJ
          · skip
            unfold j_X7_chooseSizes_172
            intro h_172 e_h_172
            have hJ := hJ.hu e_h_172 (by unfold SSz; omega)
            exact hJ
        · skip
          unfold j_X7_chooseSizes_145
          intro h_145 e_h_145
          have hJ := hJ.hu e_h_145 (by unfold SSz; omega)
          refine ⟨fun c => ?_, fun c => ?_⟩
          · skip
            unfold j_X7_chooseSizes_172
            intro h_172 e_h_172
            have hJ := hJ.hu e_h_172 (by unfold SSz; omega)
            exact hJ
          · skip
            unfold j_X7_chooseSizes_172
            intro h_172 e_h_172
            have hJ := hJ.hu e_h_172 (by unfold SSz; omega)
            exact hJ
      · skip
        unfold j_X7_chooseSizes_84
        unfold j_X7_chooseSizes_106
        intro h_119 e_h_119
        have hJ := hJ.hu e_h_119 (by unfold SSz; omega)
        refine ⟨fun c => ?_, fun c => ?_⟩
        · skip
          unfold j_X7_chooseSizes_145
          intro h_145 e_h_145
          have hJ := hJ.hu e_h_145 (by unfold SSz; omega)
          refine ⟨fun c => ?_, fun c => ?_⟩
          · skip
            unfold j_X7_chooseSizes_172
            intro h_172 e_h_172
            have hJ := hJ.hu e_h_172 (by unfold SSz; omega)
            exact hJ
          · skip
            unfold j_X7_chooseSizes_172
            intro h_172 e_h_172
            have hJ := hJ.hu e_h_172 (by unfold SSz; omega)
            exact hJ
        · skip
          unfold j_X7_chooseSizes_145
          intro h_145 e_h_145
          have hJ := hJ.hu e_h_145 (by unfold SSz; omega)
          refine ⟨fun c => ?_, fun c => ?_⟩
          · skip
            unfold j_X7_chooseSizes_172
            intro h_172 e_h_172
            have hJ := hJ.hu e_h_172 (by unfold SSz; omega)
            exact hJ
          · skip
            unfold j_X7_chooseSizes_172
            intro h_172 e_h_172
            have hJ := hJ.hu e_h_172 (by unfold SSz; omega)
            exact hJ
  · skip
    refine ⟨fun c => ?_, fun c => ?_⟩
    · skip
      unfold j_X7_chooseSizes_62
      refine c_i (p_X7_placeFrom (hC.jj hJ nSSz) ) ?_
      rintro r_64 _ _ ⟨rfl, rfl⟩
      refine ⟨fun c => ?_, fun c => ?_⟩
      · skip
        unfold j_X7_chooseSizes_84
        unfold j_X7_chooseSizes_106
        intro h_119 e_h_119
        have hJ := hJ.hu e_h_119 (by unfold SSz; omega)
        refine ⟨fun c => ?_, fun c => ?_⟩
        · skip
          unfold j_X7_chooseSizes_145
          intro h_145 e_h_145
          have hJ := hJ.hu e_h_145 (by unfold SSz; omega)
          refine ⟨fun c => ?_, fun c => ?_⟩
          · skip
            unfold j_X7_chooseSizes_172
            intro h_172 e_h_172
            have hJ := hJ.hu e_h_172 (by unfold SSz; omega)
            exact hJ
          · skip
            unfold j_X7_chooseSizes_172
            intro h_172 e_h_172
            have hJ := hJ.hu e_h_172 (by unfold SSz; omega)
            exact hJ
        · skip
          unfold j_X7_chooseSizes_145
          intro h_145 e_h_145
          have hJ := hJ.hu e_h_145 (by unfold SSz; omega)
          refine ⟨fun c => ?_, fun c => ?_⟩
          · skip
            unfold j_X7_chooseSizes_172
            intro h_172 e_h_172
            have hJ := hJ.hu e_h_172 (by unfold SSz; omega)
            exact hJ
          · skip
            unfold j_X7_chooseSizes_172
            intro h_172 e_h_172
            have hJ := hJ.hu e_h_172 (by unfold SSz; omega)
            exact hJ
      · skip
        refine ⟨fun c => ?_, fun c => ?_⟩
        · skip
          refine and_have (by exact ne1 (by with_reducible assumption)) (fun hv => ?_)
          unfold j_X7_chooseSizes_106
          intro h_119 e_h_119
          have hJ := hJ.hu e_h_119 (by unfold SSz; omega)
          refine ⟨fun c => ?_, fun c => ?_⟩
          · skip
            unfold j_X7_chooseSizes_145
            intro h_145 e_h_145
            have hJ := hJ.hu e_h_145 (by unfold SSz; omega)
            refine ⟨fun c => ?_, fun c => ?_⟩
            · skip
              unfold j_X7_chooseSizes_172
              intro h_172 e_h_172
              have hJ := hJ.hu e_h_172 (by unfold SSz; omega)
              exact hJ
            · skip
              unfold j_X7_chooseSizes_172
              intro h_172 e_h_172
              have hJ := hJ.hu e_h_172 (by unfold SSz; omega)
              exact hJ
          · skip
            unfold j_X7_chooseSizes_145
            intro h_145 e_h_145
            have hJ := hJ.hu e_h_145 (by unfold SSz; omega)
            refine ⟨fun c => ?_, fun c => ?_⟩
            · skip
              unfold j_X7_chooseSizes_172
              intro h_172 e_h_172
              have hJ := hJ.hu e_h_172 (by unfold SSz; omega)
              exact hJ
            · skip
              unfold j_X7_chooseSizes_172
              intro h_172 e_h_172
              have hJ := hJ.hu e_h_172 (by unfold SSz; omega)
              exact hJ
        · skip
          unfold j_X7_chooseSizes_84
          unfold j_X7_chooseSizes_106
          intro h_119 e_h_119
          have hJ := hJ.hu e_h_119 (by unfold SSz; omega)
          refine ⟨fun c => ?_, fun c => ?_⟩
          · skip
            unfold j_X7_chooseSizes_145
            intro h_145 e_h_145
            have hJ := hJ.hu e_h_145 (by unfold SSz; omega)
            refine ⟨fun c => ?_, fun c => ?_⟩
            · skip
              unfold j_X7_chooseSizes_172
              intro h_172 e_h_172
              have hJ := hJ.hu e_h_172 (by unfold SSz; omega)
              exact hJ
            · skip
              unfold j_X7_chooseSizes_172
              intro h_172 e_h_172
              have hJ := hJ.hu e_h_172 (by unfold SSz; omega)
              exact hJ
          · skip
            unfold j_X7_chooseSizes_145
            intro h_145 e_h_145
            have hJ := hJ.hu e_h_145 (by unfold SSz; omega)
            refine ⟨fun c => ?_, fun c => ?_⟩
            · skip
              unfold j_X7_chooseSizes_172
              intro h_172 e_h_172
              have hJ := hJ.hu e_h_172 (by unfold SSz; omega)
              exact hJ
            · skip
              unfold j_X7_chooseSizes_172
              intro h_172 e_h_172
              have hJ := hJ.hu e_h_172 (by unfold SSz; omega)
              exact hJ
    · skip
      refine ⟨fun c => ?_, fun c => ?_⟩
      · skip
        unfold j_X7_chooseSizes_62
        refine c_i (p_X7_placeFrom (hC.jj hJ nSSz) ) ?_
        rintro r_64 _ _ ⟨rfl, rfl⟩
        refine ⟨fun c => ?_, fun c => ?_⟩
        · skip
          unfold j_X7_chooseSizes_84
          unfold j_X7_chooseSizes_106
          intro h_119 e_h_119
          have hJ := hJ.hu e_h_119 (by unfold SSz; omega)
          refine ⟨fun c => ?_, fun c => ?_⟩
          · skip
            unfold j_X7_chooseSizes_145
            intro h_145 e_h_145
            have hJ := hJ.hu e_h_145 (by unfold SSz; omega)
            refine ⟨fun c => ?_, fun c => ?_⟩
            · skip
              unfold j_X7_chooseSizes_172
              intro h_172 e_h_172
              have hJ := hJ.hu e_h_172 (by unfold SSz; omega)
              exact hJ
            · skip
              unfold j_X7_chooseSizes_172
              intro h_172 e_h_172
              have hJ := hJ.hu e_h_172 (by unfold SSz; omega)
              exact hJ
          · skip
            unfold j_X7_chooseSizes_145
            intro h_145 e_h_145
            have hJ := hJ.hu e_h_145 (by unfold SSz; omega)
            refine ⟨fun c => ?_, fun c => ?_⟩
            · skip
              unfold j_X7_chooseSizes_172
              intro h_172 e_h_172
              have hJ := hJ.hu e_h_172 (by unfold SSz; omega)
              exact hJ
            · skip
              unfold j_X7_chooseSizes_172
              intro h_172 e_h_172
              have hJ := hJ.hu e_h_172 (by unfold SSz; omega)
              exact hJ
        · skip
          refine ⟨fun c => ?_, fun c => ?_⟩
          · skip
            refine and_have (by exact ne1 (by with_reducible assumption)) (fun hv => ?_)
            unfold j_X7_chooseSizes_106
            intro h_119 e_h_119
            have hJ := hJ.hu e_h_119 (by unfold SSz; omega)
            refine ⟨fun c => ?_, fun c => ?_⟩
            · skip
              unfold j_X7_chooseSizes_145
              intro h_145 e_h_145
              have hJ := hJ.hu e_h_145 (by unfold SSz; omega)
              refine ⟨fun c => ?_, fun c => ?_⟩
              · skip
                unfold j_X7_chooseSizes_172
                intro h_172 e_h_172
                have hJ := hJ.hu e_h_172 (by unfold SSz; omega)
                exact hJ
              · skip
                unfold j_X7_chooseSizes_172
                intro h_172 e_h_172
                have hJ := hJ.hu e_h_172 (by unfold SSz; omega)
                exact hJ
            · skip
              unfold j_X7_chooseSizes_145
              intro h_145 e_h_145
              have hJ := hJ.hu e_h_145 (by unfold SSz; omega)
              refine ⟨fun c => ?_, fun c => ?_⟩
              · skip
                unfold j_X7_chooseSizes_172
                intro h_172 e_h_172
                have hJ := hJ.hu e_h_172 (by unfold SSz; omega)
                exact hJ
              · skip
                unfold j_X7_chooseSizes_172
                intro h_172 e_h_172
                have hJ := hJ.hu e_h_172 (by unfold SSz; omega)
                exact hJ
          · skip
            unfold j_X7_chooseSizes_84
            unfold j_X7_chooseSizes_106
            intro h_119 e_h_119
            have hJ := hJ.hu e_h_119 (by unfold SSz; omega)
            refine ⟨fun c => ?_, fun c => ?_⟩
            · skip
              unfold j_X7_chooseSizes_145
              intro h_145 e_h_145
              have hJ := hJ.hu e_h_145 (by unfold SSz; omega)
              refine ⟨fun c => ?_, fun c => ?_⟩
              · skip
                unfold j_X7_chooseSizes_172
                intro h_172 e_h_172
                have hJ := hJ.hu e_h_172 (by unfold SSz; omega)
                exact hJ
              · skip
                unfold j_X7_chooseSizes_172
                intro h_172 e_h_172
                have hJ := hJ.hu e_h_172 (by unfold SSz; omega)
                exact hJ
            · skip
              unfold j_X7_chooseSizes_145
              intro h_145 e_h_145
              have hJ := hJ.hu e_h_145 (by unfold SSz; omega)
              refine ⟨fun c => ?_, fun c => ?_⟩
              · skip
                unfold j_X7_chooseSizes_172
                intro h_172 e_h_172
                have hJ := hJ.hu e_h_172 (by unfold SSz; omega)
                exact hJ
              · skip
                unfold j_X7_chooseSizes_172
                intro h_172 e_h_172
                have hJ := hJ.hu e_h_172 (by unfold SSz; omega)
                exact hJ
      · skip
        refine and_have (by first | with_reducible assumption | exact vin (by with_reducible assumption) (by with_reducible assumption) (by decide) | exact vinc (by with_reducible assumption) (by with_reducible assumption) (by decide) | exact vinw (by with_reducible assumption) (by with_reducible assumption) (by decide) (by decide) | exact vinl (by with_reducible assumption) (by with_reducible assumption) (by decide) | exact v60a (by with_reducible assumption) (by with_reducible assumption) | exact v60b (by with_reducible assumption) (by with_reducible assumption) | exact v60b' (by with_reducible assumption) (by with_reducible assumption) | exact v60c (by with_reducible assumption) (by with_reducible assumption) | exact v60d (by with_reducible assumption) (by with_reducible assumption)) (fun hv => ?_)
        rintro _ rfl
        refine and_have (by first | with_reducible assumption | exact vin (by with_reducible assumption) (by with_reducible assumption) (by decide) | exact vinc (by with_reducible assumption) (by with_reducible assumption) (by decide) | exact vinw (by with_reducible assumption) (by with_reducible assumption) (by decide) (by decide) | exact vinl (by with_reducible assumption) (by with_reducible assumption) (by decide) | exact v60a (by with_reducible assumption) (by with_reducible assumption) | exact v60b (by with_reducible assumption) (by with_reducible assumption) | exact v60b' (by with_reducible assumption) (by with_reducible assumption) | exact v60c (by with_reducible assumption) (by with_reducible assumption) | exact v60d (by with_reducible assumption) (by with_reducible assumption)) (fun hv => ?_)
        rintro _ rfl
        rintro _ rfl
        exact hK1 _ ⟨hJ, (inc_nn (by with_reducible assumption) (by with_reducible assumption)), trivial⟩ (dif_lt (by with_reducible assumption))
theorem p_X7_find {h : HI} {g : HL} (hC : CI h) {x1 : Int32}   : w_X7_find x1 h g (fun h' g' => JJ (SSz) h h') := by
  unfold w_X7_find
  have hJ : JJ (SSz) h h := JJ.rf
  refine c_i (p_atJ hC hJ nSSz gs_2) ?_
  rintro _ _ _ ⟨rfl, rfl, rfl⟩
  refine c_v (p_X7_chooseFamily (hC.jj hJ nSSz) ) ?_
  rintro h_13 g_13 hJ2
  have hJ := hJ.tr (hJ2)
  intro h_18 e_h_18
  have hJ := hJ.hu e_h_18 (by unfold SSz; omega)
  refine lpE_intro (fun ⟨x1_q, x2_q, h_q, g_q⟩ => JJ (SSz) h h_q ∧ x1 = x1_q ∧ True) (fun ⟨x1_q, x2_q, h_q, g_q⟩ => dif (h 6 3) x2_q) ?_ _ ⟨hJ, rfl, trivial⟩
  rintro ⟨x1_1, x2_1, h_1, g_1⟩ K1 ⟨hJ, rfl, -⟩ hK1
  unfold F_X7_find_23; dsimp only; unfold b_X7_find_23
  refine c_i (p_rowsJ hJ nSSz gs_6) ?_
  rintro _ _ _ ⟨rfl, rfl, rfl⟩
  refine ⟨fun c => ?_, fun c => ?_⟩
  · skip
    refine c_v (p_X7_chooseSizes (hC.jj hJ nSSz) ) ?_
    rintro h_117 g_117 hJ2
    have hJ := hJ.tr (hJ2)
    exact hJ
  · skip
    refine c_i (p_atJ hC hJ nSSz gs_6) ?_
    rintro _ _ _ ⟨rfl, rfl, rfl⟩
    refine ⟨fun c => ?_, fun c => ?_⟩
    · skip
      unfold j_X7_find_72
      unfold j_X7_find_73
      refine ⟨fun c => ?_, fun c => ?_⟩
      · skip
        unfold j_X7_find_110
        rintro _ rfl
        exact hK1 _ ⟨hJ, rfl, trivial⟩ (dif_lt (by with_reducible assumption))
      · exact absN c
    · skip
      refine c_i (p_atJ hC hJ nSSz gs_6) ?_
      rintro _ _ _ ⟨rfl, rfl, rfl⟩
      refine ⟨fun c => ?_, fun c => ?_⟩
      · skip
        unfold j_X7_find_72
        unfold j_X7_find_73
        refine ⟨fun c => ?_, fun c => ?_⟩
        · skip
          unfold j_X7_find_110
          rintro _ rfl
          exact hK1 _ ⟨hJ, rfl, trivial⟩ (dif_lt (by with_reducible assumption))
        · exact absN c
      · skip
        unfold j_X7_find_73
        refine ⟨fun c => ?_, fun c => ?_⟩
        · exact absI c
        · skip
          refine ⟨fun c => ?_, fun c => ?_⟩
          · skip
            unfold j_X7_find_110
            rintro _ rfl
            exact hK1 _ ⟨hJ, rfl, trivial⟩ (dif_lt (by with_reducible assumption))
          · skip
            refine c_v (p_X7_allow (hC.jj hJ nSSz) ) ?_
            rintro h_97 g_97 hJ2
            have hJ := hJ.tr (hJ2)
            intro h_107 e_h_107
            have hJ := hJ.hu e_h_107 (by unfold SSz; omega)
            unfold j_X7_find_110
            rintro _ rfl
            exact hK1 _ ⟨hJ, rfl, trivial⟩ (dif_lt (by with_reducible assumption))
theorem p_X7_answer {h : HI} {g : HL} (hC : CI h) {x1 : Int32}   : w_X7_answer x1 h g (fun r h' g' => h = h' ∧ g = g') := by
  unfold w_X7_answer
  refine ⟨fun c => ?_, fun c => ?_⟩
  · skip
    refine ⟨fun c => ?_, fun c => ?_⟩
    · skip
      exact ⟨rfl, rfl⟩
    · skip
      exact ⟨rfl, rfl⟩
  · skip
    exact ⟨rfl, rfl⟩
theorem p_X7_denies {h : HI} {g : HL} (hC : CI h) {x1 : Int32} {x2 : Int32}   : w_X7_denies x1 x2 h g (fun r h' g' => h = h' ∧ g = g') := by
  unfold w_X7_denies
  refine ⟨fun c => ?_, fun c => ?_⟩
  · skip
    exact ⟨rfl, rfl⟩
  · skip
    refine ⟨fun c => ?_, fun c => ?_⟩
    · skip
      exact ⟨rfl, rfl⟩
    · skip
      refine ⟨fun c => ?_, fun c => ?_⟩
      · skip
        exact ⟨rfl, rfl⟩
      · skip
        refine and_have (by first | with_reducible assumption | exact vin (by with_reducible assumption) (by with_reducible assumption) (by decide) | exact vinc (by with_reducible assumption) (by with_reducible assumption) (by decide) | exact vinw (by with_reducible assumption) (by with_reducible assumption) (by decide) (by decide) | exact vinl (by with_reducible assumption) (by with_reducible assumption) (by decide) | exact v60a (by with_reducible assumption) (by with_reducible assumption) | exact v60b (by with_reducible assumption) (by with_reducible assumption) | exact v60b' (by with_reducible assumption) (by with_reducible assumption) | exact v60c (by with_reducible assumption) (by with_reducible assumption) | exact v60d (by with_reducible assumption) (by with_reducible assumption)) (fun hv => ?_)
        refine ⟨fun c => ?_, fun c => ?_⟩
        · skip
          unfold j_X7_denies_42
          exact ⟨rfl, rfl⟩
        · skip
          refine and_have (by first | with_reducible assumption | exact vin (by with_reducible assumption) (by with_reducible assumption) (by decide) | exact vinc (by with_reducible assumption) (by with_reducible assumption) (by decide) | exact vinw (by with_reducible assumption) (by with_reducible assumption) (by decide) (by decide) | exact vinl (by with_reducible assumption) (by with_reducible assumption) (by decide) | exact v60a (by with_reducible assumption) (by with_reducible assumption) | exact v60b (by with_reducible assumption) (by with_reducible assumption) | exact v60b' (by with_reducible assumption) (by with_reducible assumption) | exact v60c (by with_reducible assumption) (by with_reducible assumption) | exact v60d (by with_reducible assumption) (by with_reducible assumption)) (fun hv => ?_)
          refine ⟨fun c => ?_, fun c => ?_⟩
          · skip
            exact ⟨rfl, rfl⟩
          · skip
            unfold j_X7_denies_42
            exact ⟨rfl, rfl⟩
theorem p_X7_against {h : HI} {g : HL} (hC : CI h) {x1 : Int32}   : w_X7_against x1 h g (fun r h' g' => h = h' ∧ g = g') := by
  unfold w_X7_against
  refine lpE_intro (fun ⟨x1_q, x2_q, x3_q, h_q, g_q⟩ => x1 = x1_q ∧ h = h_q ∧ g = g_q ∧ True) (fun ⟨x1_q, x2_q, x3_q, h_q, g_q⟩ => dif (h 81 5) x3_q) ?_ _ ⟨rfl, rfl, rfl, trivial⟩
  rintro ⟨x1_1, x2_1, x3_1, h_1, g_1⟩ K1 ⟨rfl, rfl, rfl, -⟩ hK1
  unfold F_X7_against_4; dsimp only; unfold b_X7_against_4
  refine ⟨fun c => ?_, fun c => ?_⟩
  · skip
    exact ⟨rfl, rfl⟩
  · skip
    refine c_z (p_X7_denies hC ) ?_
    rintro r_15 _ _ ⟨rfl, rfl⟩
    refine ⟨fun c => ?_, fun c => ?_⟩
    · skip
      unfold j_X7_against_24
      rintro _ rfl
      exact hK1 _ ⟨rfl, rfl, rfl, trivial⟩ (dif_lt (by with_reducible assumption))
    · skip
      rintro _ rfl
      unfold j_X7_against_24
      rintro _ rfl
      exact hK1 _ ⟨rfl, rfl, rfl, trivial⟩ (dif_lt (by with_reducible assumption))
theorem p_X7_leastDisputed {h : HI} {g : HL} (hC : CI h)    : w_X7_leastDisputed h g (fun r h' g' => h = h' ∧ g = g') := by
  unfold w_X7_leastDisputed
  rintro _ rfl
  refine c_i (p_X7_against hC ) ?_
  rintro r_10 _ _ ⟨rfl, rfl⟩
  refine lpE_intro (fun ⟨x1_q, x2_q, x3_q, h_q, g_q⟩ => h = h_q ∧ g = g_q ∧ ¬ x3_q < 0 ∧ True) (fun ⟨x1_q, x2_q, x3_q, h_q, g_q⟩ => dif (60 : Int32) x3_q) ?_ _ ⟨rfl, rfl, nn0, trivial⟩
  rintro ⟨x1_1, x2_1, x3_1, h_1, g_1⟩ K1 ⟨rfl, rfl, i1_0, -⟩ hK1
  unfold F_X7_leastDisputed_16; dsimp only; unfold b_X7_leastDisputed_16
  refine ⟨fun c => ?_, fun c => ?_⟩
  · skip
    exact ⟨rfl, rfl⟩
  · skip
    refine ⟨fun c => ?_, fun c => ?_⟩
    · skip
      exact ⟨rfl, rfl⟩
    · skip
      refine and_have (by first | with_reducible assumption | exact vin (by with_reducible assumption) (by with_reducible assumption) (by decide) | exact vinc (by with_reducible assumption) (by with_reducible assumption) (by decide) | exact vinw (by with_reducible assumption) (by with_reducible assumption) (by decide) (by decide) | exact vinl (by with_reducible assumption) (by with_reducible assumption) (by decide) | exact v60a (by with_reducible assumption) (by with_reducible assumption) | exact v60b (by with_reducible assumption) (by with_reducible assumption) | exact v60b' (by with_reducible assumption) (by with_reducible assumption) | exact v60c (by with_reducible assumption) (by with_reducible assumption) | exact v60d (by with_reducible assumption) (by with_reducible assumption)) (fun hv => ?_)
      refine c_i (p_X7_placeFrom hC ) ?_
      rintro r_40 _ _ ⟨rfl, rfl⟩
      refine ⟨fun c => ?_, fun c => ?_⟩
      · skip
        rintro _ rfl
        refine c_i (p_X7_against hC ) ?_
        rintro r_74 _ _ ⟨rfl, rfl⟩
        refine ⟨fun c => ?_, fun c => ?_⟩
        · skip
          unfold j_X7_leastDisputed_97
          unfold j_X7_leastDisputed_103
          rintro _ rfl
          exact hK1 _ ⟨rfl, rfl, (inc_nn (by with_reducible assumption) (by with_reducible assumption)), trivial⟩ (dif_lt (by with_reducible assumption))
        · skip
          refine ⟨fun c => ?_, fun c => ?_⟩
          · skip
            unfold j_X7_leastDisputed_103
            rintro _ rfl
            exact hK1 _ ⟨rfl, rfl, (inc_nn (by with_reducible assumption) (by with_reducible assumption)), trivial⟩ (dif_lt (by with_reducible assumption))
          · skip
            refine ⟨fun c => ?_, fun c => ?_⟩
            · skip
              unfold j_X7_leastDisputed_103
              rintro _ rfl
              exact hK1 _ ⟨rfl, rfl, (inc_nn (by with_reducible assumption) (by with_reducible assumption)), trivial⟩ (dif_lt (by with_reducible assumption))
            · skip
              unfold j_X7_leastDisputed_97
              unfold j_X7_leastDisputed_103
              rintro _ rfl
              exact hK1 _ ⟨rfl, rfl, (inc_nn (by with_reducible assumption) (by with_reducible assumption)), trivial⟩ (dif_lt (by with_reducible assumption))
      · skip
        unfold j_X7_leastDisputed_103
        rintro _ rfl
        exact hK1 _ ⟨rfl, rfl, (inc_nn (by with_reducible assumption) (by with_reducible assumption)), trivial⟩ (dif_lt (by with_reducible assumption))
theorem p_X7_objector {h : HI} {g : HL} (hC : CI h) {x1 : Int32} {x2 : Int32}   : w_X7_objector x1 x2 h g (fun r h' g' => h = h' ∧ g = g') := by
  unfold w_X7_objector
  refine lpE_intro (fun ⟨x1_q, x2_q, x3_q, x4_q, h_q, g_q⟩ => x1 = x1_q ∧ x2 = x2_q ∧ h = h_q ∧ g = g_q ∧ ¬ x4_q < 0 ∧ True) (fun ⟨x1_q, x2_q, x3_q, x4_q, h_q, g_q⟩ => dif (60 : Int32) x4_q) ?_ _ ⟨rfl, rfl, rfl, rfl, nn0, trivial⟩
  rintro ⟨x1_1, x2_1, x3_1, x4_1, h_1, g_1⟩ K1 ⟨rfl, rfl, rfl, rfl, i1_0, -⟩ hK1
  unfold F_X7_objector_5; dsimp only; unfold b_X7_objector_5
  refine ⟨fun c => ?_, fun c => ?_⟩
  · skip
    exact ⟨rfl, rfl⟩
  · skip
    refine ⟨fun c => ?_, fun c => ?_⟩
    · skip
      exact ⟨rfl, rfl⟩
    · skip
      refine c_z (p_X7_denies hC ) ?_
      rintro r_28 _ _ ⟨rfl, rfl⟩
      refine ⟨fun c => ?_, fun c => ?_⟩
      · skip
        refine ⟨fun c => ?_, fun c => ?_⟩
        · skip
          rintro _ rfl
          unfold j_X7_objector_53
          rintro _ rfl
          exact hK1 _ ⟨rfl, rfl, rfl, rfl, (inc_nn (by with_reducible assumption) (by with_reducible assumption)), trivial⟩ (dif_lt (by with_reducible assumption))
        · skip
          refine and_have (by first | with_reducible assumption | exact vin (by with_reducible assumption) (by with_reducible assumption) (by decide) | exact vinc (by with_reducible assumption) (by with_reducible assumption) (by decide) | exact vinw (by with_reducible assumption) (by with_reducible assumption) (by decide) (by decide) | exact vinl (by with_reducible assumption) (by with_reducible assumption) (by decide) | exact v60a (by with_reducible assumption) (by with_reducible assumption) | exact v60b (by with_reducible assumption) (by with_reducible assumption) | exact v60b' (by with_reducible assumption) (by with_reducible assumption) | exact v60c (by with_reducible assumption) (by with_reducible assumption) | exact v60d (by with_reducible assumption) (by with_reducible assumption)) (fun hv => ?_)
          exact ⟨rfl, rfl⟩
      · skip
        unfold j_X7_objector_53
        rintro _ rfl
        exact hK1 _ ⟨rfl, rfl, rfl, rfl, (inc_nn (by with_reducible assumption) (by with_reducible assumption)), trivial⟩ (dif_lt (by with_reducible assumption))
theorem p_X2_take {h : HI} {g : HL} (hC : CI h) {x1 : Int32} {x2 : Int32} {x3 : Int32}   : w_X2_take x1 x2 x3 h g (fun h' g' => JJ (SFit) h h') := by
  unfold w_X2_take
  have hJ : JJ (SFit) h h := JJ.rf
  intro h_2 e_h_2
  have hJ := hJ.hu e_h_2 (by unfold SFit; omega)
  intro h_7 e_h_7
  have hJ := hJ.hu e_h_7 (by unfold SFit; omega)
  refine c_i (p_atJ hC hJ nSFit gs_8) ?_
  rintro _ _ _ ⟨rfl, rfl, rfl⟩
  refine lpE_intro (fun ⟨x2_q, x3_q, x4_q, x5_q, h_q, g_q⟩ => JJ (SFit) h h_q ∧ x2 = x2_q ∧ x3 = x3_q ∧ (tat h 8 (h_7 85 6) (2 : Int32)) = x4_q ∧ ¬ x5_q < 0 ∧ True) (fun ⟨x2_q, x3_q, x4_q, x5_q, h_q, g_q⟩ => dif (6 : Int32) x5_q) ?_ _ ⟨hJ, rfl, rfl, rfl, nn0, trivial⟩
  rintro ⟨x2_1, x3_1, x4_1, x5_1, h_1, g_1⟩ K1 ⟨hJ, rfl, rfl, rfl, i1_0, -⟩ hK1
  unfold F_X2_take_30; dsimp only; unfold b_X2_take_30
  refine ⟨fun c => ?_, fun c => ?_⟩
  · skip
    exact hJ
  · skip
    refine ⟨fun c => ?_, fun c => ?_⟩
    · skip
      exact hJ
    · skip
      refine c_i (p_atJ hC hJ nSFit gs_8) ?_
      rintro _ _ _ ⟨rfl, rfl, rfl⟩
      refine ⟨fun c => ?_, fun c => ?_⟩
      · skip
        unfold j_X2_take_84
        refine and_have (by first | with_reducible assumption | exact vin (by with_reducible assumption) (by with_reducible assumption) (by decide) | exact vinc (by with_reducible assumption) (by with_reducible assumption) (by decide) | exact vinw (by with_reducible assumption) (by with_reducible assumption) (by decide) (by decide) | exact vinl (by with_reducible assumption) (by with_reducible assumption) (by decide) | exact v60a (by with_reducible assumption) (by with_reducible assumption) | exact v60b (by with_reducible assumption) (by with_reducible assumption) | exact v60b' (by with_reducible assumption) (by with_reducible assumption) | exact v60c (by with_reducible assumption) (by with_reducible assumption) | exact v60d (by with_reducible assumption) (by with_reducible assumption)) (fun hv => ?_)
        intro h_84 e_h_84
        have hJ := hJ.hu e_h_84 (by unfold SFit; omega)
        refine and_have (by first | with_reducible assumption | exact vin (by with_reducible assumption) (by with_reducible assumption) (by decide) | exact vinc (by with_reducible assumption) (by with_reducible assumption) (by decide) | exact vinw (by with_reducible assumption) (by with_reducible assumption) (by decide) (by decide) | exact vinl (by with_reducible assumption) (by with_reducible assumption) (by decide) | exact v60a (by with_reducible assumption) (by with_reducible assumption) | exact v60b (by with_reducible assumption) (by with_reducible assumption) | exact v60b' (by with_reducible assumption) (by with_reducible assumption) | exact v60c (by with_reducible assumption) (by with_reducible assumption) | exact v60d (by with_reducible assumption) (by with_reducible assumption)) (fun hv => ?_)
        refine c_v (p_X7_find (hC.jj hJ nSFit) ) ?_
        rintro h_96 g_96 hJ2
        have hJ := hJ.tr (hJ2.mo (fun q hq => by unfold SSz at hq; unfold SFit; omega))
        refine ⟨fun c => ?_, fun c => ?_⟩
        · skip
          unfold j_X2_take_114
          refine and_have (by first | with_reducible assumption | exact vin (by with_reducible assumption) (by with_reducible assumption) (by decide) | exact vinc (by with_reducible assumption) (by with_reducible assumption) (by decide) | exact vinw (by with_reducible assumption) (by with_reducible assumption) (by decide) (by decide) | exact vinl (by with_reducible assumption) (by with_reducible assumption) (by decide) | exact v60a (by with_reducible assumption) (by with_reducible assumption) | exact v60b (by with_reducible assumption) (by with_reducible assumption) | exact v60b' (by with_reducible assumption) (by with_reducible assumption) | exact v60c (by with_reducible assumption) (by with_reducible assumption) | exact v60d (by with_reducible assumption) (by with_reducible assumption)) (fun hv => ?_)
          intro h_127 e_h_127
          have hJ := hJ.hu e_h_127 (by unfold SFit; omega)
          refine and_have (by first | with_reducible assumption | exact vin (by with_reducible assumption) (by with_reducible assumption) (by decide) | exact vinc (by with_reducible assumption) (by with_reducible assumption) (by decide) | exact vinw (by with_reducible assumption) (by with_reducible assumption) (by decide) (by decide) | exact vinl (by with_reducible assumption) (by with_reducible assumption) (by decide) | exact v60a (by with_reducible assumption) (by with_reducible assumption) | exact v60b (by with_reducible assumption) (by with_reducible assumption) | exact v60b' (by with_reducible assumption) (by with_reducible assumption) | exact v60c (by with_reducible assumption) (by with_reducible assumption) | exact v60d (by with_reducible assumption) (by with_reducible assumption)) (fun hv => ?_)
          intro h_141 e_h_141
          have hJ := hJ.hu e_h_141 (by unfold SFit; omega)
          rintro _ rfl
          exact hK1 _ ⟨hJ, rfl, rfl, rfl, (inc_nn (by with_reducible assumption) (by with_reducible assumption)), trivial⟩ (dif_lt (by with_reducible assumption))
        · skip
          intro h_111 e_h_111
          have hJ := hJ.hu e_h_111 (by unfold SFit; omega)
          unfold j_X2_take_114
          refine and_have (by first | with_reducible assumption | exact vin (by with_reducible assumption) (by with_reducible assumption) (by decide) | exact vinc (by with_reducible assumption) (by with_reducible assumption) (by decide) | exact vinw (by with_reducible assumption) (by with_reducible assumption) (by decide) (by decide) | exact vinl (by with_reducible assumption) (by with_reducible assumption) (by decide) | exact v60a (by with_reducible assumption) (by with_reducible assumption) | exact v60b (by with_reducible assumption) (by with_reducible assumption) | exact v60b' (by with_reducible assumption) (by with_reducible assumption) | exact v60c (by with_reducible assumption) (by with_reducible assumption) | exact v60d (by with_reducible assumption) (by with_reducible assumption)) (fun hv => ?_)
          intro h_127 e_h_127
          have hJ := hJ.hu e_h_127 (by unfold SFit; omega)
          refine and_have (by first | with_reducible assumption | exact vin (by with_reducible assumption) (by with_reducible assumption) (by decide) | exact vinc (by with_reducible assumption) (by with_reducible assumption) (by decide) | exact vinw (by with_reducible assumption) (by with_reducible assumption) (by decide) (by decide) | exact vinl (by with_reducible assumption) (by with_reducible assumption) (by decide) | exact v60a (by with_reducible assumption) (by with_reducible assumption) | exact v60b (by with_reducible assumption) (by with_reducible assumption) | exact v60b' (by with_reducible assumption) (by with_reducible assumption) | exact v60c (by with_reducible assumption) (by with_reducible assumption) | exact v60d (by with_reducible assumption) (by with_reducible assumption)) (fun hv => ?_)
          intro h_141 e_h_141
          have hJ := hJ.hu e_h_141 (by unfold SFit; omega)
          rintro _ rfl
          exact hK1 _ ⟨hJ, rfl, rfl, rfl, (inc_nn (by with_reducible assumption) (by with_reducible assumption)), trivial⟩ (dif_lt (by with_reducible assumption))
      · skip
        unfold j_X2_take_84
        refine and_have (by first | with_reducible assumption | exact vin (by with_reducible assumption) (by with_reducible assumption) (by decide) | exact vinc (by with_reducible assumption) (by with_reducible assumption) (by decide) | exact vinw (by with_reducible assumption) (by with_reducible assumption) (by decide) (by decide) | exact vinl (by with_reducible assumption) (by with_reducible assumption) (by decide) | exact v60a (by with_reducible assumption) (by with_reducible assumption) | exact v60b (by with_reducible assumption) (by with_reducible assumption) | exact v60b' (by with_reducible assumption) (by with_reducible assumption) | exact v60c (by with_reducible assumption) (by with_reducible assumption) | exact v60d (by with_reducible assumption) (by with_reducible assumption)) (fun hv => ?_)
        intro h_84 e_h_84
        have hJ := hJ.hu e_h_84 (by unfold SFit; omega)
        refine and_have (by first | with_reducible assumption | exact vin (by with_reducible assumption) (by with_reducible assumption) (by decide) | exact vinc (by with_reducible assumption) (by with_reducible assumption) (by decide) | exact vinw (by with_reducible assumption) (by with_reducible assumption) (by decide) (by decide) | exact vinl (by with_reducible assumption) (by with_reducible assumption) (by decide) | exact v60a (by with_reducible assumption) (by with_reducible assumption) | exact v60b (by with_reducible assumption) (by with_reducible assumption) | exact v60b' (by with_reducible assumption) (by with_reducible assumption) | exact v60c (by with_reducible assumption) (by with_reducible assumption) | exact v60d (by with_reducible assumption) (by with_reducible assumption)) (fun hv => ?_)
        refine c_v (p_X7_find (hC.jj hJ nSFit) ) ?_
        rintro h_96 g_96 hJ2
        have hJ := hJ.tr (hJ2.mo (fun q hq => by unfold SSz at hq; unfold SFit; omega))
        refine ⟨fun c => ?_, fun c => ?_⟩
        · skip
          unfold j_X2_take_114
          refine and_have (by first | with_reducible assumption | exact vin (by with_reducible assumption) (by with_reducible assumption) (by decide) | exact vinc (by with_reducible assumption) (by with_reducible assumption) (by decide) | exact vinw (by with_reducible assumption) (by with_reducible assumption) (by decide) (by decide) | exact vinl (by with_reducible assumption) (by with_reducible assumption) (by decide) | exact v60a (by with_reducible assumption) (by with_reducible assumption) | exact v60b (by with_reducible assumption) (by with_reducible assumption) | exact v60b' (by with_reducible assumption) (by with_reducible assumption) | exact v60c (by with_reducible assumption) (by with_reducible assumption) | exact v60d (by with_reducible assumption) (by with_reducible assumption)) (fun hv => ?_)
          intro h_127 e_h_127
          have hJ := hJ.hu e_h_127 (by unfold SFit; omega)
          refine and_have (by first | with_reducible assumption | exact vin (by with_reducible assumption) (by with_reducible assumption) (by decide) | exact vinc (by with_reducible assumption) (by with_reducible assumption) (by decide) | exact vinw (by with_reducible assumption) (by with_reducible assumption) (by decide) (by decide) | exact vinl (by with_reducible assumption) (by with_reducible assumption) (by decide) | exact v60a (by with_reducible assumption) (by with_reducible assumption) | exact v60b (by with_reducible assumption) (by with_reducible assumption) | exact v60b' (by with_reducible assumption) (by with_reducible assumption) | exact v60c (by with_reducible assumption) (by with_reducible assumption) | exact v60d (by with_reducible assumption) (by with_reducible assumption)) (fun hv => ?_)
          intro h_141 e_h_141
          have hJ := hJ.hu e_h_141 (by unfold SFit; omega)
          rintro _ rfl
          exact hK1 _ ⟨hJ, rfl, rfl, rfl, (inc_nn (by with_reducible assumption) (by with_reducible assumption)), trivial⟩ (dif_lt (by with_reducible assumption))
        · skip
          intro h_111 e_h_111
          have hJ := hJ.hu e_h_111 (by unfold SFit; omega)
          unfold j_X2_take_114
          refine and_have (by first | with_reducible assumption | exact vin (by with_reducible assumption) (by with_reducible assumption) (by decide) | exact vinc (by with_reducible assumption) (by with_reducible assumption) (by decide) | exact vinw (by with_reducible assumption) (by with_reducible assumption) (by decide) (by decide) | exact vinl (by with_reducible assumption) (by with_reducible assumption) (by decide) | exact v60a (by with_reducible assumption) (by with_reducible assumption) | exact v60b (by with_reducible assumption) (by with_reducible assumption) | exact v60b' (by with_reducible assumption) (by with_reducible assumption) | exact v60c (by with_reducible assumption) (by with_reducible assumption) | exact v60d (by with_reducible assumption) (by with_reducible assumption)) (fun hv => ?_)
          intro h_127 e_h_127
          have hJ := hJ.hu e_h_127 (by unfold SFit; omega)
          refine and_have (by first | with_reducible assumption | exact vin (by with_reducible assumption) (by with_reducible assumption) (by decide) | exact vinc (by with_reducible assumption) (by with_reducible assumption) (by decide) | exact vinw (by with_reducible assumption) (by with_reducible assumption) (by decide) (by decide) | exact vinl (by with_reducible assumption) (by with_reducible assumption) (by decide) | exact v60a (by with_reducible assumption) (by with_reducible assumption) | exact v60b (by with_reducible assumption) (by with_reducible assumption) | exact v60b' (by with_reducible assumption) (by with_reducible assumption) | exact v60c (by with_reducible assumption) (by with_reducible assumption) | exact v60d (by with_reducible assumption) (by with_reducible assumption)) (fun hv => ?_)
          intro h_141 e_h_141
          have hJ := hJ.hu e_h_141 (by unfold SFit; omega)
          rintro _ rfl
          exact hK1 _ ⟨hJ, rfl, rfl, rfl, (inc_nn (by with_reducible assumption) (by with_reducible assumption)), trivial⟩ (dif_lt (by with_reducible assumption))
theorem p_X2_addUp {h : HI} {g : HL} (hC : CI h) {x1 : Int32}   : w_X2_addUp x1 h g (fun h' g' => JJ (SFit) h h') := by
  unfold w_X2_addUp
  have hJ : JJ (SFit) h h := JJ.rf
  intro h_2 e_h_2
  have hJ := hJ.hu e_h_2 (by unfold SFit; omega)
  intro h_7 e_h_7
  have hJ := hJ.hu e_h_7 (by unfold SFit; omega)
  refine c_i (p_atJ hC hJ nSFit gs_8) ?_
  rintro _ _ _ ⟨rfl, rfl, rfl⟩
  refine lpE_intro (fun ⟨x1_q, x2_q, x3_q, h_q, g_q⟩ => JJ (SFit) h h_q ∧ x1 = x1_q ∧ (tat h 8 (h_7 85 6) (2 : Int32)) = x2_q ∧ ¬ x3_q < 0 ∧ True) (fun ⟨x1_q, x2_q, x3_q, h_q, g_q⟩ => dif (6 : Int32) x3_q) ?_ _ ⟨hJ, rfl, rfl, nn0, trivial⟩
  rintro ⟨x1_1, x2_1, x3_1, h_1, g_1⟩ K1 ⟨hJ, rfl, rfl, i1_0, -⟩ hK1
  unfold F_X2_addUp_28; dsimp only; unfold b_X2_addUp_28
  refine ⟨fun c => ?_, fun c => ?_⟩
  · skip
    exact hJ
  · skip
    refine ⟨fun c => ?_, fun c => ?_⟩
    · skip
      exact hJ
    · skip
      refine and_have (by first | with_reducible assumption | exact vin (by with_reducible assumption) (by with_reducible assumption) (by decide) | exact vinc (by with_reducible assumption) (by with_reducible assumption) (by decide) | exact vinw (by with_reducible assumption) (by with_reducible assumption) (by decide) (by decide) | exact vinl (by with_reducible assumption) (by with_reducible assumption) (by decide) | exact v60a (by with_reducible assumption) (by with_reducible assumption) | exact v60b (by with_reducible assumption) (by with_reducible assumption) | exact v60b' (by with_reducible assumption) (by with_reducible assumption) | exact v60c (by with_reducible assumption) (by with_reducible assumption) | exact v60d (by with_reducible assumption) (by with_reducible assumption)) (fun hv => ?_)
      refine c_i (p_X4_wornOf (hC.jj hJ nSFit) ) ?_
      rintro r_50 _ g_50 rfl
      refine c_i (p_atJ hC hJ nSFit gs_8) ?_
      rintro _ _ _ ⟨rfl, rfl, rfl⟩
      refine ⟨fun c => ?_, fun c => ?_⟩
      · skip
        unfold j_X2_addUp_85
        refine ⟨fun c => ?_, fun c => ?_⟩
        · skip
          refine and_have (by first | with_reducible assumption | exact vin (by with_reducible assumption) (by with_reducible assumption) (by decide) | exact vinc (by with_reducible assumption) (by with_reducible assumption) (by decide) | exact vinw (by with_reducible assumption) (by with_reducible assumption) (by decide) (by decide) | exact vinl (by with_reducible assumption) (by with_reducible assumption) (by decide) | exact v60a (by with_reducible assumption) (by with_reducible assumption) | exact v60b (by with_reducible assumption) (by with_reducible assumption) | exact v60b' (by with_reducible assumption) (by with_reducible assumption) | exact v60c (by with_reducible assumption) (by with_reducible assumption) | exact v60d (by with_reducible assumption) (by with_reducible assumption)) (fun hv => ?_)
          unfold j_X2_addUp_118
          intro h_119 e_h_119
          have hJ := hJ.hu e_h_119 (by unfold SFit; omega)
          refine ⟨fun c => ?_, fun c => ?_⟩
          · skip
            refine and_have (by first | with_reducible assumption | exact vin (by with_reducible assumption) (by with_reducible assumption) (by decide) | exact vinc (by with_reducible assumption) (by with_reducible assumption) (by decide) | exact vinw (by with_reducible assumption) (by with_reducible assumption) (by decide) (by decide) | exact vinl (by with_reducible assumption) (by with_reducible assumption) (by decide) | exact v60a (by with_reducible assumption) (by with_reducible assumption) | exact v60b (by with_reducible assumption) (by with_reducible assumption) | exact v60b' (by with_reducible assumption) (by with_reducible assumption) | exact v60c (by with_reducible assumption) (by with_reducible assumption) | exact v60d (by with_reducible assumption) (by with_reducible assumption)) (fun hv => ?_)
            unfold j_X2_addUp_153
            intro h_154 e_h_154
            have hJ := hJ.hu e_h_154 (by unfold SFit; omega)
            rintro _ rfl
            exact hK1 _ ⟨hJ, rfl, rfl, (inc_nn (by with_reducible assumption) (by with_reducible assumption)), trivial⟩ (dif_lt (by with_reducible assumption))
          · exact absN c
        · exact absN c
      · skip
        unfold j_X2_addUp_85
        refine ⟨fun c => ?_, fun c => ?_⟩
        · exact absI c
        · skip
          refine and_have (by first | with_reducible assumption | exact vin (by with_reducible assumption) (by with_reducible assumption) (by decide) | exact vinc (by with_reducible assumption) (by with_reducible assumption) (by decide) | exact vinw (by with_reducible assumption) (by with_reducible assumption) (by decide) (by decide) | exact vinl (by with_reducible assumption) (by with_reducible assumption) (by decide) | exact v60a (by with_reducible assumption) (by with_reducible assumption) | exact v60b (by with_reducible assumption) (by with_reducible assumption) | exact v60b' (by with_reducible assumption) (by with_reducible assumption) | exact v60c (by with_reducible assumption) (by with_reducible assumption) | exact v60d (by with_reducible assumption) (by with_reducible assumption)) (fun hv => ?_)
          unfold j_X2_addUp_118
          intro h_119 e_h_119
          have hJ := hJ.hu e_h_119 (by unfold SFit; omega)
          refine ⟨fun c => ?_, fun c => ?_⟩
          · exact absI c
          · skip
            refine and_have (by first | with_reducible assumption | exact vin (by with_reducible assumption) (by with_reducible assumption) (by decide) | exact vinc (by with_reducible assumption) (by with_reducible assumption) (by decide) | exact vinw (by with_reducible assumption) (by with_reducible assumption) (by decide) (by decide) | exact vinl (by with_reducible assumption) (by with_reducible assumption) (by decide) | exact v60a (by with_reducible assumption) (by with_reducible assumption) | exact v60b (by with_reducible assumption) (by with_reducible assumption) | exact v60b' (by with_reducible assumption) (by with_reducible assumption) | exact v60c (by with_reducible assumption) (by with_reducible assumption) | exact v60d (by with_reducible assumption) (by with_reducible assumption)) (fun hv => ?_)
            unfold j_X2_addUp_153
            intro h_154 e_h_154
            have hJ := hJ.hu e_h_154 (by unfold SFit; omega)
            rintro _ rfl
            exact hK1 _ ⟨hJ, rfl, rfl, (inc_nn (by with_reducible assumption) (by with_reducible assumption)), trivial⟩ (dif_lt (by with_reducible assumption))
theorem p_X2_holdIn {h : HI} {g : HL} (hC : CI h) {x1 : Int32}   : w_X2_holdIn x1 h g (fun r h' g' => JJ (SFit) h h') := by
  unfold w_X2_holdIn
  have hJ : JJ (SFit) h h := JJ.rf
  refine ⟨fun c => ?_, fun c => ?_⟩
  · skip
    refine c_v (p_X2_addUp (hC.jj hJ nSFit) ) ?_
    rintro h_11 g_11 hJ2
    have hJ := hJ.tr (hJ2)
    refine c_i (p_atJ hC hJ nSFit gs_8) ?_
    rintro _ _ _ ⟨rfl, rfl, rfl⟩
    refine ⟨fun c => ?_, fun c => ?_⟩
    · skip
      exact hJ
    · skip
      refine c_i (p_atJ hC hJ nSFit gs_8) ?_
      rintro _ _ _ ⟨rfl, rfl, rfl⟩
      refine ⟨fun c => ?_, fun c => ?_⟩
      · skip
        exact hJ
      · skip
        exact hJ
  · skip
    exact hJ
theorem p_J6_bitCount_0f7a4 {h : HI} {g : HL} (hC : CI h) {x0 : Int32}   : w_J6_bitCount_0f7a4 x0 h g (fun r h' g' => h = h' ∧ g = g') := by
  unfold w_J6_bitCount_0f7a4
  intro x0_9 e_x0_9
  intro x0_23 e_x0_23
  intro x0_33 e_x0_33
  intro x0_40 e_x0_40
  intro x0_47 e_x0_47
  exact ⟨rfl, rfl⟩
theorem p_X5_knows {h : HI} {g : HL} (hC : CI h) {x0 : Int32} {x1 : Int32} {x2 : Int32}   : w_X5_knows x0 x1 x2 h g (fun r h' g' => h = h' ∧ g = g') := by
  unfold w_X5_knows
  refine ⟨fun c => ?_, fun c => ?_⟩
  · skip
    exact ⟨rfl, rfl⟩
  · skip
    exact ⟨rfl, rfl⟩
theorem p_X5_chooseRuns {h : HI} {g : HL} (hC : CI h)    : w_X5_chooseRuns h g (fun h' g' => JJ (SO 123) h h') := by
  unfold w_X5_chooseRuns
  have hJ : JJ (SO 123) h h := JJ.rf
  refine lpE_intro (fun ⟨x1_q, h_q, g_q⟩ => JJ (SO 123) h h_q ∧ ¬ x1_q < 0 ∧ True) (fun ⟨x1_q, h_q, g_q⟩ => dil (15 : Int32) x1_q) ?_ _ ⟨hJ, nn0, trivial⟩
  rintro ⟨x1_1, h_1, g_1⟩ K1 ⟨hJ, i1_0, -⟩ hK1
  unfold F_X5_chooseRuns_2; dsimp only; unfold b_X5_chooseRuns_2
  refine ⟨fun c => ?_, fun c => ?_⟩
  · skip
    exact hJ
  · skip
    refine and_have (by exact vinj (by with_reducible assumption) (by with_reducible assumption) (by decide)) (fun hv => ?_)
    intro h_14 e_h_14
    have hJ := hJ.hu e_h_14 (by unfold SO; omega)
    refine lpE_intro (fun ⟨x1_q, x2_q, h_q, g_q⟩ => JJ (SO 123) h h_q ∧ x1_1 = x1_q ∧ True) (fun ⟨x1_q, x2_q, h_q, g_q⟩ => dif (4 : Int32) x2_q) ?_ _ ⟨hJ, rfl, trivial⟩
    rintro ⟨x1_2, x2_2, h_2, g_2⟩ K2 ⟨hJ, rfl, -⟩ hK2
    unfold F_X5_chooseRuns_17; dsimp only; unfold b_X5_chooseRuns_17
    refine ⟨fun c => ?_, fun c => ?_⟩
    · skip
      rintro _ rfl
      exact hK1 _ ⟨hJ, (inc_nj (by with_reducible assumption) (by with_reducible assumption) (by decide)), trivial⟩ (dil_lt (by with_reducible assumption) (by decide))
    · skip
      refine ⟨fun c => ?_, fun c => ?_⟩
      · skip
        unfold j_X5_chooseRuns_52
        rintro _ rfl
        exact hK2 _ ⟨hJ, rfl, trivial⟩ (dif_lt (by with_reducible assumption))
      · skip
        refine and_have (by exact vinj (by with_reducible assumption) (by with_reducible assumption) (by decide)) (fun hv => ?_)
        refine c_i (p_atJ hC hJ (nS_O (by decide)) gs_22) ?_
        rintro _ _ _ ⟨rfl, rfl, rfl⟩
        refine and_have (by exact vinj (by with_reducible assumption) (by with_reducible assumption) (by decide)) (fun hv => ?_)
        intro h_51 e_h_51
        have hJ := hJ.hu e_h_51 (by unfold SO; omega)
        unfold j_X5_chooseRuns_52
        rintro _ rfl
        exact hK2 _ ⟨hJ, rfl, trivial⟩ (dif_lt (by with_reducible assumption))
theorem p_X5_chooseYears {h : HI} {g : HL} (hC : CI h)    : w_X5_chooseYears h g (fun h' g' => JJ (SO 124) h h') := by
  unfold w_X5_chooseYears
  have hJ : JJ (SO 124) h h := JJ.rf
  refine lpE_intro (fun ⟨x1_q, h_q, g_q⟩ => JJ (SO 124) h h_q ∧ ¬ x1_q < 0 ∧ True) (fun ⟨x1_q, h_q, g_q⟩ => dif (8 : Int32) x1_q) ?_ _ ⟨hJ, nn0, trivial⟩
  rintro ⟨x1_1, h_1, g_1⟩ K1 ⟨hJ, i1_0, -⟩ hK1
  unfold F_X5_chooseYears_2; dsimp only; unfold b_X5_chooseYears_2
  refine ⟨fun c => ?_, fun c => ?_⟩
  · skip
    exact hJ
  · skip
    refine and_have (by first | with_reducible assumption | exact vin (by with_reducible assumption) (by with_reducible assumption) (by decide) | exact vinc (by with_reducible assumption) (by with_reducible assumption) (by decide) | exact vinw (by with_reducible assumption) (by with_reducible assumption) (by decide) (by decide) | exact vinl (by with_reducible assumption) (by with_reducible assumption) (by decide) | exact v60a (by with_reducible assumption) (by with_reducible assumption) | exact v60b (by with_reducible assumption) (by with_reducible assumption) | exact v60b' (by with_reducible assumption) (by with_reducible assumption) | exact v60c (by with_reducible assumption) (by with_reducible assumption) | exact v60d (by with_reducible assumption) (by with_reducible assumption)) (fun hv => ?_)
    intro h_14 e_h_14
    have hJ := hJ.hu e_h_14 (by unfold SO; omega)
    refine lpE_intro (fun ⟨x1_q, x2_q, h_q, g_q⟩ => JJ (SO 124) h h_q ∧ x1_1 = x1_q ∧ True) (fun ⟨x1_q, x2_q, h_q, g_q⟩ => dif (h 20 3) x2_q) ?_ _ ⟨hJ, rfl, trivial⟩
    rintro ⟨x1_2, x2_2, h_2, g_2⟩ K2 ⟨hJ, rfl, -⟩ hK2
    unfold F_X5_chooseYears_17; dsimp only; unfold b_X5_chooseYears_17
    refine c_i (p_rowsJ hJ (nS_O (by decide)) gs_20) ?_
    rintro _ _ _ ⟨rfl, rfl, rfl⟩
    refine ⟨fun c => ?_, fun c => ?_⟩
    · skip
      rintro _ rfl
      exact hK1 _ ⟨hJ, (inc_nn (by with_reducible assumption) (by with_reducible assumption)), trivial⟩ (dif_lt (by with_reducible assumption))
    · skip
      refine c_i (p_atJ hC hJ (nS_O (by decide)) gs_20) ?_
      rintro _ _ _ ⟨rfl, rfl, rfl⟩
      refine ⟨fun c => ?_, fun c => ?_⟩
      · skip
        unfold j_X5_chooseYears_59
        rintro _ rfl
        exact hK2 _ ⟨hJ, rfl, trivial⟩ (dif_lt (by with_reducible assumption))
      · skip
        refine and_have (by first | with_reducible assumption | exact vin (by with_reducible assumption) (by with_reducible assumption) (by decide) | exact vinc (by with_reducible assumption) (by with_reducible assumption) (by decide) | exact vinw (by with_reducible assumption) (by with_reducible assumption) (by decide) (by decide) | exact vinl (by with_reducible assumption) (by with_reducible assumption) (by decide) | exact v60a (by with_reducible assumption) (by with_reducible assumption) | exact v60b (by with_reducible assumption) (by with_reducible assumption) | exact v60b' (by with_reducible assumption) (by with_reducible assumption) | exact v60c (by with_reducible assumption) (by with_reducible assumption) | exact v60d (by with_reducible assumption) (by with_reducible assumption)) (fun hv => ?_)
        refine and_have (by first | with_reducible assumption | exact vin (by with_reducible assumption) (by with_reducible assumption) (by decide) | exact vinc (by with_reducible assumption) (by with_reducible assumption) (by decide) | exact vinw (by with_reducible assumption) (by with_reducible assumption) (by decide) (by decide) | exact vinl (by with_reducible assumption) (by with_reducible assumption) (by decide) | exact v60a (by with_reducible assumption) (by with_reducible assumption) | exact v60b (by with_reducible assumption) (by with_reducible assumption) | exact v60b' (by with_reducible assumption) (by with_reducible assumption) | exact v60c (by with_reducible assumption) (by with_reducible assumption) | exact v60d (by with_reducible assumption) (by with_reducible assumption)) (fun hv => ?_)
        intro h_58 e_h_58
        have hJ := hJ.hu e_h_58 (by unfold SO; omega)
        unfold j_X5_chooseYears_59
        rintro _ rfl
        exact hK2 _ ⟨hJ, rfl, trivial⟩ (dif_lt (by with_reducible assumption))
theorem p_X5_runsBy {h : HI} {g : HL} (hC : CI h) {x1 : Int32} {x2 : Int32}   : w_X5_runsBy x1 x2 h g (fun r h' g' => h = h' ∧ g = g') := by
  unfold w_X5_runsBy
  refine c_w (fun c c' => ?_) (fun c => ?_)
  · skip
    refine ⟨fun c => ?_, fun c => ?_⟩
    · skip
      refine lpE_intro (fun ⟨x1_q, x2_q, x3_q, x4_q, h_q, g_q⟩ => x1 = x1_q ∧ x2 = x2_q ∧ h = h_q ∧ g = g_q ∧ True) (fun ⟨x1_q, x2_q, x3_q, x4_q, h_q, g_q⟩ => dif (3 : Int32) x4_q) ?_ _ ⟨rfl, rfl, rfl, rfl, trivial⟩
      rintro ⟨x1_1, x2_1, x3_1, x4_1, h_1, g_1⟩ K1 ⟨rfl, rfl, rfl, rfl, -⟩ hK1
      unfold F_X5_runsBy_18; dsimp only; unfold b_X5_runsBy_18
      refine ⟨fun c => ?_, fun c => ?_⟩
      · skip
        refine and_have (by exact pk_andIn _ 4 (by decide) (by decide)) (fun hv => ?_)
        exact ⟨rfl, rfl⟩
      · skip
        refine ⟨fun c => ?_, fun c => ?_⟩
        · skip
          unfold j_X5_runsBy_48
          rintro _ rfl
          exact hK1 _ ⟨rfl, rfl, rfl, rfl, trivial⟩ (dif_lt (by with_reducible assumption))
        · skip
          refine and_have (by first | with_reducible assumption | exact vin (by with_reducible assumption) (by with_reducible assumption) (by decide) | exact vinc (by with_reducible assumption) (by with_reducible assumption) (by decide) | exact vinw (by with_reducible assumption) (by with_reducible assumption) (by decide) (by decide) | exact vinl (by with_reducible assumption) (by with_reducible assumption) (by decide) | exact v60a (by with_reducible assumption) (by with_reducible assumption) | exact v60b (by with_reducible assumption) (by with_reducible assumption) | exact v60b' (by with_reducible assumption) (by with_reducible assumption) | exact v60c (by with_reducible assumption) (by with_reducible assumption) | exact v60d (by with_reducible assumption) (by with_reducible assumption)) (fun hv => ?_)
          rintro _ rfl
          unfold j_X5_runsBy_48
          rintro _ rfl
          exact hK1 _ ⟨rfl, rfl, rfl, rfl, trivial⟩ (dif_lt (by with_reducible assumption))
    · exact absI c
  · skip
    refine ⟨fun c => ?_, fun c => ?_⟩
    · exact absN c
    · skip
      exact ⟨rfl, rfl⟩
theorem p_X5_idle {h : HI} {g : HL} (hC : CI h) {x1 : Int32} {x2 : Int32}   : w_X5_idle x1 x2 h g (fun r h' g' => h = h' ∧ g = g') := by
  unfold w_X5_idle
  refine c_w (fun c c' => ?_) (fun c => ?_)
  · skip
    refine ⟨fun c => ?_, fun c => ?_⟩
    · exact absI c
    · skip
      refine c_w (fun c c' => ?_) (fun c => ?_)
      · skip
        refine ⟨fun c => ?_, fun c => ?_⟩
        · skip
          refine and_have (by first | with_reducible assumption | exact vin (by with_reducible assumption) (by with_reducible assumption) (by decide) | exact vinc (by with_reducible assumption) (by with_reducible assumption) (by decide) | exact vinw (by with_reducible assumption) (by with_reducible assumption) (by decide) (by decide) | exact vinl (by with_reducible assumption) (by with_reducible assumption) (by decide) | exact v60a (by with_reducible assumption) (by with_reducible assumption) | exact v60b (by with_reducible assumption) (by with_reducible assumption) | exact v60b' (by with_reducible assumption) (by with_reducible assumption) | exact v60c (by with_reducible assumption) (by with_reducible assumption) | exact v60d (by with_reducible assumption) (by with_reducible assumption)) (fun hv => ?_)
          refine c_i (p_X5_runsBy hC ) ?_
          rintro r_31 _ _ ⟨rfl, rfl⟩
          refine and_have (by exact vinw1 (by with_reducible assumption) (by with_reducible assumption) (by decide) (by decide)) (fun hv => ?_)
          refine and_have (by first | with_reducible assumption | exact vin (by with_reducible assumption) (by with_reducible assumption) (by decide) | exact vinc (by with_reducible assumption) (by with_reducible assumption) (by decide) | exact vinw (by with_reducible assumption) (by with_reducible assumption) (by decide) (by decide) | exact vinl (by with_reducible assumption) (by with_reducible assumption) (by decide) | exact v60a (by with_reducible assumption) (by with_reducible assumption) | exact v60b (by with_reducible assumption) (by with_reducible assumption) | exact v60b' (by with_reducible assumption) (by with_reducible assumption) | exact v60c (by with_reducible assumption) (by with_reducible assumption) | exact v60d (by with_reducible assumption) (by with_reducible assumption)) (fun hv => ?_)
          exact ⟨rfl, rfl⟩
        · exact absI c
      · skip
        refine ⟨fun c => ?_, fun c => ?_⟩
        · exact absN c
        · skip
          exact ⟨rfl, rfl⟩
  · skip
    refine ⟨fun c => ?_, fun c => ?_⟩
    · skip
      exact ⟨rfl, rfl⟩
    · exact absN c
theorem p_X5_mostRuns {h : HI} {g : HL} (hC : CI h)    : w_X5_mostRuns h g (fun r h' g' => h = h' ∧ g = g') := by
  unfold w_X5_mostRuns
  refine and_have (by exact vp_in_iff.mpr (by decide)) (fun hv => ?_)
  refine and_have (by exact vp_in_iff.mpr (by decide)) (fun hv => ?_)
  exact ⟨rfl, rfl⟩
theorem p_X6_deniedSayings {h : HI} {g : HL} (hC : CI h)    : w_X6_deniedSayings 1 h g (fun r h' g' => h = h' ∧ g = g') := by
  unfold w_X6_deniedSayings
  refine lpE_intro (fun ⟨x1_q, x2_q, h_q, g_q⟩ => h = h_q ∧ g = g_q ∧ True) (fun ⟨x1_q, x2_q, h_q, g_q⟩ => dif (h (1 + 5) 3) x2_q) ?_ _ ⟨rfl, rfl, trivial⟩
  rintro ⟨x1_1, x2_1, h_1, g_1⟩ K1 ⟨rfl, rfl, -⟩ hK1
  unfold F_X6_deniedSayings_4; dsimp only; unfold b_X6_deniedSayings_4
  refine c_i p_rows ?_
  rintro _ _ _ ⟨rfl, rfl, rfl⟩
  refine ⟨fun c => ?_, fun c => ?_⟩
  · skip
    exact ⟨rfl, rfl⟩
  · skip
    refine c_i (p_at hC (show isT (1 + 5) from gs_6)) ?_
    rintro _ _ _ ⟨rfl, rfl, rfl⟩
    rintro _ rfl
    rintro _ rfl
    exact hK1 _ ⟨rfl, rfl, trivial⟩ (dif_lt (by with_reducible assumption))
theorem p_X6_isIn {h : HI} {g : HL} (hC : CI h) {x1 : Int32} {x2 : Int32}   : w_X6_isIn 1 x1 x2 h g (fun r h' g' => h = h' ∧ g = g') := by
  unfold w_X6_isIn
  refine c_i (p_at hC (show isT (1 + 7) from gs_8)) ?_
  rintro _ _ _ ⟨rfl, rfl, rfl⟩
  refine lpE_intro (fun ⟨x1_q, x2_q, x3_q, x4_q, h_q, g_q⟩ => x1 = x1_q ∧ x2 = x2_q ∧ (tat h (1 + 7) x1 (2 : Int32)) = x3_q ∧ h = h_q ∧ g = g_q ∧ True) (fun ⟨x1_q, x2_q, x3_q, x4_q, h_q, g_q⟩ => dif x3_q x4_q) ?_ _ ⟨rfl, rfl, rfl, rfl, rfl, trivial⟩
  rintro ⟨x1_1, x2_1, x3_1, x4_1, h_1, g_1⟩ K1 ⟨rfl, rfl, rfl, rfl, rfl, -⟩ hK1
  unfold F_X6_isIn_13; dsimp only; unfold b_X6_isIn_13
  refine ⟨fun c => ?_, fun c => ?_⟩
  · skip
    exact ⟨rfl, rfl⟩
  · skip
    refine c_i (p_at hC (show isT (1 + 7) from gs_8)) ?_
    rintro _ _ _ ⟨rfl, rfl, rfl⟩
    refine ⟨fun c => ?_, fun c => ?_⟩
    · skip
      rintro _ rfl
      exact hK1 _ ⟨rfl, rfl, rfl, rfl, rfl, trivial⟩ (dif_lt (by with_reducible assumption))
    · skip
      exact ⟨rfl, rfl⟩
theorem p_X9_reach {h : HI} {g : HL} (hC : CI h) {x1 : Int32} {x2 : Int32} {x3 : Int32}   : w_X9_reach x1 x2 x3 h g (fun h' g' => JJ (SWay) h h') := by
  unfold w_X9_reach
  have hJ : JJ (SWay) h h := JJ.rf
  refine c_w (fun c c' => ?_) (fun c => ?_)
  · skip
    refine ⟨fun c => ?_, fun c => ?_⟩
    · exact absI c
    · skip
      refine c_w (fun c c' => ?_) (fun c => ?_)
      · skip
        refine ⟨fun c => ?_, fun c => ?_⟩
        · skip
          refine and_have (by first | with_reducible assumption | exact vin (by with_reducible assumption) (by with_reducible assumption) (by decide) | exact vinc (by with_reducible assumption) (by with_reducible assumption) (by decide) | exact vinw (by with_reducible assumption) (by with_reducible assumption) (by decide) (by decide) | exact vinl (by with_reducible assumption) (by with_reducible assumption) (by decide) | exact v60a (by with_reducible assumption) (by with_reducible assumption) | exact v60b (by with_reducible assumption) (by with_reducible assumption) | exact v60b' (by with_reducible assumption) (by with_reducible assumption) | exact v60c (by with_reducible assumption) (by with_reducible assumption) | exact v60d (by with_reducible assumption) (by with_reducible assumption)) (fun hv => ?_)
          refine and_have (by first | with_reducible assumption | exact vin (by with_reducible assumption) (by with_reducible assumption) (by decide) | exact vinc (by with_reducible assumption) (by with_reducible assumption) (by decide) | exact vinw (by with_reducible assumption) (by with_reducible assumption) (by decide) (by decide) | exact vinl (by with_reducible assumption) (by with_reducible assumption) (by decide) | exact v60a (by with_reducible assumption) (by with_reducible assumption) | exact v60b (by with_reducible assumption) (by with_reducible assumption) | exact v60b' (by with_reducible assumption) (by with_reducible assumption) | exact v60c (by with_reducible assumption) (by with_reducible assumption) | exact v60d (by with_reducible assumption) (by with_reducible assumption)) (fun hv => ?_)
          refine ⟨fun c => ?_, fun c => ?_⟩
          · skip
            unfold j_X9_reach_85
            refine and_have (by first | with_reducible assumption | exact vin (by with_reducible assumption) (by with_reducible assumption) (by decide) | exact vinc (by with_reducible assumption) (by with_reducible assumption) (by decide) | exact vinw (by with_reducible assumption) (by with_reducible assumption) (by decide) (by decide) | exact vinl (by with_reducible assumption) (by with_reducible assumption) (by decide) | exact v60a (by with_reducible assumption) (by with_reducible assumption) | exact v60b (by with_reducible assumption) (by with_reducible assumption) | exact v60b' (by with_reducible assumption) (by with_reducible assumption) | exact v60c (by with_reducible assumption) (by with_reducible assumption) | exact v60d (by with_reducible assumption) (by with_reducible assumption)) (fun hv => ?_)
            refine and_have (by first | with_reducible assumption | exact vin (by with_reducible assumption) (by with_reducible assumption) (by decide) | exact vinc (by with_reducible assumption) (by with_reducible assumption) (by decide) | exact vinw (by with_reducible assumption) (by with_reducible assumption) (by decide) (by decide) | exact vinl (by with_reducible assumption) (by with_reducible assumption) (by decide) | exact v60a (by with_reducible assumption) (by with_reducible assumption) | exact v60b (by with_reducible assumption) (by with_reducible assumption) | exact v60b' (by with_reducible assumption) (by with_reducible assumption) | exact v60c (by with_reducible assumption) (by with_reducible assumption) | exact v60d (by with_reducible assumption) (by with_reducible assumption)) (fun hv => ?_)
            refine ⟨fun c => ?_, fun c => ?_⟩
            · skip
              exact hJ
            · skip
              refine and_have (by first | with_reducible assumption | exact vin (by with_reducible assumption) (by with_reducible assumption) (by decide) | exact vinc (by with_reducible assumption) (by with_reducible assumption) (by decide) | exact vinw (by with_reducible assumption) (by with_reducible assumption) (by decide) (by decide) | exact vinl (by with_reducible assumption) (by with_reducible assumption) (by decide) | exact v60a (by with_reducible assumption) (by with_reducible assumption) | exact v60b (by with_reducible assumption) (by with_reducible assumption) | exact v60b' (by with_reducible assumption) (by with_reducible assumption) | exact v60c (by with_reducible assumption) (by with_reducible assumption) | exact v60d (by with_reducible assumption) (by with_reducible assumption)) (fun hv => ?_)
              refine and_have (by first | with_reducible assumption | exact vin (by with_reducible assumption) (by with_reducible assumption) (by decide) | exact vinc (by with_reducible assumption) (by with_reducible assumption) (by decide) | exact vinw (by with_reducible assumption) (by with_reducible assumption) (by decide) (by decide) | exact vinl (by with_reducible assumption) (by with_reducible assumption) (by decide) | exact v60a (by with_reducible assumption) (by with_reducible assumption) | exact v60b (by with_reducible assumption) (by with_reducible assumption) | exact v60b' (by with_reducible assumption) (by with_reducible assumption) | exact v60c (by with_reducible assumption) (by with_reducible assumption) | exact v60d (by with_reducible assumption) (by with_reducible assumption)) (fun hv => ?_)
              intro h_105 e_h_105
              have hJ := hJ.hu e_h_105 (by have := vp_lt (‹vp_in x1 2›); unfold SWay; omega)
              exact hJ
          · skip
            refine and_have (by first | with_reducible assumption | exact vin (by with_reducible assumption) (by with_reducible assumption) (by decide) | exact vinc (by with_reducible assumption) (by with_reducible assumption) (by decide) | exact vinw (by with_reducible assumption) (by with_reducible assumption) (by decide) (by decide) | exact vinl (by with_reducible assumption) (by with_reducible assumption) (by decide) | exact v60a (by with_reducible assumption) (by with_reducible assumption) | exact v60b (by with_reducible assumption) (by with_reducible assumption) | exact v60b' (by with_reducible assumption) (by with_reducible assumption) | exact v60c (by with_reducible assumption) (by with_reducible assumption) | exact v60d (by with_reducible assumption) (by with_reducible assumption)) (fun hv => ?_)
            refine c_w (fun c c' => ?_) (fun c => ?_)
            · skip
              refine ⟨fun c => ?_, fun c => ?_⟩
              · exact absI c
              · skip
                refine and_have (by first | with_reducible assumption | exact vin (by with_reducible assumption) (by with_reducible assumption) (by decide) | exact vinc (by with_reducible assumption) (by with_reducible assumption) (by decide) | exact vinw (by with_reducible assumption) (by with_reducible assumption) (by decide) (by decide) | exact vinl (by with_reducible assumption) (by with_reducible assumption) (by decide) | exact v60a (by with_reducible assumption) (by with_reducible assumption) | exact v60b (by with_reducible assumption) (by with_reducible assumption) | exact v60b' (by with_reducible assumption) (by with_reducible assumption) | exact v60c (by with_reducible assumption) (by with_reducible assumption) | exact v60d (by with_reducible assumption) (by with_reducible assumption)) (fun hv => ?_)
                refine and_have (by first | with_reducible assumption | exact vin (by with_reducible assumption) (by with_reducible assumption) (by decide) | exact vinc (by with_reducible assumption) (by with_reducible assumption) (by decide) | exact vinw (by with_reducible assumption) (by with_reducible assumption) (by decide) (by decide) | exact vinl (by with_reducible assumption) (by with_reducible assumption) (by decide) | exact v60a (by with_reducible assumption) (by with_reducible assumption) | exact v60b (by with_reducible assumption) (by with_reducible assumption) | exact v60b' (by with_reducible assumption) (by with_reducible assumption) | exact v60c (by with_reducible assumption) (by with_reducible assumption) | exact v60d (by with_reducible assumption) (by with_reducible assumption)) (fun hv => ?_)
                refine and_have (by first | with_reducible assumption | exact vin (by with_reducible assumption) (by with_reducible assumption) (by decide) | exact vinc (by with_reducible assumption) (by with_reducible assumption) (by decide) | exact vinw (by with_reducible assumption) (by with_reducible assumption) (by decide) (by decide) | exact vinl (by with_reducible assumption) (by with_reducible assumption) (by decide) | exact v60a (by with_reducible assumption) (by with_reducible assumption) | exact v60b (by with_reducible assumption) (by with_reducible assumption) | exact v60b' (by with_reducible assumption) (by with_reducible assumption) | exact v60c (by with_reducible assumption) (by with_reducible assumption) | exact v60d (by with_reducible assumption) (by with_reducible assumption)) (fun hv => ?_)
                intro h_62 e_h_62
                have hJ := hJ.hu e_h_62 (by have := vp_lt (‹vp_in x1 2›); unfold SWay; omega)
                refine and_have (by first | with_reducible assumption | exact vin (by with_reducible assumption) (by with_reducible assumption) (by decide) | exact vinc (by with_reducible assumption) (by with_reducible assumption) (by decide) | exact vinw (by with_reducible assumption) (by with_reducible assumption) (by decide) (by decide) | exact vinl (by with_reducible assumption) (by with_reducible assumption) (by decide) | exact v60a (by with_reducible assumption) (by with_reducible assumption) | exact v60b (by with_reducible assumption) (by with_reducible assumption) | exact v60b' (by with_reducible assumption) (by with_reducible assumption) | exact v60c (by with_reducible assumption) (by with_reducible assumption) | exact v60d (by with_reducible assumption) (by with_reducible assumption)) (fun hv => ?_)
                refine and_have (by first | with_reducible assumption | exact vin (by with_reducible assumption) (by with_reducible assumption) (by decide) | exact vinc (by with_reducible assumption) (by with_reducible assumption) (by decide) | exact vinw (by with_reducible assumption) (by with_reducible assumption) (by decide) (by decide) | exact vinl (by with_reducible assumption) (by with_reducible assumption) (by decide) | exact v60a (by with_reducible assumption) (by with_reducible assumption) | exact v60b (by with_reducible assumption) (by with_reducible assumption) | exact v60b' (by with_reducible assumption) (by with_reducible assumption) | exact v60c (by with_reducible assumption) (by with_reducible assumption) | exact v60d (by with_reducible assumption) (by with_reducible assumption)) (fun hv => ?_)
                intro h_72 e_h_72
                have hJ := hJ.hu e_h_72 (by unfold SWay; omega)
                refine and_have (by first | with_reducible assumption | exact vin (by with_reducible assumption) (by with_reducible assumption) (by decide) | exact vinc (by with_reducible assumption) (by with_reducible assumption) (by decide) | exact vinw (by with_reducible assumption) (by with_reducible assumption) (by decide) (by decide) | exact vinl (by with_reducible assumption) (by with_reducible assumption) (by decide) | exact v60a (by with_reducible assumption) (by with_reducible assumption) | exact v60b (by with_reducible assumption) (by with_reducible assumption) | exact v60b' (by with_reducible assumption) (by with_reducible assumption) | exact v60c (by with_reducible assumption) (by with_reducible assumption) | exact v60d (by with_reducible assumption) (by with_reducible assumption)) (fun hv => ?_)
                refine and_have (by first | with_reducible assumption | exact vin (by with_reducible assumption) (by with_reducible assumption) (by decide) | exact vinc (by with_reducible assumption) (by with_reducible assumption) (by decide) | exact vinw (by with_reducible assumption) (by with_reducible assumption) (by decide) (by decide) | exact vinl (by with_reducible assumption) (by with_reducible assumption) (by decide) | exact v60a (by with_reducible assumption) (by with_reducible assumption) | exact v60b (by with_reducible assumption) (by with_reducible assumption) | exact v60b' (by with_reducible assumption) (by with_reducible assumption) | exact v60c (by with_reducible assumption) (by with_reducible assumption) | exact v60d (by with_reducible assumption) (by with_reducible assumption)) (fun hv => ?_)
                intro h_81 e_h_81
                have hJ := hJ.hu e_h_81 (by have := vp_lt (‹vp_in x1 2›); unfold SWay; omega)
                exact hJ
            · skip
              refine ⟨fun c => ?_, fun c => ?_⟩
              · skip
                unfold j_X9_reach_85
                refine and_have (by first | with_reducible assumption | exact vin (by with_reducible assumption) (by with_reducible assumption) (by decide) | exact vinc (by with_reducible assumption) (by with_reducible assumption) (by decide) | exact vinw (by with_reducible assumption) (by with_reducible assumption) (by decide) (by decide) | exact vinl (by with_reducible assumption) (by with_reducible assumption) (by decide) | exact v60a (by with_reducible assumption) (by with_reducible assumption) | exact v60b (by with_reducible assumption) (by with_reducible assumption) | exact v60b' (by with_reducible assumption) (by with_reducible assumption) | exact v60c (by with_reducible assumption) (by with_reducible assumption) | exact v60d (by with_reducible assumption) (by with_reducible assumption)) (fun hv => ?_)
                refine and_have (by first | with_reducible assumption | exact vin (by with_reducible assumption) (by with_reducible assumption) (by decide) | exact vinc (by with_reducible assumption) (by with_reducible assumption) (by decide) | exact vinw (by with_reducible assumption) (by with_reducible assumption) (by decide) (by decide) | exact vinl (by with_reducible assumption) (by with_reducible assumption) (by decide) | exact v60a (by with_reducible assumption) (by with_reducible assumption) | exact v60b (by with_reducible assumption) (by with_reducible assumption) | exact v60b' (by with_reducible assumption) (by with_reducible assumption) | exact v60c (by with_reducible assumption) (by with_reducible assumption) | exact v60d (by with_reducible assumption) (by with_reducible assumption)) (fun hv => ?_)
                refine ⟨fun c => ?_, fun c => ?_⟩
                · skip
                  exact hJ
                · skip
                  refine and_have (by first | with_reducible assumption | exact vin (by with_reducible assumption) (by with_reducible assumption) (by decide) | exact vinc (by with_reducible assumption) (by with_reducible assumption) (by decide) | exact vinw (by with_reducible assumption) (by with_reducible assumption) (by decide) (by decide) | exact vinl (by with_reducible assumption) (by with_reducible assumption) (by decide) | exact v60a (by with_reducible assumption) (by with_reducible assumption) | exact v60b (by with_reducible assumption) (by with_reducible assumption) | exact v60b' (by with_reducible assumption) (by with_reducible assumption) | exact v60c (by with_reducible assumption) (by with_reducible assumption) | exact v60d (by with_reducible assumption) (by with_reducible assumption)) (fun hv => ?_)
                  refine and_have (by first | with_reducible assumption | exact vin (by with_reducible assumption) (by with_reducible assumption) (by decide) | exact vinc (by with_reducible assumption) (by with_reducible assumption) (by decide) | exact vinw (by with_reducible assumption) (by with_reducible assumption) (by decide) (by decide) | exact vinl (by with_reducible assumption) (by with_reducible assumption) (by decide) | exact v60a (by with_reducible assumption) (by with_reducible assumption) | exact v60b (by with_reducible assumption) (by with_reducible assumption) | exact v60b' (by with_reducible assumption) (by with_reducible assumption) | exact v60c (by with_reducible assumption) (by with_reducible assumption) | exact v60d (by with_reducible assumption) (by with_reducible assumption)) (fun hv => ?_)
                  intro h_105 e_h_105
                  have hJ := hJ.hu e_h_105 (by have := vp_lt (‹vp_in x1 2›); unfold SWay; omega)
                  exact hJ
              · exact absN c
        · exact absI c
      · skip
        refine ⟨fun c => ?_, fun c => ?_⟩
        · exact absN c
        · skip
          exact hJ
  · skip
    refine ⟨fun c => ?_, fun c => ?_⟩
    · skip
      exact hJ
    · exact absN c
theorem p_X9_look {h : HI} {g : HL} (hC : CI h) {x1 : Int32} {x2 : Int32} {x3 : Int32} {x4 : Int32}   : w_X9_look x1 x2 x3 x4 h g (fun h' g' => JJ (SWay) h h') := by
  unfold w_X9_look
  have hJ : JJ (SWay) h h := JJ.rf
  refine c_w (fun c c' => ?_) (fun c => ?_)
  · skip
    refine ⟨fun c => ?_, fun c => ?_⟩
    · skip
      refine lpE_intro (fun ⟨x1_q, x2_q, x3_q, x4_q, x5_q, x6_q, h_q, g_q⟩ => JJ (SWay) h h_q ∧ x1 = x1_q ∧ x2 = x2_q ∧ x3 = x3_q ∧ x4 = x4_q ∧ ¬ x6_q < 0 ∧ True) (fun ⟨x1_q, x2_q, x3_q, x4_q, x5_q, x6_q, h_q, g_q⟩ => dif (3000 : Int32) x6_q) ?_ _ ⟨hJ, rfl, rfl, rfl, rfl, nn0, trivial⟩
      rintro ⟨x1_1, x2_1, x3_1, x4_1, x5_1, x6_1, h_1, g_1⟩ K1 ⟨hJ, rfl, rfl, rfl, rfl, i1_0, -⟩ hK1
      unfold F_X9_look_16; dsimp only; unfold b_X9_look_16
      refine and_have (by first | with_reducible assumption | exact vin (by with_reducible assumption) (by with_reducible assumption) (by decide) | exact vinc (by with_reducible assumption) (by with_reducible assumption) (by decide) | exact vinw (by with_reducible assumption) (by with_reducible assumption) (by decide) (by decide) | exact vinl (by with_reducible assumption) (by with_reducible assumption) (by decide) | exact v60a (by with_reducible assumption) (by with_reducible assumption) | exact v60b (by with_reducible assumption) (by with_reducible assumption) | exact v60b' (by with_reducible assumption) (by with_reducible assumption) | exact v60c (by with_reducible assumption) (by with_reducible assumption) | exact v60d (by with_reducible assumption) (by with_reducible assumption)) (fun hv => ?_)
      refine ⟨fun c => ?_, fun c => ?_⟩
      · skip
        unfold j_X9_look_104
        refine ⟨fun c => ?_, fun c => ?_⟩
        · skip
          exact hJ
        · skip
          refine ⟨fun c => ?_, fun c => ?_⟩
          · skip
            unfold j_X9_look_131
            intro h_137 e_h_137
            have hJ := hJ.hu e_h_137 (by unfold SWay; omega)
            intro h_146 e_h_146
            have hJ := hJ.hu e_h_146 (by unfold SWay; omega)
            intro h_151 e_h_151
            have hJ := hJ.hu e_h_151 (by unfold SWay; omega)
            exact hJ
          · skip
            refine ⟨fun c => ?_, fun c => ?_⟩
            · skip
              unfold j_X9_look_131
              intro h_137 e_h_137
              have hJ := hJ.hu e_h_137 (by unfold SWay; omega)
              intro h_146 e_h_146
              have hJ := hJ.hu e_h_146 (by unfold SWay; omega)
              intro h_151 e_h_151
              have hJ := hJ.hu e_h_151 (by unfold SWay; omega)
              exact hJ
            · skip
              exact hJ
      · skip
        refine ⟨fun c => ?_, fun c => ?_⟩
        · skip
          unfold j_X9_look_104
          refine ⟨fun c => ?_, fun c => ?_⟩
          · skip
            exact hJ
          · skip
            refine ⟨fun c => ?_, fun c => ?_⟩
            · skip
              unfold j_X9_look_131
              intro h_137 e_h_137
              have hJ := hJ.hu e_h_137 (by unfold SWay; omega)
              intro h_146 e_h_146
              have hJ := hJ.hu e_h_146 (by unfold SWay; omega)
              intro h_151 e_h_151
              have hJ := hJ.hu e_h_151 (by unfold SWay; omega)
              exact hJ
            · skip
              refine ⟨fun c => ?_, fun c => ?_⟩
              · skip
                unfold j_X9_look_131
                intro h_137 e_h_137
                have hJ := hJ.hu e_h_137 (by unfold SWay; omega)
                intro h_146 e_h_146
                have hJ := hJ.hu e_h_146 (by unfold SWay; omega)
                intro h_151 e_h_151
                have hJ := hJ.hu e_h_151 (by unfold SWay; omega)
                exact hJ
              · skip
                exact hJ
        · skip
          refine and_have (by first | with_reducible assumption | exact vin (by with_reducible assumption) (by with_reducible assumption) (by decide) | exact vinc (by with_reducible assumption) (by with_reducible assumption) (by decide) | exact vinw (by with_reducible assumption) (by with_reducible assumption) (by decide) (by decide) | exact vinl (by with_reducible assumption) (by with_reducible assumption) (by decide) | exact v60a (by with_reducible assumption) (by with_reducible assumption) | exact v60b (by with_reducible assumption) (by with_reducible assumption) | exact v60b' (by with_reducible assumption) (by with_reducible assumption) | exact v60c (by with_reducible assumption) (by with_reducible assumption) | exact v60d (by with_reducible assumption) (by with_reducible assumption)) (fun hv => ?_)
          refine and_have (by first | with_reducible assumption | exact vin (by with_reducible assumption) (by with_reducible assumption) (by decide) | exact vinc (by with_reducible assumption) (by with_reducible assumption) (by decide) | exact vinw (by with_reducible assumption) (by with_reducible assumption) (by decide) (by decide) | exact vinl (by with_reducible assumption) (by with_reducible assumption) (by decide) | exact v60a (by with_reducible assumption) (by with_reducible assumption) | exact v60b (by with_reducible assumption) (by with_reducible assumption) | exact v60b' (by with_reducible assumption) (by with_reducible assumption) | exact v60c (by with_reducible assumption) (by with_reducible assumption) | exact v60d (by with_reducible assumption) (by with_reducible assumption)) (fun hv => ?_)
          rintro _ rfl
          refine c_w (fun c c' => ?_) (fun c => ?_)
          · skip
            refine ⟨fun c => ?_, fun c => ?_⟩
            · skip
              refine and_have (by first | with_reducible assumption | exact vin (by with_reducible assumption) (by with_reducible assumption) (by decide) | exact vinc (by with_reducible assumption) (by with_reducible assumption) (by decide) | exact vinw (by with_reducible assumption) (by with_reducible assumption) (by decide) (by decide) | exact vinl (by with_reducible assumption) (by with_reducible assumption) (by decide) | exact v60a (by with_reducible assumption) (by with_reducible assumption) | exact v60b (by with_reducible assumption) (by with_reducible assumption) | exact v60b' (by with_reducible assumption) (by with_reducible assumption) | exact v60c (by with_reducible assumption) (by with_reducible assumption) | exact v60d (by with_reducible assumption) (by with_reducible assumption)) (fun hv => ?_)
              refine and_have (by exact vmx (by with_reducible assumption) (by with_reducible assumption)) (fun hv => ?_)
              rintro _ rfl
              refine ⟨fun c => ?_, fun c => ?_⟩
              · skip
                unfold j_X9_look_94
                unfold j_X9_look_98
                rintro _ rfl
                exact hK1 _ ⟨hJ, rfl, rfl, rfl, rfl, (inc_nn (by with_reducible assumption) (by with_reducible assumption)), trivial⟩ (dif_lt (by with_reducible assumption))
              · skip
                refine ⟨fun c => ?_, fun c => ?_⟩
                · skip
                  unfold j_X9_look_98
                  rintro _ rfl
                  exact hK1 _ ⟨hJ, rfl, rfl, rfl, rfl, (inc_nn (by with_reducible assumption) (by with_reducible assumption)), trivial⟩ (dif_lt (by with_reducible assumption))
                · skip
                  unfold j_X9_look_94
                  unfold j_X9_look_98
                  rintro _ rfl
                  exact hK1 _ ⟨hJ, rfl, rfl, rfl, rfl, (inc_nn (by with_reducible assumption) (by with_reducible assumption)), trivial⟩ (dif_lt (by with_reducible assumption))
            · exact absI c
          · skip
            refine ⟨fun c => ?_, fun c => ?_⟩
            · exact absN c
            · skip
              unfold j_X9_look_98
              rintro _ rfl
              exact hK1 _ ⟨hJ, rfl, rfl, rfl, rfl, (inc_nn (by with_reducible assumption) (by with_reducible assumption)), trivial⟩ (dif_lt (by with_reducible assumption))
    · exact absI c
  · skip
    refine ⟨fun c => ?_, fun c => ?_⟩
    · exact absN c
    · skip
      exact hJ
theorem p_X9_spread {h : HI} {g : HL} (hC : CI h) {x1 : Int32}   : w_X9_spread x1 h g (fun h' g' => JJ (SWay) h h') := by
  unfold w_X9_spread
  have hJ : JJ (SWay) h h := JJ.rf
  refine c_w (fun c c' => ?_) (fun c => ?_)
  · skip
    refine ⟨fun c => ?_, fun c => ?_⟩
    · skip
      refine lpE_intro (fun ⟨x1_q, x2_q, h_q, g_q⟩ => JJ (SWay) h h_q ∧ x1 = x1_q ∧ ¬ x2_q < 0 ∧ True) (fun ⟨x1_q, x2_q, h_q, g_q⟩ => dif (3000 : Int32) x2_q) ?_ _ ⟨hJ, rfl, nn0, trivial⟩
      rintro ⟨x1_1, x2_1, h_1, g_1⟩ K1 ⟨hJ, rfl, i1_0, -⟩ hK1
      unfold F_X9_spread_12; dsimp only; unfold b_X9_spread_12
      refine and_have (by first | with_reducible assumption | exact vin (by with_reducible assumption) (by with_reducible assumption) (by decide) | exact vinc (by with_reducible assumption) (by with_reducible assumption) (by decide) | exact vinw (by with_reducible assumption) (by with_reducible assumption) (by decide) (by decide) | exact vinl (by with_reducible assumption) (by with_reducible assumption) (by decide) | exact v60a (by with_reducible assumption) (by with_reducible assumption) | exact v60b (by with_reducible assumption) (by with_reducible assumption) | exact v60b' (by with_reducible assumption) (by with_reducible assumption) | exact v60c (by with_reducible assumption) (by with_reducible assumption) | exact v60d (by with_reducible assumption) (by with_reducible assumption)) (fun hv => ?_)
      refine ⟨fun c => ?_, fun c => ?_⟩
      · skip
        exact hJ
      · skip
        refine ⟨fun c => ?_, fun c => ?_⟩
        · skip
          exact hJ
        · skip
          refine and_have (by first | with_reducible assumption | exact vin (by with_reducible assumption) (by with_reducible assumption) (by decide) | exact vinc (by with_reducible assumption) (by with_reducible assumption) (by decide) | exact vinw (by with_reducible assumption) (by with_reducible assumption) (by decide) (by decide) | exact vinl (by with_reducible assumption) (by with_reducible assumption) (by decide) | exact v60a (by with_reducible assumption) (by with_reducible assumption) | exact v60b (by with_reducible assumption) (by with_reducible assumption) | exact v60b' (by with_reducible assumption) (by with_reducible assumption) | exact v60c (by with_reducible assumption) (by with_reducible assumption) | exact v60d (by with_reducible assumption) (by with_reducible assumption)) (fun hv => ?_)
          refine and_have (by first | with_reducible assumption | exact vin (by with_reducible assumption) (by with_reducible assumption) (by decide) | exact vinc (by with_reducible assumption) (by with_reducible assumption) (by decide) | exact vinw (by with_reducible assumption) (by with_reducible assumption) (by decide) (by decide) | exact vinl (by with_reducible assumption) (by with_reducible assumption) (by decide) | exact v60a (by with_reducible assumption) (by with_reducible assumption) | exact v60b (by with_reducible assumption) (by with_reducible assumption) | exact v60b' (by with_reducible assumption) (by with_reducible assumption) | exact v60c (by with_reducible assumption) (by with_reducible assumption) | exact v60d (by with_reducible assumption) (by with_reducible assumption)) (fun hv => ?_)
          rintro _ rfl
          refine c_w (fun c c' => ?_) (fun c => ?_)
          · skip
            refine ⟨fun c => ?_, fun c => ?_⟩
            · skip
              refine and_have (by first | with_reducible assumption | exact vin (by with_reducible assumption) (by with_reducible assumption) (by decide) | exact vinc (by with_reducible assumption) (by with_reducible assumption) (by decide) | exact vinw (by with_reducible assumption) (by with_reducible assumption) (by decide) (by decide) | exact vinl (by with_reducible assumption) (by with_reducible assumption) (by decide) | exact v60a (by with_reducible assumption) (by with_reducible assumption) | exact v60b (by with_reducible assumption) (by with_reducible assumption) | exact v60b' (by with_reducible assumption) (by with_reducible assumption) | exact v60c (by with_reducible assumption) (by with_reducible assumption) | exact v60d (by with_reducible assumption) (by with_reducible assumption)) (fun hv => ?_)
              refine and_have (by first | with_reducible assumption | exact vin (by with_reducible assumption) (by with_reducible assumption) (by decide) | exact vinc (by with_reducible assumption) (by with_reducible assumption) (by decide) | exact vinw (by with_reducible assumption) (by with_reducible assumption) (by decide) (by decide) | exact vinl (by with_reducible assumption) (by with_reducible assumption) (by decide) | exact v60a (by with_reducible assumption) (by with_reducible assumption) | exact v60b (by with_reducible assumption) (by with_reducible assumption) | exact v60b' (by with_reducible assumption) (by with_reducible assumption) | exact v60c (by with_reducible assumption) (by with_reducible assumption) | exact v60d (by with_reducible assumption) (by with_reducible assumption)) (fun hv => ?_)
              rintro _ rfl
              rintro _ rfl
              rintro _ rfl
              refine lpE_intro (fun ⟨x1_q, x2_q, x3_q, x5_q, x6_q, x7_q, h_q, g_q⟩ => JJ (SWay) h h_q ∧ x1 = x1_q ∧ x2_1 = x2_q ∧ ((h_1 (94 + x1.toNatClampNeg) x2_1.toNatClampNeg)) = x3_q ∧ ((((h_1 (91 + x1.toNatClampNeg) ((h_1 (94 + x1.toNatClampNeg) x2_1.toNatClampNeg)).toNatClampNeg)) / (32768 : Int32))) = x5_q ∧ ((((h_1 (91 + x1.toNatClampNeg) ((h_1 (94 + x1.toNatClampNeg) x2_1.toNatClampNeg)).toNatClampNeg)) - ((h_1 (91 + x1.toNatClampNeg) ((h_1 (94 + x1.toNatClampNeg) x2_1.toNatClampNeg)).toNatClampNeg)) / (32768 : Int32) * (32768 : Int32))) = x6_q ∧ True) (fun ⟨x1_q, x2_q, x3_q, x5_q, x6_q, x7_q, h_q, g_q⟩ => dif (h 10 3) x7_q) ?_ _ ⟨hJ, rfl, rfl, rfl, rfl, rfl, trivial⟩
              rintro ⟨x1_2, x2_2, x3_2, x5_2, x6_2, x7_2, h_2, g_2⟩ K2 ⟨hJ, rfl, rfl, rfl, rfl, rfl, -⟩ hK2
              unfold F_X9_spread_79; dsimp only; unfold b_X9_spread_79
              refine c_i (p_rowsJ hJ nSWay gs_10) ?_
              rintro _ _ _ ⟨rfl, rfl, rfl⟩
              refine ⟨fun c => ?_, fun c => ?_⟩
              · skip
                unfold j_X9_spread_194
                rintro _ rfl
                exact hK1 _ ⟨hJ, rfl, (inc_nn (by with_reducible assumption) (by with_reducible assumption)), trivial⟩ (dif_lt (by with_reducible assumption))
              · skip
                refine c_i (p_atJ hC hJ nSWay gs_10) ?_
                rintro _ _ _ ⟨rfl, rfl, rfl⟩
                refine ⟨fun c => ?_, fun c => ?_⟩
                · skip
                  refine c_i (p_atJ hC hJ nSWay gs_10) ?_
                  rintro _ _ _ ⟨rfl, rfl, rfl⟩
                  refine ⟨fun c => ?_, fun c => ?_⟩
                  · skip
                    refine c_i (p_atJ hC hJ nSWay gs_10) ?_
                    rintro _ _ _ ⟨rfl, rfl, rfl⟩
                    rintro _ rfl
                    refine c_i (p_atJ hC hJ nSWay gs_10) ?_
                    rintro _ _ _ ⟨rfl, rfl, rfl⟩
                    refine c_v (p_X9_reach (hC.jj hJ nSWay) ) ?_
                    rintro h_185 g_185 hJ2
                    have hJ := hJ.tr (hJ2)
                    unfold j_X9_spread_188
                    rintro _ rfl
                    exact hK2 _ ⟨hJ, rfl, rfl, rfl, rfl, rfl, trivial⟩ (dif_lt (by with_reducible assumption))
                  · skip
                    unfold j_X9_spread_188
                    rintro _ rfl
                    exact hK2 _ ⟨hJ, rfl, rfl, rfl, rfl, rfl, trivial⟩ (dif_lt (by with_reducible assumption))
                · skip
                  unfold j_X9_spread_188
                  rintro _ rfl
                  exact hK2 _ ⟨hJ, rfl, rfl, rfl, rfl, rfl, trivial⟩ (dif_lt (by with_reducible assumption))
            · exact absI c
          · skip
            refine ⟨fun c => ?_, fun c => ?_⟩
            · exact absN c
            · skip
              unfold j_X9_spread_194
              rintro _ rfl
              exact hK1 _ ⟨hJ, rfl, (inc_nn (by with_reducible assumption) (by with_reducible assumption)), trivial⟩ (dif_lt (by with_reducible assumption))
    · exact absI c
  · skip
    refine ⟨fun c => ?_, fun c => ?_⟩
    · exact absN c
    · skip
      exact hJ
theorem p_X9_forget {h : HI} {g : HL} (hC : CI h) {x1 : Int32}   : w_X9_forget x1 h g (fun h' g' => JJ (SWay) h h') := by
  unfold w_X9_forget
  have hJ : JJ (SWay) h h := JJ.rf
  refine c_w (fun c c' => ?_) (fun c => ?_)
  · skip
    refine ⟨fun c => ?_, fun c => ?_⟩
    · skip
      refine lpE_intro (fun ⟨x1_q, x2_q, h_q, g_q⟩ => JJ (SWay) h h_q ∧ x1 = x1_q ∧ ¬ x2_q < 0 ∧ True) (fun ⟨x1_q, x2_q, h_q, g_q⟩ => dif (3000 : Int32) x2_q) ?_ _ ⟨hJ, rfl, nn0, trivial⟩
      rintro ⟨x1_1, x2_1, h_1, g_1⟩ K1 ⟨hJ, rfl, i1_0, -⟩ hK1
      unfold F_X9_forget_12; dsimp only; unfold b_X9_forget_12
      refine and_have (by first | with_reducible assumption | exact vin (by with_reducible assumption) (by with_reducible assumption) (by decide) | exact vinc (by with_reducible assumption) (by with_reducible assumption) (by decide) | exact vinw (by with_reducible assumption) (by with_reducible assumption) (by decide) (by decide) | exact vinl (by with_reducible assumption) (by with_reducible assumption) (by decide) | exact v60a (by with_reducible assumption) (by with_reducible assumption) | exact v60b (by with_reducible assumption) (by with_reducible assumption) | exact v60b' (by with_reducible assumption) (by with_reducible assumption) | exact v60c (by with_reducible assumption) (by with_reducible assumption) | exact v60d (by with_reducible assumption) (by with_reducible assumption)) (fun hv => ?_)
      refine ⟨fun c => ?_, fun c => ?_⟩
      · skip
        unfold j_X9_forget_64
        refine and_have (by first | with_reducible assumption | exact vin (by with_reducible assumption) (by with_reducible assumption) (by decide) | exact vinc (by with_reducible assumption) (by with_reducible assumption) (by decide) | exact vinw (by with_reducible assumption) (by with_reducible assumption) (by decide) (by decide) | exact vinl (by with_reducible assumption) (by with_reducible assumption) (by decide) | exact v60a (by with_reducible assumption) (by with_reducible assumption) | exact v60b (by with_reducible assumption) (by with_reducible assumption) | exact v60b' (by with_reducible assumption) (by with_reducible assumption) | exact v60c (by with_reducible assumption) (by with_reducible assumption) | exact v60d (by with_reducible assumption) (by with_reducible assumption)) (fun hv => ?_)
        intro h_70 e_h_70
        have hJ := hJ.hu e_h_70 (by unfold SWay; omega)
        exact hJ
      · skip
        refine ⟨fun c => ?_, fun c => ?_⟩
        · skip
          unfold j_X9_forget_64
          refine and_have (by first | with_reducible assumption | exact vin (by with_reducible assumption) (by with_reducible assumption) (by decide) | exact vinc (by with_reducible assumption) (by with_reducible assumption) (by decide) | exact vinw (by with_reducible assumption) (by with_reducible assumption) (by decide) (by decide) | exact vinl (by with_reducible assumption) (by with_reducible assumption) (by decide) | exact v60a (by with_reducible assumption) (by with_reducible assumption) | exact v60b (by with_reducible assumption) (by with_reducible assumption) | exact v60b' (by with_reducible assumption) (by with_reducible assumption) | exact v60c (by with_reducible assumption) (by with_reducible assumption) | exact v60d (by with_reducible assumption) (by with_reducible assumption)) (fun hv => ?_)
          intro h_70 e_h_70
          have hJ := hJ.hu e_h_70 (by unfold SWay; omega)
          exact hJ
        · skip
          refine and_have (by first | with_reducible assumption | exact vin (by with_reducible assumption) (by with_reducible assumption) (by decide) | exact vinc (by with_reducible assumption) (by with_reducible assumption) (by decide) | exact vinw (by with_reducible assumption) (by with_reducible assumption) (by decide) (by decide) | exact vinl (by with_reducible assumption) (by with_reducible assumption) (by decide) | exact v60a (by with_reducible assumption) (by with_reducible assumption) | exact v60b (by with_reducible assumption) (by with_reducible assumption) | exact v60b' (by with_reducible assumption) (by with_reducible assumption) | exact v60c (by with_reducible assumption) (by with_reducible assumption) | exact v60d (by with_reducible assumption) (by with_reducible assumption)) (fun hv => ?_)
          refine and_have (by first | with_reducible assumption | exact vin (by with_reducible assumption) (by with_reducible assumption) (by decide) | exact vinc (by with_reducible assumption) (by with_reducible assumption) (by decide) | exact vinw (by with_reducible assumption) (by with_reducible assumption) (by decide) (by decide) | exact vinl (by with_reducible assumption) (by with_reducible assumption) (by decide) | exact v60a (by with_reducible assumption) (by with_reducible assumption) | exact v60b (by with_reducible assumption) (by with_reducible assumption) | exact v60b' (by with_reducible assumption) (by with_reducible assumption) | exact v60c (by with_reducible assumption) (by with_reducible assumption) | exact v60d (by with_reducible assumption) (by with_reducible assumption)) (fun hv => ?_)
          rintro _ rfl
          refine c_w (fun c c' => ?_) (fun c => ?_)
          · skip
            refine ⟨fun c => ?_, fun c => ?_⟩
            · exact absI c
            · skip
              refine and_have (by first | with_reducible assumption | exact vin (by with_reducible assumption) (by with_reducible assumption) (by decide) | exact vinc (by with_reducible assumption) (by with_reducible assumption) (by decide) | exact vinw (by with_reducible assumption) (by with_reducible assumption) (by decide) (by decide) | exact vinl (by with_reducible assumption) (by with_reducible assumption) (by decide) | exact v60a (by with_reducible assumption) (by with_reducible assumption) | exact v60b (by with_reducible assumption) (by with_reducible assumption) | exact v60b' (by with_reducible assumption) (by with_reducible assumption) | exact v60c (by with_reducible assumption) (by with_reducible assumption) | exact v60d (by with_reducible assumption) (by with_reducible assumption)) (fun hv => ?_)
              refine and_have (by first | with_reducible assumption | exact vin (by with_reducible assumption) (by with_reducible assumption) (by decide) | exact vinc (by with_reducible assumption) (by with_reducible assumption) (by decide) | exact vinw (by with_reducible assumption) (by with_reducible assumption) (by decide) (by decide) | exact vinl (by with_reducible assumption) (by with_reducible assumption) (by decide) | exact v60a (by with_reducible assumption) (by with_reducible assumption) | exact v60b (by with_reducible assumption) (by with_reducible assumption) | exact v60b' (by with_reducible assumption) (by with_reducible assumption) | exact v60c (by with_reducible assumption) (by with_reducible assumption) | exact v60d (by with_reducible assumption) (by with_reducible assumption)) (fun hv => ?_)
              intro h_57 e_h_57
              have hJ := hJ.hu e_h_57 (by have := vp_lt (‹vp_in x1 2›); unfold SWay; omega)
              unfold j_X9_forget_58
              rintro _ rfl
              exact hK1 _ ⟨hJ, rfl, (inc_nn (by with_reducible assumption) (by with_reducible assumption)), trivial⟩ (dif_lt (by with_reducible assumption))
          · skip
            refine ⟨fun c => ?_, fun c => ?_⟩
            · skip
              unfold j_X9_forget_58
              rintro _ rfl
              exact hK1 _ ⟨hJ, rfl, (inc_nn (by with_reducible assumption) (by with_reducible assumption)), trivial⟩ (dif_lt (by with_reducible assumption))
            · exact absN c
    · exact absI c
  · skip
    refine ⟨fun c => ?_, fun c => ?_⟩
    · exact absN c
    · skip
      exact hJ
theorem p_X9_find {h : HI} {g : HL} (hC : CI h) {x1 : Int32} {x2 : Int32} {x3 : Int32}   : w_X9_find x1 x2 x3 h g (fun h' g' => JJ (SWay) h h') := by
  unfold w_X9_find
  have hJ : JJ (SWay) h h := JJ.rf
  intro h_2 e_h_2
  have hJ := hJ.hu e_h_2 (by unfold SWay; omega)
  refine c_v (p_X9_reach (hC.jj hJ nSWay) ) ?_
  rintro h_9 g_9 hJ2
  have hJ := hJ.tr (hJ2)
  refine lpE_intro (fun ⟨x2_q, x3_q, x4_q, h_q, g_q⟩ => JJ (SWay) h h_q ∧ x2 = x2_q ∧ x3 = x3_q ∧ True) (fun ⟨x2_q, x3_q, x4_q, h_q, g_q⟩ => dil (5 : Int32) x4_q) ?_ _ ⟨hJ, rfl, rfl, trivial⟩
  rintro ⟨x2_1, x3_1, x4_1, h_1, g_1⟩ K1 ⟨hJ, rfl, rfl, -⟩ hK1
  unfold F_X9_find_15; dsimp only; unfold b_X9_find_15
  refine ⟨fun c => ?_, fun c => ?_⟩
  · skip
    exact hJ
  · skip
    rintro _ rfl
    refine c_v (p_X9_look (hC.jj hJ nSWay) ) ?_
    rintro h_34 g_34 hJ2
    have hJ := hJ.tr (hJ2)
    refine ⟨fun c => ?_, fun c => ?_⟩
    · skip
      unfold j_X9_find_49
      refine c_v (p_X9_forget (hC.jj hJ nSWay) ) ?_
      rintro h_52 g_52 hJ2
      have hJ := hJ.tr (hJ2)
      rintro _ rfl
      exact hK1 _ ⟨hJ, rfl, rfl, trivial⟩ (dil_lt (by with_reducible assumption) (by decide))
    · skip
      refine c_v (p_X9_spread (hC.jj hJ nSWay) ) ?_
      rintro h_46 g_46 hJ2
      have hJ := hJ.tr (hJ2)
      unfold j_X9_find_49
      refine c_v (p_X9_forget (hC.jj hJ nSWay) ) ?_
      rintro h_52 g_52 hJ2
      have hJ := hJ.tr (hJ2)
      rintro _ rfl
      exact hK1 _ ⟨hJ, rfl, rfl, trivial⟩ (dil_lt (by with_reducible assumption) (by decide))
theorem p_X9_stepAt {h : HI} {g : HL} (hC : CI h) {x1 : Int32}   : w_X9_stepAt x1 h g (fun r h' g' => h = h' ∧ g = g') := by
  unfold w_X9_stepAt
  refine c_w (fun c c' => ?_) (fun c => ?_)
  · skip
    refine ⟨fun c => ?_, fun c => ?_⟩
    · exact absI c
    · skip
      exact ⟨rfl, rfl⟩
  · skip
    refine ⟨fun c => ?_, fun c => ?_⟩
    · skip
      exact ⟨rfl, rfl⟩
    · exact absN c
theorem p_X10_withRow {h : HI} {g : HL} (hC : CI h) {x0 : Int64} {o2 : Nat} {x3 : Int32} {x4 : Int32}  (hT : isT o2) : w_X10_withRow x0 o2 x3 x4 h g (fun r h' g' => h = h' ∧ g = g') := by
  unfold w_X10_withRow
  refine lpE_intro (fun ⟨x3_q, x4_q, x5_q, x7_q, h_q, g_q⟩ => x3 = x3_q ∧ x4 = x4_q ∧ h = h_q ∧ g = g_q ∧ True) (fun ⟨x3_q, x4_q, x5_q, x7_q, h_q, g_q⟩ => dif x4_q x7_q) ?_ _ ⟨rfl, rfl, rfl, rfl, trivial⟩
  rintro ⟨x3_1, x4_1, x5_1, x7_1, h_1, g_1⟩ K1 ⟨rfl, rfl, rfl, rfl, -⟩ hK1
  unfold F_X10_withRow_6; dsimp only; unfold b_X10_withRow_6
  refine ⟨fun c => ?_, fun c => ?_⟩
  · skip
    exact ⟨rfl, rfl⟩
  · skip
    refine c_i (p_at hC hT) ?_
    rintro _ _ _ ⟨rfl, rfl, rfl⟩
    rintro _ rfl
    rintro _ rfl
    exact hK1 _ ⟨rfl, rfl, rfl, rfl, trivial⟩ (dif_lt (by with_reducible assumption))
theorem p_X10_withTable {h : HI} {g : HL} (hC : CI h) {x0 : Int64} {o2 : Nat} {x3 : Int32}  (hT : isT o2) : w_X10_withTable x0 o2 x3 h g (fun r h' g' => h = h' ∧ g = g') := by
  unfold w_X10_withTable
  refine lpE_intro (fun ⟨x3_q, x4_q, x6_q, h_q, g_q⟩ => x3 = x3_q ∧ h = h_q ∧ g = g_q ∧ True) (fun ⟨x3_q, x4_q, x6_q, h_q, g_q⟩ => dif (h o2 3) x6_q) ?_ _ ⟨rfl, rfl, rfl, trivial⟩
  rintro ⟨x3_1, x4_1, x6_1, h_1, g_1⟩ K1 ⟨rfl, rfl, rfl, -⟩ hK1
  unfold F_X10_withTable_6; dsimp only; unfold b_X10_withTable_6
  refine c_i p_rows ?_
  rintro _ _ _ ⟨rfl, rfl, rfl⟩
  refine ⟨fun c => ?_, fun c => ?_⟩
  · skip
    exact ⟨rfl, rfl⟩
  · skip
    refine c_l (p_X10_withRow hC hT) ?_
    rintro r_21 _ _ ⟨rfl, rfl⟩
    rintro _ rfl
    exact hK1 _ ⟨rfl, rfl, rfl, trivial⟩ (dif_lt (by with_reducible assumption))
theorem p_X10_withChains {h : HI} {g : HL} (hC : CI h) {x1 : Int64}   : w_X10_withChains x1 h g (fun r h' g' => h = h' ∧ g = g') := by
  unfold w_X10_withChains
  refine lpE_intro (fun ⟨x3_q, x5_q, h_q, g_q⟩ => h = h_q ∧ g = g_q ∧ True) (fun ⟨x3_q, x5_q, h_q, g_q⟩ => dif (h 8 3) x5_q) ?_ _ ⟨rfl, rfl, trivial⟩
  rintro ⟨x3_1, x5_1, h_1, g_1⟩ K1 ⟨rfl, rfl, -⟩ hK1
  unfold F_X10_withChains_5; dsimp only; unfold b_X10_withChains_5
  refine c_i p_rows ?_
  rintro _ _ _ ⟨rfl, rfl, rfl⟩
  refine ⟨fun c => ?_, fun c => ?_⟩
  · skip
    exact ⟨rfl, rfl⟩
  · skip
    refine c_i (p_at hC gs_8) ?_
    rintro _ _ _ ⟨rfl, rfl, rfl⟩
    refine c_l (p_X10_withRow hC gs_8) ?_
    rintro r_47 _ _ ⟨rfl, rfl⟩
    rintro _ rfl
    exact hK1 _ ⟨rfl, rfl, trivial⟩ (dif_lt (by with_reducible assumption))
end
section
-- 23.b.plans
theorem cb157 {h : HI} {Q : HI → HL → Prop} {K : Int32 → Int32 → Int32 → HI → HL → Prop} {j : Nat} (hj : j < 12) {y1 y2 x6 s0 : Int32} {h5 : HI} {g5 : HL} (hJ : JJ SPln h h5) (hT : h5 118 10 = h 118 10) (hb : ∀ k : Nat, k < j → b128 (h5 121 k)) (hK : ∀ (h' : HI) (g' : HL), JJ SPln h h' → h' 118 10 = h 118 10 → (∀ k : Nat, k < j + 1 → b128 (h' 121 k)) → K y1 y2 (nI (j + 1)) h' g') : j_X5_chooseBits_157 Q K y1 y2 (nI j) x6 s0 h5 g5 := by
  unfold j_X5_chooseBits_157
  refine and_have (vp_in_nI (by omega) (by omega)) (fun _ => ?_)
  intro h6 e6
  have hJ6 := hJ.hu e6 (by unfold SPln; omega)
  have hT6 : h6 118 10 = h 118 10 := by rw [e6, hu_ne (by decide)]; exact hT
  have hb6 : ∀ k : Nat, k < j + 1 → b128 (h6 121 k) := by
    intro k hk
    rw [e6, hu_eq, nI_clamp (by omega)]
    by_cases ek : k = j
    · subst ek; rw [pk_us]; exact ⟨0, by omega, nI_0.symm⟩
    · rw [pk_un ek]; exact hb k (by omega)
  have done : j_X5_chooseBits_259 Q K y1 y2 (nI j) h6 g5 := by
    unfold j_X5_chooseBits_259
    rintro _ rfl
    rw [nI_1]
    exact hK _ _ hJ6 hT6 hb6
  refine ⟨fun _ => done, fun _ => ⟨fun _ => done, fun _ => ?_⟩⟩
  refine c_w (fun c c' => ?_) (fun c => ?_)
  · refine ⟨fun _ => ?_, fun c => absI c⟩
    refine and_have (vp_in_nI (by omega) (by omega)) (fun _ => ?_)
    intro h7 e7
    obtain ⟨l, hl, el⟩ := nI_of (Int32.not_lt.mpr c)
    have hl7 : l ≤ 7 := by
      rw [el, show (7 : Int32) = nI 7 from rfl, nI_leI (by omega) (by omega)] at c'
      exact c'
    have hv : h7 121 j = nI (2 ^ l) := by
      rw [e7, hu_eq, nI_clamp (by omega), pk_us, el]; exact shl_t l (by omega)
    have p2 : 2 ^ l ≤ 128 := by
      have : 2 ^ l ≤ 2 ^ 7 := Nat.pow_le_pow_right (by omega) (by omega)
      omega
    have hJ7 := hJ6.hu e7 (by unfold SPln; omega)
    have hT7 : h7 118 10 = h 118 10 := by rw [e7, hu_ne (by decide)]; exact hT6
    have hb7 : ∀ k : Nat, k < j + 1 → b128 (h7 121 k) := by
      intro k hk
      by_cases ek : k = j
      · subst ek; rw [hv]; exact ⟨2 ^ l, p2, rfl⟩
      · rw [e7, hu_eq, nI_clamp (by omega), pk_un ek]; exact hb6 k hk
    refine lpE_intro (fun q => ∃ i : Nat, i ≤ 2 ^ l ∧ y1 = q.1 ∧ y2 = q.2.1 ∧ nI j = q.2.2.1 ∧ nI i = q.2.2.2.1 ∧ JJ SPln h q.2.2.2.2.1 ∧ q.2.2.2.2.1 118 10 = h 118 10 ∧ q.2.2.2.2.1 121 = h7 121) (fun q => dif (nI (2 ^ l)) q.2.2.2.1) ?_ _ ⟨0, Nat.zero_le _, rfl, rfl, rfl, nI_0, hJ7, hT7, rfl⟩
    rintro ⟨z1, z2, z3, z8, h8, g8⟩ K3 ⟨i, hi, rfl, rfl, rfl, rfl, hJ8, hT8, h121⟩ hK3
    unfold F_X5_chooseBits_207; dsimp only; unfold b_X5_chooseBits_207
    dsimp only at h121 hT8 hJ8
    have ev : h8 121 (nI j).toNatClampNeg = nI (2 ^ l) := by rw [nI_clamp (by omega), h121]; exact hv
    rw [ev]
    refine and_have (vp_in_nI (by omega) (by omega)) (fun _ => ⟨fun c => ?_, fun c => ?_⟩)
    · intro h9 e9
      unfold j_X5_chooseBits_259
      rintro _ rfl
      rw [nI_1]
      exact hK h9 g8 (hJ8.hu e9 (by unfold SPln; omega)) (by rw [e9, hu_eq, pk_un (by decide)]; exact hT8) (fun k hk => by rw [e9, hu_ne (by decide), h121]; exact hb7 k hk)
    · have hd := dif_lt c
      rw [nI_leI (by omega) (by omega)] at c
      have h9 : i ||| 2 ^ l < 2 ^ 8 := Nat.or_lt_two_pow (by omega) (by omega)
      refine and_have (vp_in_nI (by omega) (by omega)) (fun _ => and_have (vp_in_nI (by omega) (by omega)) (fun _ => and_have (by rw [nI_or]; exact vp_in_nI (by omega) (by omega)) (fun _ => ?_)))
      intro h9 e9
      rintro _ rfl
      exact hK3 _ ⟨i + 1, by omega, rfl, rfl, rfl, (nI_1 i).symm, hJ8.hu e9 (by unfold SPln; omega), by dsimp only; rw [e9, hu_ne (by decide)]; exact hT8, by dsimp only; rw [e9, hu_ne (by decide)]; exact h121⟩ hd
  · exact ⟨fun c => absurd rfl c, fun _ => done⟩
theorem p_X5_chooseBits {h : HI} {g : HL} (hC : CI h) : w_X5_chooseBits h g (fun h' _ => JJ SPln h h' ∧ h' 118 10 = h 118 10 ∧ ∀ k : Nat, k < 12 → b128 (h' 121 k)) := by
  unfold w_X5_chooseBits
  refine lpE_intro (fun q => h = q.2.2.2.1) (fun q => dif (h 20 3) q.2.2.1) ?_ _ rfl
  rintro ⟨a1, a2, a3, h1, g1⟩ K1 e hK1
  obtain rfl : h = h1 := e
  unfold F_X5_chooseBits_6; dsimp only; unfold b_X5_chooseBits_6
  refine c_i p_rows ?_; rintro _ _ _ ⟨rfl, rfl, rfl⟩
  refine ⟨fun c => ?_, fun c => ?_⟩
  · intro h2 e2
    have hJ : JJ SPln h h2 := JJ.rf.hu e2 (by unfold SPln; omega)
    have hT : h2 118 10 = h 118 10 := by rw [e2, hu_eq, pk_un (by decide)]
    refine and_have (vp_in_iff.mpr (by decide)) (fun _ => ?_)
    intro h3 e3
    have hJ := hJ.hu e3 (by unfold SPln; omega)
    have hT : h3 118 10 = h 118 10 := by rw [e3, hu_ne (by decide)]; exact hT
    refine lpE_intro (fun q => ∃ j : Nat, j ≤ 12 ∧ nI j = q.2.2.1 ∧ JJ SPln h q.2.2.2.1 ∧ q.2.2.2.1 118 10 = h 118 10 ∧ ∀ k : Nat, k < j → b128 (q.2.2.2.1 121 k)) (fun q => dif 12 q.2.2.1) ?_ _ ⟨0, by omega, nI_0, hJ, hT, fun k hk => absurd hk (Nat.not_lt_zero k)⟩
    clear hJ hT
    rintro ⟨b1, b2, b3, h4, g4⟩ K2 ⟨j, hj, rfl, hJ, hT, hb⟩ hK2
    dsimp only at hJ hT hb
    unfold F_X5_chooseBits_74; dsimp only; unfold b_X5_chooseBits_74
    refine ⟨fun c => ?_, fun c => ?_⟩
    · rw [show (12 : Int32) = nI 12 from rfl, nI_leI (by omega) (by omega)] at c
      exact ⟨hJ, hT, fun k hk => hb k (by omega)⟩
    · have hd := dif_lt c
      rw [nI_1] at hd
      rw [show (12 : Int32) = nI 12 from rfl, nI_leI (by omega) (by omega)] at c
      have key : ∀ x6 s0 : Int32, j_X5_chooseBits_157 (fun h' _ => JJ SPln h h' ∧ h' 118 10 = h 118 10 ∧ ∀ k : Nat, k < 12 → b128 (h' 121 k)) (fun x1 x2 x3 h g => K2 (x1, x2, x3, h, g)) b1 b2 (nI j) x6 s0 h4 g4 := fun x6 s0 =>
        cb157 (by omega) hJ hT hb (fun h' g' hJ' hT' hb' => hK2 _ ⟨j + 1, by omega, rfl, hJ', hT', hb'⟩ hd)
      have k156 : ∀ x6 : Int32, j_X5_chooseBits_156 (fun h' _ => JJ SPln h h' ∧ h' 118 10 = h 118 10 ∧ ∀ k : Nat, k < 12 → b128 (h' 121 k)) (fun x1 x2 x3 h g => K2 (x1, x2, x3, h, g)) b1 b2 (nI j) x6 h4 g4 := fun x6 => by
        unfold j_X5_chooseBits_156; exact key _ _
      have k124 : ∀ x5 s0 : Int32, j_X5_chooseBits_124 (fun h' _ => JJ SPln h h' ∧ h' 118 10 = h 118 10 ∧ ∀ k : Nat, k < 12 → b128 (h' 121 k)) (fun x1 x2 x3 h g => K2 (x1, x2, x3, h, g)) b1 b2 (nI j) x5 s0 h4 g4 := fun x5 s0 => by
        unfold j_X5_chooseBits_124
        refine ⟨fun _ => k156 _, fun _ => ?_⟩
        refine c_i (p_atJ hC hJ nSPln gs_22) ?_; rintro _ _ _ ⟨rfl, rfl, rfl⟩
        exact ⟨fun _ => k156 _, fun _ => key _ _⟩
      have k123 : ∀ x5 : Int32, j_X5_chooseBits_123 (fun h' _ => JJ SPln h h' ∧ h' 118 10 = h 118 10 ∧ ∀ k : Nat, k < 12 → b128 (h' 121 k)) (fun x1 x2 x3 h g => K2 (x1, x2, x3, h, g)) b1 b2 (nI j) x5 h4 g4 := fun x5 => by
        unfold j_X5_chooseBits_123; exact k124 _ _
      rintro _ rfl
      rintro _ rfl
      refine c_i (p_rowsJ hJ nSPln gs_20) ?_; rintro _ _ _ ⟨rfl, rfl, rfl⟩
      refine ⟨fun _ => k123 _, fun _ => ?_⟩
      refine c_z (p_X5_knows (hC.jj hJ nSPln)) ?_; rintro r _ _ ⟨rfl, rfl⟩
      exact ⟨fun _ => k123 _, fun _ => k124 _ _⟩
  · refine c_i (p_at hC gs_20) ?_; rintro _ _ _ ⟨rfl, rfl, rfl⟩
    rintro _ rfl
    refine c_i (p_at hC gs_20) ?_; rintro _ _ _ ⟨rfl, rfl, rfl⟩
    rintro _ rfl
    rintro _ rfl
    exact hK1 _ rfl (dif_lt c)
theorem p_X5_chooseLessons {h : HI} {g : HL} (hC : CI h) (hb : ∀ k : Nat, k < 12 → b128 (h 121 k)) : w_X5_chooseLessons h g (fun h' _ => JJ SPln h h' ∧ h' 118 10 = h 118 10 ∧ PL h') := by
  unfold w_X5_chooseLessons
  intro h1 e1
  refine lpE_intro (fun q => JJ SPln h q.2.1 ∧ q.2.1 118 10 = h 118 10 ∧ q.2.1 121 = h 121 ∧ PL q.2.1) (fun q => dil (47 : Int32) q.1) ?_ _ ⟨JJ.rf.hu e1 (by unfold SPln; omega), by dsimp only; rw [e1, hu_eq, pk_un (by decide)], by dsimp only; rw [e1, hu_ne (by decide)], 0, by omega, by dsimp only; rw [e1, hu_eq, pk_us, nI_0], fun i hi => absurd hi (Nat.not_lt_zero i)⟩
  rintro ⟨a1, h2, g2⟩ K ⟨hJ, hT, h121, hP⟩ hK
  dsimp only at hJ hT h121 hP
  unfold F_X5_chooseLessons_7; dsimp only; unfold b_X5_chooseLessons_7
  refine ⟨fun c => ⟨hJ, hT, hP⟩, fun c => ?_⟩
  have hd := dil_lt c (by decide)
  have stay : j_X5_chooseLessons_129 (fun h' _ => JJ SPln h h' ∧ h' 118 10 = h 118 10 ∧ PL h') (fun x1 h g => K (x1, h, g)) a1 h2 g2 := by
    unfold j_X5_chooseLessons_129
    rintro _ rfl
    exact hK _ ⟨hJ, hT, h121, hP⟩ hd
  rintro _ rfl
  rintro _ rfl
  rintro x4 e4
  refine ⟨fun _ => stay, fun _ => ?_⟩
  refine c_h (fun d d' => ?_) (fun d => ?_)
  · refine ⟨fun c => absI c, fun _ => ?_⟩
    refine c_w (fun d d' => ?_) (fun d => ?_)
    · refine ⟨fun _ => ?_, fun c => absurd c (by decide)⟩
      have h12 : vp_in x4 12 := vinw d d' (by decide) (by decide)
      refine and_have h12 (fun _ => ⟨fun _ => stay, fun _ => ?_⟩)
      refine c_w (fun d d' => ?_) (fun d => ?_)
      · refine ⟨fun c => absI c, fun _ => ?_⟩
        obtain ⟨n, hn, en, hp⟩ := hP
        have hn2 : n ≤ 15 := by
          rw [en, show (15 : Int32) = nI 15 from rfl, nI_leI (by omega) (by omega)] at d'
          exact d'
        have h16 : vp_in (h2 118 8) 16 := vinw d d' (by decide) (by decide)
        refine and_have h16 (fun _ => ?_)
        intro h3 e3
        have e38 : h3 118 = h2 118 := by rw [e3, hu_ne (by decide)]
        refine and_have h12 (fun _ => and_have (by rw [e38]; exact h16) (fun _ => ?_))
        intro h4 e4'
        intro h5 e5
        unfold j_X5_chooseLessons_129
        rintro _ rfl
        have hJ5 := ((hJ.hu e3 (by unfold SPln; omega)).hu e4' (by unfold SPln; omega)).hu e5 (by unfold SPln; omega)
        have e48 : h4 118 = h2 118 := by rw [e4', hu_ne (by decide)]; exact e38
        have e5a : h5 121 = h2 121 := by rw [e5, hu_ne (by decide), e4', hu_ne (by decide), e3, hu_ne (by decide)]
        refine hK _ ⟨hJ5, by dsimp only; rw [e5, hu_eq, pk_un (by decide), e48]; exact hT, by dsimp only; rw [e5a]; exact h121, n + 1, by omega, ?_, ?_⟩ hd
        · dsimp only
          rw [e5, hu_eq, pk_us, e48, en, nI_1]
        · intro i hi
          dsimp only
          have e5b : h5 120 = upd (h3 120) n (h3 121 x4.toNatClampNeg) := by
            rw [e5, hu_ne (by decide), e4', hu_eq, e38, en, nI_clamp (by omega)]
          rw [e5b]
          by_cases ei : i = n
          · subst ei
            rw [pk_us, e3, hu_ne (by decide), h121]
            exact hb _ (vp_lt h12)
          · rw [pk_un ei, e3, hu_ne (by decide)]
            exact hp i (by omega)
      · exact ⟨fun _ => stay, fun c => absN c⟩
    · exact ⟨fun c => absurd rfl c, fun _ => stay⟩
  · exact ⟨fun _ => stay, fun c => absN c⟩
theorem PL.cg {h h' : HI} (P : PL h) (e1 : h' 118 = h 118) (e2 : h' 120 = h 120) : PL h' := by
  unfold PL; rw [e1, e2]; exact P
end
section
-- 24.plans
theorem p_X5_taught {h : HI} {g : HL} (hC : CI h) {x1 : Int32} {x2 : Int32} {x3 : Int32}  (hP : PL h) (hx : ¬ h 118 8 ≤ x3) : w_X5_taught x1 x2 x3 h g (fun r h' g' => h = h' ∧ g = g') := by
  unfold w_X5_taught
  refine c_w (fun c c' => ?_) (fun c => ?_)
  · skip
    refine ⟨fun c => ?_, fun c => ?_⟩
    · skip
      refine c_w (fun c c' => ?_) (fun c => ?_)
      · skip
        refine ⟨fun c => ?_, fun c => ?_⟩
        · exact absI c
        · skip
          refine c_w (fun c c' => ?_) (fun c => ?_)
          · skip
            refine ⟨fun c => ?_, fun c => ?_⟩
            · skip
              refine and_have (by first | with_reducible assumption | exact vin (by with_reducible assumption) (by with_reducible assumption) (by decide) | exact vinc (by with_reducible assumption) (by with_reducible assumption) (by decide) | exact vinw (by with_reducible assumption) (by with_reducible assumption) (by decide) (by decide) | exact vinl (by with_reducible assumption) (by with_reducible assumption) (by decide) | exact v60a (by with_reducible assumption) (by with_reducible assumption) | exact v60b (by with_reducible assumption) (by with_reducible assumption) | exact v60b' (by with_reducible assumption) (by with_reducible assumption) | exact v60c (by with_reducible assumption) (by with_reducible assumption) | exact v60d (by with_reducible assumption) (by with_reducible assumption)) (fun hv => ?_)
              rintro _ rfl
              refine and_have (by first | with_reducible assumption | exact vin (by with_reducible assumption) (by with_reducible assumption) (by decide) | exact vinc (by with_reducible assumption) (by with_reducible assumption) (by decide) | exact vinw (by with_reducible assumption) (by with_reducible assumption) (by decide) (by decide) | exact vinl (by with_reducible assumption) (by with_reducible assumption) (by decide) | exact v60a (by with_reducible assumption) (by with_reducible assumption) | exact v60b (by with_reducible assumption) (by with_reducible assumption) | exact v60b' (by with_reducible assumption) (by with_reducible assumption) | exact v60c (by with_reducible assumption) (by with_reducible assumption) | exact v60d (by with_reducible assumption) (by with_reducible assumption)) (fun hv => ?_)
              rintro _ rfl
              refine and_have (by first | with_reducible assumption | exact vin (by with_reducible assumption) (by with_reducible assumption) (by decide) | exact vinc (by with_reducible assumption) (by with_reducible assumption) (by decide) | exact vinw (by with_reducible assumption) (by with_reducible assumption) (by decide) (by decide) | exact vinl (by with_reducible assumption) (by with_reducible assumption) (by decide) | exact v60a (by with_reducible assumption) (by with_reducible assumption) | exact v60b (by with_reducible assumption) (by with_reducible assumption) | exact v60b' (by with_reducible assumption) (by with_reducible assumption) | exact v60c (by with_reducible assumption) (by with_reducible assumption) | exact v60d (by with_reducible assumption) (by with_reducible assumption)) (fun hv => ?_)
              rintro _ rfl
              refine and_have (by first | with_reducible assumption | exact vin (by with_reducible assumption) (by with_reducible assumption) (by decide) | exact vinc (by with_reducible assumption) (by with_reducible assumption) (by decide) | exact vinw (by with_reducible assumption) (by with_reducible assumption) (by decide) (by decide) | exact vinl (by with_reducible assumption) (by with_reducible assumption) (by decide) | exact v60a (by with_reducible assumption) (by with_reducible assumption) | exact v60b (by with_reducible assumption) (by with_reducible assumption) | exact v60b' (by with_reducible assumption) (by with_reducible assumption) | exact v60c (by with_reducible assumption) (by with_reducible assumption) | exact v60d (by with_reducible assumption) (by with_reducible assumption)) (fun hv => ?_)
              refine ⟨fun c => ?_, fun c => ?_⟩
              · skip
                exact ⟨rfl, rfl⟩
              · skip
                refine ⟨fun c => ?_, fun c => ?_⟩
                · skip
                  exact ⟨rfl, rfl⟩
                · skip
                  refine ⟨fun c => ?_, fun c => ?_⟩
                  · skip
                    refine and_have (by first | with_reducible assumption | exact vin (by with_reducible assumption) (by with_reducible assumption) (by decide) | exact vinc (by with_reducible assumption) (by with_reducible assumption) (by decide) | exact vinw (by with_reducible assumption) (by with_reducible assumption) (by decide) (by decide) | exact vinl (by with_reducible assumption) (by with_reducible assumption) (by decide) | exact v60a (by with_reducible assumption) (by with_reducible assumption) | exact v60b (by with_reducible assumption) (by with_reducible assumption) | exact v60b' (by with_reducible assumption) (by with_reducible assumption) | exact v60c (by with_reducible assumption) (by with_reducible assumption) | exact v60d (by with_reducible assumption) (by with_reducible assumption)) (fun hv => ?_)
                    refine and_have (by first | with_reducible assumption | exact vin (by with_reducible assumption) (by with_reducible assumption) (by decide) | exact vinc (by with_reducible assumption) (by with_reducible assumption) (by decide) | exact vinw (by with_reducible assumption) (by with_reducible assumption) (by decide) (by decide) | exact vinl (by with_reducible assumption) (by with_reducible assumption) (by decide) | exact v60a (by with_reducible assumption) (by with_reducible assumption) | exact v60b (by with_reducible assumption) (by with_reducible assumption) | exact v60b' (by with_reducible assumption) (by with_reducible assumption) | exact v60c (by with_reducible assumption) (by with_reducible assumption) | exact v60d (by with_reducible assumption) (by with_reducible assumption)) (fun hv => ?_)
                    refine c_z (p_X5_knows hC ) ?_
                    rintro r_120 _ _ ⟨rfl, rfl⟩
                    refine ⟨fun c => ?_, fun c => ?_⟩
                    · skip
                      refine and_have (by first | with_reducible assumption | exact vin (by with_reducible assumption) (by with_reducible assumption) (by decide) | exact vinc (by with_reducible assumption) (by with_reducible assumption) (by decide) | exact vinw (by with_reducible assumption) (by with_reducible assumption) (by decide) (by decide) | exact vinl (by with_reducible assumption) (by with_reducible assumption) (by decide) | exact v60a (by with_reducible assumption) (by with_reducible assumption) | exact v60b (by with_reducible assumption) (by with_reducible assumption) | exact v60b' (by with_reducible assumption) (by with_reducible assumption) | exact v60c (by with_reducible assumption) (by with_reducible assumption) | exact v60d (by with_reducible assumption) (by with_reducible assumption)) (fun hv => ?_)
                      refine c_i (p_X5_runsBy hC ) ?_
                      rintro r_141 _ _ ⟨rfl, rfl⟩
                      refine and_have (by exact vinw1 (by with_reducible assumption) (by with_reducible assumption) (by decide) (by decide)) (fun hv => ?_)
                      refine and_have (by exact tg_ix hP hx (by with_reducible assumption) (by with_reducible assumption) (by with_reducible assumption)) (fun hv => ?_)
                      exact ⟨rfl, rfl⟩
                    · skip
                      exact ⟨rfl, rfl⟩
                  · skip
                    exact ⟨rfl, rfl⟩
            · exact absI c
          · skip
            refine ⟨fun c => ?_, fun c => ?_⟩
            · exact absN c
            · skip
              exact ⟨rfl, rfl⟩
      · skip
        refine ⟨fun c => ?_, fun c => ?_⟩
        · skip
          exact ⟨rfl, rfl⟩
        · exact absN c
    · exact absI c
  · skip
    refine ⟨fun c => ?_, fun c => ?_⟩
    · exact absN c
    · skip
      exact ⟨rfl, rfl⟩
theorem p_X5_mostOf {h : HI} {g : HL} (hC : CI h) {x1 : Int32} {x2 : Int32}  (hP : PL h) : w_X5_mostOf x1 x2 h g (fun r h' g' => h = h' ∧ g = g') := by
  unfold w_X5_mostOf
  refine c_i (p_X5_idle hC ) ?_
  rintro r_3 _ _ ⟨rfl, rfl⟩
  refine lpE_intro (fun ⟨x1_q, x2_q, x3_q, x4_q, h_q, g_q⟩ => x1 = x1_q ∧ x2 = x2_q ∧ h = h_q ∧ g = g_q ∧ True) (fun ⟨x1_q, x2_q, x3_q, x4_q, h_q, g_q⟩ => dif (h 118 8) x4_q) ?_ _ ⟨rfl, rfl, rfl, rfl, trivial⟩
  rintro ⟨x1_1, x2_1, x3_1, x4_1, h_1, g_1⟩ K1 ⟨rfl, rfl, rfl, rfl, -⟩ hK1
  unfold F_X5_mostOf_10; dsimp only; unfold b_X5_mostOf_10
  refine ⟨fun c => ?_, fun c => ?_⟩
  · skip
    exact ⟨rfl, rfl⟩
  · skip
    refine c_i (p_X5_taught hC hP (by with_reducible assumption)) ?_
    rintro r_25 _ _ ⟨rfl, rfl⟩
    rintro _ rfl
    rintro _ rfl
    exact hK1 _ ⟨rfl, rfl, rfl, rfl, trivial⟩ (dif_lt (by with_reducible assumption))
theorem p_X5_bestIn {h : HI} {g : HL} (hC : CI h) {x1 : Int32} {x2 : Int32}  (hP : PL h) : w_X5_bestIn x1 x2 h g (fun r h' g' => h = h' ∧ g = g') := by
  unfold w_X5_bestIn
  refine c_i (p_X5_mostOf hC hP) ?_
  rintro r_3 _ _ ⟨rfl, rfl⟩
  refine c_i (p_X5_idle hC ) ?_
  rintro r_10 _ _ ⟨rfl, rfl⟩
  refine ⟨fun c => ?_, fun c => ?_⟩
  · skip
    refine lpE_intro (fun ⟨x1_q, x2_q, x3_q, x4_q, h_q, g_q⟩ => x1 = x1_q ∧ x2 = x2_q ∧ r_3 = x3_q ∧ h = h_q ∧ g = g_q ∧ True) (fun ⟨x1_q, x2_q, x3_q, x4_q, h_q, g_q⟩ => dif (h 118 8) x4_q) ?_ _ ⟨rfl, rfl, rfl, rfl, rfl, trivial⟩
    rintro ⟨x1_1, x2_1, x3_1, x4_1, h_1, g_1⟩ K1 ⟨rfl, rfl, rfl, rfl, rfl, -⟩ hK1
    unfold F_X5_bestIn_22; dsimp only; unfold b_X5_bestIn_22
    refine ⟨fun c => ?_, fun c => ?_⟩
    · skip
      exact ⟨rfl, rfl⟩
    · skip
      refine c_i (p_X5_taught hC hP (by with_reducible assumption)) ?_
      rintro r_36 _ _ ⟨rfl, rfl⟩
      refine ⟨fun c => ?_, fun c => ?_⟩
      · skip
        rintro _ rfl
        exact hK1 _ ⟨rfl, rfl, rfl, rfl, rfl, trivial⟩ (dif_lt (by with_reducible assumption))
      · skip
        exact ⟨rfl, rfl⟩
  · skip
    exact ⟨rfl, rfl⟩
theorem p_X5_lessonIn {h : HI} {g : HL} (hC : CI h) {x1 : Int32}  (hP : PL h) : w_X5_lessonIn x1 h g (fun r h' g' => h = h' ∧ g = g') := by
  unfold w_X5_lessonIn
  refine lpE_intro (fun ⟨x1_q, x2_q, x3_q, h_q, g_q⟩ => x1 = x1_q ∧ h = h_q ∧ g = g_q ∧ True) (fun ⟨x1_q, x2_q, x3_q, h_q, g_q⟩ => dif (h 118 10) x3_q) ?_ _ ⟨rfl, rfl, rfl, trivial⟩
  rintro ⟨x1_1, x2_1, x3_1, h_1, g_1⟩ K1 ⟨rfl, rfl, rfl, -⟩ hK1
  unfold F_X5_lessonIn_4; dsimp only; unfold b_X5_lessonIn_4
  refine ⟨fun c => ?_, fun c => ?_⟩
  · skip
    exact ⟨rfl, rfl⟩
  · skip
    refine c_i (p_X5_bestIn hC hP) ?_
    rintro r_15 _ _ ⟨rfl, rfl⟩
    refine c_w (fun c c' => ?_) (fun c => ?_)
    · skip
      refine ⟨fun c => ?_, fun c => ?_⟩
      · skip
        refine ⟨fun c => ?_, fun c => ?_⟩
        · exact absI c
        · skip
          refine and_have (by first | with_reducible assumption | exact vin (by with_reducible assumption) (by with_reducible assumption) (by decide) | exact vinc (by with_reducible assumption) (by with_reducible assumption) (by decide) | exact vinw (by with_reducible assumption) (by with_reducible assumption) (by decide) (by decide) | exact vinl (by with_reducible assumption) (by with_reducible assumption) (by decide) | exact v60a (by with_reducible assumption) (by with_reducible assumption) | exact v60b (by with_reducible assumption) (by with_reducible assumption) | exact v60b' (by with_reducible assumption) (by with_reducible assumption) | exact v60c (by with_reducible assumption) (by with_reducible assumption) | exact v60d (by with_reducible assumption) (by with_reducible assumption)) (fun hv => ?_)
          rintro _ rfl
          unfold j_X5_lessonIn_67
          rintro _ rfl
          exact hK1 _ ⟨rfl, rfl, rfl, trivial⟩ (dif_lt (by with_reducible assumption))
      · skip
        refine ⟨fun c => ?_, fun c => ?_⟩
        · exact absI c
        · skip
          refine and_have (by first | with_reducible assumption | exact vin (by with_reducible assumption) (by with_reducible assumption) (by decide) | exact vinc (by with_reducible assumption) (by with_reducible assumption) (by decide) | exact vinw (by with_reducible assumption) (by with_reducible assumption) (by decide) (by decide) | exact vinl (by with_reducible assumption) (by with_reducible assumption) (by decide) | exact v60a (by with_reducible assumption) (by with_reducible assumption) | exact v60b (by with_reducible assumption) (by with_reducible assumption) | exact v60b' (by with_reducible assumption) (by with_reducible assumption) | exact v60c (by with_reducible assumption) (by with_reducible assumption) | exact v60d (by with_reducible assumption) (by with_reducible assumption)) (fun hv => ?_)
          exact ⟨rfl, rfl⟩
    · skip
      refine ⟨fun c => ?_, fun c => ?_⟩
      · skip
        refine ⟨fun c => ?_, fun c => ?_⟩
        · skip
          unfold j_X5_lessonIn_67
          rintro _ rfl
          exact hK1 _ ⟨rfl, rfl, rfl, trivial⟩ (dif_lt (by with_reducible assumption))
        · exact absN c
      · skip
        refine ⟨fun c => ?_, fun c => ?_⟩
        · skip
          exact ⟨rfl, rfl⟩
        · exact absN c
end
