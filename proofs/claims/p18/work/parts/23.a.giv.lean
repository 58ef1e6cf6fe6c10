theorem p_X3_gatherSpares {h : HI} {g : HL} (hC : CI h)    : w_X3_gatherSpares h g (fun h' g' => JJ (SGiv) h h' ∧ ∃ n : Nat, n ≤ 9 ∧ h' 97 5 = nI n) := by
  unfold w_X3_gatherSpares
  have hJ : JJ (SGiv) h h := JJ.rf
  refine c_i (p_rowsJ hJ nSGiv gs_14) ?_
  rintro _ _ _ ⟨rfl, rfl, rfl⟩
  intro h_16 e_h_16
  obtain ⟨n, hn, T1⟩ := gsp_n hC e_h_16
  have hJ := hJ.hu e_h_16 (by unfold SGiv; omega)
  refine c_v (p_J7_fill_53178 (hC.jj hJ nSGiv) (by decide +kernel)) ?_
  rintro h_24 g_24 ⟨hJ2, -⟩
  have hJ := hJ.tr (hJ2.mo (fun q hq => by unfold SO at hq; unfold SGiv; omega))
  have T1 : h_24 97 5 = nI n := by first | (rw [hJ2 97 5 (by unfold SO; omega)]; exact T1) | exact (hJ2.at 5 (by unfold SO; omega)).trans T1 | exact hp.trans T1
  refine c_v (p_J7_fill_53178 (hC.jj hJ nSGiv) (by decide +kernel)) ?_
  rintro h_32 g_32 ⟨hJ2, -⟩
  have hJ := hJ.tr (hJ2.mo (fun q hq => by unfold SO at hq; unfold SGiv; omega))
  have T1 : h_32 97 5 = nI n := by first | (rw [hJ2 97 5 (by unfold SO; omega)]; exact T1) | exact (hJ2.at 5 (by unfold SO; omega)).trans T1 | exact hp.trans T1
  refine and_have (by exact vp_in_iff.mpr (by decide)) (fun hv => ?_)
  intro h_41 e_h_41
  have T1 : h_41 97 5 = nI n := by first | (rw [e_h_41, hu_ne (by first | decide | omega)]; exact T1) | (rw [e_h_41, hu_eq, pk_un (by decide)]; exact T1) | (rw [e_h_41, hua_ne (by decide)]; exact T1)
  have hJ := hJ.hu e_h_41 (by unfold SGiv; omega)
  refine lpE_intro (fun ⟨x1_q, h_q, g_q⟩ => JJ (SGiv) h h_q ∧ h_q 97 5 = nI n ∧ ¬ x1_q < 0 ∧ True) (fun ⟨x1_q, h_q, g_q⟩ => dif (nI n) x1_q) ?_ _ ⟨hJ, T1, nn0, trivial⟩
  rintro ⟨x1_1, h_1, g_1⟩ K1 ⟨hJ, T1, i1_0, -⟩ hK1
  unfold F_X3_gatherSpares_44; dsimp only; unfold b_X3_gatherSpares_44
  refine ⟨fun c => ?_, fun c => ?_⟩
  · skip
    exact ⟨hJ, ⟨n, hn, T1⟩⟩
  · skip
    rintro _ rfl
    refine c_i (p_atJ hC hJ nSGiv gs_14) ?_
    rintro _ _ _ ⟨rfl, rfl, rfl⟩
    refine c_i (p_atJ hC hJ nSGiv gs_14) ?_
    rintro _ _ _ ⟨rfl, rfl, rfl⟩
    refine c_w (fun c c' => ?_) (fun c => ?_)
    · skip
      refine ⟨fun c => ?_, fun c => ?_⟩
      · exact absI c
      · skip
        refine and_have (by first | with_reducible assumption | exact vin (by with_reducible assumption) (by with_reducible assumption) (by decide) | exact vinc (by with_reducible assumption) (by with_reducible assumption) (by decide) | exact vinw (by with_reducible assumption) (by with_reducible assumption) (by decide) (by decide) | exact vinl (by with_reducible assumption) (by with_reducible assumption) (by decide) | exact v60a (by with_reducible assumption) (by with_reducible assumption) | exact v60b (by with_reducible assumption) (by with_reducible assumption) | exact v60b' (by with_reducible assumption) (by with_reducible assumption) | exact v60c (by with_reducible assumption) (by with_reducible assumption) | exact v60d (by with_reducible assumption) (by with_reducible assumption)) (fun hv => ?_)
        refine and_have (by first | with_reducible assumption | exact vin (by with_reducible assumption) (by with_reducible assumption) (by decide) | exact vinc (by with_reducible assumption) (by with_reducible assumption) (by decide) | exact vinw (by with_reducible assumption) (by with_reducible assumption) (by decide) (by decide) | exact vinl (by with_reducible assumption) (by with_reducible assumption) (by decide) | exact v60a (by with_reducible assumption) (by with_reducible assumption) | exact v60b (by with_reducible assumption) (by with_reducible assumption) | exact v60b' (by with_reducible assumption) (by with_reducible assumption) | exact v60c (by with_reducible assumption) (by with_reducible assumption) | exact v60d (by with_reducible assumption) (by with_reducible assumption)) (fun hv => ?_)
        intro h_107 e_h_107
        have T1 : h_107 97 5 = nI n := by first | (rw [e_h_107, hu_ne (by first | decide | omega)]; exact T1) | (rw [e_h_107, hu_eq, pk_un (by decide)]; exact T1) | (rw [e_h_107, hua_ne (by decide)]; exact T1)
        have hJ := hJ.hu e_h_107 (by unfold SGiv; omega)
        unfold j_X3_gatherSpares_108
        refine c_w (fun c c' => ?_) (fun c => ?_)
        · skip
          refine ⟨fun c => ?_, fun c => ?_⟩
          · exact absI c
          · skip
            refine and_have (by first | with_reducible assumption | exact vin (by with_reducible assumption) (by with_reducible assumption) (by decide) | exact vinc (by with_reducible assumption) (by with_reducible assumption) (by decide) | exact vinw (by with_reducible assumption) (by with_reducible assumption) (by decide) (by decide) | exact vinl (by with_reducible assumption) (by with_reducible assumption) (by decide) | exact v60a (by with_reducible assumption) (by with_reducible assumption) | exact v60b (by with_reducible assumption) (by with_reducible assumption) | exact v60b' (by with_reducible assumption) (by with_reducible assumption) | exact v60c (by with_reducible assumption) (by with_reducible assumption) | exact v60d (by with_reducible assumption) (by with_reducible assumption)) (fun hv => ?_)
            refine and_have (by first | with_reducible assumption | exact vin (by with_reducible assumption) (by with_reducible assumption) (by decide) | exact vinc (by with_reducible assumption) (by with_reducible assumption) (by decide) | exact vinw (by with_reducible assumption) (by with_reducible assumption) (by decide) (by decide) | exact vinl (by with_reducible assumption) (by with_reducible assumption) (by decide) | exact v60a (by with_reducible assumption) (by with_reducible assumption) | exact v60b (by with_reducible assumption) (by with_reducible assumption) | exact v60b' (by with_reducible assumption) (by with_reducible assumption) | exact v60c (by with_reducible assumption) (by with_reducible assumption) | exact v60d (by with_reducible assumption) (by with_reducible assumption)) (fun hv => ?_)
            intro h_134 e_h_134
            have T1 : h_134 97 5 = nI n := by first | (rw [e_h_134, hu_ne (by first | decide | omega)]; exact T1) | (rw [e_h_134, hu_eq, pk_un (by decide)]; exact T1) | (rw [e_h_134, hua_ne (by decide)]; exact T1)
            have hJ := hJ.hu e_h_134 (by unfold SGiv; omega)
            unfold j_X3_gatherSpares_135
            refine c_i (p_atJ hC hJ nSGiv gs_14) ?_
            rintro _ _ _ ⟨rfl, rfl, rfl⟩
            refine lpE_intro (fun ⟨x1_q, x2_q, x5_q, x6_q, h_q, g_q⟩ => JJ (SGiv) h h_q ∧ h_q 97 5 = nI n ∧ x1_1 = x1_q ∧ (((1 : Int32) <<< (x1_1 &&& 31))) = x2_q ∧ (tat h 14 x1_1 (1 : Int32)) = x5_q ∧ ¬ x6_q < 0 ∧ True) (fun ⟨x1_q, x2_q, x5_q, x6_q, h_q, g_q⟩ => dif x2_q x6_q) ?_ _ ⟨hJ, T1, rfl, rfl, rfl, nn0, trivial⟩
            rintro ⟨x1_2, x2_2, x5_2, x6_2, h_2, g_2⟩ K2 ⟨hJ, T1, rfl, rfl, rfl, i2_0, -⟩ hK2
            unfold F_X3_gatherSpares_152; dsimp only; unfold b_X3_gatherSpares_152
            refine ⟨fun c => ?_, fun c => ?_⟩
            · skip
              rintro _ rfl
              exact hK1 _ ⟨hJ, T1, (inc_nn (by with_reducible assumption) (by with_reducible assumption)), trivial⟩ (dif_lt' (by with_reducible assumption) (by with_reducible assumption))
            · skip
              refine and_have (by exact gsp_ix (by with_reducible assumption) (by with_reducible assumption) (by with_reducible assumption) (by with_reducible assumption) (by with_reducible assumption) hn) (fun hv => ?_)
              refine and_have (by exact gsp_or (by with_reducible assumption) (by with_reducible assumption) (by with_reducible assumption) (by with_reducible assumption) (by with_reducible assumption) hn) (fun hv => ?_)
              intro h_176 e_h_176
              have T1 : h_176 97 5 = nI n := by first | (rw [e_h_176, hu_ne (by first | decide | omega)]; exact T1) | (rw [e_h_176, hu_eq, pk_un (by decide)]; exact T1) | (rw [e_h_176, hua_ne (by decide)]; exact T1)
              have hJ := hJ.hu e_h_176 (by unfold SGiv; omega)
              rintro _ rfl
              exact hK2 _ ⟨hJ, T1, rfl, rfl, rfl, (inc_nn (by with_reducible assumption) (by with_reducible assumption)), trivial⟩ (dif_lt (by with_reducible assumption))
        · skip
          refine ⟨fun c => ?_, fun c => ?_⟩
          · skip
            unfold j_X3_gatherSpares_135
            refine c_i (p_atJ hC hJ nSGiv gs_14) ?_
            rintro _ _ _ ⟨rfl, rfl, rfl⟩
            refine lpE_intro (fun ⟨x1_q, x2_q, x5_q, x6_q, h_q, g_q⟩ => JJ (SGiv) h h_q ∧ h_q 97 5 = nI n ∧ x1_1 = x1_q ∧ (((1 : Int32) <<< (x1_1 &&& 31))) = x2_q ∧ (tat h 14 x1_1 (1 : Int32)) = x5_q ∧ ¬ x6_q < 0 ∧ True) (fun ⟨x1_q, x2_q, x5_q, x6_q, h_q, g_q⟩ => dif x2_q x6_q) ?_ _ ⟨hJ, T1, rfl, rfl, rfl, nn0, trivial⟩
            rintro ⟨x1_3, x2_3, x5_3, x6_3, h_3, g_3⟩ K3 ⟨hJ, T1, rfl, rfl, rfl, i3_0, -⟩ hK3
            unfold F_X3_gatherSpares_152; dsimp only; unfold b_X3_gatherSpares_152
            refine ⟨fun c => ?_, fun c => ?_⟩
            · skip
              rintro _ rfl
              exact hK1 _ ⟨hJ, T1, (inc_nn (by with_reducible assumption) (by with_reducible assumption)), trivial⟩ (dif_lt' (by with_reducible assumption) (by with_reducible assumption))
            · skip
              refine and_have (by exact gsp_ix (by with_reducible assumption) (by with_reducible assumption) (by with_reducible assumption) (by with_reducible assumption) (by with_reducible assumption) hn) (fun hv => ?_)
              refine and_have (by exact gsp_or (by with_reducible assumption) (by with_reducible assumption) (by with_reducible assumption) (by with_reducible assumption) (by with_reducible assumption) hn) (fun hv => ?_)
              intro h_176 e_h_176
              have T1 : h_176 97 5 = nI n := by first | (rw [e_h_176, hu_ne (by first | decide | omega)]; exact T1) | (rw [e_h_176, hu_eq, pk_un (by decide)]; exact T1) | (rw [e_h_176, hua_ne (by decide)]; exact T1)
              have hJ := hJ.hu e_h_176 (by unfold SGiv; omega)
              rintro _ rfl
              exact hK3 _ ⟨hJ, T1, rfl, rfl, rfl, (inc_nn (by with_reducible assumption) (by with_reducible assumption)), trivial⟩ (dif_lt (by with_reducible assumption))
          · exact absN c
    · skip
      refine ⟨fun c => ?_, fun c => ?_⟩
      · skip
        unfold j_X3_gatherSpares_108
        refine c_w (fun c c' => ?_) (fun c => ?_)
        · skip
          refine ⟨fun c => ?_, fun c => ?_⟩
          · exact absI c
          · skip
            refine and_have (by first | with_reducible assumption | exact vin (by with_reducible assumption) (by with_reducible assumption) (by decide) | exact vinc (by with_reducible assumption) (by with_reducible assumption) (by decide) | exact vinw (by with_reducible assumption) (by with_reducible assumption) (by decide) (by decide) | exact vinl (by with_reducible assumption) (by with_reducible assumption) (by decide) | exact v60a (by with_reducible assumption) (by with_reducible assumption) | exact v60b (by with_reducible assumption) (by with_reducible assumption) | exact v60b' (by with_reducible assumption) (by with_reducible assumption) | exact v60c (by with_reducible assumption) (by with_reducible assumption) | exact v60d (by with_reducible assumption) (by with_reducible assumption)) (fun hv => ?_)
            refine and_have (by first | with_reducible assumption | exact vin (by with_reducible assumption) (by with_reducible assumption) (by decide) | exact vinc (by with_reducible assumption) (by with_reducible assumption) (by decide) | exact vinw (by with_reducible assumption) (by with_reducible assumption) (by decide) (by decide) | exact vinl (by with_reducible assumption) (by with_reducible assumption) (by decide) | exact v60a (by with_reducible assumption) (by with_reducible assumption) | exact v60b (by with_reducible assumption) (by with_reducible assumption) | exact v60b' (by with_reducible assumption) (by with_reducible assumption) | exact v60c (by with_reducible assumption) (by with_reducible assumption) | exact v60d (by with_reducible assumption) (by with_reducible assumption)) (fun hv => ?_)
            intro h_134 e_h_134
            have T1 : h_134 97 5 = nI n := by first | (rw [e_h_134, hu_ne (by first | decide | omega)]; exact T1) | (rw [e_h_134, hu_eq, pk_un (by decide)]; exact T1) | (rw [e_h_134, hua_ne (by decide)]; exact T1)
            have hJ := hJ.hu e_h_134 (by unfold SGiv; omega)
            unfold j_X3_gatherSpares_135
            refine c_i (p_atJ hC hJ nSGiv gs_14) ?_
            rintro _ _ _ ⟨rfl, rfl, rfl⟩
            refine lpE_intro (fun ⟨x1_q, x2_q, x5_q, x6_q, h_q, g_q⟩ => JJ (SGiv) h h_q ∧ h_q 97 5 = nI n ∧ x1_1 = x1_q ∧ (((1 : Int32) <<< (x1_1 &&& 31))) = x2_q ∧ (tat h 14 x1_1 (1 : Int32)) = x5_q ∧ ¬ x6_q < 0 ∧ True) (fun ⟨x1_q, x2_q, x5_q, x6_q, h_q, g_q⟩ => dif x2_q x6_q) ?_ _ ⟨hJ, T1, rfl, rfl, rfl, nn0, trivial⟩
            rintro ⟨x1_4, x2_4, x5_4, x6_4, h_4, g_4⟩ K4 ⟨hJ, T1, rfl, rfl, rfl, i4_0, -⟩ hK4
            unfold F_X3_gatherSpares_152; dsimp only; unfold b_X3_gatherSpares_152
            refine ⟨fun c => ?_, fun c => ?_⟩
            · skip
              rintro _ rfl
              exact hK1 _ ⟨hJ, T1, (inc_nn (by with_reducible assumption) (by with_reducible assumption)), trivial⟩ (dif_lt' (by with_reducible assumption) (by with_reducible assumption))
            · skip
              refine and_have (by exact gsp_ix (by with_reducible assumption) (by with_reducible assumption) (by with_reducible assumption) (by with_reducible assumption) (by with_reducible assumption) hn) (fun hv => ?_)
              refine and_have (by exact gsp_or (by with_reducible assumption) (by with_reducible assumption) (by with_reducible assumption) (by with_reducible assumption) (by with_reducible assumption) hn) (fun hv => ?_)
              intro h_176 e_h_176
              have T1 : h_176 97 5 = nI n := by first | (rw [e_h_176, hu_ne (by first | decide | omega)]; exact T1) | (rw [e_h_176, hu_eq, pk_un (by decide)]; exact T1) | (rw [e_h_176, hua_ne (by decide)]; exact T1)
              have hJ := hJ.hu e_h_176 (by unfold SGiv; omega)
              rintro _ rfl
              exact hK4 _ ⟨hJ, T1, rfl, rfl, rfl, (inc_nn (by with_reducible assumption) (by with_reducible assumption)), trivial⟩ (dif_lt (by with_reducible assumption))
        · skip
          refine ⟨fun c => ?_, fun c => ?_⟩
          · skip
            unfold j_X3_gatherSpares_135
            refine c_i (p_atJ hC hJ nSGiv gs_14) ?_
            rintro _ _ _ ⟨rfl, rfl, rfl⟩
            refine lpE_intro (fun ⟨x1_q, x2_q, x5_q, x6_q, h_q, g_q⟩ => JJ (SGiv) h h_q ∧ h_q 97 5 = nI n ∧ x1_1 = x1_q ∧ (((1 : Int32) <<< (x1_1 &&& 31))) = x2_q ∧ (tat h 14 x1_1 (1 : Int32)) = x5_q ∧ ¬ x6_q < 0 ∧ True) (fun ⟨x1_q, x2_q, x5_q, x6_q, h_q, g_q⟩ => dif x2_q x6_q) ?_ _ ⟨hJ, T1, rfl, rfl, rfl, nn0, trivial⟩
            rintro ⟨x1_5, x2_5, x5_5, x6_5, h_5, g_5⟩ K5 ⟨hJ, T1, rfl, rfl, rfl, i5_0, -⟩ hK5
            unfold F_X3_gatherSpares_152; dsimp only; unfold b_X3_gatherSpares_152
            refine ⟨fun c => ?_, fun c => ?_⟩
            · skip
              rintro _ rfl
              exact hK1 _ ⟨hJ, T1, (inc_nn (by with_reducible assumption) (by with_reducible assumption)), trivial⟩ (dif_lt' (by with_reducible assumption) (by with_reducible assumption))
            · skip
              refine and_have (by exact gsp_ix (by with_reducible assumption) (by with_reducible assumption) (by with_reducible assumption) (by with_reducible assumption) (by with_reducible assumption) hn) (fun hv => ?_)
              refine and_have (by exact gsp_or (by with_reducible assumption) (by with_reducible assumption) (by with_reducible assumption) (by with_reducible assumption) (by with_reducible assumption) hn) (fun hv => ?_)
              intro h_176 e_h_176
              have T1 : h_176 97 5 = nI n := by first | (rw [e_h_176, hu_ne (by first | decide | omega)]; exact T1) | (rw [e_h_176, hu_eq, pk_un (by decide)]; exact T1) | (rw [e_h_176, hua_ne (by decide)]; exact T1)
              have hJ := hJ.hu e_h_176 (by unfold SGiv; omega)
              rintro _ rfl
              exact hK5 _ ⟨hJ, T1, rfl, rfl, rfl, (inc_nn (by with_reducible assumption) (by with_reducible assumption)), trivial⟩ (dif_lt (by with_reducible assumption))
          · exact absN c
      · exact absN c
theorem p_X3_find {h : HI} {g : HL} (hC : CI h)    : w_X3_find h g (fun h' g' => JJ (SGiv) h h') := by
  unfold w_X3_find
  have hJ : JJ (SGiv) h h := JJ.rf
  refine c_v (p_X3_gatherSpares (hC.jj hJ nSGiv) ) ?_
  rintro h_1 g_1 ⟨hJ2, ⟨n, hn, T1⟩⟩
  have hJ := hJ.tr (hJ2)
  refine c_i (p_rowsJ hJ nSGiv gs_12) ?_
  rintro _ _ _ ⟨rfl, rfl, rfl⟩
  intro x1_19 e_x1_19
  obtain ⟨m, hm, hx1⟩ := fd_x1 hC hJ nSGiv e_x1_19
  have hv7 := in7 hx1 hm
  intro x2_26 e_x2_26
  have hx2 := fd_x2 T1 hn e_x2_26
  refine lpE_intro (fun ⟨x1_q, x2_q, x3_q, h_q, g_q⟩ => JJ (SGiv) h h_q ∧ h_q 97 5 = nI n ∧ x1_19 = x1_q ∧ x2_26 = x2_q ∧ ¬ x3_q < 0 ∧ True) (fun ⟨x1_q, x2_q, x3_q, h_q, g_q⟩ => dif x2_q x3_q) ?_ _ ⟨hJ, T1, rfl, rfl, nn0, trivial⟩
  rintro ⟨x1_1, x2_1, x3_1, h_1, g_1⟩ K1 ⟨hJ, T1, rfl, rfl, i1_0, -⟩ hK1
  unfold F_X3_find_29; dsimp only; unfold b_X3_find_29
  refine ⟨fun c => ?_, fun c => ?_⟩
  · skip
    rintro _ rfl
    refine lpE_intro (fun ⟨x2_q, x3_q, h_q, g_q⟩ => JJ (SGiv) h h_q ∧ h_q 97 5 = nI n ∧ x2_26 = x2_q ∧ ¬ (6 : Int32) ≤ x3_q ∧ True) (fun ⟨x2_q, x3_q, h_q, g_q⟩ => prd x3_q) ?_ _ ⟨hJ, T1, rfl, (fd_0 hx1 hm), trivial⟩
    rintro ⟨x2_2, x3_2, h_2, g_2⟩ K2 ⟨hJ, T1, rfl, i2_0, -⟩ hK2
    unfold F_X3_find_78; dsimp only; unfold b_X3_find_78
    refine ⟨fun c => ?_, fun c => ?_⟩
    · skip
      exact hJ
    · skip
      refine lpE_intro (fun ⟨x2_q, x3_q, x4_q, h_q, g_q⟩ => JJ (SGiv) h h_q ∧ h_q 97 5 = nI n ∧ x2_26 = x2_q ∧ x3_2 = x3_q ∧ ¬ x4_q < 0 ∧ True) (fun ⟨x2_q, x3_q, x4_q, h_q, g_q⟩ => dif x2_q x4_q) ?_ _ ⟨hJ, T1, rfl, rfl, nn0, trivial⟩
      rintro ⟨x2_3, x3_3, x4_3, h_3, g_3⟩ K3 ⟨hJ, T1, rfl, rfl, i3_0, -⟩ hK3
      unfold F_X3_find_85; dsimp only; unfold b_X3_find_85
      refine ⟨fun c => ?_, fun c => ?_⟩
      · skip
        rintro _ rfl
        exact hK2 _ ⟨hJ, T1, rfl, (dec_nle (by with_reducible assumption) (by with_reducible assumption)), trivial⟩ (prd_lt (by with_reducible assumption))
      · skip
        refine c_i (p_J6_bitCount_0f7a4 (hC.jj hJ nSGiv) ) ?_
        rintro r_93 _ _ ⟨rfl, rfl⟩
        refine ⟨fun c => ?_, fun c => ?_⟩
        · skip
          unfold j_X3_find_116
          rintro _ rfl
          exact hK3 _ ⟨hJ, T1, rfl, rfl, (inc_nn (by with_reducible assumption) (by with_reducible assumption)), trivial⟩ (dif_lt (by with_reducible assumption))
        · skip
          refine and_have (by first | with_reducible assumption | exact vinm (by with_reducible assumption) (by with_reducible assumption) (by decide)) (fun hv => ?_)
          refine c_i (p_X3_mostOf (hC.jj hJ nSGiv) ) ?_
          rintro r_112 _ _ ⟨rfl, rfl⟩
          refine and_have (by exact fd_ix hx2 hn (by with_reducible assumption) (by with_reducible assumption)) (fun hv => ?_)
          intro h_115 e_h_115
          have T1 : h_115 97 5 = nI n := by first | (rw [e_h_115, hu_ne (by first | decide | omega)]; exact T1) | (rw [e_h_115, hu_eq, pk_un (by decide)]; exact T1) | (rw [e_h_115, hua_ne (by decide)]; exact T1)
          have hJ := hJ.hu e_h_115 (by have := vp_lt (‹vp_in x3_2 7›); unfold SGiv; omega)
          unfold j_X3_find_116
          rintro _ rfl
          exact hK3 _ ⟨hJ, T1, rfl, rfl, (inc_nn (by with_reducible assumption) (by with_reducible assumption)), trivial⟩ (dif_lt (by with_reducible assumption))
  · skip
    refine c_i (p_J6_bitCount_0f7a4 (hC.jj hJ nSGiv) ) ?_
    rintro r_35 _ _ ⟨rfl, rfl⟩
    refine ⟨fun c => ?_, fun c => ?_⟩
    · skip
      unfold j_X3_find_68
      rintro _ rfl
      exact hK1 _ ⟨hJ, T1, rfl, rfl, (inc_nn (by with_reducible assumption) (by with_reducible assumption)), trivial⟩ (dif_lt (by with_reducible assumption))
    · skip
      refine and_have (by first | with_reducible assumption | exact vinm (by with_reducible assumption) (by with_reducible assumption) (by decide)) (fun hv => ?_)
      refine c_z (p_X3_parts (hC.jj hJ nSGiv) ) ?_
      rintro r_51 _ _ ⟨rfl, rfl⟩
      refine ⟨fun c => ?_, fun c => ?_⟩
      · skip
        refine and_have (by exact fd_ix hx2 hn (by with_reducible assumption) (by with_reducible assumption)) (fun hv => ?_)
        unfold j_X3_find_67
        refine and_have (by exact fd_ix hx2 hn (by with_reducible assumption) (by with_reducible assumption)) (fun hv => ?_)
        intro h_67 e_h_67
        have T1 : h_67 97 5 = nI n := by first | (rw [e_h_67, hu_ne (by first | decide | omega)]; exact T1) | (rw [e_h_67, hu_eq, pk_un (by decide)]; exact T1) | (rw [e_h_67, hua_ne (by decide)]; exact T1)
        have hJ := hJ.hu e_h_67 (by have := vp_lt (‹vp_in x1_19 7›); unfold SGiv; omega)
        unfold j_X3_find_68
        rintro _ rfl
        exact hK1 _ ⟨hJ, T1, rfl, rfl, (inc_nn (by with_reducible assumption) (by with_reducible assumption)), trivial⟩ (dif_lt (by with_reducible assumption))
      · skip
        unfold j_X3_find_67
        refine and_have (by exact fd_ix hx2 hn (by with_reducible assumption) (by with_reducible assumption)) (fun hv => ?_)
        intro h_67 e_h_67
        have T1 : h_67 97 5 = nI n := by first | (rw [e_h_67, hu_ne (by first | decide | omega)]; exact T1) | (rw [e_h_67, hu_eq, pk_un (by decide)]; exact T1) | (rw [e_h_67, hua_ne (by decide)]; exact T1)
        have hJ := hJ.hu e_h_67 (by have := vp_lt (‹vp_in x1_19 7›); unfold SGiv; omega)
        unfold j_X3_find_68
        rintro _ rfl
        exact hK1 _ ⟨hJ, T1, rfl, rfl, (inc_nn (by with_reducible assumption) (by with_reducible assumption)), trivial⟩ (dif_lt (by with_reducible assumption))
