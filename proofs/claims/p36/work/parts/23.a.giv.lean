section
-- 23.a.giv
theorem p_X3_gatherSpares {h : HI} {g : HL} (hC : CI h)    : w_X3_gatherSpares h g (fun h' g' => JJ (SGiv) h h' ∧ ∃ n : Nat, n ≤ 9 ∧ h' 97 5 = nI n) := by
  unfold w_X3_gatherSpares
  have hJ : JJ (SGiv) h h := JJ.rf
  refine c_i (p_rowsJ hJ nSGiv gs_14) ?_
  rintro _ _ _ ⟨rfl, rfl, rfl⟩
  intro h_16 e_h_16
  obtain ⟨n, hn, T1⟩ := gsp_n hC e_h_16
  have hJ := hJ.hu e_h_16 (by unfold SGiv; omega)
  refine c_v (p_J7_fill_53178 (hC.jj hJ nSGiv) (by decide +kernel)) ?_
  rintro h_24 g_24 ⟨hJ2, -⟩
  have hJ := hJ.tr (hJ2.mo (fun q hq => by unfold SO at hq; unfold SGiv; omega))
  have T1 : h_24 97 5 = nI n := by first | (rw [hJ2 97 5 (by unfold SO; omega)]; exact T1) | exact (hJ2.at 5 (by unfold SO; omega)).trans T1 | exact hp.trans T1
  refine c_v (p_J7_fill_53178 (hC.jj hJ nSGiv) (by decide +kernel)) ?_
  rintro h_32 g_32 ⟨hJ2, -⟩
  have hJ := hJ.tr (hJ2.mo (fun q hq => by unfold SO at hq; unfold SGiv; omega))
  have T1 : h_32 97 5 = nI n := by first | (rw [hJ2 97 5 (by unfold SO; omega)]; exact T1) | exact (hJ2.at 5 (by unfold SO; omega)).trans T1 | exact hp.trans T1
  refine and_have (by exact vp_in_iff.mpr (by decide)) (fun hv => ?_)
  intro h_41 e_h_41
  have T1 : h_41 97 5 = nI n := by first | (rw [e_h_41, hu_ne (by first | decide | omega)]; exact T1) | (rw [e_h_41, hu_eq, pk_un (by decide)]; exact T1) | (rw [e_h_41, hua_ne (by decide)]; exact T1)
  have hJ := hJ.hu e_h_41 (by unfold SGiv; omega)
  refine lpE_intro (fun ⟨x1_q, h_q, g_q⟩ => JJ (SGiv) h h_q ∧ h_q 97 5 = nI n ∧ ¬ x1_q < 0 ∧ True) (fun ⟨x1_q, h_q, g_q⟩ => dif (nI n) x1_q) ?_ _ ⟨hJ, T1, nn0, trivial⟩
  rintro ⟨x1_1, h_1, g_1⟩ K1 ⟨hJ, T1, i1_0, -⟩ hK1
  unfold F_X3_gatherSpares_44; dsimp only; unfold b_X3_gatherSpares_44
  refine ⟨fun c => ?_, fun c => ?_⟩
  · skip
    exact ⟨hJ, ⟨n, hn, T1⟩⟩
  · skip
    rintro _ rfl
    refine c_i (p_atJ hC hJ nSGiv gs_14) ?_
    rintro _ _ _ ⟨rfl, rfl, rfl⟩
    refine c_i (p_atJ hC hJ nSGiv gs_14) ?_
    rintro _ _ _ ⟨rfl, rfl, rfl⟩
    refine c_w (fun c c' => ?_) (fun c => ?_)
    · skip
      refine ⟨fun c => ?_, fun c => ?_⟩
      · exact absI c
      · skip
        refine and_have (by first | with_reducible assumption | exact vin (by with_reducible assumption) (by with_reducible assumption) (by decide) | exact vinc (by with_reducible assumption) (by with_reducible assumption) (by decide) | exact vinw (by with_reducible assumption) (by with_reducible assumption) (by decide) (by decide) | exact vinl (by with_reducible assumption) (by with_reducible assumption) (by decide) | exact v60a (by with_reducible assumption) (by with_reducible assumption) | exact v60b (by with_reducible assumption) (by with_reducible assumption) | exact v60b' (by with_reducible assumption) (by with_reducible assumption) | exact v60c (by with_reducible assumption) (by with_reducible assumption) | exact v60d (by with_reducible assumption) (by with_reducible assumption)) (fun hv => ?_)
        refine and_have (by first | with_reducible assumption | exact vin (by with_reducible assumption) (by with_reducible assumption) (by decide) | exact vinc (by with_reducible assumption) (by with_reducible assumption) (by decide) | exact vinw (by with_reducible assumption) (by with_reducible assumption) (by decide) (by decide) | exact vinl (by with_reducible assumption) (by with_reducible assumption) (by decide) | exact v60a (by with_reducible assumption) (by with_reducible assumption) | exact v60b (by with_reducible assumption) (by with_reducible assumption) | exact v60b' (by with_reducible assumption) (by with_reducible assumption) | exact v60c (by with_reducible assumption) (by with_reducible assumption) | exact v60d (by with_reducible assumption) (by with_reducible assumption)) (fun hv => ?_)
        intro h_107 e_h_107
        have T1 : h_107 97 5 = nI n := by first | (rw [e_h_107, hu_ne (by first | decide | omega)]; exact T1) | (rw [e_h_107, hu_eq, pk_un (by decide)]; exact T1) | (rw [e_h_107, hua_ne (by decide)]; exact T1)
        have hJ := hJ.hu e_h_107 (by unfold SGiv; omega)
        unfold j_X3_gatherSpares_108
        refine c_w (fun c c' => ?_) (fun c => ?_)
        · skip
          refine ⟨fun c => ?_, fun c => ?_⟩
          · exact absI c
          · skip
            refine and_have (by first | with_reducible assumption | exact vin (by with_reducible assumption) (by with_reducible assumption) (by decide) | exact vinc (by with_reducible assumption) (by with_reducible assumption) (by decide) | exact vinw (by with_reducible assumption) (by with_reducible assumption) (by decide) (by decide) | exact vinl (by with_reducible assumption) (by with_reducible assumption) (by decide) | exact v60a (by with_reducible assumption) (by with_reducible assumption) | exact v60b (by with_reducible assumption) (by with_reducible assumption) | exact v60b' (by with_reducible assumption) (by with_reducible assumption) | exact v60c (by with_reducible assumption) (by with_reducible assumption) | exact v60d (by with_reducible assumption) (by with_reducible assumption)) (fun hv => ?_)
            refine and_have (by first | with_reducible assumption | exact vin (by with_reducible assumption) (by with_reducible assumption) (by decide) | exact vinc (by with_reducible assumption) (by with_reducible assumption) (by decide) | exact vinw (by with_reducible assumption) (by with_reducible assumption) (by decide) (by decide) | exact vinl (by with_reducible assumption) (by with_reducible assumption) (by decide) | exact v60a (by with_reducible assumption) (by with_reducible assumption) | exact v60b (by with_reducible assumption) (by with_reducible assumption) | exact v60b' (by with_reducible assumption) (by with_reducible assumption) | exact v60c (by with_reducible assumption) (by with_reducible assumption) | exact v60d (by with_reducible assumption) (by with_reducible assumption)) (fun hv => ?_)
            intro h_134 e_h_134
            have T1 : h_134 97 5 = nI n := by first | (rw [e_h_134, hu_ne (by first | decide | omega)]; exact T1) | (rw [e_h_134, hu_eq, pk_un (by decide)]; exact T1) | (rw [e_h_134, hua_ne (by decide)]; exact T1)
            have hJ := hJ.hu e_h_134 (by unfold SGiv; omega)
            unfold j_X3_gatherSpares_135
            refine c_i (p_atJ hC hJ nSGiv gs_14) ?_
            rintro _ _ _ ⟨rfl, rfl, rfl⟩
            refine lpE_intro (fun ⟨x1_q, x2_q, x5_q, x6_q, h_q, g_q⟩ => JJ (SGiv) h h_q ∧ h_q 97 5 = nI n ∧ x1_1 = x1_q ∧ (((1 : Int32) <<< (x1_1 &&& 31))) = x2_q ∧ (tat h 14 x1_1 (1 : Int32)) = x5_q ∧ ¬ x6_q < 0 ∧ True) (fun ⟨x1_q, x2_q, x5_q, x6_q, h_q, g_q⟩ => dif x2_q x6_q) ?_ _ ⟨hJ, T1, rfl, rfl, rfl, nn0, trivial⟩
            rintro ⟨x1_2, x2_2, x5_2, x6_2, h_2, g_2⟩ K2 ⟨hJ, T1, rfl, rfl, rfl, i2_0, -⟩ hK2
            unfold F_X3_gatherSpares_152; dsimp only; unfold b_X3_gatherSpares_152
            refine ⟨fun c => ?_, fun c => ?_⟩
            · skip
              rintro _ rfl
              exact hK1 _ ⟨hJ, T1, (inc_nn (by with_reducible assumption) (by with_reducible assumption)), trivial⟩ (dif_lt' (by with_reducible assumption) (by with_reducible assumption))
            · skip
              refine and_have (by exact gsp_ix (by with_reducible assumption) (by with_reducible assumption) (by with_reducible assumption) (by with_reducible assumption) (by with_reducible assumption) hn) (fun hv => ?_)
              refine and_have (by exact gsp_or (by with_reducible assumption) (by with_reducible assumption) (by with_reducible assumption) (by with_reducible assumption) (by with_reducible assumption) hn) (fun hv => ?_)
              intro h_176 e_h_176
              have T1 : h_176 97 5 = nI n := by first | (rw [e_h_176, hu_ne (by first | decide | omega)]; exact T1) | (rw [e_h_176, hu_eq, pk_un (by decide)]; exact T1) | (rw [e_h_176, hua_ne (by decide)]; exact T1)
              have hJ := hJ.hu e_h_176 (by unfold SGiv; omega)
              rintro _ rfl
              exact hK2 _ ⟨hJ, T1, rfl, rfl, rfl, (inc_nn (by with_reducible assumption) (by with_reducible assumption)), trivial⟩ (dif_lt (by with_reducible assumption))
        · skip
          refine ⟨fun c => ?_, fun c => ?_⟩
          · skip
            unfold j_X3_gatherSpares_135
            refine c_i (p_atJ hC hJ nSGiv gs_14) ?_
            rintro _ _ _ ⟨rfl, rfl, rfl⟩
            refine lpE_intro (fun ⟨x1_q, x2_q, x5_q, x6_q, h_q, g_q⟩ => JJ (SGiv) h h_q ∧ h_q 97 5 = nI n ∧ x1_1 = x1_q ∧ (((1 : Int32) <<< (x1_1 &&& 31))) = x2_q ∧ (tat h 14 x1_1 (1 : Int32)) = x5_q ∧ ¬ x6_q < 0 ∧ True) (fun ⟨x1_q, x2_q, x5_q, x6_q, h_q, g_q⟩ => dif x2_q x6_q) ?_ _ ⟨hJ, T1, rfl, rfl, rfl, nn0, trivial⟩
            rintro ⟨x1_3, x2_3, x5_3, x6_3, h_3, g_3⟩ K3 ⟨hJ, T1, rfl, rfl, rfl, i3_0, -⟩ hK3
            unfold F_X3_gatherSpares_152; dsimp only; unfold b_X3_gatherSpares_152
            refine ⟨fun c => ?_, fun c => ?_⟩
            · skip
              rintro _ rfl
              exact hK1 _ ⟨hJ, T1, (inc_nn (by with_reducible assumption) (by with_reducible assumption)), trivial⟩ (dif_lt' (by with_reducible assumption) (by with_reducible assumption))
            · skip
              refine and_have (by exact gsp_ix (by with_reducible assumption) (by with_reducible assumption) (by with_reducible assumption) (by with_reducible assumption) (by with_reducible assumption) hn) (fun hv => ?_)
              refine and_have (by exact gsp_or (by with_reducible assumption) (by with_reducible assumption) (by with_reducible assumption) (by with_reducible assumption) (by with_reducible assumption) hn) (fun hv => ?_)
              intro h_176 e_h_176
              have T1 : h_176 97 5 = nI n := by first | (rw [e_h_176, hu_ne (by first | decide | omega)]; exact T1) | (rw [e_h_176, hu_eq, pk_un (by decide)]; exact T1) | (rw [e_h_176, hua_ne (by decide)]; exact T1)
              have hJ := hJ.hu e_h_176 (by unfold SGiv; omega)
              rintro _ rfl
              exact hK3 _ ⟨hJ, T1, rfl, rfl, rfl, (inc_nn (by with_reducible assumption) (by with_reducible assumption)), trivial⟩ (dif_lt (by with_reducible assumption))
          · exact absN c
    · skip
      refine ⟨fun c => ?_, fun c => ?_⟩
      · skip
        unfold j_X3_gatherSpares_108
        refine c_w (fun c c' => ?_) (fun c => ?_)
        · skip
          refine ⟨fun c => ?_, fun c => ?_⟩
          · exact absI c
          · skip
            refine and_have (by first | with_reducible assumption | exact vin (by with_reducible assumption) (by with_reducible assumption) (by decide) | exact vinc (by with_reducible assumption) (by with_reducible assumption) (by decide) | exact vinw (by with_reducible assumption) (by with_reducible assumption) (by decide) (by decide) | exact vinl (by with_reducible assumption) (by with_reducible assumption) (by decide) | exact v60a (by with_reducible assumption) (by with_reducible assumption) | exact v60b (by with_reducible assumption) (by with_reducible assumption) | exact v60b' (by with_reducible assumption) (by with_reducible assumption) | exact v60c (by with_reducible assumption) (by with_reducible assumption) | exact v60d (by with_reducible assumption) (by with_reducible assumption)) (fun hv => ?_)
            refine and_have (by first | with_reducible assumption | exact vin (by with_reducible assumption) (by with_reducible assumption) (by decide) | exact vinc (by with_reducible assumption) (by with_reducible assumption) (by decide) | exact vinw (by with_reducible assumption) (by with_reducible assumption) (by decide) (by decide) | exact vinl (by with_reducible assumption) (by with_reducible assumption) (by decide) | exact v60a (by with_reducible assumption) (by with_reducible assumption) | exact v60b (by with_reducible assumption) (by with_reducible assumption) | exact v60b' (by with_reducible assumption) (by with_reducible assumption) | exact v60c (by with_reducible assumption) (by with_reducible assumption) | exact v60d (by with_reducible assumption) (by with_reducible assumption)) (fun hv => ?_)
            intro h_134 e_h_134
            have T1 : h_134 97 5 = nI n := by first | (rw [e_h_134, hu_ne (by first | decide | omega)]; exact T1) | (rw [e_h_134, hu_eq, pk_un (by decide)]; exact T1) | (rw [e_h_134, hua_ne (by decide)]; exact T1)
            have hJ := hJ.hu e_h_134 (by unfold SGiv; omega)
            unfold j_X3_gatherSpares_135
            refine c_i (p_atJ hC hJ nSGiv gs_14) ?_
            rintro _ _ _ ⟨rfl, rfl, rfl⟩
            refine lpE_intro (fun ⟨x1_q, x2_q, x5_q, x6_q, h_q, g_q⟩ => JJ (SGiv) h h_q ∧ h_q 97 5 = nI n ∧ x1_1 = x1_q ∧ (((1 : Int32) <<< (x1_1 &&& 31))) = x2_q ∧ (tat h 14 x1_1 (1 : Int32)) = x5_q ∧ ¬ x6_q < 0 ∧ True) (fun ⟨x1_q, x2_q, x5_q, x6_q, h_q, g_q⟩ => dif x2_q x6_q) ?_ _ ⟨hJ, T1, rfl, rfl, rfl, nn0, trivial⟩
            rintro ⟨x1_4, x2_4, x5_4, x6_4, h_4, g_4⟩ K4 ⟨hJ, T1, rfl, rfl, rfl, i4_0, -⟩ hK4
            unfold F_X3_gatherSpares_152; dsimp only; unfold b_X3_gatherSpares_152
            refine ⟨fun c => ?_, fun c => ?_⟩
            · skip
              rintro _ rfl
              exact hK1 _ ⟨hJ, T1, (inc_nn (by with_reducible assumption) (by with_reducible assumption)), trivial⟩ (dif_lt' (by with_reducible assumption) (by with_reducible assumption))
            · skip
              refine and_have (by exact gsp_ix (by with_reducible assumption) (by with_reducible assumption) (by with_reducible assumption) (by with_reducible assumption) (by with_reducible assumption) hn) (fun hv => ?_)
              refine and_have (by exact gsp_or (by with_reducible assumption) (by with_reducible assumption) (by with_reducible assumption) (by with_reducible assumption) (by with_reducible assumption) hn) (fun hv => ?_)
              intro h_176 e_h_176
              have T1 : h_176 97 5 = nI n := by first | (rw [e_h_176, hu_ne (by first | decide | omega)]; exact T1) | (rw [e_h_176, hu_eq, pk_un (by decide)]; exact T1) | (rw [e_h_176, hua_ne (by decide)]; exact T1)
              have hJ := hJ.hu e_h_176 (by unfold SGiv; omega)
              rintro _ rfl
              exact hK4 _ ⟨hJ, T1, rfl, rfl, rfl, (inc_nn (by with_reducible assumption) (by with_reducible assumption)), trivial⟩ (dif_lt (by with_reducible assumption))
        · skip
          refine ⟨fun c => ?_, fun c => ?_⟩
          · skip
            unfold j_X3_gatherSpares_135
            refine c_i (p_atJ hC hJ nSGiv gs_14) ?_
            rintro _ _ _ ⟨rfl, rfl, rfl⟩
            refine lpE_intro (fun ⟨x1_q, x2_q, x5_q, x6_q, h_q, g_q⟩ => JJ (SGiv) h h_q ∧ h_q 97 5 = nI n ∧ x1_1 = x1_q ∧ (((1 : Int32) <<< (x1_1 &&& 31))) = x2_q ∧ (tat h 14 x1_1 (1 : Int32)) = x5_q ∧ ¬ x6_q < 0 ∧ True) (fun ⟨x1_q, x2_q, x5_q, x6_q, h_q, g_q⟩ => dif x2_q x6_q) ?_ _ ⟨hJ, T1, rfl, rfl, rfl, nn0, trivial⟩
            rintro ⟨x1_5, x2_5, x5_5, x6_5, h_5, g_5⟩ K5 ⟨hJ, T1, rfl, rfl, rfl, i5_0, -⟩ hK5
            unfold F_X3_gatherSpares_152; dsimp only; unfold b_X3_gatherSpares_152
            refine ⟨fun c => ?_, fun c => ?_⟩
            · skip
              rintro _ rfl
              exact hK1 _ ⟨hJ, T1, (inc_nn (by with_reducible assumption) (by with_reducible assumption)), trivial⟩ (dif_lt' (by with_reducible assumption) (by with_reducible assumption))
            · skip
              refine and_have (by exact gsp_ix (by with_reducible assumption) (by with_reducible assumption) (by with_reducible assumption) (by with_reducible assumption) (by with_reducible assumption) hn) (fun hv => ?_)
              refine and_have (by exact gsp_or (by with_reducible assumption) (by with_reducible assumption) (by with_reducible assumption) (by with_reducible assumption) (by with_reducible assumption) hn) (fun hv => ?_)
              intro h_176 e_h_176
              have T1 : h_176 97 5 = nI n := by first | (rw [e_h_176, hu_ne (by first | decide | omega)]; exact T1) | (rw [e_h_176, hu_eq, pk_un (by decide)]; exact T1) | (rw [e_h_176, hua_ne (by decide)]; exact T1)
              have hJ := hJ.hu e_h_176 (by unfold SGiv; omega)
              rintro _ rfl
              exact hK5 _ ⟨hJ, T1, rfl, rfl, rfl, (inc_nn (by with_reducible assumption) (by with_reducible assumption)), trivial⟩ (dif_lt (by with_reducible assumption))
          · exact absN c
      · exact absN c
theorem p_X3_find {h : HI} {g : HL} (hC : CI h)    : w_X3_find h g (fun h' g' => JJ (SGiv) h h') := by
  unfold w_X3_find
  have hJ : JJ (SGiv) h h := JJ.rf
  refine c_v (p_X3_gatherSpares (hC.jj hJ nSGiv) ) ?_
  rintro h_1 g_1 ⟨hJ2, ⟨n, hn, T1⟩⟩
  have hJ := hJ.tr (hJ2)
  refine c_i (p_rowsJ hJ nSGiv gs_12) ?_
  rintro _ _ _ ⟨rfl, rfl, rfl⟩
  intro x1_19 e_x1_19
  obtain ⟨m, hm, hx1⟩ := fd_x1 hC hJ nSGiv e_x1_19
  have hv7 := in7 hx1 hm
  intro x2_26 e_x2_26
  have hx2 := fd_x2 T1 hn e_x2_26
  refine lpE_intro (fun ⟨x1_q, x2_q, x3_q, h_q, g_q⟩ => JJ (SGiv) h h_q ∧ h_q 97 5 = nI n ∧ x1_19 = x1_q ∧ x2_26 = x2_q ∧ ¬ x3_q < 0 ∧ True) (fun ⟨x1_q, x2_q, x3_q, h_q, g_q⟩ => dif x2_q x3_q) ?_ _ ⟨hJ, T1, rfl, rfl, nn0, trivial⟩
  rintro ⟨x1_1, x2_1, x3_1, h_1, g_1⟩ K1 ⟨hJ, T1, rfl, rfl, i1_0, -⟩ hK1
  unfold F_X3_find_29; dsimp only; unfold b_X3_find_29
  refine ⟨fun c => ?_, fun c => ?_⟩
  · skip
    rintro _ rfl
    refine lpE_intro (fun ⟨x2_q, x3_q, h_q, g_q⟩ => JJ (SGiv) h h_q ∧ h_q 97 5 = nI n ∧ x2_26 = x2_q ∧ ¬ (6 : Int32) ≤ x3_q ∧ True) (fun ⟨x2_q, x3_q, h_q, g_q⟩ => prd x3_q) ?_ _ ⟨hJ, T1, rfl, (fd_0 hx1 hm), trivial⟩
    rintro ⟨x2_2, x3_2, h_2, g_2⟩ K2 ⟨hJ, T1, rfl, i2_0, -⟩ hK2
    unfold F_X3_find_78; dsimp only; unfold b_X3_find_78
    refine ⟨fun c => ?_, fun c => ?_⟩
    · skip
      exact hJ
    · skip
      refine lpE_intro (fun ⟨x2_q, x3_q, x4_q, h_q, g_q⟩ => JJ (SGiv) h h_q ∧ h_q 97 5 = nI n ∧ x2_26 = x2_q ∧ x3_2 = x3_q ∧ ¬ x4_q < 0 ∧ True) (fun ⟨x2_q, x3_q, x4_q, h_q, g_q⟩ => dif x2_q x4_q) ?_ _ ⟨hJ, T1, rfl, rfl, nn0, trivial⟩
      rintro ⟨x2_3, x3_3, x4_3, h_3, g_3⟩ K3 ⟨hJ, T1, rfl, rfl, i3_0, -⟩ hK3
      unfold F_X3_find_85; dsimp only; unfold b_X3_find_85
      refine ⟨fun c => ?_, fun c => ?_⟩
      · skip
        rintro _ rfl
        exact hK2 _ ⟨hJ, T1, rfl, (dec_nle (by with_reducible assumption) (by with_reducible assumption)), trivial⟩ (prd_lt (by with_reducible assumption))
      · skip
        refine c_i (p_J6_bitCount_0f7a4 (hC.jj hJ nSGiv) ) ?_
        rintro r_93 _ _ ⟨rfl, rfl⟩
        refine ⟨fun c => ?_, fun c => ?_⟩
        · skip
          unfold j_X3_find_116
          rintro _ rfl
          exact hK3 _ ⟨hJ, T1, rfl, rfl, (inc_nn (by with_reducible assumption) (by with_reducible assumption)), trivial⟩ (dif_lt (by with_reducible assumption))
        · skip
          refine and_have (by first | with_reducible assumption | exact vinm (by with_reducible assumption) (by with_reducible assumption) (by decide)) (fun hv => ?_)
          refine c_i (p_X3_mostOf (hC.jj hJ nSGiv) ) ?_
          rintro r_112 _ _ ⟨rfl, rfl⟩
          refine and_have (by exact fd_ix hx2 hn (by with_reducible assumption) (by with_reducible assumption)) (fun hv => ?_)
          intro h_115 e_h_115
          have T1 : h_115 97 5 = nI n := by first | (rw [e_h_115, hu_ne (by first | decide | omega)]; exact T1) | (rw [e_h_115, hu_eq, pk_un (by decide)]; exact T1) | (rw [e_h_115, hua_ne (by decide)]; exact T1)
          have hJ := hJ.hu e_h_115 (by have := vp_lt (‹vp_in x3_2 7›); unfold SGiv; omega)
          unfold j_X3_find_116
          rintro _ rfl
          exact hK3 _ ⟨hJ, T1, rfl, rfl, (inc_nn (by with_reducible assumption) (by with_reducible assumption)), trivial⟩ (dif_lt (by with_reducible assumption))
  · skip
    refine c_i (p_J6_bitCount_0f7a4 (hC.jj hJ nSGiv) ) ?_
    rintro r_35 _ _ ⟨rfl, rfl⟩
    refine ⟨fun c => ?_, fun c => ?_⟩
    · skip
      unfold j_X3_find_68
      rintro _ rfl
      exact hK1 _ ⟨hJ, T1, rfl, rfl, (inc_nn (by with_reducible assumption) (by with_reducible assumption)), trivial⟩ (dif_lt (by with_reducible assumption))
    · skip
      refine and_have (by first | with_reducible assumption | exact vinm (by with_reducible assumption) (by with_reducible assumption) (by decide)) (fun hv => ?_)
      refine c_z (p_X3_parts (hC.jj hJ nSGiv) ) ?_
      rintro r_51 _ _ ⟨rfl, rfl⟩
      refine ⟨fun c => ?_, fun c => ?_⟩
      · skip
        refine and_have (by exact fd_ix hx2 hn (by with_reducible assumption) (by with_reducible assumption)) (fun hv => ?_)
        unfold j_X3_find_67
        refine and_have (by exact fd_ix hx2 hn (by with_reducible assumption) (by with_reducible assumption)) (fun hv => ?_)
        intro h_67 e_h_67
        have T1 : h_67 97 5 = nI n := by first | (rw [e_h_67, hu_ne (by first | decide | omega)]; exact T1) | (rw [e_h_67, hu_eq, pk_un (by decide)]; exact T1) | (rw [e_h_67, hua_ne (by decide)]; exact T1)
        have hJ := hJ.hu e_h_67 (by have := vp_lt (‹vp_in x1_19 7›); unfold SGiv; omega)
        unfold j_X3_find_68
        rintro _ rfl
        exact hK1 _ ⟨hJ, T1, rfl, rfl, (inc_nn (by with_reducible assumption) (by with_reducible assumption)), trivial⟩ (dif_lt (by with_reducible assumption))
      · skip
        unfold j_X3_find_67
        refine and_have (by exact fd_ix hx2 hn (by with_reducible assumption) (by with_reducible assumption)) (fun hv => ?_)
        intro h_67 e_h_67
        have T1 : h_67 97 5 = nI n := by first | (rw [e_h_67, hu_ne (by first | decide | omega)]; exact T1) | (rw [e_h_67, hu_eq, pk_un (by decide)]; exact T1) | (rw [e_h_67, hua_ne (by decide)]; exact T1)
        have hJ := hJ.hu e_h_67 (by have := vp_lt (‹vp_in x1_19 7›); unfold SGiv; omega)
        unfold j_X3_find_68
        rintro _ rfl
        exact hK1 _ ⟨hJ, T1, rfl, rfl, (inc_nn (by with_reducible assumption) (by with_reducible assumption)), trivial⟩ (dif_lt (by with_reducible assumption))
end
section
-- 23.b.plans
theorem cb157 {h : HI} {Q : HI → HL → Prop} {K : Int32 → Int32 → Int32 → HI → HL → Prop} {j : Nat} (hj : j < 12) {y1 y2 x6 s0 : Int32} {h5 : HI} {g5 : HL} (hJ : JJ SPln h h5) (hT : h5 118 10 = h 118 10) (hb : ∀ k : Nat, k < j → b128 (h5 121 k)) (hK : ∀ (h' : HI) (g' : HL), JJ SPln h h' → h' 118 10 = h 118 10 → (∀ k : Nat, k < j + 1 → b128 (h' 121 k)) → K y1 y2 (nI (j + 1)) h' g') : j_X5_chooseBits_157 Q K y1 y2 (nI j) x6 s0 h5 g5 := by
  unfold j_X5_chooseBits_157
  refine and_have (vp_in_nI (by omega) (by omega)) (fun _ => ?_)
  intro h6 e6
  have hJ6 := hJ.hu e6 (by unfold SPln; omega)
  have hT6 : h6 118 10 = h 118 10 := by rw [e6, hu_ne (by decide)]; exact hT
  have hb6 : ∀ k : Nat, k < j + 1 → b128 (h6 121 k) := by
    intro k hk
    rw [e6, hu_eq, nI_clamp (by omega)]
    by_cases ek : k = j
    · subst ek; rw [pk_us]; exact ⟨0, by omega, nI_0.symm⟩
    · rw [pk_un ek]; exact hb k (by omega)
  have done : j_X5_chooseBits_259 Q K y1 y2 (nI j) h6 g5 := by
    unfold j_X5_chooseBits_259
    rintro _ rfl
    rw [nI_1]
    exact hK _ _ hJ6 hT6 hb6
  refine ⟨fun _ => done, fun _ => ⟨fun _ => done, fun _ => ?_⟩⟩
  refine c_w (fun c c' => ?_) (fun c => ?_)
  · refine ⟨fun _ => ?_, fun c => absI c⟩
    refine and_have (vp_in_nI (by omega) (by omega)) (fun _ => ?_)
    intro h7 e7
    obtain ⟨l, hl, el⟩ := nI_of (Int32.not_lt.mpr c)
    have hl7 : l ≤ 7 := by
      rw [el, show (7 : Int32) = nI 7 from rfl, nI_leI (by omega) (by omega)] at c'
      exact c'
    have hv : h7 121 j = nI (2 ^ l) := by
      rw [e7, hu_eq, nI_clamp (by omega), pk_us, el]; exact shl_t l (by omega)
    have p2 : 2 ^ l ≤ 128 := by
      have : 2 ^ l ≤ 2 ^ 7 := Nat.pow_le_pow_right (by omega) (by omega)
      omega
    have hJ7 := hJ6.hu e7 (by unfold SPln; omega)
    have hT7 : h7 118 10 = h 118 10 := by rw [e7, hu_ne (by decide)]; exact hT6
    have hb7 : ∀ k : Nat, k < j + 1 → b128 (h7 121 k) := by
      intro k hk
      by_cases ek : k = j
      · subst ek; rw [hv]; exact ⟨2 ^ l, p2, rfl⟩
      · rw [e7, hu_eq, nI_clamp (by omega), pk_un ek]; exact hb6 k hk
    refine lpE_intro (fun q => ∃ i : Nat, i ≤ 2 ^ l ∧ y1 = q.1 ∧ y2 = q.2.1 ∧ nI j = q.2.2.1 ∧ nI i = q.2.2.2.1 ∧ JJ SPln h q.2.2.2.2.1 ∧ q.2.2.2.2.1 118 10 = h 118 10 ∧ q.2.2.2.2.1 121 = h7 121) (fun q => dif (nI (2 ^ l)) q.2.2.2.1) ?_ _ ⟨0, Nat.zero_le _, rfl, rfl, rfl, nI_0, hJ7, hT7, rfl⟩
    rintro ⟨z1, z2, z3, z8, h8, g8⟩ K3 ⟨i, hi, rfl, rfl, rfl, rfl, hJ8, hT8, h121⟩ hK3
    unfold F_X5_chooseBits_207; dsimp only; unfold b_X5_chooseBits_207
    dsimp only at h121 hT8 hJ8
    have ev : h8 121 (nI j).toNatClampNeg = nI (2 ^ l) := by rw [nI_clamp (by omega), h121]; exact hv
    rw [ev]
    refine and_have (vp_in_nI (by omega) (by omega)) (fun _ => ⟨fun c => ?_, fun c => ?_⟩)
    · intro h9 e9
      unfold j_X5_chooseBits_259
      rintro _ rfl
      rw [nI_1]
      exact hK h9 g8 (hJ8.hu e9 (by unfold SPln; omega)) (by rw [e9, hu_eq, pk_un (by decide)]; exact hT8) (fun k hk => by rw [e9, hu_ne (by decide), h121]; exact hb7 k hk)
    · have hd := dif_lt c
      rw [nI_leI (by omega) (by omega)] at c
      have h9 : i ||| 2 ^ l < 2 ^ 8 := Nat.or_lt_two_pow (by omega) (by omega)
      refine and_have (vp_in_nI (by omega) (by omega)) (fun _ => and_have (vp_in_nI (by omega) (by omega)) (fun _ => and_have (by rw [nI_or]; exact vp_in_nI (by omega) (by omega)) (fun _ => ?_)))
      intro h9 e9
      rintro _ rfl
      exact hK3 _ ⟨i + 1, by omega, rfl, rfl, rfl, (nI_1 i).symm, hJ8.hu e9 (by unfold SPln; omega), by dsimp only; rw [e9, hu_ne (by decide)]; exact hT8, by dsimp only; rw [e9, hu_ne (by decide)]; exact h121⟩ hd
  · exact ⟨fun c => absurd rfl c, fun _ => done⟩
theorem p_X5_chooseBits {h : HI} {g : HL} (hC : CI h) : w_X5_chooseBits h g (fun h' _ => JJ SPln h h' ∧ h' 118 10 = h 118 10 ∧ ∀ k : Nat, k < 12 → b128 (h' 121 k)) := by
  unfold w_X5_chooseBits
  refine lpE_intro (fun q => h = q.2.2.2.1) (fun q => dif (h 20 3) q.2.2.1) ?_ _ rfl
  rintro ⟨a1, a2, a3, h1, g1⟩ K1 e hK1
  obtain rfl : h = h1 := e
  unfold F_X5_chooseBits_6; dsimp only; unfold b_X5_chooseBits_6
  refine c_i p_rows ?_; rintro _ _ _ ⟨rfl, rfl, rfl⟩
  refine ⟨fun c => ?_, fun c => ?_⟩
  · intro h2 e2
    have hJ : JJ SPln h h2 := JJ.rf.hu e2 (by unfold SPln; omega)
    have hT : h2 118 10 = h 118 10 := by rw [e2, hu_eq, pk_un (by decide)]
    refine and_have (vp_in_iff.mpr (by decide)) (fun _ => ?_)
    intro h3 e3
    have hJ := hJ.hu e3 (by unfold SPln; omega)
    have hT : h3 118 10 = h 118 10 := by rw [e3, hu_ne (by decide)]; exact hT
    refine lpE_intro (fun q => ∃ j : Nat, j ≤ 12 ∧ nI j = q.2.2.1 ∧ JJ SPln h q.2.2.2.1 ∧ q.2.2.2.1 118 10 = h 118 10 ∧ ∀ k : Nat, k < j → b128 (q.2.2.2.1 121 k)) (fun q => dif 12 q.2.2.1) ?_ _ ⟨0, by omega, nI_0, hJ, hT, fun k hk => absurd hk (Nat.not_lt_zero k)⟩
    clear hJ hT
    rintro ⟨b1, b2, b3, h4, g4⟩ K2 ⟨j, hj, rfl, hJ, hT, hb⟩ hK2
    dsimp only at hJ hT hb
    unfold F_X5_chooseBits_74; dsimp only; unfold b_X5_chooseBits_74
    refine ⟨fun c => ?_, fun c => ?_⟩
    · rw [show (12 : Int32) = nI 12 from rfl, nI_leI (by omega) (by omega)] at c
      exact ⟨hJ, hT, fun k hk => hb k (by omega)⟩
    · have hd := dif_lt c
      rw [nI_1] at hd
      rw [show (12 : Int32) = nI 12 from rfl, nI_leI (by omega) (by omega)] at c
      have key : ∀ x6 s0 : Int32, j_X5_chooseBits_157 (fun h' _ => JJ SPln h h' ∧ h' 118 10 = h 118 10 ∧ ∀ k : Nat, k < 12 → b128 (h' 121 k)) (fun x1 x2 x3 h g => K2 (x1, x2, x3, h, g)) b1 b2 (nI j) x6 s0 h4 g4 := fun x6 s0 =>
        cb157 (by omega) hJ hT hb (fun h' g' hJ' hT' hb' => hK2 _ ⟨j + 1, by omega, rfl, hJ', hT', hb'⟩ hd)
      have k156 : ∀ x6 : Int32, j_X5_chooseBits_156 (fun h' _ => JJ SPln h h' ∧ h' 118 10 = h 118 10 ∧ ∀ k : Nat, k < 12 → b128 (h' 121 k)) (fun x1 x2 x3 h g => K2 (x1, x2, x3, h, g)) b1 b2 (nI j) x6 h4 g4 := fun x6 => by
        unfold j_X5_chooseBits_156; exact key _ _
      have k124 : ∀ x5 s0 : Int32, j_X5_chooseBits_124 (fun h' _ => JJ SPln h h' ∧ h' 118 10 = h 118 10 ∧ ∀ k : Nat, k < 12 → b128 (h' 121 k)) (fun x1 x2 x3 h g => K2 (x1, x2, x3, h, g)) b1 b2 (nI j) x5 s0 h4 g4 := fun x5 s0 => by
        unfold j_X5_chooseBits_124
        refine ⟨fun _ => k156 _, fun _ => ?_⟩
        refine c_i (p_atJ hC hJ nSPln gs_22) ?_; rintro _ _ _ ⟨rfl, rfl, rfl⟩
        exact ⟨fun _ => k156 _, fun _ => key _ _⟩
      have k123 : ∀ x5 : Int32, j_X5_chooseBits_123 (fun h' _ => JJ SPln h h' ∧ h' 118 10 = h 118 10 ∧ ∀ k : Nat, k < 12 → b128 (h' 121 k)) (fun x1 x2 x3 h g => K2 (x1, x2, x3, h, g)) b1 b2 (nI j) x5 h4 g4 := fun x5 => by
        unfold j_X5_chooseBits_123; exact k124 _ _
      rintro _ rfl
      rintro _ rfl
      refine c_i (p_rowsJ hJ nSPln gs_20) ?_; rintro _ _ _ ⟨rfl, rfl, rfl⟩
      refine ⟨fun _ => k123 _, fun _ => ?_⟩
      refine c_z (p_X5_knows (hC.jj hJ nSPln)) ?_; rintro r _ _ ⟨rfl, rfl⟩
      exact ⟨fun _ => k123 _, fun _ => k124 _ _⟩
  · refine c_i (p_at hC gs_20) ?_; rintro _ _ _ ⟨rfl, rfl, rfl⟩
    rintro _ rfl
    refine c_i (p_at hC gs_20) ?_; rintro _ _ _ ⟨rfl, rfl, rfl⟩
    rintro _ rfl
    rintro _ rfl
    exact hK1 _ rfl (dif_lt c)
theorem p_X5_chooseLessons {h : HI} {g : HL} (hC : CI h) (hb : ∀ k : Nat, k < 12 → b128 (h 121 k)) : w_X5_chooseLessons h g (fun h' _ => JJ SPln h h' ∧ h' 118 10 = h 118 10 ∧ PL h') := by
  unfold w_X5_chooseLessons
  intro h1 e1
  refine lpE_intro (fun q => JJ SPln h q.2.1 ∧ q.2.1 118 10 = h 118 10 ∧ q.2.1 121 = h 121 ∧ PL q.2.1) (fun q => dil (47 : Int32) q.1) ?_ _ ⟨JJ.rf.hu e1 (by unfold SPln; omega), by dsimp only; rw [e1, hu_eq, pk_un (by decide)], by dsimp only; rw [e1, hu_ne (by decide)], 0, by omega, by dsimp only; rw [e1, hu_eq, pk_us, nI_0], fun i hi => absurd hi (Nat.not_lt_zero i)⟩
  rintro ⟨a1, h2, g2⟩ K ⟨hJ, hT, h121, hP⟩ hK
  dsimp only at hJ hT h121 hP
  unfold F_X5_chooseLessons_7; dsimp only; unfold b_X5_chooseLessons_7
  refine ⟨fun c => ⟨hJ, hT, hP⟩, fun c => ?_⟩
  have hd := dil_lt c (by decide)
  have stay : j_X5_chooseLessons_129 (fun h' _ => JJ SPln h h' ∧ h' 118 10 = h 118 10 ∧ PL h') (fun x1 h g => K (x1, h, g)) a1 h2 g2 := by
    unfold j_X5_chooseLessons_129
    rintro _ rfl
    exact hK _ ⟨hJ, hT, h121, hP⟩ hd
  rintro _ rfl
  rintro _ rfl
  rintro x4 e4
  refine ⟨fun _ => stay, fun _ => ?_⟩
  refine c_h (fun d d' => ?_) (fun d => ?_)
  · refine ⟨fun c => absI c, fun _ => ?_⟩
    refine c_w (fun d d' => ?_) (fun d => ?_)
    · refine ⟨fun _ => ?_, fun c => absurd c (by decide)⟩
      have h12 : vp_in x4 12 := vinw d d' (by decide) (by decide)
      refine and_have h12 (fun _ => ⟨fun _ => stay, fun _ => ?_⟩)
      refine c_w (fun d d' => ?_) (fun d => ?_)
      · refine ⟨fun c => absI c, fun _ => ?_⟩
        obtain ⟨n, hn, en, hp⟩ := hP
        have hn2 : n ≤ 15 := by
          rw [en, show (15 : Int32) = nI 15 from rfl, nI_leI (by omega) (by omega)] at d'
          exact d'
        have h16 : vp_in (h2 118 8) 16 := vinw d d' (by decide) (by decide)
        refine and_have h16 (fun _ => ?_)
        intro h3 e3
        have e38 : h3 118 = h2 118 := by rw [e3, hu_ne (by decide)]
        refine and_have h12 (fun _ => and_have (by rw [e38]; exact h16) (fun _ => ?_))
        intro h4 e4'
        intro h5 e5
        unfold j_X5_chooseLessons_129
        rintro _ rfl
        have hJ5 := ((hJ.hu e3 (by unfold SPln; omega)).hu e4' (by unfold SPln; omega)).hu e5 (by unfold SPln; omega)
        have e48 : h4 118 = h2 118 := by rw [e4', hu_ne (by decide)]; exact e38
        have e5a : h5 121 = h2 121 := by rw [e5, hu_ne (by decide), e4', hu_ne (by decide), e3, hu_ne (by decide)]
        refine hK _ ⟨hJ5, by dsimp only; rw [e5, hu_eq, pk_un (by decide), e48]; exact hT, by dsimp only; rw [e5a]; exact h121, n + 1, by omega, ?_, ?_⟩ hd
        · dsimp only
          rw [e5, hu_eq, pk_us, e48, en, nI_1]
        · intro i hi
          dsimp only
          have e5b : h5 120 = upd (h3 120) n (h3 121 x4.toNatClampNeg) := by
            rw [e5, hu_ne (by decide), e4', hu_eq, e38, en, nI_clamp (by omega)]
          rw [e5b]
          by_cases ei : i = n
          · subst ei
            rw [pk_us, e3, hu_ne (by decide), h121]
            exact hb _ (vp_lt h12)
          · rw [pk_un ei, e3, hu_ne (by decide)]
            exact hp i (by omega)
      · exact ⟨fun _ => stay, fun c => absN c⟩
    · exact ⟨fun c => absurd rfl c, fun _ => stay⟩
  · exact ⟨fun _ => stay, fun c => absN c⟩
theorem PL.cg {h h' : HI} (P : PL h) (e1 : h' 118 = h 118) (e2 : h' 120 = h 120) : PL h' := by
  unfold PL; rw [e1, e2]; exact P
end
section
-- 24.plans
theorem p_X5_taught {h : HI} {g : HL} (hC : CI h) {x1 : Int32} {x2 : Int32} {x3 : Int32}  (hP : PL h) (hx : ¬ h 118 8 ≤ x3) : w_X5_taught x1 x2 x3 h g (fun r h' g' => h = h' ∧ g = g') := by
  unfold w_X5_taught
  refine c_w (fun c c' => ?_) (fun c => ?_)
  · skip
    refine ⟨fun c => ?_, fun c => ?_⟩
    · skip
      refine c_w (fun c c' => ?_) (fun c => ?_)
      · skip
        refine ⟨fun c => ?_, fun c => ?_⟩
        · exact absI c
        · skip
          refine c_w (fun c c' => ?_) (fun c => ?_)
          · skip
            refine ⟨fun c => ?_, fun c => ?_⟩
            · skip
              refine and_have (by first | with_reducible assumption | exact vin (by with_reducible assumption) (by with_reducible assumption) (by decide) | exact vinc (by with_reducible assumption) (by with_reducible assumption) (by decide) | exact vinw (by with_reducible assumption) (by with_reducible assumption) (by decide) (by decide) | exact vinl (by with_reducible assumption) (by with_reducible assumption) (by decide) | exact v60a (by with_reducible assumption) (by with_reducible assumption) | exact v60b (by with_reducible assumption) (by with_reducible assumption) | exact v60b' (by with_reducible assumption) (by with_reducible assumption) | exact v60c (by with_reducible assumption) (by with_reducible assumption) | exact v60d (by with_reducible assumption) (by with_reducible assumption)) (fun hv => ?_)
              rintro _ rfl
              refine and_have (by first | with_reducible assumption | exact vin (by with_reducible assumption) (by with_reducible assumption) (by decide) | exact vinc (by with_reducible assumption) (by with_reducible assumption) (by decide) | exact vinw (by with_reducible assumption) (by with_reducible assumption) (by decide) (by decide) | exact vinl (by with_reducible assumption) (by with_reducible assumption) (by decide) | exact v60a (by with_reducible assumption) (by with_reducible assumption) | exact v60b (by with_reducible assumption) (by with_reducible assumption) | exact v60b' (by with_reducible assumption) (by with_reducible assumption) | exact v60c (by with_reducible assumption) (by with_reducible assumption) | exact v60d (by with_reducible assumption) (by with_reducible assumption)) (fun hv => ?_)
              rintro _ rfl
              refine and_have (by first | with_reducible assumption | exact vin (by with_reducible assumption) (by with_reducible assumption) (by decide) | exact vinc (by with_reducible assumption) (by with_reducible assumption) (by decide) | exact vinw (by with_reducible assumption) (by with_reducible assumption) (by decide) (by decide) | exact vinl (by with_reducible assumption) (by with_reducible assumption) (by decide) | exact v60a (by with_reducible assumption) (by with_reducible assumption) | exact v60b (by with_reducible assumption) (by with_reducible assumption) | exact v60b' (by with_reducible assumption) (by with_reducible assumption) | exact v60c (by with_reducible assumption) (by with_reducible assumption) | exact v60d (by with_reducible assumption) (by with_reducible assumption)) (fun hv => ?_)
              rintro _ rfl
              refine and_have (by first | with_reducible assumption | exact vin (by with_reducible assumption) (by with_reducible assumption) (by decide) | exact vinc (by with_reducible assumption) (by with_reducible assumption) (by decide) | exact vinw (by with_reducible assumption) (by with_reducible assumption) (by decide) (by decide) | exact vinl (by with_reducible assumption) (by with_reducible assumption) (by decide) | exact v60a (by with_reducible assumption) (by with_reducible assumption) | exact v60b (by with_reducible assumption) (by with_reducible assumption) | exact v60b' (by with_reducible assumption) (by with_reducible assumption) | exact v60c (by with_reducible assumption) (by with_reducible assumption) | exact v60d (by with_reducible assumption) (by with_reducible assumption)) (fun hv => ?_)
              refine ⟨fun c => ?_, fun c => ?_⟩
              · skip
                exact ⟨rfl, rfl⟩
              · skip
                refine ⟨fun c => ?_, fun c => ?_⟩
                · skip
                  exact ⟨rfl, rfl⟩
                · skip
                  refine ⟨fun c => ?_, fun c => ?_⟩
                  · skip
                    refine and_have (by first | with_reducible assumption | exact vin (by with_reducible assumption) (by with_reducible assumption) (by decide) | exact vinc (by with_reducible assumption) (by with_reducible assumption) (by decide) | exact vinw (by with_reducible assumption) (by with_reducible assumption) (by decide) (by decide) | exact vinl (by with_reducible assumption) (by with_reducible assumption) (by decide) | exact v60a (by with_reducible assumption) (by with_reducible assumption) | exact v60b (by with_reducible assumption) (by with_reducible assumption) | exact v60b' (by with_reducible assumption) (by with_reducible assumption) | exact v60c (by with_reducible assumption) (by with_reducible assumption) | exact v60d (by with_reducible assumption) (by with_reducible assumption)) (fun hv => ?_)
                    refine and_have (by first | with_reducible assumption | exact vin (by with_reducible assumption) (by with_reducible assumption) (by decide) | exact vinc (by with_reducible assumption) (by with_reducible assumption) (by decide) | exact vinw (by with_reducible assumption) (by with_reducible assumption) (by decide) (by decide) | exact vinl (by with_reducible assumption) (by with_reducible assumption) (by decide) | exact v60a (by with_reducible assumption) (by with_reducible assumption) | exact v60b (by with_reducible assumption) (by with_reducible assumption) | exact v60b' (by with_reducible assumption) (by with_reducible assumption) | exact v60c (by with_reducible assumption) (by with_reducible assumption) | exact v60d (by with_reducible assumption) (by with_reducible assumption)) (fun hv => ?_)
                    refine c_z (p_X5_knows hC ) ?_
                    rintro r_120 _ _ ⟨rfl, rfl⟩
                    refine ⟨fun c => ?_, fun c => ?_⟩
                    · skip
                      refine and_have (by first | with_reducible assumption | exact vin (by with_reducible assumption) (by with_reducible assumption) (by decide) | exact vinc (by with_reducible assumption) (by with_reducible assumption) (by decide) | exact vinw (by with_reducible assumption) (by with_reducible assumption) (by decide) (by decide) | exact vinl (by with_reducible assumption) (by with_reducible assumption) (by decide) | exact v60a (by with_reducible assumption) (by with_reducible assumption) | exact v60b (by with_reducible assumption) (by with_reducible assumption) | exact v60b' (by with_reducible assumption) (by with_reducible assumption) | exact v60c (by with_reducible assumption) (by with_reducible assumption) | exact v60d (by with_reducible assumption) (by with_reducible assumption)) (fun hv => ?_)
                      refine c_i (p_X5_runsBy hC ) ?_
                      rintro r_141 _ _ ⟨rfl, rfl⟩
                      refine and_have (by exact vinw1 (by with_reducible assumption) (by with_reducible assumption) (by decide) (by decide)) (fun hv => ?_)
                      refine and_have (by exact tg_ix hP hx (by with_reducible assumption) (by with_reducible assumption) (by with_reducible assumption)) (fun hv => ?_)
                      exact ⟨rfl, rfl⟩
                    · skip
                      exact ⟨rfl, rfl⟩
                  · skip
                    exact ⟨rfl, rfl⟩
            · exact absI c
          · skip
            refine ⟨fun c => ?_, fun c => ?_⟩
            · exact absN c
            · skip
              exact ⟨rfl, rfl⟩
      · skip
        refine ⟨fun c => ?_, fun c => ?_⟩
        · skip
          exact ⟨rfl, rfl⟩
        · exact absN c
    · exact absI c
  · skip
    refine ⟨fun c => ?_, fun c => ?_⟩
    · exact absN c
    · skip
      exact ⟨rfl, rfl⟩
theorem p_X5_mostOf {h : HI} {g : HL} (hC : CI h) {x1 : Int32} {x2 : Int32}  (hP : PL h) : w_X5_mostOf x1 x2 h g (fun r h' g' => h = h' ∧ g = g') := by
  unfold w_X5_mostOf
  refine c_i (p_X5_idle hC ) ?_
  rintro r_3 _ _ ⟨rfl, rfl⟩
  refine lpE_intro (fun ⟨x1_q, x2_q, x3_q, x4_q, h_q, g_q⟩ => x1 = x1_q ∧ x2 = x2_q ∧ h = h_q ∧ g = g_q ∧ True) (fun ⟨x1_q, x2_q, x3_q, x4_q, h_q, g_q⟩ => dif (h 118 8) x4_q) ?_ _ ⟨rfl, rfl, rfl, rfl, trivial⟩
  rintro ⟨x1_1, x2_1, x3_1, x4_1, h_1, g_1⟩ K1 ⟨rfl, rfl, rfl, rfl, -⟩ hK1
  unfold F_X5_mostOf_10; dsimp only; unfold b_X5_mostOf_10
  refine ⟨fun c => ?_, fun c => ?_⟩
  · skip
    exact ⟨rfl, rfl⟩
  · skip
    refine c_i (p_X5_taught hC hP (by with_reducible assumption)) ?_
    rintro r_25 _ _ ⟨rfl, rfl⟩
    rintro _ rfl
    rintro _ rfl
    exact hK1 _ ⟨rfl, rfl, rfl, rfl, trivial⟩ (dif_lt (by with_reducible assumption))
theorem p_X5_bestIn {h : HI} {g : HL} (hC : CI h) {x1 : Int32} {x2 : Int32}  (hP : PL h) : w_X5_bestIn x1 x2 h g (fun r h' g' => h = h' ∧ g = g') := by
  unfold w_X5_bestIn
  refine c_i (p_X5_mostOf hC hP) ?_
  rintro r_3 _ _ ⟨rfl, rfl⟩
  refine c_i (p_X5_idle hC ) ?_
  rintro r_10 _ _ ⟨rfl, rfl⟩
  refine ⟨fun c => ?_, fun c => ?_⟩
  · skip
    refine lpE_intro (fun ⟨x1_q, x2_q, x3_q, x4_q, h_q, g_q⟩ => x1 = x1_q ∧ x2 = x2_q ∧ r_3 = x3_q ∧ h = h_q ∧ g = g_q ∧ True) (fun ⟨x1_q, x2_q, x3_q, x4_q, h_q, g_q⟩ => dif (h 118 8) x4_q) ?_ _ ⟨rfl, rfl, rfl, rfl, rfl, trivial⟩
    rintro ⟨x1_1, x2_1, x3_1, x4_1, h_1, g_1⟩ K1 ⟨rfl, rfl, rfl, rfl, rfl, -⟩ hK1
    unfold F_X5_bestIn_22; dsimp only; unfold b_X5_bestIn_22
    refine ⟨fun c => ?_, fun c => ?_⟩
    · skip
      exact ⟨rfl, rfl⟩
    · skip
      refine c_i (p_X5_taught hC hP (by with_reducible assumption)) ?_
      rintro r_36 _ _ ⟨rfl, rfl⟩
      refine ⟨fun c => ?_, fun c => ?_⟩
      · skip
        rintro _ rfl
        exact hK1 _ ⟨rfl, rfl, rfl, rfl, rfl, trivial⟩ (dif_lt (by with_reducible assumption))
      · skip
        exact ⟨rfl, rfl⟩
  · skip
    exact ⟨rfl, rfl⟩
theorem p_X5_lessonIn {h : HI} {g : HL} (hC : CI h) {x1 : Int32}  (hP : PL h) : w_X5_lessonIn x1 h g (fun r h' g' => h = h' ∧ g = g') := by
  unfold w_X5_lessonIn
  refine lpE_intro (fun ⟨x1_q, x2_q, x3_q, h_q, g_q⟩ => x1 = x1_q ∧ h = h_q ∧ g = g_q ∧ True) (fun ⟨x1_q, x2_q, x3_q, h_q, g_q⟩ => dif (h 118 10) x3_q) ?_ _ ⟨rfl, rfl, rfl, trivial⟩
  rintro ⟨x1_1, x2_1, x3_1, h_1, g_1⟩ K1 ⟨rfl, rfl, rfl, -⟩ hK1
  unfold F_X5_lessonIn_4; dsimp only; unfold b_X5_lessonIn_4
  refine ⟨fun c => ?_, fun c => ?_⟩
  · skip
    exact ⟨rfl, rfl⟩
  · skip
    refine c_i (p_X5_bestIn hC hP) ?_
    rintro r_15 _ _ ⟨rfl, rfl⟩
    refine c_w (fun c c' => ?_) (fun c => ?_)
    · skip
      refine ⟨fun c => ?_, fun c => ?_⟩
      · skip
        refine ⟨fun c => ?_, fun c => ?_⟩
        · exact absI c
        · skip
          refine and_have (by first | with_reducible assumption | exact vin (by with_reducible assumption) (by with_reducible assumption) (by decide) | exact vinc (by with_reducible assumption) (by with_reducible assumption) (by decide) | exact vinw (by with_reducible assumption) (by with_reducible assumption) (by decide) (by decide) | exact vinl (by with_reducible assumption) (by with_reducible assumption) (by decide) | exact v60a (by with_reducible assumption) (by with_reducible assumption) | exact v60b (by with_reducible assumption) (by with_reducible assumption) | exact v60b' (by with_reducible assumption) (by with_reducible assumption) | exact v60c (by with_reducible assumption) (by with_reducible assumption) | exact v60d (by with_reducible assumption) (by with_reducible assumption)) (fun hv => ?_)
          rintro _ rfl
          unfold j_X5_lessonIn_67
          rintro _ rfl
          exact hK1 _ ⟨rfl, rfl, rfl, trivial⟩ (dif_lt (by with_reducible assumption))
      · skip
        refine ⟨fun c => ?_, fun c => ?_⟩
        · exact absI c
        · skip
          refine and_have (by first | with_reducible assumption | exact vin (by with_reducible assumption) (by with_reducible assumption) (by decide) | exact vinc (by with_reducible assumption) (by with_reducible assumption) (by decide) | exact vinw (by with_reducible assumption) (by with_reducible assumption) (by decide) (by decide) | exact vinl (by with_reducible assumption) (by with_reducible assumption) (by decide) | exact v60a (by with_reducible assumption) (by with_reducible assumption) | exact v60b (by with_reducible assumption) (by with_reducible assumption) | exact v60b' (by with_reducible assumption) (by with_reducible assumption) | exact v60c (by with_reducible assumption) (by with_reducible assumption) | exact v60d (by with_reducible assumption) (by with_reducible assumption)) (fun hv => ?_)
          exact ⟨rfl, rfl⟩
    · skip
      refine ⟨fun c => ?_, fun c => ?_⟩
      · skip
        refine ⟨fun c => ?_, fun c => ?_⟩
        · skip
          unfold j_X5_lessonIn_67
          rintro _ rfl
          exact hK1 _ ⟨rfl, rfl, rfl, trivial⟩ (dif_lt (by with_reducible assumption))
        · exact absN c
      · skip
        refine ⟨fun c => ?_, fun c => ?_⟩
        · skip
          exact ⟨rfl, rfl⟩
        · exact absN c
end
section
-- 25.plans2
theorem clamp8 (x : Int32) : ∃ y : Nat, y ≤ 8 ∧ (if (0 : Int32) < (if (8 : Int32) < x then (8 : Int32) else x) then (if (8 : Int32) < x then (8 : Int32) else x) else (0 : Int32)) = nI y := by
  by_cases c : (8 : Int32) < x
  · rw [if_pos c, if_pos (by decide)]; exact ⟨8, by omega, rfl⟩
  · rw [if_neg c]
    by_cases d : (0 : Int32) < x
    · rw [if_pos d]
      obtain ⟨j, hj, rfl⟩ := nI_of (x := x) (fun q => by
        rw [Int32.lt_iff_toInt_lt] at q d; omega)
      rw [show (8 : Int32) = nI 8 from rfl, nI_ltI (by omega) (by omega)] at c
      exact ⟨j, by omega, rfl⟩
    · rw [if_neg d]; exact ⟨0, by omega, nI_0.symm⟩
theorem clamp8' (x : Int32) : ∃ y : Nat, y ≤ 8 ∧ (if (0 : Int32) < (if x < (8 : Int32) then x else (8 : Int32)) then (if x < (8 : Int32) then x else (8 : Int32)) else (0 : Int32)) = nI y := by
  by_cases c : x < (8 : Int32)
  · rw [if_pos c]
    by_cases d : (0 : Int32) < x
    · rw [if_pos d]
      obtain ⟨j, hj, rfl⟩ := nI_of (x := x) (fun q => by
        rw [Int32.lt_iff_toInt_lt] at q d; omega)
      rw [show (8 : Int32) = nI 8 from rfl, nI_ltI (by omega) (by omega)] at c
      exact ⟨j, by omega, rfl⟩
    · rw [if_neg d]; exact ⟨0, by omega, nI_0.symm⟩
  · rw [if_neg c, if_pos (by decide)]; exact ⟨8, by omega, rfl⟩
theorem pf_0 {m : Nat} (hm : m ≤ 8) : ¬ (8 : Int32) ≤ nI m - 1 := by
  rw [Int32.le_iff_toInt_le]
  have e1 : (1 : Int32).toInt = 1 := by decide
  have e6 : (8 : Int32).toInt = 8 := by decide
  have e2 := nI_toInt (n := m) (by omega)
  have := sub_i (x := nI m) e1 (by omega) (by omega) (by omega)
  omega
theorem p_X5_find {h : HI} {g : HL} {x1 : Int32} (hC : CI h) : w_X5_find x1 h g (fun h' _ => JJ SPln h h' ∧ PL h') := by
  unfold w_X5_find
  intro h1 e1
  have hJ : JJ SPln h h1 := JJ.rf.hu e1 (by unfold SPln; omega)
  obtain ⟨y, hy, ey⟩ := clamp8 x1
  have hT : h1 118 10 = nI y := by rw [e1, hu_eq, pk_us]; exact ey
  refine c_v (p_X5_chooseBits (hC.jj hJ nSPln)) ?_
  rintro h2 g2 ⟨hJ2, hp, hb⟩
  have hJ := hJ.tr hJ2
  have hT := hp.trans hT
  refine c_v (p_X5_chooseLessons (hC.jj hJ nSPln) hb) ?_
  rintro h3 g3 ⟨hJ2, hp, hP⟩
  have hJ := hJ.tr hJ2
  have hT := hp.trans hT
  refine c_v (p_X5_chooseRuns (hC.jj hJ nSPln)) ?_
  rintro h4 g4 hJ2
  have hJ := hJ.tr (hJ2.mo (fun q hq => by unfold SO at hq; unfold SPln; omega))
  have hT := (hJ2.at 10 (by unfold SO; omega)).trans hT
  have hP := hP.cg (hJ2 118 (by unfold SO; omega)) (hJ2 120 (by unfold SO; omega))
  refine c_v (p_X5_chooseYears (hC.jj hJ nSPln)) ?_
  rintro h5 g5 hJ2
  have hJ := hJ.tr (hJ2.mo (fun q hq => by unfold SO at hq; unfold SPln; omega))
  have hT := (hJ2.at 10 (by unfold SO; omega)).trans hT
  have hP := hP.cg (hJ2 118 (by unfold SO; omega)) (hJ2 120 (by unfold SO; omega))
  obtain ⟨l, hl, el⟩ := clamp8' (h5 118 9)
  rw [el]
  rintro x2 e2
  have hx2 : x2 = nI (2 ^ l) := by rw [e2]; exact shl_t l (by omega)
  have p2 : 2 ^ l ≤ 256 := by
    have : 2 ^ l ≤ 2 ^ 8 := Nat.pow_le_pow_right (by omega) (by omega)
    omega
  have ix : ∀ x : Int32, ¬ x < 0 → ¬ x2 ≤ x → vp_in x 256 := by
    intro x a b
    obtain ⟨i, hi, rfl⟩ := nI_of a
    rw [hx2, nI_leI (by omega) (by omega)] at b
    exact vp_in_nI (by omega) (by omega)
  clear e2 el
  refine lpE_intro (fun ⟨a_q, b_q, h_q, _⟩ => x2 = a_q ∧ ¬ b_q < 0 ∧ JJ SPln h h_q ∧ h_q 118 10 = nI y ∧ PL h_q) (fun ⟨_, b_q, _, _⟩ => dif x2 b_q) ?_ _ ⟨rfl, nn0, hJ, hT, hP⟩
  clear hJ hT hP
  rintro ⟨a1, a2, h6, g6⟩ K ⟨rfl, n0, hJ, hT, hP⟩ hK
  unfold F_X5_find_48; dsimp only; unfold b_X5_find_48
  refine ⟨fun c => ?_, fun c => ?_⟩
  · rintro x3 e3
    have h8 : ¬ (8 : Int32) ≤ x3 := by rw [e3, hT]; exact pf_0 hy
    clear e3
    refine lpE_intro (fun ⟨a_q, b_q, h_q, _⟩ => x2 = a_q ∧ ¬ (8 : Int32) ≤ b_q ∧ JJ SPln h h_q ∧ PL h_q) (fun ⟨_, b_q, _, _⟩ => prd b_q) ?_ _ ⟨rfl, h8, hJ, hP⟩
    clear hJ hT hP
    rintro ⟨a1, a2, h6, g6⟩ K2 ⟨rfl, n8, hJ, hP⟩ hK2
    unfold F_X5_find_78; dsimp only; unfold b_X5_find_78
    refine ⟨fun c => ⟨hJ, hP⟩, fun c8 => ?_⟩
    have h9 : vp_in a2 9 := vinm c8 n8 (by decide)
    refine lpE_intro (fun ⟨a_q, b_q, c_q, h_q, _⟩ => x2 = a_q ∧ a2 = b_q ∧ ¬ c_q < 0 ∧ JJ SPln h h_q ∧ PL h_q) (fun ⟨_, _, c_q, _, _⟩ => dif x2 c_q) ?_ _ ⟨rfl, rfl, nn0, hJ, hP⟩
    clear hJ hP
    rintro ⟨a1, a3, a4, h7, g7⟩ K3 ⟨rfl, rfl, n0, hJ, hP⟩ hK3
    unfold F_X5_find_85; dsimp only; unfold b_X5_find_85
    refine ⟨fun c => ?_, fun c => ?_⟩
    · rintro _ rfl
      exact hK2 _ ⟨rfl, dec_nle c8 n8, hJ, hP⟩ (prd_lt c8)
    · refine c_i (p_J6_bitCount_0f7a4 (hC.jj hJ nSPln)) ?_
      rintro r _ _ ⟨rfl, rfl⟩
      refine ⟨fun _ => ?_, fun _ => ?_⟩
      · unfold j_X5_find_116
        rintro _ rfl
        exact hK3 _ ⟨rfl, rfl, inc_nn n0 c, hJ, hP⟩ (dif_lt c)
      · refine and_have h9 (fun _ => ?_)
        refine c_i (p_X5_mostOf (hC.jj hJ nSPln) hP) ?_
        rintro r2 _ _ ⟨rfl, rfl⟩
        refine and_have (ix _ n0 c) (fun _ => ?_)
        intro h8 e8
        have hv := vp_lt h9
        unfold j_X5_find_116
        rintro _ rfl
        exact hK3 _ ⟨rfl, rfl, inc_nn n0 c, hJ.hu e8 (by unfold SPln; omega), hP.cg (by rw [e8, hu_ne (by omega)]) (by rw [e8, hu_ne (by omega)])⟩ (dif_lt c)
  · refine and_have (by rw [hT]; exact vp_in_nI (by omega) (by omega)) (fun hv => ?_)
    refine and_have (ix _ n0 c) (fun _ => ?_)
    intro h7 e7
    have hv := vp_lt hv
    rintro _ rfl
    exact hK _ ⟨rfl, inc_nn n0 c, hJ.hu e7 (by unfold SPln; omega), by rw [e7, hu_ne (by omega)]; exact hT, hP.cg (by rw [e7, hu_ne (by omega)]) (by rw [e7, hu_ne (by omega)])⟩ (dif_lt c)
end
section
-- 26.tables
/-! THE TABLES, written -/
def pw (o w b c : Nat) (v : Int32) (h : HI) : HI := if c < w then hu h (o + 1) (b + c) v else h
theorem pw_ne {o w b c : Nat} {v : Int32} {h : HI} {q : Nat} (n : q ≠ o + 1) : pw o w b c v h q = h q := by
  unfold pw
  by_cases e : c < w
  · rw [if_pos e, hu_ne n]
  · rw [if_neg e]
theorem pw_in {o w b c d : Nat} {v : Int32} {h : HI} (hd : d < w) : pw o w b c v h (o + 1) (b + d) = if d = c then v else h (o + 1) (b + d) := by
  unfold pw
  by_cases e : c < w
  · rw [if_pos e, hu_eq]
    by_cases ed : d = c
    · subst ed; rw [pk_us, if_pos rfl]
    · rw [pk_un (by omega), if_neg ed]
  · rw [if_neg e, if_neg (by omega)]
theorem pw_out {o w b c k : Nat} {v : Int32} {h : HI} (hk : k < b ∨ b + w ≤ k) : pw o w b c v h (o + 1) k = h (o + 1) k := by
  unfold pw
  by_cases e : c < w
  · rw [if_pos e, hu_eq, pk_un (by omega)]
  · rw [if_neg e]
theorem p_putG {h : HI} {g : HL} {o m w M : Nat} (T : TT h o m w M) {a : Nat} (ha : a < m) (b : Nat) (hb : b < 100) {v : Int32} : w_X8_put o (nI a) (nI b) v h g (fun h' g' => h' = pw o w (a * w) b v h ∧ g = g') := by
  have hT := T
  obtain ⟨h1, h2, h3, hm, hN, hw0, hw, hM0, hM⟩ := T
  have hMw : M * w ≤ 100 * 20 := Nat.mul_le_mul hM hw
  unfold w_X8_put
  rw [h1, h3, hN]
  refine ⟨fun c => absurd c (nI_pos (by omega)), fun _ => ⟨fun c => absurd c (nI_ge ha (by omega)), fun _ => ⟨fun c => absurd c (nI_pos (by omega)), fun _ => ⟨fun c => ?_, fun c => ?_⟩⟩⟩⟩
  · have hb' : b < w := (nI_ltI (by omega) (by omega)).mp c
    have hlt : a * w + b < M * w := by
      have : (a + 1) * w ≤ M * w := Nat.mul_le_mul_right w (by omega)
      rw [Nat.add_mul, Nat.one_mul] at this
      omega
    intro x ex
    rw [pk_mul, nI_add] at ex
    subst ex
    refine ⟨fun c => absurd c (nI_ge hlt (by omega)), fun _ => ⟨vp_in_nI hlt (by omega), ?_⟩⟩
    intro h' e'
    rw [nI_clamp (by omega)] at e'
    unfold pw
    rw [if_pos hb']; exact ⟨e', rfl⟩
  · unfold pw
    rw [if_neg (fun q => c ((nI_ltI (by omega) (by omega)).mpr q))]; exact ⟨rfl, rfl⟩
def rowc (x1 x2 x3 x4 : Int32) (c : Nat) : Int32 := if c = 0 then x1 else if c = 1 then x2 else if c = 2 then x3 else if c = 3 then x4 else 0
theorem p_add {h : HI} {g : HL} {o m w M : Nat} (T : TT h o m w M) (hm : m < M) {x1 x2 x3 x4 : Int32} : w_X8_add o x1 x2 x3 x4 h g (fun r h' g' => nI m = r ∧ g = g' ∧ JJ (SB o) h h' ∧ TT h' o (m + 1) w M ∧ (∀ k, k < m * w ∨ m * w + w ≤ k → h' (o + 1) k = h (o + 1) k) ∧ ∀ c, c < w → h' (o + 1) (m * w + c) = rowc x1 x2 x3 x4 c) := by
  have hT := T
  obtain ⟨h1, h2, h3, hm', hN, hw0, hw, hM0, hM⟩ := T
  unfold w_X8_add
  rw [h2, h3]
  refine ⟨fun _ => ?_, fun c => absurd (nI_lt hm (by omega)) c⟩
  rintro _ rfl
  intro ha ea
  have T1 : TT ha o (m + 1) w M := by
    refine ⟨?_, ?_, ?_, by omega, hN, hw0, hw, hM0, hM⟩
    · rw [ea, hu_eq, pk_un (by decide)]; exact h1
    · rw [ea, hu_eq, pk_un (by decide)]; exact h2
    · rw [ea, hu_eq, pk_us]; exact nI_1 m
  have J1 : JJ (SB o) h ha := JJ.rf.hu ea (by unfold SB; omega)
  have K1 : ha (o + 1) = h (o + 1) := by rw [ea, hu_ne (by omega)]
  clear ea
  refine lpE_intro (fun q => ∃ j : Nat, 4 ≤ j ∧ (j ≤ 4 ∨ j ≤ w) ∧ x1 = q.1 ∧ x2 = q.2.1 ∧ x3 = q.2.2.1 ∧ x4 = q.2.2.2.1 ∧ nI m = q.2.2.2.2.1 ∧ nI j = q.2.2.2.2.2.1 ∧ g = q.2.2.2.2.2.2.2 ∧ JJ (SB o) h q.2.2.2.2.2.2.1 ∧ TT q.2.2.2.2.2.2.1 o (m + 1) w M ∧ (∀ k, k < m * w ∨ m * w + w ≤ k → q.2.2.2.2.2.2.1 (o + 1) k = h (o + 1) k) ∧ ∀ c, 4 ≤ c → c < j → q.2.2.2.2.2.2.1 (o + 1) (m * w + c) = 0) (fun q => dif (nI w) q.2.2.2.2.2.1) ?_ _ ⟨4, by omega, by omega, rfl, rfl, rfl, rfl, rfl, rfl, rfl, J1, T1, fun k _ => congrFun K1 k, fun c h4 h5 => absurd h4 (by omega)⟩
  clear T1 J1 K1
  rintro ⟨y1, y2, y3, y4, y5, y6, hb, gb⟩ K ⟨j, hj4, hjw, rfl, rfl, rfl, rfl, rfl, rfl, rfl, hJ, T1, ho, hz⟩ hK
  dsimp only at hJ T1 ho hz
  unfold F_X8_add_33; dsimp only; unfold b_X8_add_33
  rw [T1.1]
  refine ⟨fun c => ?_, fun c => ?_⟩
  · rw [nI_leI (by omega) (by omega)] at c
    refine c_v (p_putG T1 (a := m) (by omega) 0 (by omega)) ?_
    rintro hc _ ⟨ec, rfl⟩
    have Tc : TT hc o (m + 1) w M := T1.cg (by rw [ec, pw_ne (by omega)])
    refine c_v (p_putG Tc (a := m) (by omega) 1 (by omega)) ?_
    rintro hd _ ⟨ed, rfl⟩
    have Td : TT hd o (m + 1) w M := Tc.cg (by rw [ed, pw_ne (by omega)])
    refine c_v (p_putG Td (a := m) (by omega) 2 (by omega)) ?_
    rintro he _ ⟨ee, rfl⟩
    have Te : TT he o (m + 1) w M := Td.cg (by rw [ee, pw_ne (by omega)])
    refine c_v (p_putG Te (a := m) (by omega) 3 (by omega)) ?_
    rintro hf _ ⟨ef, rfl⟩
    have Tf : TT hf o (m + 1) w M := Te.cg (by rw [ef, pw_ne (by omega)])
    refine ⟨rfl, rfl, ?_, Tf, ?_, ?_⟩
    · intro q hq
      have n1 : q ≠ o + 1 := fun e => hq (by unfold SB; omega)
      rw [ef, pw_ne n1, ee, pw_ne n1, ed, pw_ne n1, ec, pw_ne n1]
      exact hJ q hq
    · intro k hk
      rw [ef, pw_out hk, ee, pw_out hk, ed, pw_out hk, ec, pw_out hk]
      exact ho k hk
    · intro c' hc'
      rw [ef, pw_in hc', ee, pw_in hc', ed, pw_in hc', ec, pw_in hc']
      unfold rowc
      by_cases e0 : c' = 0
      · subst e0; rfl
      by_cases e1 : c' = 1
      · subst e1; rfl
      by_cases e2 : c' = 2
      · subst e2; rfl
      by_cases e3 : c' = 3
      · subst e3; rfl
      rw [if_neg e3, if_neg e2, if_neg e1, if_neg e0, if_neg e0, if_neg e1, if_neg e2, if_neg e3]
      exact hz c' (by omega) (by omega)
  · have hd := dif_lt c
    rw [nI_leI (by omega) (by omega)] at c
    refine c_v (p_putG T1 (a := m) (by omega) j (by omega)) ?_
    rintro hc _ ⟨ec, rfl⟩
    have Tc : TT hc o (m + 1) w M := T1.cg (by rw [ec, pw_ne (by omega)])
    rintro _ rfl
    refine hK _ ⟨j + 1, by omega, by omega, rfl, rfl, rfl, rfl, rfl, (nI_1 j).symm, rfl, ?_, Tc, ?_, ?_⟩ hd
    · intro q hq
      dsimp only
      rw [ec, pw_ne (fun e => hq (by unfold SB; omega))]
      exact hJ q hq
    · intro k hk
      dsimp only
      rw [ec, pw_out hk]
      exact ho k hk
    · intro c' h4 h5
      dsimp only
      rw [ec, pw_in (by omega)]
      by_cases e : c' = j
      · rw [if_pos e]
      · rw [if_neg e]; exact hz c' h4 (by omega)
theorem p_addF {h : HI} {g : HL} {o m w M : Nat} (T : TT h o m w M) (hm : m = M) {x1 x2 x3 x4 : Int32} : w_X8_add o x1 x2 x3 x4 h g (fun r h' g' => -4 = r ∧ h = h' ∧ g = g') := by
  obtain ⟨h1, h2, h3, hm', hN, hw0, hw, hM0, hM⟩ := T
  unfold w_X8_add
  rw [h2, h3, hm]
  exact ⟨fun c => absurd c (nI_nlt (Nat.le_refl _) (by omega)), fun _ => ⟨rfl, rfl, rfl⟩⟩
/-- one table's rows taken over into another of the same make -/
theorem p_copy {h : HI} {g : HL} {o o1 m m1 w M : Nat} (T : TT h o m w M) (T1 : TT h o1 m1 w M) (hn : o ≠ o1 + 1) (hn1 : o1 ≠ o + 1) (hno : o ≠ o1) : w_X8_copy o o1 h g (fun h' g' => g = g' ∧ JJ (SB o) h h' ∧ TT h' o m1 w M ∧ ∀ k, k < m1 * w → h' (o + 1) k = h (o1 + 1) k) := by
  have hT := T
  obtain ⟨h1, h2, h3, hm, hN, hw0, hw, hM0, hM⟩ := T
  obtain ⟨k1, k2, k3, km, kN, -, -, -, -⟩ := T1
  have hMw : M * w ≤ 100 * 20 := Nat.mul_le_mul hM hw
  have hlt : m1 * w ≤ M * w := Nat.mul_le_mul_right w km
  unfold w_X8_copy
  rw [k3, k1, h1, hN, kN, pk_mul]
  rintro _ rfl
  refine ⟨fun c => absurd rfl c, fun _ => ⟨fun c => absurd c (nI_pos (by omega)), fun _ => ⟨fun c => absurd c (nI_nlt hlt (by omega)), fun _ => ⟨fun _ => ?_, fun c => absurd (nI_le hlt (by omega)) c⟩⟩⟩⟩
  have e0 : (0 : Int32).toNatClampNeg = 0 := by decide
  refine ⟨⟨by decide, by decide, nI_pos (by omega), by rw [nI_clamp (by omega), e0]; omega, by rw [nI_clamp (by omega), e0]; omega⟩, ?_⟩
  rw [nI_clamp (by omega), e0]
  intro ha ea
  intro hb eb
  have eo : ha o1 = h o1 := by rw [ea, hua_ne hn1.symm.symm]
  refine ⟨rfl, (JJ.rf.hua ea (by unfold SB; omega)).hu eb (by unfold SB; omega), ⟨?_, ?_, ?_, by omega, hN, hw0, hw, hM0, hM⟩, ?_⟩
  · rw [eb, hu_eq, pk_un (by decide), ea, hua_ne (by omega)]; exact h1
  · rw [eb, hu_eq, pk_un (by decide), ea, hua_ne (by omega)]; exact h2
  · rw [eb, hu_eq, pk_us, eo]; exact k3
  · intro k hk
    rw [eb, hu_ne (by omega), ea, hua_eq, pk_cpy_in (by omega) (by omega)]
    congr 1; omega
theorem p_empty {h : HI} {g : HL} {o m w M : Nat} (T : TT h o m w M) : w_X8_empty o h g (fun h' g' => g = g' ∧ JJ (SO o) h h' ∧ TT h' o 0 w M) := by
  obtain ⟨h1, h2, h3, hm, hN, hw0, hw, hM0, hM⟩ := T
  unfold w_X8_empty
  intro ha ea
  refine ⟨rfl, JJ.rf.hu ea (by unfold SO; rfl), ?_, ?_, ?_, by omega, hN, hw0, hw, hM0, hM⟩
  · rw [ea, hu_eq, pk_un (by decide)]; exact h1
  · rw [ea, hu_eq, pk_un (by decide)]; exact h2
  · rw [ea, hu_eq, pk_us, nI_0]
end
section
-- 27.c3
theorem p_X10_fault {h : HI} {g : HL} (hC : CI h)    : w_X10_fault h g (fun r h' g' => JJ (SC) h h') := by
  unfold w_X10_fault
  have hJ : JJ (SC) h h := JJ.rf
  refine c_i (p_X4_flaw (hC.jj hJ nSC) ) ?_
  rintro r_4 _ _ ⟨rfl, rfl⟩
  exact hJ
theorem p_X10_worn {h : HI} {g : HL} (hC : CI h) {x1 : Int32} {x2 : Int32}   : w_X10_worn x1 x2 h g (fun r h' g' => JJ (SC) h h') := by
  unfold w_X10_worn
  have hJ : JJ (SC) h h := JJ.rf
  refine c_h (fun c c' => ?_) (fun c => ?_)
  · skip
    refine ⟨fun c => ?_, fun c => ?_⟩
    · exact absI c
    · skip
      refine c_w (fun c c' => ?_) (fun c => ?_)
      · skip
        refine ⟨fun c => ?_, fun c => ?_⟩
        · skip
          refine c_i (p_X4_wornOf (hC.jj hJ nSC) ) ?_
          rintro r_33 _ g_33 rfl
          exact hJ
        · exact absI c
      · skip
        refine ⟨fun c => ?_, fun c => ?_⟩
        · exact absN c
        · skip
          exact hJ
  · skip
    refine ⟨fun c => ?_, fun c => ?_⟩
    · skip
      exact hJ
    · exact absN c
theorem p_X10_first {h : HI} {g : HL} (hC : CI h) {x1 : Int32} {x2 : Int32}   : w_X10_first x1 x2 h g (fun r h' g' => JJ (SC) h h') := by
  unfold w_X10_first
  have hJ : JJ (SC) h h := JJ.rf
  refine c_h (fun c c' => ?_) (fun c => ?_)
  · skip
    refine ⟨fun c => ?_, fun c => ?_⟩
    · exact absI c
    · skip
      refine c_w (fun c c' => ?_) (fun c => ?_)
      · skip
        refine ⟨fun c => ?_, fun c => ?_⟩
        · skip
          refine c_v (p_X7_find (hC.jj hJ nSC) ) ?_
          rintro h_31 g_31 hJ2
          have hJ := hJ.tr (hJ2.mo (fun q hq => by unfold SSz at hq; unfold SC; omega))
          refine c_i (p_X7_answer (hC.jj hJ nSC) ) ?_
          rintro r_39 _ _ ⟨rfl, rfl⟩
          exact hJ
        · exact absI c
      · skip
        refine ⟨fun c => ?_, fun c => ?_⟩
        · exact absN c
        · skip
          exact hJ
  · skip
    refine ⟨fun c => ?_, fun c => ?_⟩
    · skip
      exact hJ
    · exact absN c
theorem p_X10_quarrel {h : HI} {g : HL} (hC : CI h) {x1 : Int32} {x2 : Int32}   : w_X10_quarrel x1 x2 h g (fun r h' g' => JJ (SC) h h') := by
  unfold w_X10_quarrel
  have hJ : JJ (SC) h h := JJ.rf
  refine c_h (fun c c' => ?_) (fun c => ?_)
  · skip
    refine ⟨fun c => ?_, fun c => ?_⟩
    · exact absI c
    · skip
      refine ⟨fun c => ?_, fun c => ?_⟩
      · skip
        exact hJ
      · skip
        refine ⟨fun c => ?_, fun c => ?_⟩
        · skip
          refine c_v (p_X7_find (hC.jj hJ nSC) ) ?_
          rintro h_34 g_34 hJ2
          have hJ := hJ.tr (hJ2.mo (fun q hq => by unfold SSz at hq; unfold SC; omega))
          refine c_i (p_X7_leastDisputed (hC.jj hJ nSC) ) ?_
          rintro r_41 _ _ ⟨rfl, rfl⟩
          refine ⟨fun c => ?_, fun c => ?_⟩
          · skip
            refine ⟨fun c => ?_, fun c => ?_⟩
            · skip
              refine c_i (p_X7_objector (hC.jj hJ nSC) ) ?_
              rintro r_73 _ _ ⟨rfl, rfl⟩
              exact hJ
            · skip
              refine c_i (p_X7_against (hC.jj hJ nSC) ) ?_
              rintro r_63 _ _ ⟨rfl, rfl⟩
              exact hJ
          · skip
            exact hJ
        · skip
          exact hJ
  · skip
    refine ⟨fun c => ?_, fun c => ?_⟩
    · skip
      exact hJ
    · exact absN c
theorem p_X10_sum {h : HI} {g : HL} (hC : CI h) {x1 : Int32} {x2 : Int32} {x3 : Int32}   : w_X10_sum x1 x2 x3 h g (fun r h' g' => JJ (SC) h h') := by
  unfold w_X10_sum
  have hJ : JJ (SC) h h := JJ.rf
  refine c_h (fun c c' => ?_) (fun c => ?_)
  · skip
    refine ⟨fun c => ?_, fun c => ?_⟩
    · exact absI c
    · skip
      refine c_w (fun c c' => ?_) (fun c => ?_)
      · skip
        refine ⟨fun c => ?_, fun c => ?_⟩
        · exact absI c
        · skip
          refine c_w (fun c c' => ?_) (fun c => ?_)
          · skip
            refine ⟨fun c => ?_, fun c => ?_⟩
            · skip
              refine c_v (p_X2_take (hC.jj hJ nSC) ) ?_
              rintro h_43 g_43 hJ2
              have hJ := hJ.tr (hJ2.mo (fun q hq => by unfold SFit at hq; unfold SC; omega))
              refine ⟨fun c => ?_, fun c => ?_⟩
              · skip
                refine ⟨fun c => ?_, fun c => ?_⟩
                · skip
                  refine c_v (p_X2_addUp (hC.jj hJ nSC) ) ?_
                  rintro h_86 g_86 hJ2
                  have hJ := hJ.tr (hJ2.mo (fun q hq => by unfold SFit at hq; unfold SC; omega))
                  refine ⟨fun c => ?_, fun c => ?_⟩
                  · skip
                    exact hJ
                  · skip
                    exact hJ
                · skip
                  exact hJ
              · skip
                refine c_z (p_X2_holdIn (hC.jj hJ nSC) ) ?_
                rintro r_56 h_56 g_56 hJ2
                have hJ := hJ.tr (hJ2.mo (fun q hq => by unfold SFit at hq; unfold SC; omega))
                refine ⟨fun c => ?_, fun c => ?_⟩
                · skip
                  exact hJ
                · skip
                  exact hJ
            · exact absI c
          · skip
            refine ⟨fun c => ?_, fun c => ?_⟩
            · exact absN c
            · skip
              exact hJ
      · skip
        refine ⟨fun c => ?_, fun c => ?_⟩
        · skip
          exact hJ
        · exact absN c
  · skip
    refine ⟨fun c => ?_, fun c => ?_⟩
    · skip
      exact hJ
    · exact absN c
theorem p_X10_stands {h : HI} {g : HL} (hC : CI h) {x1 : Int32} {x2 : Int32} {x3 : Int32}   : w_X10_stands x1 x2 x3 h g (fun r h' g' => JJ (SC) h h') := by
  unfold w_X10_stands
  have hJ : JJ (SC) h h := JJ.rf
  refine c_h (fun c c' => ?_) (fun c => ?_)
  · skip
    refine ⟨fun c => ?_, fun c => ?_⟩
    · exact absI c
    · skip
      refine c_h (fun c c' => ?_) (fun c => ?_)
      · skip
        refine ⟨fun c => ?_, fun c => ?_⟩
        · exact absI c
        · skip
          refine ⟨fun c => ?_, fun c => ?_⟩
          · skip
            exact hJ
          · skip
            refine c_w (fun c c' => ?_) (fun c => ?_)
            · skip
              refine ⟨fun c => ?_, fun c => ?_⟩
              · skip
                refine lpE_intro (fun ⟨x1_q, x2_q, x3_q, x4_q, h_q, g_q⟩ => JJ (SC) h h_q ∧ x1 = x1_q ∧ x2 = x2_q ∧ x3 = x3_q ∧ True) (fun ⟨x1_q, x2_q, x3_q, x4_q, h_q, g_q⟩ => dif (h 8 3) x4_q) ?_ _ ⟨hJ, rfl, rfl, rfl, trivial⟩
                rintro ⟨x1_1, x2_1, x3_1, x4_1, h_1, g_1⟩ K1 ⟨hJ, rfl, rfl, rfl, -⟩ hK1
                unfold F_X10_stands_49; dsimp only; unfold b_X10_stands_49
                refine c_i (p_rowsJ hJ nSC gs_8) ?_
                rintro _ _ _ ⟨rfl, rfl, rfl⟩
                refine ⟨fun c => ?_, fun c => ?_⟩
                · skip
                  exact hJ
                · skip
                  refine c_z (p_X6_isIn (hC.jj hJ nSC) ) ?_
                  rintro r_71 _ _ ⟨rfl, rfl⟩
                  refine ⟨fun c => ?_, fun c => ?_⟩
                  · skip
                    refine c_z (p_X6_isIn (hC.jj hJ nSC) ) ?_
                    rintro r_87 _ _ ⟨rfl, rfl⟩
                    refine ⟨fun c => ?_, fun c => ?_⟩
                    · skip
                      refine c_v (p_X2_take (hC.jj hJ nSC) ) ?_
                      rintro h_103 g_103 hJ2
                      have hJ := hJ.tr (hJ2.mo (fun q hq => by unfold SFit at hq; unfold SC; omega))
                      refine c_z (p_X2_holdIn (hC.jj hJ nSC) ) ?_
                      rintro r_111 h_111 g_111 hJ2
                      have hJ := hJ.tr (hJ2.mo (fun q hq => by unfold SFit at hq; unfold SC; omega))
                      refine ⟨fun c => ?_, fun c => ?_⟩
                      · skip
                        unfold j_X10_stands_119
                        rintro _ rfl
                        exact hK1 _ ⟨hJ, rfl, rfl, rfl, trivial⟩ (dif_lt (by with_reducible assumption))
                      · skip
                        exact hJ
                    · skip
                      exact hJ
                  · skip
                    unfold j_X10_stands_119
                    rintro _ rfl
                    exact hK1 _ ⟨hJ, rfl, rfl, rfl, trivial⟩ (dif_lt (by with_reducible assumption))
              · exact absI c
            · skip
              refine ⟨fun c => ?_, fun c => ?_⟩
              · exact absN c
              · skip
                exact hJ
      · skip
        refine ⟨fun c => ?_, fun c => ?_⟩
        · skip
          exact hJ
        · exact absN c
  · skip
    refine ⟨fun c => ?_, fun c => ?_⟩
    · skip
      exact hJ
    · exact absN c
theorem p_X10_life {h : HI} {g : HL} (hC : CI h) {x1 : Int32} {x2 : Int32}   : w_X10_life x1 x2 h g (fun r h' g' => JJ (SC) h h') := by
  unfold w_X10_life
  have hJ : JJ (SC) h h := JJ.rf
  refine c_h (fun c c' => ?_) (fun c => ?_)
  · skip
    refine ⟨fun c => ?_, fun c => ?_⟩
    · exact absI c
    · skip
      refine c_w (fun c c' => ?_) (fun c => ?_)
      · skip
        refine ⟨fun c => ?_, fun c => ?_⟩
        · skip
          refine c_v (p_X2_take (hC.jj hJ nSC) ) ?_
          rintro h_34 g_34 hJ2
          have hJ := hJ.tr (hJ2.mo (fun q hq => by unfold SFit at hq; unfold SC; omega))
          refine lpE_intro (fun ⟨x3_q, x4_q, h_q, g_q⟩ => JJ (SC) h h_q ∧ True) (fun ⟨x3_q, x4_q, h_q, g_q⟩ => dil (99 : Int32) x4_q) ?_ _ ⟨hJ, trivial⟩
          rintro ⟨x3_1, x4_1, h_1, g_1⟩ K1 ⟨hJ, -⟩ hK1
          unfold F_X10_life_42; dsimp only; unfold b_X10_life_42
          refine ⟨fun c => ?_, fun c => ?_⟩
          · skip
            exact hJ
          · skip
            refine c_z (p_X2_holdIn (hC.jj hJ nSC) ) ?_
            rintro r_55 h_55 g_55 hJ2
            have hJ := hJ.tr (hJ2.mo (fun q hq => by unfold SFit at hq; unfold SC; omega))
            refine ⟨fun c => ?_, fun c => ?_⟩
            · skip
              exact hJ
            · skip
              rintro _ rfl
              rintro _ rfl
              exact hK1 _ ⟨hJ, trivial⟩ (dil_lt (by with_reducible assumption) (by decide))
        · exact absI c
      · skip
        refine ⟨fun c => ?_, fun c => ?_⟩
        · exact absN c
        · skip
          exact hJ
  · skip
    refine ⟨fun c => ?_, fun c => ?_⟩
    · skip
      exact hJ
    · exact absN c
theorem p_X10_way {h : HI} {g : HL} (hC : CI h) {x1 : Int32} {x2 : Int32} {x3 : Int32} {x4 : Int32}   : w_X10_way x1 x2 x3 x4 h g (fun r h' g' => JJ (SC) h h') := by
  unfold w_X10_way
  have hJ : JJ (SC) h h := JJ.rf
  refine c_w (fun c c' => ?_) (fun c => ?_)
  · skip
    refine ⟨fun c => ?_, fun c => ?_⟩
    · exact absI c
    · skip
      refine c_w (fun c c' => ?_) (fun c => ?_)
      · skip
        refine ⟨fun c => ?_, fun c => ?_⟩
        · skip
          refine c_w (fun c c' => ?_) (fun c => ?_)
          · skip
            refine ⟨fun c => ?_, fun c => ?_⟩
            · exact absI c
            · skip
              refine ⟨fun c => ?_, fun c => ?_⟩
              · skip
                refine c_v (p_X9_find (hC.jj hJ nSC) ) ?_
                rintro h_53 g_53 hJ2
                have hJ := hJ.tr (hJ2.mo (fun q hq => by unfold SWay at hq; unfold SC; omega))
                refine ⟨fun c => ?_, fun c => ?_⟩
                · skip
                  refine ⟨fun c => ?_, fun c => ?_⟩
                  · skip
                    refine ⟨fun c => ?_, fun c => ?_⟩
                    · skip
                      refine c_i (p_X9_stepAt (hC.jj hJ nSC) ) ?_
                      rintro r_105 _ _ ⟨rfl, rfl⟩
                      exact hJ
                    · skip
                      exact hJ
                  · skip
                    exact hJ
                · skip
                  exact hJ
              · skip
                exact hJ
          · skip
            refine ⟨fun c => ?_, fun c => ?_⟩
            · skip
              exact hJ
            · exact absN c
        · exact absI c
      · skip
        refine ⟨fun c => ?_, fun c => ?_⟩
        · exact absN c
        · skip
          exact hJ
  · skip
    refine ⟨fun c => ?_, fun c => ?_⟩
    · skip
      exact hJ
    · exact absN c
theorem p_X10_taking {h : HI} {g : HL} (hC : CI h) {x1 : Int32}   : w_X10_taking x1 h g (fun r h' g' => JJ (SC) h h') := by
  unfold w_X10_taking
  have hJ : JJ (SC) h h := JJ.rf
  refine ⟨fun c => ?_, fun c => ?_⟩
  · skip
    unfold j_X10_taking_22
    refine c_v (p_X3_find (hC.jj hJ nSC) ) ?_
    rintro h_26 g_26 hJ2
    have hJ := hJ.tr (hJ2.mo (fun q hq => by unfold SGiv at hq; unfold SC; omega))
    refine ⟨fun c => ?_, fun c => ?_⟩
    · skip
      refine c_i (p_X3_spareOf (hC.jj hJ nSC) ) ?_
      rintro r_49 _ _ ⟨rfl, rfl⟩
      exact hJ
    · skip
      refine c_i (p_X3_mostYears (hC.jj hJ nSC) ) ?_
      rintro r_38 _ _ ⟨rfl, rfl⟩
      exact hJ
  · skip
    refine c_h (fun c c' => ?_) (fun c => ?_)
    · skip
      refine ⟨fun c => ?_, fun c => ?_⟩
      · skip
        unfold j_X10_taking_22
        refine c_v (p_X3_find (hC.jj hJ nSC) ) ?_
        rintro h_26 g_26 hJ2
        have hJ := hJ.tr (hJ2.mo (fun q hq => by unfold SGiv at hq; unfold SC; omega))
        refine ⟨fun c => ?_, fun c => ?_⟩
        · skip
          refine c_i (p_X3_spareOf (hC.jj hJ nSC) ) ?_
          rintro r_49 _ _ ⟨rfl, rfl⟩
          exact hJ
        · skip
          refine c_i (p_X3_mostYears (hC.jj hJ nSC) ) ?_
          rintro r_38 _ _ ⟨rfl, rfl⟩
          exact hJ
      · exact absI c
    · skip
      refine ⟨fun c => ?_, fun c => ?_⟩
      · exact absN c
      · skip
        exact hJ
theorem p_X10_half {h : HI} {g : HL} (hC : CI h) {x1 : Int32}   : w_X10_half x1 h g (fun r h' g' => JJ (SC) h h') := by
  unfold w_X10_half
  have hJ : JJ (SC) h h := JJ.rf
  refine c_h (fun c c' => ?_) (fun c => ?_)
  · skip
    refine ⟨fun c => ?_, fun c => ?_⟩
    · skip
      refine c_i (p_X1_halved (hC.jj hJ nSC) ) ?_
      rintro r_22 h_22 g_22 hJ2
      have hJ := hJ.tr (hJ2.mo (fun q hq => by unfold SBrk at hq; unfold SC; omega))
      exact hJ
    · exact absI c
  · skip
    refine ⟨fun c => ?_, fun c => ?_⟩
    · exact absN c
    · skip
      exact hJ
theorem p_X10_limbs {h : HI} {g : HL} (hC : CI h) {x1 : Int32}   : w_X10_limbs x1 h g (fun r h' g' => JJ (SC) h h') := by
  unfold w_X10_limbs
  have hJ : JJ (SC) h h := JJ.rf
  refine c_w (fun c c' => ?_) (fun c => ?_)
  · skip
    refine ⟨fun c => ?_, fun c => ?_⟩
    · skip
      refine c_n (p_X1_side (hC.jj hJ nSC) ) ?_
      rintro r_17 _ _ ⟨rfl, rfl, hp⟩
      refine and_have (by first | with_reducible assumption | decide) (fun hv => ?_)
      refine c_i (p_X0_rows (hC.jj hJ nSC) ) ?_
      rintro r_20 _ _ ⟨rfl, rfl⟩
      exact hJ
    · exact absI c
  · skip
    refine ⟨fun c => ?_, fun c => ?_⟩
    · exact absN c
    · skip
      exact hJ
theorem p_X10_limb {h : HI} {g : HL} (hC : CI h) {x1 : Int32} {x2 : Int32}   : w_X10_limb x1 x2 h g (fun r h' g' => JJ (SC) h h') := by
  unfold w_X10_limb
  have hJ : JJ (SC) h h := JJ.rf
  refine c_w (fun c c' => ?_) (fun c => ?_)
  · skip
    refine ⟨fun c => ?_, fun c => ?_⟩
    · exact absI c
    · skip
      refine ⟨fun c => ?_, fun c => ?_⟩
      · skip
        refine c_n (p_X1_side (hC.jj hJ nSC) ) ?_
        rintro r_21 _ _ ⟨rfl, rfl, hp⟩
        refine and_have (by first | with_reducible assumption | decide) (fun hv => ?_)
        refine c_i (p_X0_at (hC.jj hJ nSC) ) ?_
        rintro r_25 _ _ ⟨rfl, rfl⟩
        exact hJ
      · skip
        exact hJ
  · skip
    refine ⟨fun c => ?_, fun c => ?_⟩
    · skip
      exact hJ
    · exact absN c
theorem p_X10_fitted {h : HI} {g : HL} (hC : CI h)    : w_X10_fitted h g (fun r h' g' => JJ (SC) h h') := by
  unfold w_X10_fitted
  have hJ : JJ (SC) h h := JJ.rf
  refine c_i (p_X1_fit (hC.jj hJ nSC) ) ?_
  rintro r_4 h_4 g_4 hJ2
  have hJ := hJ.tr (hJ2.mo (fun q hq => by unfold SBrk at hq; unfold SC; omega))
  exact hJ
theorem p_X10_along {h : HI} {g : HL} (hC : CI h) {x1 : Int32}   : w_X10_along x1 h g (fun r h' g' => JJ (SC) h h') := by
  unfold w_X10_along
  have hJ : JJ (SC) h h := JJ.rf
  refine c_h (fun c c' => ?_) (fun c => ?_)
  · skip
    refine ⟨fun c => ?_, fun c => ?_⟩
    · skip
      refine c_i (p_X1_reached (hC.jj hJ nSC) ) ?_
      rintro r_22 _ _ ⟨rfl, rfl⟩
      exact hJ
    · exact absI c
  · skip
    refine ⟨fun c => ?_, fun c => ?_⟩
    · exact absN c
    · skip
      exact hJ
theorem p_X10_plan {h : HI} {g : HL} (hC : CI h) {x1 : Int32} {x2 : Int32}   : w_X10_plan x1 x2 h g (fun r h' g' => JJ (SC) h h') := by
  unfold w_X10_plan
  have hJ : JJ (SC) h h := JJ.rf
  refine c_w (fun c c' => ?_) (fun c => ?_)
  · skip
    refine ⟨fun c => ?_, fun c => ?_⟩
    · exact absI c
    · skip
      refine c_w (fun c c' => ?_) (fun c => ?_)
      · skip
        refine ⟨fun c => ?_, fun c => ?_⟩
        · skip
          refine c_v (p_X5_find (hC.jj hJ nSC) ) ?_
          rintro h_29 g_29 ⟨hJ2, hP⟩
          have hJ := hJ.tr (hJ2.mo (fun q hq => by unfold SPln at hq; unfold SC; omega))
          refine ⟨fun c => ?_, fun c => ?_⟩
          · skip
            refine c_i (p_X5_lessonIn (hC.jj hJ nSC) hP) ?_
            rintro r_50 _ _ ⟨rfl, rfl⟩
            refine ⟨fun c => ?_, fun c => ?_⟩
            · skip
              exact hJ
            · skip
              exact hJ
          · skip
            refine c_i (p_X5_mostRuns (hC.jj hJ nSC) ) ?_
            rintro r_41 _ _ ⟨rfl, rfl⟩
            exact hJ
        · exact absI c
      · skip
        refine ⟨fun c => ?_, fun c => ?_⟩
        · exact absN c
        · skip
          exact hJ
  · skip
    refine ⟨fun c => ?_, fun c => ?_⟩
    · skip
      exact hJ
    · exact absN c
theorem p_X10_count {h : HI} {g : HL} (hC : CI h) {x1 : Int32}   : w_X10_count x1 h g (fun r h' g' => h = h' ∧ g = g') := by
  unfold w_X10_count
  refine ⟨fun c => ?_, fun c => ?_, fun c => ?_, fun c => ?_, fun c => ?_, fun c => ?_, fun c => ?_, fun c => ?_, fun c => ?_, fun c => ?_, fun c => ?_⟩
  · skip
    refine c_i p_rows ?_
    rintro _ _ _ ⟨rfl, rfl, rfl⟩
    exact ⟨rfl, rfl⟩
  · skip
    refine c_i p_rows ?_
    rintro _ _ _ ⟨rfl, rfl, rfl⟩
    exact ⟨rfl, rfl⟩
  · skip
    refine c_i (p_X6_deniedSayings hC ) ?_
    rintro r_82 _ _ ⟨rfl, rfl⟩
    exact ⟨rfl, rfl⟩
  · skip
    refine c_i p_rows ?_
    rintro _ _ _ ⟨rfl, rfl, rfl⟩
    exact ⟨rfl, rfl⟩
  · skip
    refine c_i p_rows ?_
    rintro _ _ _ ⟨rfl, rfl, rfl⟩
    exact ⟨rfl, rfl⟩
  · skip
    refine c_i p_rows ?_
    rintro _ _ _ ⟨rfl, rfl, rfl⟩
    exact ⟨rfl, rfl⟩
  · skip
    refine c_i p_rows ?_
    rintro _ _ _ ⟨rfl, rfl, rfl⟩
    exact ⟨rfl, rfl⟩
  · skip
    refine c_i p_rows ?_
    rintro _ _ _ ⟨rfl, rfl, rfl⟩
    exact ⟨rfl, rfl⟩
  · skip
    refine c_i p_rows ?_
    rintro _ _ _ ⟨rfl, rfl, rfl⟩
    exact ⟨rfl, rfl⟩
  · skip
    refine c_i p_rows ?_
    rintro _ _ _ ⟨rfl, rfl, rfl⟩
    exact ⟨rfl, rfl⟩
  · intros
    exact ⟨rfl, rfl⟩
theorem p_X10_withParts {h : HI} {g : HL} (hC : CI h) {x1 : Int64}   : w_X10_withParts x1 h g (fun r h' g' => JJ (SC) h h') := by
  unfold w_X10_withParts
  have hJ : JJ (SC) h h := JJ.rf
  refine lpE_intro (fun ⟨x3_q, x5_q, h_q, g_q⟩ => JJ (SC) h h_q ∧ True) (fun ⟨x3_q, x5_q, h_q, g_q⟩ => dif (h 2 3) x5_q) ?_ _ ⟨hJ, trivial⟩
  rintro ⟨x3_1, x5_1, h_1, g_1⟩ K1 ⟨hJ, -⟩ hK1
  unfold F_X10_withParts_5; dsimp only; unfold b_X10_withParts_5
  refine c_i (p_rowsJ hJ nSC gs_2) ?_
  rintro _ _ _ ⟨rfl, rfl, rfl⟩
  refine ⟨fun c => ?_, fun c => ?_⟩
  · skip
    exact hJ
  · skip
    refine c_l (p_X10_withRow (hC.jj hJ nSC) gs_2) ?_
    rintro r_31 _ _ ⟨rfl, rfl⟩
    refine c_v (p_X7_find (hC.jj hJ nSC) ) ?_
    rintro h_41 g_41 hJ2
    have hJ := hJ.tr (hJ2.mo (fun q hq => by unfold SSz at hq; unfold SC; omega))
    refine lpE_intro (fun ⟨x3_q, x5_q, x6_q, h_q, g_q⟩ => JJ (SC) h h_q ∧ x5_1 = x5_q ∧ True) (fun ⟨x3_q, x5_q, x6_q, h_q, g_q⟩ => dif (3 : Int32) x6_q) ?_ _ ⟨hJ, rfl, trivial⟩
    rintro ⟨x3_2, x5_2, x6_2, h_2, g_2⟩ K2 ⟨hJ, rfl, -⟩ hK2
    unfold F_X10_withParts_47; dsimp only; unfold b_X10_withParts_47
    refine ⟨fun c => ?_, fun c => ?_⟩
    · skip
      refine c_i (p_X1_reached (hC.jj hJ nSC) ) ?_
      rintro r_87 _ _ ⟨rfl, rfl⟩
      rintro _ rfl
      rintro _ rfl
      exact hK1 _ ⟨hJ, trivial⟩ (dif_lt (by with_reducible assumption))
    · skip
      refine c_i (p_X7_answer (hC.jj hJ nSC) ) ?_
      rintro r_64 _ _ ⟨rfl, rfl⟩
      rintro _ rfl
      rintro _ rfl
      exact hK2 _ ⟨hJ, rfl, trivial⟩ (dif_lt (by with_reducible assumption))
theorem p_X10_digest {h : HI} {g : HL} (hC : CI h)    : w_X10_digest h g (fun r h' g' => JJ (SC) h h') := by
  unfold w_X10_digest
  have hJ : JJ (SC) h h := JJ.rf
  refine lpE_intro (fun ⟨x1_q, x3_q, h_q, g_q⟩ => JJ (SC) h h_q ∧ True) (fun ⟨x1_q, x3_q, h_q, g_q⟩ => dif (10 : Int32) x3_q) ?_ _ ⟨hJ, trivial⟩
  rintro ⟨x1_1, x3_1, h_1, g_1⟩ K1 ⟨hJ, -⟩ hK1
  unfold F_X10_digest_6; dsimp only; unfold b_X10_digest_6
  refine ⟨fun c => ?_, fun c => ?_⟩
  · skip
    refine c_l (p_X10_withParts (hC.jj hJ nSC) ) ?_
    rintro r_33 h_33 g_33 hJ2
    have hJ := hJ.tr (hJ2)
    refine c_l (p_X10_withTable (hC.jj hJ nSC) gs_4) ?_
    rintro r_46 _ _ ⟨rfl, rfl⟩
    refine c_l (p_X10_withTable (hC.jj hJ nSC) gs_6) ?_
    rintro r_60 _ _ ⟨rfl, rfl⟩
    refine c_l (p_X10_withChains (hC.jj hJ nSC) ) ?_
    rintro r_66 _ _ ⟨rfl, rfl⟩
    refine c_l (p_X10_withTable (hC.jj hJ nSC) gs_10) ?_
    rintro r_79 _ _ ⟨rfl, rfl⟩
    refine c_l (p_X10_withTable (hC.jj hJ nSC) gs_12) ?_
    rintro r_92 _ _ ⟨rfl, rfl⟩
    refine c_l (p_X10_withTable (hC.jj hJ nSC) gs_14) ?_
    rintro r_105 _ _ ⟨rfl, rfl⟩
    refine c_l (p_X10_withTable (hC.jj hJ nSC) gs_16) ?_
    rintro r_118 _ _ ⟨rfl, rfl⟩
    refine c_l (p_X10_withTable (hC.jj hJ nSC) gs_18) ?_
    rintro r_131 _ _ ⟨rfl, rfl⟩
    refine c_l (p_X10_withTable (hC.jj hJ nSC) gs_20) ?_
    rintro r_144 _ _ ⟨rfl, rfl⟩
    refine c_l (p_X10_withTable (hC.jj hJ nSC) gs_22) ?_
    rintro r_157 _ _ ⟨rfl, rfl⟩
    refine c_l (p_X10_withTable (hC.jj hJ nSC) gs_24) ?_
    rintro r_170 _ _ ⟨rfl, rfl⟩
    exact hJ
  · skip
    refine c_i (p_X10_count (hC.jj hJ nSC) ) ?_
    rintro r_19 _ _ ⟨rfl, rfl⟩
    rintro _ rfl
    rintro _ rfl
    exact hK1 _ ⟨hJ, trivial⟩ (dif_lt (by with_reducible assumption))
end
section
-- 30.ref
/-! THE REFERENCE: ranges -/
def bd (a b : Int) (x : Int32) : Prop := a ≤ x.toInt ∧ x.toInt ≤ b
theorem bd.mo {a b c d : Int} {x : Int32} (h : bd a b x) (h1 : c ≤ a) (h2 : b ≤ d) : bd c d x := ⟨Int.le_trans h1 h.1, Int.le_trans h.2 h2⟩
theorem bd_lit {n : Int} {x : Int32} (e : x.toInt = n) : bd n n x := ⟨Int.le_of_eq e.symm, Int.le_of_eq e⟩
theorem bd_add {a b c d : Int} {x y : Int32} (hx : bd a b x) (hy : bd c d y) (h1 : -2147483648 ≤ a + c) (h2 : b + d ≤ 2147483647) : bd (a + c) (b + d) (x + y) := by
  have e : (x + y).toInt = x.toInt + y.toInt := by
    rw [Int32.toInt_add]
    unfold bd at hx hy
    exact bm (by omega) (by omega)
  unfold bd at *
  omega
theorem bd_sub {a b c d : Int} {x y : Int32} (hx : bd a b x) (hy : bd c d y) (h1 : -2147483648 ≤ a - d) (h2 : b - c ≤ 2147483647) : bd (a - d) (b - c) (x - y) := by
  have e : (x - y).toInt = x.toInt - y.toInt := by
    rw [Int32.toInt_sub]
    unfold bd at hx hy
    exact bm (by omega) (by omega)
  unfold bd at *
  omega
theorem bd_mul {a b n : Int} {x k : Int32} (e : k.toInt = n) (hx : bd a b x) (h0 : 0 ≤ n) (h1 : -2147483648 ≤ n * a) (h2 : n * b ≤ 2147483647) : bd (n * a) (n * b) (k * x) := by
  have l1 : n * a ≤ n * x.toInt := Int.mul_le_mul_of_nonneg_left hx.1 h0
  have l2 : n * x.toInt ≤ n * b := Int.mul_le_mul_of_nonneg_left hx.2 h0
  have e : (k * x).toInt = n * x.toInt := by
    rw [Int32.toInt_mul, e]
    exact bm (by omega) (by omega)
  exact ⟨by rw [e]; exact l1, by rw [e]; exact l2⟩
theorem vp_bd {a b : Int} {x : Int32} {n : Nat} (h : bd a b x) (h0 : 0 ≤ a) (h1 : b < n) : vp_in x n := by
  rw [vp_in_iff]
  unfold bd at h
  omega
theorem bd_up {a n : Int} {x A : Int32} (h0 : 0 ≤ x.toInt) (c : ¬ A ≤ x) (hA : bd a n A) : bd 0 (n - 1) x := by
  rw [Int32.le_iff_toInt_le] at c
  unfold bd at *
  omega
theorem bd_upl {a n : Int} {x A : Int32} (h0 : 0 ≤ x.toInt) (c : ¬ A < x) (hA : bd a n A) : bd 0 n x := by
  rw [Int32.lt_iff_toInt_lt] at c
  unfold bd at *
  omega
theorem bd_nI {b : Int} {x : Int32} (h : bd 0 b x) : ∃ j : Nat, (j : Int) ≤ b ∧ j < 2 ^ 31 ∧ x = nI j := by
  obtain ⟨j, hj, rfl⟩ := nI_of (x := x) (fun q => by
    rw [Int32.lt_iff_toInt_lt] at q
    have : (0 : Int32).toInt = 0 := by decide
    unfold bd at h; omega)
  refine ⟨j, ?_, hj, rfl⟩
  unfold bd at h
  rw [nI_toInt hj] at h
  exact h.2
theorem bd_of {n : Nat} {a b : Int} (h : n < 2 ^ 31) (h1 : a ≤ n) (h2 : (n : Int) ≤ b) : bd a b (nI n) := by
  unfold bd; rw [nI_toInt h]; exact ⟨h1, h2⟩
theorem mu_lt {a b N : Int} {x : Int32} (h : bd a b x) (hN : b < N ∧ N ≤ 2147483647) : (N - (x + 1).toInt).toNat < (N - x.toInt).toNat := by
  have e : (x + 1).toInt = x.toInt + 1 := by
    rw [Int32.toInt_add, show (1 : Int32).toInt = 1 by decide]
    have := lt_rng x
    unfold bd at h
    exact bm (by omega) (by omega)
  unfold bd at h
  omega
theorem inc_b {a b : Int} {x : Int32} (h : bd a b x) (h0 : 0 ≤ a) (hb : b < 2147483647) : 0 ≤ (x + 1).toInt := by
  have e : (x + 1).toInt = x.toInt + 1 := by
    rw [Int32.toInt_add, show (1 : Int32).toInt = 1 by decide]
    have := lt_rng x
    unfold bd at h
    exact bm (by omega) (by omega)
  unfold bd at h
  omega
theorem ge0 : 0 ≤ (0 : Int32).toInt := by decide
/-- in, as a call -/
theorem c_in {a b c : Int64} {h : HI} {g : HL} {body : Int32 → HI → HL → Prop} (h1 : b.toInt ≤ a.toInt → a.toInt ≤ c.toInt → body 1 h g) (h0 : (a.toInt < b.toInt ∨ c.toInt < a.toInt) → body 0 h g) : ∃ P : Int32 → HI → HL → Prop, w_X11_in a b c h g P ∧ ∀ (r : Int32) (h : HI) (g : HL), zb r → P r h g → body r h g := by
  refine ⟨fun r h' g' => body r h' g', ?_, fun r h g _ k => k⟩
  unfold w_X11_in
  have e1 : lg_cmp a b < 0 ↔ a.toInt < b.toInt := by
    unfold lg_cmp
    by_cases q : a > b
    · rw [if_pos q]
      have q' : b < a := q
      rw [Int64.lt_iff_toInt_lt] at q'
      exact ⟨fun x => absurd x (by decide), fun x => by omega⟩
    · rw [if_neg q]
      have q' : ¬ b < a := q
      rw [Int64.lt_iff_toInt_lt] at q'
      by_cases r : a = b
      · subst r; rw [if_pos rfl]; exact ⟨fun x => absurd x (by decide), fun x => by omega⟩
      · rw [if_neg r]
        have r' : a.toInt ≠ b.toInt := fun e => r (Int64.toInt_inj.mp e)
        exact ⟨fun _ => by omega, fun _ => by decide⟩
  have e2 : 0 < lg_cmp a c ↔ c.toInt < a.toInt := by
    unfold lg_cmp
    by_cases q : a > c
    · rw [if_pos q]
      have q' : c < a := q
      rw [Int64.lt_iff_toInt_lt] at q'
      exact ⟨fun _ => q', fun x => by decide⟩
    · rw [if_neg q]
      have q' : ¬ c < a := q
      rw [Int64.lt_iff_toInt_lt] at q'
      by_cases r : a = c
      · subst r; rw [if_pos rfl]; exact ⟨fun x => absurd x (by decide), fun x => by omega⟩
      · rw [if_neg r]; exact ⟨fun x => absurd x (by decide), fun x => by omega⟩
  rw [e1, e2]
  exact ⟨fun c => h0 (.inl c), fun c1 => ⟨fun c => h0 (.inr c), fun c2 => h1 (by omega) (by omega)⟩⟩
/-- in, of an int between two ints -/
theorem c_in3 {x : Int32} {b c : Int64} {h : HI} {g : HL} {body : Int32 → HI → HL → Prop} (h1 : bd b.toInt c.toInt x → body 1 h g) (h0 : ¬ bd b.toInt c.toInt x → body 0 h g) : ∃ P : Int32 → HI → HL → Prop, w_X11_in x.toInt64 b c h g P ∧ ∀ (r : Int32) (h : HI) (g : HL), zb r → P r h g → body r h g :=
  c_in (fun u v => h1 ⟨by rw [Int32.toInt_toInt64] at u; exact u, by rw [Int32.toInt_toInt64] at v; exact v⟩) (fun u => h0 (fun q => by rw [Int32.toInt_toInt64] at u; unfold bd at q; omega))
def RI (f : Nat → Int32) : Prop :=
  (bd 0 24 (f 0) ∧ bd 0 60 (f 1) ∧ bd 0 16 (f 2) ∧ bd 0 8 (f 3) ∧ bd 0 6 (f 4) ∧ bd 0 9 (f 5) ∧ bd 0 40 (f 6) ∧ bd 0 3 (f 7) ∧ bd 0 60 (f 8) ∧ bd 0 9 (f 9) ∧ bd 0 9 (f 10)) ∧
  (∀ p : Nat, p < 24 → bd 0 100 (f (20 + 5 * p)) ∧ bd (-1) 3 (f (20 + 5 * p + 3))) ∧
  (∀ k : Nat, k < 4 → bd 1 100000 (f (140 + 3 * k + 1))) ∧
  (∀ s : Nat, s < 60 → bd 0 23 (f (152 + 6 * s))) ∧
  (∀ c : Nat, c < 16 → bd 0 6 (f (512 + 10 * c + 2)) ∧ ∀ k : Nat, k < 6 → bd 0 23 (f (512 + 10 * c + (3 + k)))) ∧
  (∀ w : Nat, w < 8 → bd (-500) 500 (f (672 + 4 * w)) ∧ bd 0 1000 (f (672 + 4 * w + 1))) ∧
  (∀ k : Nat, k < 3 → bd 0 15 (f (817 + 2 * k)))
theorem cl0 : (0 : Int32).toNatClampNeg = 0 := by decide
theorem cl1 : (1 : Int32).toNatClampNeg = 1 := by decide
theorem cl2 : (2 : Int32).toNatClampNeg = 2 := by decide
theorem cl3 : (3 : Int32).toNatClampNeg = 3 := by decide
theorem cl4 : (4 : Int32).toNatClampNeg = 4 := by decide
theorem cl5 : (5 : Int32).toNatClampNeg = 5 := by decide
theorem cl6 : (6 : Int32).toNatClampNeg = 6 := by decide
theorem cl7 : (7 : Int32).toNatClampNeg = 7 := by decide
theorem cl8 : (8 : Int32).toNatClampNeg = 8 := by decide
theorem cl9 : (9 : Int32).toNatClampNeg = 9 := by decide
theorem cl10 : (10 : Int32).toNatClampNeg = 10 := by decide
theorem RI.c0 {f : Nat → Int32} (r : RI f) : bd 0 24 (f (0 : Int32).toNatClampNeg) := by rw [cl0]; exact r.1.1
theorem RI.c1 {f : Nat → Int32} (r : RI f) : bd 0 60 (f (1 : Int32).toNatClampNeg) := by rw [cl1]; exact r.1.2.1
theorem RI.c2 {f : Nat → Int32} (r : RI f) : bd 0 16 (f (2 : Int32).toNatClampNeg) := by rw [cl2]; exact r.1.2.2.1
theorem RI.c3 {f : Nat → Int32} (r : RI f) : bd 0 8 (f (3 : Int32).toNatClampNeg) := by rw [cl3]; exact r.1.2.2.2.1
theorem RI.c4 {f : Nat → Int32} (r : RI f) : bd 0 6 (f (4 : Int32).toNatClampNeg) := by rw [cl4]; exact r.1.2.2.2.2.1
theorem RI.c5 {f : Nat → Int32} (r : RI f) : bd 0 9 (f (5 : Int32).toNatClampNeg) := by rw [cl5]; exact r.1.2.2.2.2.2.1
theorem RI.c6 {f : Nat → Int32} (r : RI f) : bd 0 40 (f (6 : Int32).toNatClampNeg) := by rw [cl6]; exact r.1.2.2.2.2.2.2.1
theorem RI.c7 {f : Nat → Int32} (r : RI f) : bd 0 3 (f (7 : Int32).toNatClampNeg) := by rw [cl7]; exact r.1.2.2.2.2.2.2.2.1
theorem RI.c8 {f : Nat → Int32} (r : RI f) : bd 0 60 (f (8 : Int32).toNatClampNeg) := by rw [cl8]; exact r.1.2.2.2.2.2.2.2.2.1
theorem RI.c9 {f : Nat → Int32} (r : RI f) : bd 0 9 (f (9 : Int32).toNatClampNeg) := by rw [cl9]; exact r.1.2.2.2.2.2.2.2.2.2.1
theorem RI.c10 {f : Nat → Int32} (r : RI f) : bd 0 9 (f (10 : Int32).toNatClampNeg) := by rw [cl10]; exact r.1.2.2.2.2.2.2.2.2.2.2
theorem ix2 (a b k : Nat) : nI a + nI b * nI k = nI (a + b * k) := by rw [pk_mul, nI_add]
theorem ix3 (a b k c : Nat) : nI a + nI b * nI k + nI c = nI (a + b * k + c) := by rw [pk_mul, nI_add, nI_add]
theorem RI.ld {f : Nat → Int32} (r : RI f) {x : Int32} (hx : bd 0 23 x) : bd 0 100 (f (((20 : Int32) + ((5 : Int32) * x)) + (0 : Int32)).toNatClampNeg) := by
  obtain ⟨j, hj, hj2, rfl⟩ := bd_nI hx
  rw [show ((20 : Int32) + ((5 : Int32) * nI j)) + (0 : Int32) = nI (20 + 5 * j + 0) from ix3 20 5 j 0, nI_clamp (by omega)]
  exact (r.2.1 j (by omega)).1
theorem RI.kd {f : Nat → Int32} (r : RI f) {x : Int32} (hx : bd 0 23 x) : bd (-1) 3 (f (((20 : Int32) + ((5 : Int32) * x)) + (3 : Int32)).toNatClampNeg) := by
  obtain ⟨j, hj, hj2, rfl⟩ := bd_nI hx
  rw [show ((20 : Int32) + ((5 : Int32) * nI j)) + (3 : Int32) = nI (20 + 5 * j + 3) from ix3 20 5 j 3, nI_clamp (by omega)]
  exact (r.2.1 j (by omega)).2
theorem RI.sd {f : Nat → Int32} (r : RI f) {x : Int32} (hx : bd 0 3 x) : bd 1 100000 (f (((140 : Int32) + ((3 : Int32) * x)) + (1 : Int32)).toNatClampNeg) := by
  obtain ⟨j, hj, hj2, rfl⟩ := bd_nI hx
  rw [show ((140 : Int32) + ((3 : Int32) * nI j)) + (1 : Int32) = nI (140 + 3 * j + 1) from ix3 140 3 j 1, nI_clamp (by omega)]
  exact r.2.2.1 j (by omega)
theorem RI.sp {f : Nat → Int32} (r : RI f) {x : Int32} (hx : bd 0 59 x) : bd 0 23 (f (((152 : Int32) + ((6 : Int32) * x)) + (0 : Int32)).toNatClampNeg) := by
  obtain ⟨j, hj, hj2, rfl⟩ := bd_nI hx
  rw [show ((152 : Int32) + ((6 : Int32) * nI j)) + (0 : Int32) = nI (152 + 6 * j + 0) from ix3 152 6 j 0, nI_clamp (by omega)]
  exact r.2.2.2.1 j (by omega)
theorem RI.cm {f : Nat → Int32} (r : RI f) {x : Int32} (hx : bd 0 15 x) : bd 0 6 (f (((512 : Int32) + ((10 : Int32) * x)) + (2 : Int32)).toNatClampNeg) := by
  obtain ⟨j, hj, hj2, rfl⟩ := bd_nI hx
  rw [show ((512 : Int32) + ((10 : Int32) * nI j)) + (2 : Int32) = nI (512 + 10 * j + 2) from ix3 512 10 j 2, nI_clamp (by omega)]
  exact (r.2.2.2.2.1 j (by omega)).1
theorem RI.cf {f : Nat → Int32} (r : RI f) {x k : Int32} (hx : bd 0 15 x) (hk : bd 0 5 k) : bd 0 23 (f (((512 : Int32) + ((10 : Int32) * x)) + ((3 : Int32) + k)).toNatClampNeg) := by
  obtain ⟨j, hj, hj2, rfl⟩ := bd_nI hx
  obtain ⟨i, hi, hi2, rfl⟩ := bd_nI hk
  rw [show (3 : Int32) + nI i = nI (3 + i) from nI_add 3 i, show ((512 : Int32) + ((10 : Int32) * nI j)) + nI (3 + i) = nI (512 + 10 * j + (3 + i)) from ix3 512 10 j (3 + i), nI_clamp (by omega)]
  exact (r.2.2.2.2.1 j (by omega)).2 i (by omega)
theorem RI.wm {f : Nat → Int32} (r : RI f) {x : Int32} (hx : bd 0 7 x) : bd (-500) 500 (f ((672 : Int32) + ((4 : Int32) * x)).toNatClampNeg) := by
  obtain ⟨j, hj, hj2, rfl⟩ := bd_nI hx
  rw [show ((672 : Int32) + ((4 : Int32) * nI j)) = nI (672 + 4 * j) from ix2 672 4 j, nI_clamp (by omega)]
  exact (r.2.2.2.2.2.1 j (by omega)).1
theorem RI.wp {f : Nat → Int32} (r : RI f) {x : Int32} (hx : bd 0 7 x) : bd 0 1000 (f (((672 : Int32) + ((4 : Int32) * x)) + (1 : Int32)).toNatClampNeg) := by
  obtain ⟨j, hj, hj2, rfl⟩ := bd_nI hx
  rw [show ((672 : Int32) + ((4 : Int32) * nI j)) + (1 : Int32) = nI (672 + 4 * j + 1) from ix3 672 4 j 1, nI_clamp (by omega)]
  exact (r.2.2.2.2.2.1 j (by omega)).2
theorem RI.hs {f : Nat → Int32} (r : RI f) {x : Int32} (hx : bd 0 2 x) : bd 0 15 (f ((817 : Int32) + ((2 : Int32) * x)).toNatClampNeg) := by
  obtain ⟨j, hj, hj2, rfl⟩ := bd_nI hx
  rw [show ((817 : Int32) + ((2 : Int32) * nI j)) = nI (817 + 2 * j) from ix2 817 2 j, nI_clamp (by omega)]
  exact r.2.2.2.2.2.2 j (by omega)
theorem RI.jj {S : Nat → Prop} {a b : HI} (r : RI (a 136)) (x : JJ S a b) (n : ¬ S 136) : RI (b 136) := by rw [x 136 n]; exact r
/-- is, as a call -/
theorem c_is {k x : Int32} {N : Int} {h : HI} {g : HL} {body : Int32 → HI → HL → Prop} (hk : vp_in k 887) (hb : bd 0 N (h 136 k.toNatClampNeg)) (hN : N ≤ 1000) (h1 : bd 0 (N - 1) x → ¬ h 136 k.toNatClampNeg ≤ x → body 1 h g) (h0 : (x < 0 ∨ h 136 k.toNatClampNeg ≤ x) → body 0 h g) : ∃ P : Int32 → HI → HL → Prop, w_X11_is k x h g P ∧ ∀ (r : Int32) (h : HI) (g : HL), zb r → P r h g → body r h g := by
  refine ⟨fun r h' g' => body r h' g', ?_, fun r h g _ k => k⟩
  unfold w_X11_is
  have e := bd_sub hb (bd_lit (n := 1) (x := (1 : Int32)) (by decide)) (by omega) (by omega)
  have es : (h 136 k.toNatClampNeg - 1).toInt = (h 136 k.toNatClampNeg).toInt - 1 := by
    rw [Int32.toInt_sub, show (1 : Int32).toInt = 1 by decide]
    unfold bd at hb
    exact bm (by omega) (by omega)
  refine and_have hk (fun _ => ?_)
  refine c_in3 (fun q => and_have (.inr rfl) (fun _ => h1 ?_ ?_)) (fun q => and_have (.inl rfl) (fun _ => h0 ?_))
  · unfold bd at q hb ⊢
    rw [Int32.toInt_toInt64, es, show (0 : Int64).toInt = 0 by decide] at q
    omega
  · rw [Int32.le_iff_toInt_le]
    unfold bd at q
    rw [Int32.toInt_toInt64, es, show (0 : Int64).toInt = 0 by decide] at q
    omega
  · unfold bd at q
    rw [Int32.toInt_toInt64, es, show (0 : Int64).toInt = 0 by decide] at q
    rw [Int32.lt_iff_toInt_lt, Int32.le_iff_toInt_le, show (0 : Int32).toInt = 0 by decide]
    omega
/-- frames by places -/
def KJ (S : Nat → Nat → Prop) (a b : HI) : Prop := ∀ o k, ¬ S o k → b o k = a o k
theorem KJ.rf {S : Nat → Nat → Prop} {a : HI} : KJ S a a := fun _ _ _ => rfl
theorem KJ.tr {S : Nat → Nat → Prop} {a b c : HI} (x : KJ S a b) (y : KJ S b c) : KJ S a c := fun o k n => (y o k n).trans (x o k n)
theorem KJ.mo {S T : Nat → Nat → Prop} {a b : HI} (x : KJ S a b) (hs : ∀ o k, S o k → T o k) : KJ T a b := fun o k n => x o k (fun s => n (hs o k s))
theorem KJ.hu {S : Nat → Nat → Prop} {a b c : HI} {o k : Nat} {v : Int32} (x : KJ S a b) (e : c = hu b o k v) (hs : S o k) : KJ S a c := fun q j n => by
  by_cases h : q = o
  · subst h
    rw [e, hu_eq, pk_un (fun h2 => n (by rw [h2]; exact hs))]; exact x q j n
  · rw [e, hu_ne h]; exact x q j n
theorem RI.kj {S : Nat → Nat → Prop} {a b : HI} (r : RI (a 136)) (x : KJ S a b) (n : ∀ k, ¬ S 136 k) : RI (b 136) := by
  have e : b 136 = a 136 := funext fun k => x 136 k (n k)
  rw [e]; exact r
def SRd (o k : Nat) : Prop := (o = 135 ∧ (k = 3 ∨ k = 6)) ∨ 139 ≤ o ∧ o ≤ 141
def SLt (o k : Nat) : Prop := (o = 135 ∧ (k = 3 ∨ k = 6 ∨ k = 9 ∨ k = 10)) ∨ 139 ≤ o ∧ o ≤ 141
def SFm (o k : Nat) : Prop := o = 135 ∧ 11 ≤ k ∧ k ≤ 13
def SFf (o k : Nat) : Prop := (o = 135 ∧ (k = 3 ∨ k = 6 ∨ 9 ≤ k ∧ k ≤ 15)) ∨ 139 ≤ o ∧ o ≤ 141
def STr (o k : Nat) : Prop := (o = 135 ∧ (k = 3 ∨ k = 6 ∨ k = 9 ∨ k = 10 ∨ k = 16 ∨ k = 17)) ∨ 139 ≤ o ∧ o ≤ 141
def SQu (o k : Nat) : Prop := (o = 135 ∧ (k = 3 ∨ k = 6 ∨ 9 ≤ k ∧ k ≤ 13 ∨ k = 16 ∨ k = 17)) ∨ 139 ≤ o ∧ o ≤ 141
def SSm (o k : Nat) : Prop := (o = 135 ∧ (k = 3 ∨ k = 6 ∨ 9 ≤ k ∧ k ≤ 15 ∨ k = 18 ∨ k = 19)) ∨ 139 ≤ o ∧ o ≤ 141
def SPr (o _k : Nat) : Prop := o = 143
def STk (o _k : Nat) : Prop := o = 144 ∨ o = 145
def SBg (o _k : Nat) : Prop := o = 146 ∨ o = 147
def SPm (o _k : Nat) : Prop := o = 148
def SRef (o _k : Nat) : Prop := o = 135 ∨ 139 ≤ o ∧ o ≤ 148
theorem bd_ne {n : Int} {x : Int32} (h : bd 1 n x) : ¬ x = 0 := fun e => by
  unfold bd at h
  rw [e, show (0 : Int32).toInt = 0 by decide] at h
  omega
theorem c_yr {x : Int32} {h : HI} {g : HL} {body : Int32 → HI → HL → Prop} (h1 : bd 0 99 x → body 1 h g) (h0 : ¬ bd 0 99 x → body 0 h g) : ∃ P : Int32 → HI → HL → Prop, w_X11_isYear x h g P ∧ ∀ (r : Int32) (h : HI) (g : HL), zb r → P r h g → body r h g :=
  ⟨fun r h' g' => body r h' g', c_in3 (fun q => ⟨.inr rfl, h1 q⟩) (fun q => ⟨.inl rfl, h0 q⟩), fun _ _ _ _ k => k⟩
theorem c_sz {x : Int32} {h : HI} {g : HL} {body : Int32 → HI → HL → Prop} (h1 : bd 1 100000 x → body 1 h g) (h0 : ¬ bd 1 100000 x → body 0 h g) : ∃ P : Int32 → HI → HL → Prop, w_X11_isSize x h g P ∧ ∀ (r : Int32) (h : HI) (g : HL), zb r → P r h g → body r h g :=
  ⟨fun r h' g' => body r h' g', c_in3 (fun q => ⟨.inr rfl, h1 q⟩) (fun q => ⟨.inl rfl, h0 q⟩), fun _ _ _ _ k => k⟩
theorem c_dg {x : Int32} {h : HI} {g : HL} {body : Int32 → HI → HL → Prop} (h1 : bd 0 9 x → body 1 h g) (h0 : ¬ bd 0 9 x → body 0 h g) : ∃ P : Int32 → HI → HL → Prop, w_X11_isDigit x h g P ∧ ∀ (r : Int32) (h : HI) (g : HL), zb r → P r h g → body r h g :=
  ⟨fun r h' g' => body r h' g', c_in3 (fun q => ⟨.inr rfl, h1 q⟩) (fun q => ⟨.inl rfl, h0 q⟩), fun _ _ _ _ k => k⟩
theorem sm_p {p q r : Int32} (h : bd 0 23 p ∨ q = -2) (c : r = q) (hr : bd 0 23 r) : bd 0 23 p := by
  rcases h with h | h
  · exact h
  · exfalso
    rw [c, h] at hr
    exact absurd hr (by unfold bd; decide)
theorem lf_b {x y : Int32} {a b : Int} (hx : bd a b x) (hy : 0 ≤ y.toInt ∧ y.toInt ≤ 100) (c : ¬ (100 : Int32) ≤ x + y) (ha : 0 ≤ a := by decide) (hb : b ≤ 99 := by decide) : bd 0 99 y := by
  have e : (x + y).toInt = x.toInt + y.toInt := add_i (by unfold bd at hx; omega) (by unfold bd at hx; omega) (by omega) (by omega)
  rw [Int32.le_iff_toInt_le, e, show (100 : Int32).toInt = 100 by decide] at c
  unfold bd at *
  omega
theorem inc_b2 {y : Int32} (h : bd 0 99 y) : (y + 1).toInt ≤ 100 := by
  have e : (y + 1).toInt = y.toInt + (1 : Int32).toInt := add_i (by unfold bd at h; omega) (by unfold bd at h; omega) (by decide) (by decide)
  rw [e, show (1 : Int32).toInt = 1 by decide]
  unfold bd at h; omega
theorem bd_2 {x : Int32} {b : Int} (c : (2 : Int32) ≤ x) (h : bd 0 b x) : bd 2 b x := by
  rw [Int32.le_iff_toInt_le, show (2 : Int32).toInt = 2 by decide] at c
  unfold bd at *
  omega
theorem p_X11_findFamily {h : HI} {g : HL} (hR : RI (h 136)) {x1 : Int32} (b_x1 : bd 0 23 x1) : w_X11_findFamily x1 h g (fun h' g' => KJ SFm h h' ∧ bd 1 100000 (h' 135 12)) := by
  unfold w_X11_findFamily
  refine c_i (S := fun r h' g' => h = h' ∧ g = g' ∧ h 136 (((20 : Int32) + ((5 : Int32) * x1)) + (3 : Int32)).toNatClampNeg = r) ?_ ?_
  · unfold w_X11_partOf
    exact ⟨vp_bd (bd_add (bd_add (bd_lit (n := 20) (by decide)) (bd_mul (n := 5) (by decide) b_x1 (by decide) (by decide) (by decide)) (by decide) (by decide)) (bd_lit (n := 3) (by decide)) (by decide) (by decide)) (by decide) (by decide), rfl, rfl, rfl⟩
  rintro _ _ _ ⟨rfl, rfl, rfl⟩
  have hk := hR.kd b_x1
  generalize h 136 (((20 : Int32) + ((5 : Int32) * x1)) + (3 : Int32)).toNatClampNeg = k at hk ⊢
  have ix : ∀ a : Int32, bd 0 2 a → vp_in (((140 : Int32) + ((3 : Int32) * k)) + a) 887 := fun a ha => vp_bd (bd_add (bd_add (bd_lit (n := 140) (by decide)) (bd_mul (n := 3) (by decide) hk (by decide) (by decide) (by decide)) (by decide) (by decide)) ha (by decide) (by decide)) (by decide) (by decide)
  have j84 : ∀ (s : Int32) (h1 : HI), KJ SFm h h1 → bd 1 100000 (h1 135 12) → j_X11_findFamily_84 (fun h' g' => KJ SFm h h' ∧ bd 1 100000 (h' 135 12)) s h1 g := by
    intro s h1 J T
    unfold j_X11_findFamily_84
    intro h2 e2
    exact ⟨J.hu e2 (by unfold SFm; omega), by rw [e2, hu_eq, pk_un (by decide)]; exact T⟩
  have j56 : ∀ (s : Int32) (h1 : HI), KJ SFm h h1 → bd 1 100000 s → j_X11_findFamily_56 (fun h' g' => KJ SFm h h' ∧ bd 1 100000 (h' 135 12)) k s h1 g := by
    intro s h1 J T
    unfold j_X11_findFamily_56
    intro h2 e2
    have J2 : KJ SFm h h2 := J.hu e2 (by unfold SFm; omega)
    have T2 : bd 1 100000 (h2 135 12) := by rw [e2, hu_eq, pk_us]; exact T
    exact ⟨fun _ => ⟨ix _ ((bd_lit (n := 2) (by decide)).mo (by decide) (by decide)), j84 _ _ J2 T2⟩, fun _ => j84 _ _ J2 T2⟩
  have j29 : ∀ s : Int32, j_X11_findFamily_29 (fun h' g' => KJ SFm h h' ∧ bd 1 100000 (h' 135 12)) k s h g := by
    intro s
    unfold j_X11_findFamily_29
    intro h2 e2
    have J2 : KJ SFm h h2 := KJ.rf.hu e2 (by unfold SFm; omega)
    refine ⟨fun c => ⟨ix _ ((bd_lit (n := 1) (by decide)).mo (by decide) (by decide)), j56 _ _ J2 ?_⟩, fun _ => j56 _ _ J2 (by unfold bd; decide)⟩
    refine (hR.kj J2 (fun k => by unfold SFm; omega)).sd ?_
    have : k.toInt ≠ -1 := fun q => c (Int32.toInt_inj.mp (by rw [q]; decide))
    unfold bd at hk ⊢
    omega
  refine ⟨fun _ => ⟨vp_bd (bd_add (bd_lit (n := 140) (by decide)) (bd_mul (n := 3) (by decide) hk (by decide) (by decide) (by decide)) (by decide) (by decide)) (by decide) (by decide), j29 _⟩, fun _ => j29 _⟩
end
section
-- 31.reads
/-! THE LAW OF WEAR, as the reference reads and runs it -/
def hld (x : Int32) : Int32 := if x = 2 then 6 else if x = 3 then 6 else if x = 4 then 5 else if x = 5 then 5 else if x = 6 then 4 else if x = 7 then 4 else if x = 8 then 3 else if x = 9 then 3 else if x = 10 then 3 else if x = 11 then 2 else if x = 12 then 1 else 0
theorem p_X11_holds {h : HI} {g : HL} {x : Int32} : w_X11_holds x h g (fun r h' g' => hld x = r ∧ h = h' ∧ g = g') := by
  unfold w_X11_holds
  refine ⟨fun c => ?_, fun c => ?_, fun c => ?_, fun c => ?_, fun c => ?_, fun c => ?_, fun c => ?_, fun c => ?_, fun c => ?_, fun c => ?_, fun c => ?_, fun c1 c2 c3 c4 c5 c6 c7 c8 c9 c10 c11 => ?_⟩
  iterate 11 (· subst c; exact ⟨by decide, rfl, rfl⟩)
  unfold hld
  rw [if_neg c1, if_neg c2, if_neg c3, if_neg c4, if_neg c5, if_neg c6, if_neg c7, if_neg c8, if_neg c9, if_neg c10, if_neg c11]
  exact ⟨rfl, rfl, rfl⟩
def sof (x : Int32) : Int32 := if x = 38 then 11 else if x = 42 then 4 else if x = 43 then 6 else if x = 45 then 7 else if x = 47 then 5 else if x = 60 then 8 else if x = 61 then 10 else if x = 62 then 9 else if x = 124 then 12 else -1
theorem p_X11_signOf {h : HI} {g : HL} {x : Int32} : w_X11_signOf x h g (fun r h' g' => sof x = r ∧ h = h' ∧ g = g') := by
  unfold w_X11_signOf
  refine ⟨fun c => ?_, fun c => ?_, fun c => ?_, fun c => ?_, fun c => ?_, fun c => ?_, fun c => ?_, fun c => ?_, fun c => ?_, fun c1 c2 c3 c4 c5 c6 c7 c8 c9 => ?_⟩
  iterate 9 (· subst c; exact ⟨by decide, rfl, rfl⟩)
  unfold sof
  rw [if_neg c1, if_neg c2, if_neg c3, if_neg c4, if_neg c5, if_neg c6, if_neg c7, if_neg c8, if_neg c9]
  exact ⟨rfl, rfl, rfl⟩
def nof (x : Int32) : Int32 := if x = 104 then 2 else if x = 108 then 1 else if x = 121 then 0 else -1
theorem p_X11_nameOf {h : HI} {g : HL} {x : Int32} : w_X11_nameOf x h g (fun r h' g' => nof x = r ∧ h = h' ∧ g = g') := by
  unfold w_X11_nameOf
  refine ⟨fun c => ?_, fun c => ?_, fun c => ?_, fun c1 c2 c3 => ?_⟩
  iterate 3 (· subst c; exact ⟨by decide, rfl, rfl⟩)
  unfold nof
  rw [if_neg c1, if_neg c2, if_neg c3]
  exact ⟨rfl, rfl, rfl⟩
def bsL : List Int32 := [4, 5, 6, 7, 8, 9, 10, 11, 12]
def sgL : List Int32 := [2, 3, 4, 5, 6, 7, 8, 9, 10, 11, 12, 13]
theorem sof_b (x : Int32) (c : ¬ sof x = -1) : sof x ∈ bsL := by
  unfold sof at c ⊢
  by_cases c1 : x = 38
  · subst c1; decide
  by_cases c2 : x = 42
  · subst c2; decide
  by_cases c3 : x = 43
  · subst c3; decide
  by_cases c4 : x = 45
  · subst c4; decide
  by_cases c5 : x = 47
  · subst c5; decide
  by_cases c6 : x = 60
  · subst c6; decide
  by_cases c7 : x = 61
  · subst c7; decide
  by_cases c8 : x = 62
  · subst c8; decide
  by_cases c9 : x = 124
  · subst c9; decide
  rw [if_neg c1, if_neg c2, if_neg c3, if_neg c4, if_neg c5, if_neg c6, if_neg c7, if_neg c8, if_neg c9] at c
  exact absurd rfl c
theorem bs_sg {x : Int32} (h : x ∈ bsL) : x ∈ sgL := (by decide : ∀ x ∈ bsL, x ∈ sgL) x h
theorem bs_b {x : Int32} (h : x ∈ bsL) : ¬ (x = 2 ∨ x = 3 ∨ x = 13) := (by decide : ∀ x ∈ bsL, ¬ (x = 2 ∨ x = 3 ∨ x = 13)) x h
theorem bs_13 {x : Int32} (h : x ∈ bsL) : ¬ x = 13 := fun e => bs_b h (.inr (.inr e))
theorem bs_t {x : Int32} (h : x ∈ bsL) : (0 : Int32) < hld x := (by decide : ∀ x ∈ bsL, (0 : Int32) < hld x) x h
theorem sg_1 {x : Int32} (h : x ∈ sgL) (c : hld x < 1) : x = 13 := (by decide : ∀ x ∈ sgL, hld x < 1 → x = 13) x h c
theorem sg_01 {x : Int32} (h : x ∈ sgL) : ¬ (x = 0 ∨ x = 1) := (by decide : ∀ x ∈ sgL, ¬ (x = 0 ∨ x = 1)) x h
/-- the first n steps w leave d numbers on the pile, and never lack one -/
def gd (w : Nat → Int32) : Nat → Nat → Prop
  | 0, d => d = 0
  | n + 1, d => 1 ≤ d ∧ gd w n (if w n = 0 ∨ w n = 1 then d - 1 else if w n = 2 ∨ w n = 3 then d else d + 1)
theorem gd.cg {w w' : Nat → Int32} : ∀ {n d : Nat}, (∀ k, k < n → w' k = w k) → gd w n d → gd w' n d
  | 0, _, _, h => h
  | n + 1, d, e, h => by
    refine ⟨h.1, ?_⟩
    rw [e n (by omega)]
    exact gd.cg (fun k hk => e k (by omega)) h.2
theorem gd.un {w : Nat → Int32} : ∀ {n d d' : Nat}, gd w n d → gd w n d' → d = d'
  | 0, d, d', h, h' => h.trans h'.symm
  | n + 1, d, d', h, h' => by
    have e := gd.un h.2 h'.2
    have h1 := h.1
    have h2 := h'.1
    by_cases c1 : w n = 0 ∨ w n = 1
    · rw [if_pos c1, if_pos c1] at e; omega
    · rw [if_neg c1, if_neg c1] at e
      by_cases c2 : w n = 2 ∨ w n = 3
      · rw [if_pos c2, if_pos c2] at e; exact e
      · rw [if_neg c2, if_neg c2] at e; omega
theorem gd.le {w : Nat → Int32} : ∀ {n d : Nat}, gd w n d → d ≤ n
  | 0, d, h => Nat.le_of_eq h
  | n + 1, d, h => by
    have e := gd.le h.2
    by_cases c1 : w n = 0 ∨ w n = 1
    · rw [if_pos c1] at e; omega
    · rw [if_neg c1] at e
      by_cases c2 : w n = 2 ∨ w n = 3
      · rw [if_pos c2] at e; omega
      · rw [if_neg c2] at e; omega
theorem gd.pre {w : Nat → Int32} : ∀ {n d i : Nat}, gd w n d → i ≤ n → ∃ d', gd w i d'
  | 0, d, i, h, hi => ⟨d, by have : i = 0 := by omega
                             subst this; exact h⟩
  | n + 1, d, i, h, hi => by
    by_cases e : i = n + 1
    · subst e; exact ⟨d, h⟩
    · exact gd.pre h.2 (by omega)
def co (w : Nat → Int32) : Nat → Nat
  | 0 => 0
  | n + 1 => co w n + (if w n = 13 then 1 else 0)
def cb (w : Nat → Int32) : Nat → Nat
  | 0 => 0
  | n + 1 => cb w n + (if w n = 2 ∨ w n = 3 ∨ w n = 13 then 0 else 1)
theorem co_cg {w w' : Nat → Int32} : ∀ {n : Nat}, (∀ k, k < n → w' k = w k) → co w' n = co w n
  | 0, _ => rfl
  | n + 1, e => by unfold co; rw [e n (by omega), co_cg (fun k hk => e k (by omega))]
theorem cb_cg {w w' : Nat → Int32} : ∀ {n : Nat}, (∀ k, k < n → w' k = w k) → cb w' n = cb w n
  | 0, _ => rfl
  | n + 1, e => by unfold cb; rw [e n (by omega), cb_cg (fun k hk => e k (by omega))]
def okw (w : Nat → Int32) (n : Nat) : Prop := ∀ k, k < n → w k ∈ sgL
theorem p_X11_emits {h : HI} {g : HL} {a b : Int32} {S : Nat} (hS : h 135 3 = nI S) (h7 : S < 70) : w_X11_emits a b h g (fun h' g' => g = g' ∧ KJ SRd h h' ∧ h' 135 3 = nI (S + 1) ∧ h' 135 6 = h 135 6 ∧ h' 139 = upd (h 139) S a ∧ h' 140 = upd (h 140) S b ∧ h' 141 = h 141) := by
  unfold w_X11_emits
  have hv : vp_in (h 135 3) 70 := by rw [hS]; exact vp_in_nI h7 (by omega)
  refine and_have hv (fun _ => ?_)
  intro h1 e1
  have e13 : h1 135 3 = nI S := by rw [e1, hu_ne (by decide)]; exact hS
  refine and_have (by rw [e13]; exact vp_in_nI h7 (by omega)) (fun _ => ?_)
  intro h2 e2
  have e23 : h2 135 3 = nI S := by rw [e2, hu_ne (by decide)]; exact e13
  rw [e23, nI_1]
  intro h3 e3
  rw [hS, nI_clamp (by omega)] at e1
  rw [e13, nI_clamp (by omega)] at e2
  refine ⟨rfl, ((KJ.rf.hu e1 (by unfold SRd; omega)).hu e2 (by unfold SRd; omega)).hu e3 (by unfold SRd; omega), ?_, ?_, ?_, ?_, ?_⟩
  · rw [e3, hu_eq, pk_us]
  · rw [e3, hu_eq, pk_un (by decide), e2, hu_ne (by decide), e1, hu_ne (by decide)]
  · rw [e3, hu_ne (by decide), e2, hu_ne (by decide), e1, hu_eq]
  · rw [e3, hu_ne (by decide), e2, hu_eq, e1, hu_ne (by decide)]
  · rw [e3, hu_ne (by decide), e2, hu_ne (by decide), e1, hu_ne (by decide)]
theorem p_X11_waitsWith {h : HI} {g : HL} {a : Int32} {W : Nat} (hW : h 135 6 = nI W) (h7 : W < 70) : w_X11_waitsWith a h g (fun h' g' => g = g' ∧ KJ SRd h h' ∧ h' 135 6 = nI (W + 1) ∧ h' 135 3 = h 135 3 ∧ h' 141 = upd (h 141) W a ∧ h' 139 = h 139 ∧ h' 140 = h 140) := by
  unfold w_X11_waitsWith
  refine and_have (by rw [hW]; exact vp_in_nI h7 (by omega)) (fun _ => ?_)
  intro h1 e1
  have e13 : h1 135 6 = nI W := by rw [e1, hu_ne (by decide)]; exact hW
  rw [e13, nI_1]
  intro h3 e3
  rw [hW, nI_clamp (by omega)] at e1
  refine ⟨rfl, (KJ.rf.hu e1 (by unfold SRd; omega)).hu e3 (by unfold SRd; omega), ?_, ?_, ?_, ?_, ?_⟩
  · rw [e3, hu_eq, pk_us]
  · rw [e3, hu_eq, pk_un (by decide), e1, hu_ne (by decide)]
  · rw [e3, hu_ne (by decide), e1, hu_eq]
  · rw [e3, hu_ne (by decide), e1, hu_ne (by decide)]
  · rw [e3, hu_ne (by decide), e1, hu_ne (by decide)]
/-- what is read so far: S steps, W signs that wait, opn brackets open -/
def RSp (P : Prop) (h : HI) (S W opn : Nat) : Prop := h 135 3 = nI S ∧ h 135 6 = nI W ∧ okw (h 141) W ∧ co (h 141) W = opn ∧ (P → gd (h 139) S (cb (h 141) W + 1))
theorem p_X11_settles {P : Prop} {h : HI} {g : HL} {t : Int32} {S W opn : Nat} (hS : RSp P h S W opn) (hB : S + W ≤ 60) (ht : (0 : Int32) < t) : w_X11_settles t h g (fun h' g' => KJ SRd h h' ∧ ∃ S' W' : Nat, RSp P h' S' W' opn ∧ S' + W' = S + W ∧ (W' = 0 ∨ hld (h' 141 (W' - 1)) < t)) := by
  unfold w_X11_settles
  refine lpE_intro (fun q => t = q.1 ∧ KJ SRd h q.2.1 ∧ ∃ S' W' : Nat, RSp P q.2.1 S' W' opn ∧ S' + W' = S + W) (fun q => (q.2.1 135 6).toNatClampNeg) ?_ _ ⟨rfl, KJ.rf, S, W, hS, rfl⟩
  rintro ⟨t', h1, g1⟩ K ⟨rfl, hJ, S', W', hS1, hB1⟩ hK
  dsimp only at hJ hS1
  obtain ⟨s3, s6, ok, hco, hgd⟩ := hS1
  unfold F_X11_settles_0; dsimp only; unfold b_X11_settles_0
  rw [s6]
  refine ⟨fun c => ?_, fun c => ?_⟩
  · have : W' = 0 := by
      rw [show (0 : Int32) = nI 0 from rfl, nI_leI (by omega) (by omega)] at c
      omega
    exact ⟨hJ, S', W', ⟨s3, s6, ok, hco, hgd⟩, hB1, .inl this⟩
  · obtain ⟨V, rfl⟩ : ∃ V, W' = V + 1 := ⟨W' - 1, by
      have : W' ≠ 0 := fun e => c (by subst e; decide)
      omega⟩
    rw [nI_pred, nI_clamp (by omega)]
    refine and_have (vp_in_nI (by omega) (by omega)) (fun _ => ?_)
    refine c_i p_X11_holds ?_; rintro _ _ _ ⟨rfl, rfl, rfl⟩
    refine ⟨fun c2 => ⟨hJ, S', V + 1, ⟨s3, s6, ok, hco, hgd⟩, hB1, .inr c2⟩, fun c2 => ?_⟩
    have hsg := ok V (by omega)
    have n13 : ¬ h1 141 V = 13 := fun e => c2 (by rw [e]; exact ht)
    intro h2 e2
    rw [s6, nI_pred] at e2
    have s62 : h2 135 6 = nI V := by rw [e2, hu_eq, pk_us]
    have s32 : h2 135 3 = nI S' := by rw [e2, hu_eq, pk_un (by decide)]; exact s3
    have e141 : h2 141 = h1 141 := by rw [e2, hu_ne (by decide)]
    have e139 : h2 139 = h1 139 := by rw [e2, hu_ne (by decide)]
    rw [s62, nI_clamp (by omega)]
    refine and_have (vp_in_nI (by omega) (by omega)) (fun _ => ?_)
    refine c_v (p_X11_emits s32 (by omega)) ?_
    rintro h3 g3 ⟨rfl, hJ3, t3, t6, t139, t140, t141⟩
    refine hK _ ⟨rfl, (hJ.hu e2 (by unfold SRd; omega)).tr hJ3, S' + 1, V, ⟨t3, t6.trans s62, ?_, ?_, ?_⟩, by omega⟩ ?_
    · dsimp only; rw [t141, e141]; exact fun k hk => ok k (by omega)
    · dsimp only; rw [t141, e141]
      unfold co at hco
      rw [if_neg n13] at hco
      exact hco
    · intro p
      dsimp only
      rw [t141, e141, t139, e139]
      have hg := hgd p
      unfold cb at hg
      refine ⟨by omega, ?_⟩
      rw [pk_us]
      have hg2 : gd (upd (h1 139) S' (h2 141 V)) S' (cb (h1 141) V + (if h1 141 V = 2 ∨ h1 141 V = 3 ∨ h1 141 V = 13 then 0 else 1) + 1) := hg.cg (fun k hk => pk_un (by omega))
      rw [e141] at hg2 ⊢
      rw [if_neg (sg_01 hsg)]
      by_cases c3 : h1 141 V = 2 ∨ h1 141 V = 3
      · rw [if_pos c3]
        rw [if_pos (c3.elim .inl (fun e => .inr (.inl e)))] at hg2
        exact hg2
      · rw [if_neg c3]
        rw [if_neg (fun e => e.elim (fun e => c3 (.inl e)) (fun e => e.elim (fun e => c3 (.inr e)) n13))] at hg2
        exact hg2
    · dsimp only
      rw [t6.trans s62, s6, nI_clamp (by omega), nI_clamp (by omega)]
      omega
def RSo (h : HI) (S W opn e : Nat) : Prop := h 135 3 = nI S ∧ h 135 6 = nI W ∧ okw (h 141) W ∧ co (h 141) W = opn ∧ gd (h 139) S (cb (h 141) W + e)
theorem RSo.p {h : HI} {S W opn e : Nat} (r : RSo h S W opn e) : RSp (e = 1) h S W opn := ⟨r.1, r.2.1, r.2.2.1, r.2.2.2.1, fun p => p ▸ r.2.2.2.2⟩
theorem RSp.o {P : Prop} {h : HI} {S W opn : Nat} (r : RSp P h S W opn) (p : P) : RSo h S W opn 1 := ⟨r.1, r.2.1, r.2.2.1, r.2.2.2.1, r.2.2.2.2 p⟩
theorem RSo.wait {h h' : HI} {S W opn e : Nat} {a : Int32} (r : RSo h S W opn e) (t6 : h' 135 6 = nI (W + 1)) (t3 : h' 135 3 = h 135 3) (t141 : h' 141 = upd (h 141) W a) (t139 : h' 139 = h 139) (ha : a ∈ sgL) {opn' e' : Nat} (ho : opn' = opn + (if a = 13 then 1 else 0)) (he : e = (if a = 2 ∨ a = 3 ∨ a = 13 then 0 else 1) + e') : RSo h' S (W + 1) opn' e' := by
  obtain ⟨s3, s6, ok, hco, hgd⟩ := r
  refine ⟨t3.trans s3, t6, ?_, ?_, ?_⟩
  · rw [t141]
    intro k hk
    by_cases ek : k = W
    · subst ek; rw [pk_us]; exact ha
    · rw [pk_un ek]; exact ok k (by omega)
  · rw [t141]
    unfold co
    rw [pk_us, co_cg (w := h 141) (fun k hk => pk_un (by omega)), hco, ho]
  · rw [t141, t139]
    unfold cb
    rw [pk_us, cb_cg (w := h 141) (fun k hk => pk_un (by omega)), Nat.add_assoc, ← he]
    exact hgd
theorem RSo.emit {h h' : HI} {S W opn : Nat} {a : Int32} (r : RSo h S W opn 0) (t3 : h' 135 3 = nI (S + 1)) (t6 : h' 135 6 = h 135 6) (t141 : h' 141 = h 141) (t139 : h' 139 = upd (h 139) S a) (ha : a = 0 ∨ a = 1) : RSo h' (S + 1) W opn 1 := by
  obtain ⟨s3, s6, ok, hco, hgd⟩ := r
  refine ⟨t3, t6.trans s6, by rw [t141]; exact ok, by rw [t141]; exact hco, ?_⟩
  rw [t141, t139]
  refine ⟨by omega, ?_⟩
  rw [pk_us, if_pos ha]
  exact gd.cg (fun k hk => pk_un (by omega)) hgd
theorem p_X11_goesOn {h : HI} {g : HL} {x : Int32} {S W opn : Nat} (hS : RSo h S W opn 1) (hB : S + W ≤ 59) (hx : x ∈ bsL) : w_X11_goesOn x h g (fun r h' g' => KJ SRd h h' ∧ (¬ r = 0 → ∃ S' W' : Nat, RSo h' S' W' opn 0 ∧ S' + W' = S + W + 1)) := by
  unfold w_X11_goesOn
  refine c_i p_X11_holds ?_; rintro _ _ _ ⟨rfl, rfl, rfl⟩
  have key : ∀ (h1 : HI) (g1 : HL) (S1 W1 : Nat), KJ SRd h h1 → RSo h1 S1 W1 opn 1 → S1 + W1 = S + W → j_X11_goesOn_42 (fun r h' g' => KJ SRd h h' ∧ (¬ r = 0 → ∃ S' W' : Nat, RSo h' S' W' opn 0 ∧ S' + W' = S + W + 1)) x (hld x) h1 g1 := by
    intro h1 g1 S1 W1 J1 r1 e1
    unfold j_X11_goesOn_42
    refine c_v (p_X11_settles r1.p (by omega) (bs_t hx)) ?_
    rintro h2 g2 ⟨J2, S2, W2, r2, e2, -⟩
    refine c_v (p_X11_waitsWith r2.2.1 (by omega)) ?_
    rintro h3 g3 ⟨rfl, J3, t6, t3, t141, t139, -⟩
    refine ⟨(J1.tr J2).tr J3, fun _ => ⟨S2, W2 + 1, (r2.o rfl).wait t6 t3 t141 t139 (bs_sg hx) (by rw [if_neg (bs_13 hx)]; rfl) (by rw [if_neg (bs_b hx)]), by omega⟩⟩
  refine ⟨fun _ => key h g S W KJ.rf hS rfl, fun _ => ?_⟩
  refine c_v (p_X11_settles hS.p (by omega) (by decide)) ?_
  rintro h1 g1 ⟨J1, S1, W1, r1, e1, -⟩
  refine ⟨fun _ => key h1 g1 S1 W1 J1 (r1.o rfl) e1, fun c => ?_⟩
  have hW : vp_in (h1 135 6 - 1) 70 := by
    rw [r1.2.1] at c ⊢
    obtain ⟨V, rfl⟩ : ∃ V, W1 = V + 1 := ⟨W1 - 1, by
      have : W1 ≠ 0 := fun e => c (by subst e; decide)
      omega⟩
    rw [nI_pred]; exact vp_in_nI (by omega) (by omega)
  refine and_have hW (fun _ => ?_)
  refine c_i p_X11_holds ?_; rintro _ _ _ ⟨rfl, rfl, rfl⟩
  exact ⟨fun _ => key h1 g1 S1 W1 J1 (r1.o rfl) e1, fun _ => ⟨J1, fun c => absurd rfl c⟩⟩
/-- a program that can be run -/
def GP (h : HI) : Prop := ∃ n d : Nat, n ≤ 60 ∧ h 135 3 = nI n ∧ gd (h 139) n d
theorem r10 {k c : Nat} (hk : k ≤ 60) (hc : c ≤ 3) : ¬ ((10 : Int32) * nI k + nI c = -1) := by
  rw [show (10 : Int32) = nI 10 from rfl, pk_mul, nI_add]
  intro e
  have h1 := nI_toInt (n := 10 * k + c) (by omega)
  rw [e, show (-1 : Int32).toInt = -1 by decide] at h1
  omega
theorem dif_nI {n i : Nat} (hn : n < 2 ^ 31) (hi : i < 2 ^ 31) : dif (nI n) (nI i) = n - i := by
  unfold dif
  rw [nI_toInt hn, nI_toInt hi]
  omega
abbrev QRd (h : HI) (r : Int32) (h' : HI) (_ : HL) : Prop := KJ SRd h h' ∧ (r = -1 → GP h')
set_option maxHeartbeats 4000000 in
theorem p_X11_reads {h : HI} {g : HL} (hR : RI (h 136)) : w_X11_reads h g (QRd h) := by
  unfold w_X11_reads
  refine and_have (vp_in_iff.mpr (by decide)) (fun _ => ?_)
  obtain ⟨n, hn, hn2, en⟩ := bd_nI hR.c8
  rintro _ rfl
  rw [en]
  intro h1 e1
  intro h2 e2
  have J2 : KJ SRd h h2 := (KJ.rf.hu e1 (by unfold SRd; omega)).hu e2 (by unfold SRd; omega)
  have r2 : RSo h2 0 0 0 0 := ⟨by rw [e2, hu_eq, pk_un (by decide), e1, hu_eq, pk_us]; exact nI_0.symm, by rw [e2, hu_eq, pk_us]; exact nI_0.symm, fun k hk => absurd hk (Nat.not_lt_zero k), rfl, rfl⟩
  refine lpE_intro (fun q => ∃ i opn e S W : Nat, i ≤ n ∧ opn ≤ 8 ∧ e ≤ 1 ∧ nI n = q.1 ∧ nI opn = q.2.1 ∧ nI e = q.2.2.1 ∧ nI i = q.2.2.2.1 ∧ KJ SRd h q.2.2.2.2.1 ∧ RSo q.2.2.2.2.1 S W opn e ∧ S + W ≤ i) (fun q => dif q.1 q.2.2.2.1) ?_ _ ⟨0, 0, 0, 0, 0, by omega, by omega, by omega, rfl, nI_0, nI_0, nI_0, J2, r2, by omega⟩
  clear e1 e2 J2 r2
  rintro ⟨x1, x2, x3, x4, h3, g3⟩ K ⟨i, opn, e, S, W, hi, ho, he, rfl, rfl, rfl, rfl, J, r, hSW⟩ hK
  dsimp only at J r
  have go : ∀ (i' opn' e' : Nat) (h4 : HI) (g4 : HL) (S' W' : Nat), i < i' → i' ≤ n → opn' ≤ 8 → e' ≤ 1 → KJ SRd h h4 → RSo h4 S' W' opn' e' → S' + W' ≤ i' → K (nI n, nI opn', nI e', nI i', h4, g4) := by
    intro i' opn' e' h4 g4 S' W' a1 a2 a3 a4 a5 a6 a7
    refine hK _ ⟨i', opn', e', S', W', a2, a3, a4, rfl, rfl, rfl, rfl, a5, a6, a7⟩ ?_
    dsimp only
    rw [dif_nI (by omega) (by omega), dif_nI (by omega) (by omega)]
    omega
  clear hK
  have bad1 : ∀ (k : Nat) (h4 : HI) (g4 : HL), k ≤ 60 → KJ SRd h h4 → QRd h ((10 : Int32) * nI k + (1 : Int32)) h4 g4 := fun k h4 g4 hk J4 => ⟨J4, fun c => absurd c (r10 (c := 1) hk (by omega))⟩
  have bad2 : ∀ (k : Nat) (h4 : HI) (g4 : HL), k ≤ 60 → KJ SRd h h4 → QRd h ((10 : Int32) * nI k + (2 : Int32)) h4 g4 := fun k h4 g4 hk J4 => ⟨J4, fun c => absurd c (r10 (c := 2) hk (by omega))⟩
  have bad3 : ∀ (k : Nat) (h4 : HI) (g4 : HL), k ≤ 60 → KJ SRd h h4 → QRd h ((10 : Int32) * nI k + (3 : Int32)) h4 g4 := fun k h4 g4 hk J4 => ⟨J4, fun c => absurd c (r10 (c := 3) hk (by omega))⟩
  have n60 : n ≤ 60 := by omega
  unfold F_X11_reads_25; dsimp only; unfold b_X11_reads_25
  refine ⟨fun c => ?_, fun c => ?_⟩
  · refine c_v (p_X11_settles r.p (by omega) (by decide)) ?_
    rintro h4 g4 ⟨J4, S', W', r4, e4, top⟩
    have bad : j_X11_reads_388 (QRd h) (nI n) h4 g4 := by
      unfold j_X11_reads_388; exact bad1 n h4 g4 n60 (J.tr J4)
    refine ⟨fun _ => bad, fun c3 => ⟨fun _ => bad, fun c2 => ?_⟩⟩
    have e1 : e = 1 := by
      have : e ≠ 0 := fun q => c3 (by rw [q]; exact nI_0)
      omega
    have o0 : opn = 0 := (nI_eq (by omega) (by omega)).mp (c2.trans nI_0.symm)
    have rr := r4.o e1
    refine ⟨J.tr J4, fun _ => ?_⟩
    have W0 : W' = 0 := by
      rcases top with t | t
      · exact t
      · by_cases hw : W' = 0
        · exact hw
        · exfalso
          obtain ⟨V, rfl⟩ : ∃ V, W' = V + 1 := ⟨W' - 1, by omega⟩
          rw [Nat.add_sub_cancel] at t
          have t13 := sg_1 (rr.2.2.1 V (by omega)) t
          have hco := rr.2.2.2.1
          unfold co at hco
          rw [if_pos t13] at hco
          omega
    exact ⟨S', _, by omega, rr.1, rr.2.2.2.2⟩
  · have hin : i < n := by
      rw [nI_leI (by omega) (by omega)] at c; omega
    have hvk : ∀ k : Nat, k < n → vp_in ((827 : Int32) + nI k) 887 := by
      intro k hk
      rw [show (827 : Int32) + nI k = nI (827 + k) from nI_add 827 k]
      exact vp_in_nI (by omega) (by omega)
    refine and_have (hvk i hin) (fun _ => ?_)
    intro x5 e5
    refine ⟨fun c32 => ?_, fun c32 => ?_⟩
    · refine ⟨fun c0 => ?_, fun c0 => ?_⟩
      · have e0 : e = 0 := (nI_eq (by omega) (by omega)).mp (c0.trans nI_0.symm)
        subst e0
        refine c_in3 (fun q => ?_) (fun q => ?_)
        · refine ⟨fun c => absI c, fun _ => ?_⟩
          refine lpE_intro (fun q' => ∃ k : Nat, i ≤ k ∧ k ≤ n ∧ nI n = q'.1 ∧ nI opn = q'.2.1 ∧ nI k = q'.2.2.1 ∧ nI i = q'.2.2.2.1 ∧ h3 = q'.2.2.2.2.2.1) (fun q' => dif q'.1 q'.2.2.1) ?_ _ ⟨i, by omega, by omega, rfl, rfl, rfl, rfl, rfl⟩
          rintro ⟨y1, y2, y4, y6, y7, h4, g4⟩ K2 ⟨k, hik, hkn, rfl, rfl, rfl, rfl, rfl⟩ hK2
          unfold F_X11_reads_161; dsimp only; unfold b_X11_reads_161
          have out : i < k → j_X11_reads_237 (QRd h) (fun x1 x2 x3 x4 h g => K (x1, x2, x3, x4, h, g)) (nI n) (nI opn) (nI k) y7 h3 g4 := by
            intro hk
            unfold j_X11_reads_237
            refine c_v (p_X11_emits r.1 (by omega)) ?_
            rintro h5 g5 ⟨rfl, J5, t3, t6, t139, t140, t141⟩
            refine c_v (p_X11_settles (r.emit t3 t6 t141 t139 (.inl rfl)).p (by omega) (by decide)) ?_
            rintro h6 g6 ⟨J6, S', W', r6, e6, -⟩
            unfold j_X11_reads_368
            exact go k opn 1 h6 g6 S' W' hk hkn ho (by omega) ((J.tr J5).tr J6) (r6.o rfl) (by omega)
          refine ⟨fun c => out ?_, fun c => ?_⟩
          · rw [nI_leI (by omega) (by omega)] at c; omega
          · have hk2 : k < n := by
              rw [nI_leI (by omega) (by omega)] at c; omega
            refine and_have (hvk k hk2) (fun _ => ?_)
            refine c_in3 (fun q2 => ?_) (fun q2 => ?_)
            · refine ⟨fun c => absI c, fun _ => ⟨fun c6 => ?_, fun c6 => ?_⟩⟩
              · refine and_have (hvk k hk2) (fun _ => ?_)
                rintro _ rfl
                rintro _ rfl
                refine hK2 _ ⟨k + 1, by omega, by omega, rfl, rfl, (nI_1 k).symm, rfl, rfl⟩ (dif_lt c)
              · exact bad2 i h3 g4 (by omega) J
            · refine ⟨fun _ => out ?_, fun c => absN c⟩
              by_cases ek : k = i
              · subst ek; rw [e5] at q; exact absurd q q2
              · omega
        · refine ⟨fun _ => ?_, fun c => absN c⟩
          refine c_i p_X11_nameOf ?_
          rintro _ _ _ ⟨rfl, rfl, rfl⟩
          refine ⟨fun cn => ?_, fun cn => ?_⟩
          · refine ⟨fun c40 => ?_, fun c40 => ?_⟩
            · have s351 : ∀ a : Int32, a = 2 ∨ a = 3 → j_X11_reads_351 (QRd h) (fun x1 x2 x3 x4 h g => K (x1, x2, x3, x4, h, g)) (nI n) (nI opn) (nI 0) (nI i) a h3 g3 := by
                intro a ha
                unfold j_X11_reads_351
                refine c_v (p_X11_waitsWith r.2.1 (by omega)) ?_
                rintro h5 g5 ⟨rfl, J5, t6, t3, t141, t139, -⟩
                rintro _ rfl
                unfold j_X11_reads_368
                rw [nI_1]
                refine go (i + 1) opn 0 h5 g3 S (W + 1) (by omega) (by omega) ho (by omega) (J.tr J5) (r.wait t6 t3 t141 t139 ?_ ?_ ?_) (by omega)
                · rcases ha with rfl | rfl <;> decide
                · rcases ha with rfl | rfl <;> rfl
                · rcases ha with rfl | rfl <;> rfl
              have s338 : j_X11_reads_338 (QRd h) (fun x1 x2 x3 x4 h g => K (x1, x2, x3, x4, h, g)) (nI n) (nI opn) (nI 0) (nI i) x5 h3 g3 := by
                unfold j_X11_reads_338
                exact ⟨fun _ => s351 2 (.inl rfl), fun _ => s351 3 (.inr rfl)⟩
              exact ⟨fun _ => s338, fun _ => ⟨fun _ => bad1 i h3 g3 (by omega) J, fun _ => s338⟩⟩
            · refine ⟨fun c8 => ?_, fun c8 => bad3 i h3 g3 (by omega) J⟩
              have o8 : opn ≠ 8 := fun q => c8 (by rw [q]; rfl)
              rintro _ rfl
              refine c_v (p_X11_waitsWith r.2.1 (by omega)) ?_
              rintro h5 g5 ⟨rfl, J5, t6, t3, t141, t139, -⟩
              rintro _ rfl
              unfold j_X11_reads_368
              rw [nI_1, nI_1]
              exact go (i + 1) (opn + 1) 0 h5 g3 S (W + 1) (by omega) (by omega) (by omega) (by omega) (J.tr J5) (r.wait t6 t3 t141 t139 (by decide) rfl rfl) (by omega)
          · refine c_i p_X11_nameOf ?_
            rintro _ _ _ ⟨rfl, rfl, rfl⟩
            refine c_v (p_X11_emits r.1 (by omega)) ?_
            rintro h5 g5 ⟨rfl, J5, t3, t6, t139, t140, t141⟩
            refine c_v (p_X11_settles (r.emit t3 t6 t141 t139 (.inr rfl)).p (by omega) (by decide)) ?_
            rintro h6 g6 ⟨J6, S', W', r6, e6, -⟩
            rintro _ rfl
            unfold j_X11_reads_368
            rw [nI_1]
            exact go (i + 1) opn 1 h6 g6 S' W' (by omega) (by omega) ho (by omega) ((J.tr J5).tr J6) (r6.o rfl) (by omega)
      · have e1 : e = 1 := by
          have : e ≠ 0 := fun q => c0 (by rw [q]; exact nI_0)
          omega
        subst e1
        have s125 : ∀ (h4 : HI) (g4 : HL), KJ SRd h h4 → j_X11_reads_125 (QRd h) (nI i) h4 g4 := by
          intro h4 g4 J4
          unfold j_X11_reads_125; exact bad1 i h4 g4 (by omega) J4
        have s99 : j_X11_reads_99 (QRd h) (fun x1 x2 x3 x4 h g => K (x1, x2, x3, x4, h, g)) (nI n) (nI opn) (nI i) x5 h3 g3 := by
          unfold j_X11_reads_99
          refine c_i p_X11_signOf ?_
          rintro _ _ _ ⟨rfl, rfl, rfl⟩
          refine ⟨fun _ => s125 _ _ J, fun cs => ?_⟩
          refine c_i p_X11_signOf ?_
          rintro _ _ _ ⟨rfl, rfl, rfl⟩
          refine c_z (p_X11_goesOn r (by omega) (sof_b _ cs)) ?_
          rintro r4 h5 g5 ⟨J5, h5'⟩
          refine ⟨fun _ => s125 _ _ (J.tr J5), fun cr => ?_⟩
          obtain ⟨S', W', r5, e5'⟩ := h5' cr
          unfold j_X11_reads_133
          rintro _ rfl
          unfold j_X11_reads_368
          rw [nI_1]
          exact go (i + 1) opn 0 h5 g5 S' W' (by omega) (by omega) ho (by omega) (J.tr J5) r5 (by omega)
        refine ⟨fun _ => s99, fun _ => ⟨fun _ => s99, fun co' => ?_⟩⟩
        obtain ⟨p, rfl⟩ : ∃ p, opn = p + 1 := ⟨opn - 1, by
          have : opn ≠ 0 := fun q => co' (by rw [q]; decide)
          omega⟩
        refine c_v (p_X11_settles r.p (by omega) (by decide)) ?_
        rintro h5 g5 ⟨J5, S', W', r5, e5', top⟩
        have rr := r5.o rfl
        have hco := rr.2.2.2.1
        obtain ⟨V, rfl⟩ : ∃ V, W' = V + 1 := ⟨W' - 1, by
          have : W' ≠ 0 := fun q => by rw [q] at hco; unfold co at hco; omega
          omega⟩
        have t13 : h5 141 V = 13 := by
          rcases top with t | t
          · omega
          · rw [Nat.add_sub_cancel] at t
            exact sg_1 (rr.2.2.1 V (by omega)) t
        intro h6 e6
        rw [rr.2.1, nI_pred] at e6
        have r6 : RSo h6 S' V p 1 := by
          refine ⟨by rw [e6, hu_eq, pk_un (by decide)]; exact rr.1, by rw [e6, hu_eq, pk_us], ?_, ?_, ?_⟩
          · rw [e6, hu_ne (by decide)]; exact fun k hk => rr.2.2.1 k (by omega)
          · rw [e6, hu_ne (by decide)]
            unfold co at hco
            rw [if_pos t13] at hco
            omega
          · rw [e6, hu_ne (by decide), hu_ne (by decide)]
            have hg := rr.2.2.2.2
            unfold cb at hg
            rw [if_pos (.inr (.inr t13))] at hg
            exact hg
        have J6 : KJ SRd h h6 := (J.tr J5).hu e6 (by unfold SRd; omega)
        rintro _ rfl
        refine c_v (p_X11_settles r6.p (by omega) (by decide)) ?_
        rintro h7 g7 ⟨J7, S7, W7, r7, e7, -⟩
        unfold j_X11_reads_133
        rintro _ rfl
        unfold j_X11_reads_368
        rw [nI_1, pk_m1]
        exact go (i + 1) p 1 h7 g7 S7 W7 (by omega) (by omega) (by omega) (by omega) (J6.tr J7) (r7.o rfl) (by omega)
    · rintro _ rfl
      unfold j_X11_reads_368
      rw [nI_1]
      exact go (i + 1) opn e h3 g3 S W (by omega) (by omega) ho he J r (by omega)
theorem p_X11_partOf {h : HI} {g : HL} (_hR : RI (h 136)) {x1 x2 : Int32} (b_x1 : bd 0 23 x1) (b_x2 : bd 0 4 x2) : w_X11_partOf x1 x2 h g (fun r h' g' => h = h' ∧ g = g' ∧ h 136 (((20 : Int32) + ((5 : Int32) * x1)) + x2).toNatClampNeg = r) := by
  unfold w_X11_partOf
  exact ⟨vp_bd (bd_add (bd_add (bd_lit (n := 20) (by decide)) (bd_mul (n := 5) (by decide) b_x1 (by decide) (by decide) (by decide)) (by decide) (by decide)) b_x2 (by decide) (by decide)) (by decide) (by decide), rfl, rfl, rfl⟩
theorem p_X11_twoOf {h : HI} {g : HL} {x0 : Int32} {x1 x3 : Int64} : w_X11_twoOf x0 x1 x3 h g (fun _ h' g' => h = h' ∧ g = g') := by
  unfold w_X11_twoOf
  have j : j_X11_twoOf_140 (fun _ h' g' => h = h' ∧ g = g') h g := by
    unfold j_X11_twoOf_140; exact ⟨rfl, rfl⟩
  refine ⟨fun _ => ⟨rfl, rfl⟩, fun _ => ⟨fun c => ⟨lgne c, rfl, rfl⟩, fun _ => ⟨rfl, rfl⟩⟩, fun _ => ⟨rfl, rfl⟩, fun _ => ⟨rfl, rfl⟩, fun _ => ⟨fun _ => ⟨rfl, rfl⟩, fun _ => ⟨rfl, rfl⟩⟩, fun _ => ⟨fun _ => ⟨rfl, rfl⟩, fun _ => ⟨rfl, rfl⟩⟩, fun _ => ⟨fun _ => ⟨rfl, rfl⟩, fun _ => ⟨rfl, rfl⟩⟩, fun _ => ⟨fun _ => ⟨rfl, rfl⟩, fun _ => ⟨fun _ => ⟨rfl, rfl⟩, fun _ => ⟨rfl, rfl⟩⟩⟩, ?_⟩
  intros
  exact ⟨fun _ => j, fun _ => ⟨fun _ => ⟨rfl, rfl⟩, fun _ => j⟩⟩
theorem p_X11_tells {h : HI} {g : HL} (hR : RI (h 136)) {x1 x2 : Int32} (b_x1 : bd 0 23 x1) (hG : GP h) : w_X11_tells x1 x2 h g (fun _ h' _ => h = h') := by
  obtain ⟨n, d, hn, e3, hgd⟩ := hG
  unfold w_X11_tells
  refine lpE_intro (fun q => ∃ i d : Nat, i ≤ n ∧ x1 = q.1 ∧ x2 = q.2.1 ∧ nI d = q.2.2.1 ∧ nI i = q.2.2.2.1 ∧ h = q.2.2.2.2.1 ∧ gd (h 139) i d) (fun q => dif (nI n) q.2.2.2.1) ?_ _ ⟨0, 0, by omega, rfl, rfl, nI_0, nI_0, rfl, rfl⟩
  rintro ⟨y1, y2, y3, y4, h1, g1⟩ K ⟨i, d, hi, rfl, rfl, rfl, rfl, rfl, hg⟩ hK
  unfold F_X11_tells_5; dsimp only; unfold b_X11_tells_5
  rw [e3]
  refine ⟨fun c => ⟨vp_in_iff.mpr (by decide), rfl⟩, fun c => ?_⟩
  have hd := dif_lt c
  rw [nI_leI (by omega) (by omega)] at c
  have hv : vp_in (nI i) 70 := vp_in_nI (by omega) (by omega)
  have hdi := hg.le
  obtain ⟨d', h1d, h2d⟩ := hgd.pre (i := i + 1) (by omega)
  have eu := gd.un h2d hg
  have go : ∀ (d2 : Nat) (g2 : HL), d2 = d' → j_X11_tells_196 (fun _ h' _ => h = h') (fun x1 x2 x3 x4 h g => K (x1, x2, x3, x4, h, g)) x1 x2 (nI d2) (nI i) h g2 := by
    intro d2 g2 e2
    subst e2
    unfold j_X11_tells_196
    rintro _ rfl
    exact hK _ ⟨i + 1, d2, by omega, rfl, rfl, rfl, (nI_1 i).symm, rfl, h1d, h2d⟩ hd
  refine and_have hv (fun _ => ?_)
  intro x5 e5
  rw [nI_clamp (by omega)] at e5
  have push : (x5 = 0 ∨ x5 = 1) → j_X11_tells_34 (fun _ h' _ => h = h') (fun x1 x2 x3 x4 h g => K (x1, x2, x3, x4, h, g)) x1 x2 (nI d) (nI i) x5 h g1 := by
    intro c5
    rw [e5] at c5
    rw [if_pos c5] at eu
    have p98 : ∀ (s2 : Int64) (g2 : HL), j_X11_tells_98 (fun _ h' _ => h = h') (fun x1 x2 x3 x4 h g => K (x1, x2, x3, x4, h, g)) x1 x2 (nI d) (nI i) (nI d) s2 h g2 := by
      intro s2 g2
      unfold j_X11_tells_98
      refine and_have (vp_in_nI (by omega) (by omega)) (fun _ => ?_)
      intro g3 _
      rintro _ rfl
      rw [nI_1]
      exact go (d + 1) g3 (by omega)
    unfold j_X11_tells_34
    refine ⟨fun _ => ?_, fun _ => ⟨hv, p98 _ _⟩⟩
    refine and_have hv (fun _ => ⟨fun _ => ?_, fun _ => p98 _ _⟩)
    refine and_have hv (fun _ => ⟨fun _ => ?_, fun _ => ?_⟩)
    · refine c_i (p_X11_partOf hR b_x1 ((bd_lit (n := 1) (by decide)).mo (by decide) (by decide))) ?_
      rintro _ _ _ ⟨rfl, rfl, rfl⟩
      exact p98 _ _
    · refine c_i (p_X11_partOf hR b_x1 ((bd_lit (n := 0) (by decide)).mo (by decide) (by decide))) ?_
      rintro _ _ _ ⟨rfl, rfl, rfl⟩
      exact p98 _ _
  refine ⟨fun c0 => push (.inl c0), fun c0 => ⟨fun c1 => ?_, fun c1 => push (.inr c1)⟩⟩
  rw [if_neg (fun q => by rw [← e5] at q; exact q.elim c0 c1)] at eu
  have v1 : ∀ k : Nat, 1 ≤ k → k ≤ d → vp_in (nI k - 1) 70 := by
    intro k hk hk2
    obtain ⟨j, rfl⟩ : ∃ j, k = j + 1 := ⟨k - 1, by omega⟩
    rw [nI_pred]; exact vp_in_nI (by omega) (by omega)
  refine ⟨fun c3 => ⟨fun c2 => ?_, fun c2 => ?_⟩, fun c3 => ?_⟩
  · rw [if_neg (fun q => by rw [← e5] at q; exact q.elim c2 c3)] at eu
    obtain ⟨j, rfl⟩ : ∃ j, d = j + 1 := ⟨d - 1, by omega⟩
    rw [pk_m1]
    rintro _ rfl
    have vj := v1 j (by omega) (by omega)
    refine and_have vj (fun _ => and_have (vp_in_nI (by omega) (by omega)) (fun _ => ?_))
    refine c_l p_X11_twoOf ?_
    rintro r _ _ ⟨rfl, rfl⟩
    refine and_have vj (fun _ => ?_)
    intro g3 _
    exact go j g3 (by omega)
  · rw [if_pos (by rw [← e5]; exact .inl c2)] at eu
    have vd := v1 d (by omega) (by omega)
    have p162 : ∀ (s2 : Int64) (g2 : HL), j_X11_tells_162 (fun _ h' _ => h = h') (fun x1 x2 x3 x4 h g => K (x1, x2, x3, x4, h, g)) x1 x2 (nI d) (nI i) (nI d - 1) s2 h g2 := by
      intro s2 g2
      unfold j_X11_tells_162
      refine and_have vd (fun _ => ?_)
      intro g3 _
      exact go d g3 (by omega)
    exact ⟨vd, fun _ => p162 _ _, fun _ => p162 _ _⟩
  · rw [if_pos (by rw [← e5]; exact .inr c3)] at eu
    have vd := v1 d (by omega) (by omega)
    refine and_have vd (fun _ => and_have vd (fun _ => ?_))
    intro g3 _
    exact go d g3 (by omega)
theorem p_X11_wornOf {h : HI} {g : HL} (hR : RI (h 136)) {x1 x2 : Int32} (b_x1 : bd 0 23 x1) : w_X11_wornOf x1 x2 h g (fun _ h' _ => KJ SRd h h') := by
  have j42 : ∀ (s : Int64) (h1 : HI) (g1 : HL), KJ SRd h h1 → j_X11_wornOf_42 (fun _ h' _ => KJ SRd h h') s h1 g1 := by
    intro s h1 g1 J
    unfold j_X11_wornOf_42
    exact ⟨fun _ => ⟨fun _ => J, fun _ => J⟩, fun _ => J⟩
  have j22 : ∀ (s : Int32) (g1 : HL), j_X11_wornOf_22 (fun _ h' _ => KJ SRd h h') x1 s h g1 := by
    intro s g1
    unfold j_X11_wornOf_22
    refine c_i (p_X11_reads hR) ?_
    rintro r h2 g2 ⟨J2, hG⟩
    refine ⟨fun _ => j42 _ _ _ J2, fun c => ?_⟩
    refine c_l (p_X11_tells (hR.kj J2 (fun k => by unfold SRd; omega)) b_x1 (hG c)) ?_
    rintro r3 _ g3 rfl
    exact j42 _ _ _ J2
  have b2 : bd 0 4 (2 : Int32) := (bd_lit (n := 2) (by decide)).mo (by decide) (by decide)
  unfold w_X11_wornOf
  refine c_i (p_X11_partOf hR b_x1 b2) ?_
  rintro _ _ _ ⟨rfl, rfl, rfl⟩
  refine ⟨fun _ => ?_, fun _ => j22 _ _⟩
  refine c_i (p_X11_partOf hR b_x1 b2) ?_
  rintro _ _ _ ⟨rfl, rfl, rfl⟩
  exact j22 _ _
end
section
-- 33.big
/-! LIMBS of the reference -/
def vl (f : Nat → Int32) (b : Nat) : Nat → Nat
  | 0 => 0
  | n + 1 => vl f b n + (f (b + n)).toNatClampNeg * 2 ^ (30 * n)
def dgs (f : Nat → Int32) (b n : Nat) : Prop := ∀ k, k < n → ∃ j : Nat, j < 1073741824 ∧ f (b + k) = nI j
theorem vl_cg {f f' : Nat → Int32} {b : Nat} : ∀ {n : Nat}, (∀ k, k < n → f' (b + k) = f (b + k)) → vl f' b n = vl f b n
  | 0, _ => rfl
  | n + 1, e => by unfold vl; rw [e n (by omega), vl_cg (fun k hk => e k (by omega))]
theorem dgs.cg {f f' : Nat → Int32} {b n : Nat} (d : dgs f b n) (e : ∀ k, k < n → f' (b + k) = f (b + k)) : dgs f' b n := fun k hk => by
  rw [e k hk]; exact d k hk
theorem p30 (n : Nat) : 2 ^ (30 * (n + 1)) = 1073741824 * 2 ^ (30 * n) := by
  rw [show 30 * (n + 1) = 30 + 30 * n by omega, Nat.pow_add]
theorem vl_lt {f : Nat → Int32} {b : Nat} : ∀ {n : Nat}, dgs f b n → vl f b n < 2 ^ (30 * n)
  | 0, _ => by unfold vl; exact Nat.two_pow_pos _
  | n + 1, d => by
    have h1 := vl_lt (n := n) (fun k hk => d k (by omega))
    obtain ⟨j, hj, ej⟩ := d n (by omega)
    unfold vl
    rw [ej, nI_clamp (by omega), p30]
    have h2 : (j + 1) * 2 ^ (30 * n) ≤ 1073741824 * 2 ^ (30 * n) := Nat.mul_le_mul_right _ (by omega)
    rw [Nat.add_mul, Nat.one_mul] at h2
    omega
def BG (h : HI) (r W v : Nat) : Prop := h 147 r = nI W ∧ dgs (h 146) (80 * r) W ∧ vl (h 146) (80 * r) W = v ∧ ∀ V, W = V + 1 → ¬ h 146 (80 * r + V) = 0
def BF (r : Nat) (h h' : HI) : Prop := (∀ o, o ≠ 146 → o ≠ 147 → h' o = h o) ∧ (∀ q, q ≠ r → h' 147 q = h 147 q) ∧ ∀ k, k < 80 * r ∨ 80 * r + 80 ≤ k → h' 146 k = h 146 k
theorem BF.rf {r : Nat} {h : HI} : BF r h h := ⟨fun _ _ _ => rfl, fun _ _ => rfl, fun _ _ => rfl⟩
theorem BF.tr {r : Nat} {a b c : HI} (x : BF r a b) (y : BF r b c) : BF r a c := ⟨fun o n m => (y.1 o n m).trans (x.1 o n m), fun q n => (y.2.1 q n).trans (x.2.1 q n), fun k n => (y.2.2 k n).trans (x.2.2 k n)⟩
theorem BF.kj {r : Nat} {a b : HI} (x : BF r a b) : KJ SBg a b := fun o k n => by
  rw [x.1 o (fun e => n (.inl e)) (fun e => n (.inr e))]
theorem BG.fr {r q W v : Nat} {a b : HI} (g : BG a q W v) (x : BF r a b) (n : q ≠ r) (hW : W ≤ 80) : BG b q W v := by
  have e : ∀ k, k < 80 → b 146 (80 * q + k) = a 146 (80 * q + k) := fun k hk => x.2.2 _ (by
    rcases Nat.lt_or_gt_of_ne n with h | h <;> omega)
  refine ⟨(x.2.1 q n).trans g.1, g.2.1.cg (fun k hk => e k (by omega)), ?_, ?_⟩
  · rw [vl_cg (f := a 146) (fun k hk => e k (by omega))]; exact g.2.2.1
  · intro V hV
    rw [e V (by omega)]; exact g.2.2.2 V hV
theorem BG.wle {r W v m : Nat} {a : HI} (g : BG a r W v) (hv : v < 2 ^ (30 * m)) : W ≤ m := by
  by_cases c : W ≤ m
  · exact c
  · exfalso
    obtain ⟨V, rfl⟩ : ∃ V, W = V + 1 := ⟨W - 1, by omega⟩
    obtain ⟨j, hj, ej⟩ := g.2.1 V (by omega)
    have hn := g.2.2.2 V rfl
    have hv2 := g.2.2.1
    unfold vl at hv2
    rw [ej, nI_clamp (by omega)] at hv2
    rw [ej] at hn
    have j1 : 1 ≤ j := by
      have : j ≠ 0 := fun q => hn (by rw [q]; exact nI_0)
      omega
    have h2 : 1 * 2 ^ (30 * V) ≤ j * 2 ^ (30 * V) := Nat.mul_le_mul_right _ j1
    have h3 : 2 ^ (30 * m) ≤ 2 ^ (30 * V) := Nat.pow_le_pow_right (by omega) (by omega)
    omega
theorem m80 (r : Nat) : (80 : Int32) * nI r = nI (80 * r) := pk_mul 80 r
theorem p_X11_sets {h : HI} {g : HL} {r v : Nat} (hr : r < 5) (hv : v = 1 ∨ v = 2) : w_X11_sets (nI r) (nI v) h g (fun h' g' => g = g' ∧ BF r h h' ∧ BG h' r 1 v) := by
  unfold w_X11_sets
  rw [m80]
  refine and_have (vp_in_nI (by omega) (by omega)) (fun _ => ?_)
  intro h1 e1
  rw [nI_clamp (by omega)] at e1
  refine ⟨fun _ => ?_, fun c => absurd c (nI_ne0 (by omega) (by omega))⟩
  unfold j_X11_sets_24
  refine and_have (vp_in_nI (by omega) (by omega)) (fun _ => ?_)
  intro h2 e2
  rw [nI_clamp (by omega)] at e2
  have e146 : h2 146 (80 * r) = nI v := by rw [e2, hu_ne (by decide), e1, hu_eq, pk_us]
  refine ⟨rfl, ⟨fun o n m => by rw [e2, hu_ne m, e1, hu_ne n], fun q n => by rw [e2, hu_eq, pk_un n, e1, hu_ne (by decide)], fun k n => by rw [e2, hu_ne (by decide), e1, hu_eq, pk_un (by omega)]⟩, by rw [e2, hu_eq, pk_us]; rfl, ?_, ?_, ?_⟩
  · intro k hk
    have : k = 0 := by omega
    subst this
    exact ⟨v, by omega, e146⟩
  · unfold vl vl
    rw [Nat.add_zero, e146, nI_clamp (by omega)]
    simp
  · intro V hV
    have : V = 0 := by omega
    subst this
    rw [Nat.add_zero, e146]
    exact nI_ne0 (by omega) (by omega)
theorem p_times_102 {h h1 : HI} {g : HL} {r W W0 v : Nat} (hr : r < 5) (hW : W ≤ 80) (hW0 : W ≤ W0) (hF : BF r h h1) (h7 : h1 147 r = nI W) (hd : dgs (h1 146) (80 * r) W) (hv : vl (h1 146) (80 * r) W = v) : lpE (F_X11_times_102 (fun h' _ => BF r h h' ∧ ∃ V, V ≤ W0 ∧ BG h' r V v)) (nI r, h1, g) := by
  refine lpE_intro (fun q => nI r = q.1 ∧ BF r h q.2.1 ∧ ∃ V, V ≤ W ∧ q.2.1 147 r = nI V ∧ dgs (q.2.1 146) (80 * r) V ∧ vl (q.2.1 146) (80 * r) V = v) (fun q => (q.2.1 147 r).toNatClampNeg) ?_ _ ⟨rfl, hF, W, Nat.le_refl _, h7, hd, hv⟩
  clear hF h7 hd hv
  rintro ⟨y1, h2, g2⟩ K ⟨rfl, hF, V, hV, h7, hd, hv⟩ hK
  dsimp only at hF h7 hd hv
  unfold F_X11_times_102; dsimp only; unfold b_X11_times_102
  have v5 : vp_in (nI r) 5 := vp_in_nI (by omega) (by omega)
  rw [nI_clamp (n := r) (by omega), h7]
  refine and_have v5 (fun _ => ⟨fun c => ?_, fun c => ?_⟩)
  · have : V = 0 := by
      rw [show (0 : Int32) = nI 0 from rfl, nI_leI (by omega) (by omega)] at c; omega
    subst this
    exact ⟨hF, 0, by omega, h7, hd, hv, fun U hU => by omega⟩
  · obtain ⟨U, rfl⟩ : ∃ U, V = U + 1 := ⟨V - 1, by
      have : V ≠ 0 := fun e => c (by rw [e]; decide)
      omega⟩
    have ei : (80 : Int32) * nI r + nI (U + 1) - 1 = nI (80 * r + U) := by
      rw [m80, nI_add, ← Nat.add_assoc, nI_pred]
    rw [ei, nI_clamp (by omega)]
    refine and_have v5 (fun _ => and_have (vp_in_nI (by omega) (by omega)) (fun _ => ⟨fun cz => ?_, fun cz => ?_⟩))
    · exact ⟨hF, U + 1, Nat.le_trans hV hW0, h7, hd, hv, fun U' hU' => by
        have : U' = U := by omega
        subst this; exact cz⟩
    · refine and_have v5 (fun _ => and_have v5 (fun _ => ?_))
      intro h3 e3
      rw [nI_pred] at e3
      have e146 : h3 146 = h2 146 := by rw [e3, hu_ne (by decide)]
      refine hK _ ⟨rfl, hF.tr ⟨fun o n m => by dsimp only; rw [e3, hu_ne m], fun q n => by dsimp only; rw [e3, hu_eq, pk_un n], fun k n => by dsimp only; rw [e146]⟩, U, by omega, by dsimp only; rw [e3, hu_eq, pk_us], ?_, ?_⟩ ?_
      · dsimp only; rw [e146]; exact fun k hk => hd k (by omega)
      · dsimp only
        rw [e146]
        unfold vl at hv
        rw [cz, cl0, Nat.zero_mul, Nat.add_zero] at hv
        exact hv
      · dsimp only
        rw [h7, e3, hu_eq, pk_us, nI_clamp (by omega), nI_clamp (by omega)]
        omega
theorem p_X11_times {h : HI} {g : HL} {r B W v : Nat} (hr : r < 5) (hB : B ≤ 1000) (hg : BG h r W v) (hW : W ≤ 79) : w_X11_times (nI r) (nI B) h g (fun h' _ => BF r h h' ∧ ∃ W', W' ≤ W + 1 ∧ BG h' r W' (v * B)) := by
  obtain ⟨h7, hd, hv, hn⟩ := hg
  have v5 : vp_in (nI r) 5 := vp_in_nI (by omega) (by omega)
  unfold w_X11_times
  refine lpE_intro (fun q => ∃ k c : Nat, k ≤ W ∧ c ≤ B ∧ nI r = q.1 ∧ nI B = q.2.1 ∧ lN c = q.2.2.1 ∧ nI k = q.2.2.2.1 ∧ BF r h q.2.2.2.2.1 ∧ q.2.2.2.2.1 147 = h 147 ∧ dgs (q.2.2.2.2.1 146) (80 * r) k ∧ (∀ j, k ≤ j → q.2.2.2.2.1 146 (80 * r + j) = h 146 (80 * r + j)) ∧ vl (q.2.2.2.2.1 146) (80 * r) k + c * 2 ^ (30 * k) = vl (h 146) (80 * r) k * B) (fun q => dif (nI W) q.2.2.2.1) ?_ _ ⟨0, 0, by omega, by omega, rfl, rfl, rfl, nI_0, BF.rf, rfl, fun k hk => absurd hk (Nat.not_lt_zero k), fun _ _ => rfl, by unfold vl; omega⟩
  rintro ⟨y1, y2, y3, y5, h2, g2⟩ K ⟨k, c, hk, hc, rfl, rfl, rfl, rfl, hF, e147, hd2, hsame, hval⟩ hK
  dsimp only at hF e147 hd2 hsame hval
  unfold F_X11_times_5; dsimp only; unfold b_X11_times_5
  rw [nI_clamp (n := r) (by omega), e147, h7, m80]
  refine and_have v5 (fun _ => ⟨fun cw => ?_, fun cw => ?_⟩)
  · have ek : k = W := by
      rw [nI_leI (by omega) (by omega)] at cw; omega
    subst ek
    refine ⟨fun cc => ?_, fun cc => ?_⟩
    · rw [lg_cmp_le, show (0 : Int64) = lN 0 from rfl, pk_lLE (by omega) (by omega)] at cc
      have c0 : c = 0 := by omega
      subst c0
      exact p_times_102 (g := g2) hr (by omega) (by omega) hF (by rw [e147]; exact h7) hd2 (v := v * B) (by rw [hv] at hval; omega)
    · rw [lg_cmp_le, show (0 : Int64) = lN 0 from rfl, pk_lLE (by omega) (by omega)] at cc
      rw [nI_add, lN_i, nI_clamp (by omega)]
      refine and_have v5 (fun _ => and_have (vp_in_nI (by omega) (by omega)) (fun _ => ?_))
      intro h3 e3
      have e3w : h3 147 r = nI k := by rw [e3, hu_ne (by decide), e147]; exact h7
      rw [e3w, nI_1]
      refine and_have v5 (fun _ => and_have v5 (fun _ => ?_))
      intro h4 e4
      have e146 : h4 146 = upd (h2 146) (80 * r + k) (nI c) := by rw [e4, hu_ne (by decide), e3, hu_eq]
      have hF4 : BF r h h4 := hF.tr ⟨fun o n m => by rw [e4, hu_ne m, e3, hu_ne n], fun q n => by rw [e4, hu_eq, pk_un n, e3, hu_ne (by decide)], fun j n => by rw [e146, pk_un (by omega)]⟩
      exact p_times_102 (g := g2) (W := k + 1) (v := v * B) hr (by omega) (by omega) hF4 (by rw [e4, hu_eq, pk_us]) (by
        intro j hj
        rw [e146]
        by_cases ej : j = k
        · subst ej; rw [pk_us]; exact ⟨c, by omega, rfl⟩
        · rw [pk_un (by omega)]; exact hd2 j (by omega)) (by
        unfold vl
        rw [e146, pk_us, nI_clamp (by omega), vl_cg (f := h2 146) (fun j hj => pk_un (by omega)), hval, hv])
  · have hkW : k < W := by
      rw [nI_leI (by omega) (by omega)] at cw; omega
    obtain ⟨j, hj, ej⟩ := hd k hkW
    have hjB : j * B ≤ 1073741823 * 1000 := Nat.mul_le_mul (by omega) hB
    rw [nI_add, nI_clamp (by omega)]
    refine and_have (vp_in_nI (by omega) (by omega)) (fun _ => ?_)
    rw [hsame k (Nat.le_refl _), ej, nI_l (by omega), nI_l (by omega), lN_mul, lN_add]
    rintro _ rfl
    rw [show (1073741824 : Int64) = lN 1073741824 from rfl, pk_lRem (by omega) (by omega) (by omega), pk_lDiv (by omega) (by omega) (by omega), lN_i]
    refine and_have (vp_in_nI (by omega) (by omega)) (fun _ => ?_)
    intro h3 e3
    rintro _ rfl
    rintro _ rfl
    have hm := Nat.mod_lt (j * B + c) (y := 1073741824) (by omega)
    have hdm := Nat.div_add_mod (j * B + c) 1073741824
    have e146 : h3 146 = upd (h2 146) (80 * r + k) (nI ((j * B + c) % 1073741824)) := by rw [e3, hu_eq]
    have hjc : j * B + c ≤ 1073741823 * B + B := by
      have : j * B ≤ 1073741823 * B := Nat.mul_le_mul_right _ (by omega)
      omega
    have hcB : (j * B + c) / 1073741824 ≤ B := Nat.div_le_of_le_mul (by omega)
    refine hK _ ⟨k + 1, (j * B + c) / 1073741824, by omega, hcB, rfl, rfl, rfl, (nI_1 k).symm, hF.tr ⟨fun o n m => by dsimp only; rw [e3, hu_ne n], fun q n => by dsimp only; rw [e3, hu_ne (by decide)], fun i n => by dsimp only; rw [e146, pk_un (by omega)]⟩, by dsimp only; rw [e3, hu_ne (by decide)]; exact e147, ?_, ?_, ?_⟩ (dif_lt cw)
    · intro i hi
      dsimp only
      rw [e146]
      by_cases ei : i = k
      · subst ei; rw [pk_us]; exact ⟨_, hm, rfl⟩
      · rw [pk_un (by omega)]; exact hd2 i (by omega)
    · intro i hi
      dsimp only
      rw [e146, pk_un (by omega)]; exact hsame i (by omega)
    · dsimp only
      unfold vl
      rw [e146, pk_us, nI_clamp (by omega), vl_cg (f := h2 146) (fun i hi => pk_un (by omega)), ej, nI_clamp (by omega), p30, Nat.add_mul, ← hval]
      have e5 : (j * B + c) / 1073741824 * (1073741824 * 2 ^ (30 * k)) = (1073741824 * ((j * B + c) / 1073741824)) * 2 ^ (30 * k) := by
        rw [← Nat.mul_assoc, Nat.mul_comm ((j * B + c) / 1073741824) 1073741824]
      have e6 : j * 2 ^ (30 * k) * B = j * B * 2 ^ (30 * k) := by
        rw [Nat.mul_assoc, Nat.mul_comm (2 ^ (30 * k)) B, ← Nat.mul_assoc]
      have e7 : (j * B + c) * 2 ^ (30 * k) = (1073741824 * ((j * B + c) / 1073741824)) * 2 ^ (30 * k) + (j * B + c) % 1073741824 * 2 ^ (30 * k) := by
        rw [← Nat.add_mul, hdm]
      rw [Nat.add_mul] at e7
      rw [e5, e6]
      omega
theorem vl_le {f : Nat → Int32} {b n : Nat} (d : dgs f b (n + 1)) (hz : ¬ f (b + n) = 0) : 2 ^ (30 * n) ≤ vl f b (n + 1) := by
  obtain ⟨j, hj, ej⟩ := d n (by omega)
  unfold vl
  rw [ej, nI_clamp (by omega)]
  rw [ej] at hz
  have j1 : 1 ≤ j := by
    have : j ≠ 0 := fun q => hz (by rw [q]; exact nI_0)
    omega
  have h2 : 1 * 2 ^ (30 * n) ≤ j * 2 ^ (30 * n) := Nat.mul_le_mul_right _ j1
  omega
theorem BG.lt {a : HI} {r W v s U u : Nat} (x : BG a r W v) (y : BG a s U u) (h : W < U) : v < u := by
  obtain ⟨V, rfl⟩ : ∃ V, U = V + 1 := ⟨U - 1, by omega⟩
  have h1 := vl_lt x.2.1
  have h2 := vl_le y.2.1 (y.2.2.2 V rfl)
  rw [x.2.2.1] at h1
  rw [y.2.2.1] at h2
  have h3 : 2 ^ (30 * W) ≤ 2 ^ (30 * V) := Nat.pow_le_pow_right (by omega) (by omega)
  omega
/-- which is the greater -/
def cmpN (v u : Nat) : Int32 := if v < u then -1 else if v = u then 0 else 1
theorem cmpN_lt {v u : Nat} (h : v < u) : cmpN v u = -1 := if_pos h
theorem cmpN_gt {v u : Nat} (h : u < v) : cmpN v u = 1 := by unfold cmpN; rw [if_neg (by omega), if_neg (by omega)]
theorem cmpN_eq {v u : Nat} (h : v = u) : cmpN v u = 0 := by unfold cmpN; rw [if_neg (by omega), if_pos h]
theorem p_X11_against {h : HI} {g : HL} {r s W U v u : Nat} (hr : r < 5) (hs : s < 5) (x : BG h r W v) (y : BG h s U u) (hW : W ≤ 80) (hU : U ≤ 80) : w_X11_against (nI r) (nI s) h g (fun a h' g' => h = h' ∧ g = g' ∧ cmpN v u = a) := by
  have v5 : vp_in (nI r) 5 := vp_in_nI (by omega) (by omega)
  have v6 : vp_in (nI s) 5 := vp_in_nI (by omega) (by omega)
  unfold w_X11_against
  rw [nI_clamp (n := r) (by omega), nI_clamp (n := s) (by omega), x.1, y.1]
  refine ⟨v5, v6, fun c => ?_, fun c => ?_⟩
  · have e : W = U := (nI_eq (by omega) (by omega)).mp c
    subst e
    refine and_have v5 (fun _ => ?_)
    rintro _ rfl
    have fin : ∀ k : Nat, k < W → vl (h 146) (80 * r) (k + 1) + u = vl (h 146) (80 * s) (k + 1) + v → ∀ i j : Nat, h 146 (80 * r + k) = nI i → h 146 (80 * s + k) = nI j → i < 1073741824 → j < 1073741824 → i < j → v < u := by
      intro k hk hv i j ei ej hi hj hij
      have l1 := vl_lt (n := k) (f := h 146) (b := 80 * r) (fun q hq => x.2.1 q (by omega))
      unfold vl at hv
      rw [ei, ej, nI_clamp (by omega), nI_clamp (by omega)] at hv
      have h2 : (i + 1) * 2 ^ (30 * k) ≤ j * 2 ^ (30 * k) := Nat.mul_le_mul_right _ (by omega)
      rw [Nat.add_mul, Nat.one_mul] at h2
      omega
    have fin2 : ∀ k : Nat, k < W → vl (h 146) (80 * r) (k + 1) + u = vl (h 146) (80 * s) (k + 1) + v → ∀ i j : Nat, h 146 (80 * r + k) = nI i → h 146 (80 * s + k) = nI j → i < 1073741824 → j < 1073741824 → j < i → u < v := by
      intro k hk hv i j ei ej hi hj hij
      have l1 := vl_lt (n := k) (f := h 146) (b := 80 * s) (fun q hq => y.2.1 q (by omega))
      unfold vl at hv
      rw [ei, ej, nI_clamp (by omega), nI_clamp (by omega)] at hv
      have h2 : (j + 1) * 2 ^ (30 * k) ≤ i * 2 ^ (30 * k) := Nat.mul_le_mul_right _ (by omega)
      rw [Nat.add_mul, Nat.one_mul] at h2
      omega
    refine lpE_intro (fun q => ∃ k : Nat, k ≤ W ∧ nI r = q.1 ∧ nI s = q.2.1 ∧ nI k - 1 = q.2.2.1 ∧ h = q.2.2.2.1 ∧ g = q.2.2.2.2 ∧ vl (h 146) (80 * r) k + u = vl (h 146) (80 * s) k + v) (fun q => prd q.2.2.1) ?_ _ ⟨W, Nat.le_refl _, rfl, rfl, rfl, rfl, rfl, by rw [x.2.2.1, y.2.2.1]; omega⟩
    rintro ⟨y1, y2, y3, h1, g1⟩ K ⟨k, hk, rfl, rfl, rfl, rfl, rfl, hv⟩ hK
    unfold F_X11_against_45; dsimp only; unfold b_X11_against_45
    refine ⟨fun c0 => ?_, fun c0 => ?_⟩
    · have k0 : k = 0 := by
        by_cases q : k = 0
        · exact q
        · exfalso
          obtain ⟨j, rfl⟩ : ∃ j, k = j + 1 := ⟨k - 1, by omega⟩
          rw [nI_pred] at c0
          exact nI_pos (by omega) c0
      subst k0
      unfold vl at hv
      exact ⟨rfl, rfl, cmpN_eq (by omega)⟩
    · obtain ⟨j, rfl⟩ : ∃ j, k = j + 1 := ⟨k - 1, by
        have : k ≠ 0 := fun q => c0 (by rw [q]; decide)
        omega⟩
      have hd := prd_lt c0
      rw [nI_pred] at hd
      rw [nI_pred, m80, m80, nI_add, nI_add, nI_clamp (by omega), nI_clamp (by omega)]
      have i1 : vp_in (nI (80 * r + j)) 400 := vp_in_nI (by omega) (by omega)
      have i2 : vp_in (nI (80 * s + j)) 400 := vp_in_nI (by omega) (by omega)
      obtain ⟨a, ha, ea⟩ := x.2.1 j (by omega)
      obtain ⟨b, hb, eb⟩ := y.2.1 j (by omega)
      refine ⟨i1, i2, fun ce => ?_, fun ce => ⟨i1, i2, fun cl => ?_, fun cl => ?_⟩⟩
      · rintro _ rfl
        refine hK _ ⟨j, by omega, rfl, rfl, by dsimp only; cases j with
          | zero => decide
          | succ i => rw [nI_pred, pk_m1], rfl, rfl, ?_⟩ (by dsimp only; rw [nI_pred]; exact hd)
        unfold vl at hv
        rw [ce] at hv
        omega
      · rw [ea, eb] at ce cl
        rw [nI_leI (by omega) (by omega)] at cl
        exact ⟨rfl, rfl, cmpN_gt (fin2 j (by omega) hv a b ea eb ha hb (by
          have : a ≠ b := fun q => ce (by rw [q])
          omega))⟩
      · rw [ea, eb, nI_leI (by omega) (by omega)] at cl
        exact ⟨rfl, rfl, cmpN_lt (fin j (by omega) hv a b ea eb ha hb (by omega))⟩
  · refine ⟨v5, v6, fun cl => ?_, fun cl => ?_⟩
    · rw [nI_leI (by omega) (by omega)] at cl
      exact ⟨rfl, rfl, cmpN_gt (y.lt x (by
        have : W ≠ U := fun q => c (by rw [q])
        omega))⟩
    · rw [nI_leI (by omega) (by omega)] at cl
      exact ⟨rfl, rfl, cmpN_lt (x.lt y (by omega))⟩
theorem p_X11_divisor {h : HI} {g : HL} {a b : Nat} (ha : a < 2 ^ 31) (hb : b < 2 ^ 31) : w_X11_divisor (nI a) (nI b) h g (fun r h' g' => h = h' ∧ g = g' ∧ nI (Nat.gcd a b) = r) := by
  unfold w_X11_divisor
  refine lpE_intro (fun q => ∃ x y : Nat, x < 2 ^ 31 ∧ y < 2 ^ 31 ∧ nI x = q.1 ∧ nI y = q.2.1 ∧ h = q.2.2.1 ∧ g = q.2.2.2 ∧ Nat.gcd x y = Nat.gcd a b) (fun q => q.2.1.toNatClampNeg) ?_ _ ⟨a, b, ha, hb, rfl, rfl, rfl, rfl, rfl⟩
  rintro ⟨y1, y2, h1, g1⟩ K ⟨x, y, hx, hy, rfl, rfl, rfl, rfl, e⟩ hK
  unfold F_X11_divisor_4; dsimp only; unfold b_X11_divisor_4
  refine ⟨fun c => ?_, fun c => ?_⟩
  · have y0 : y = 0 := (nI_eq (by omega) (by omega)).mp (c.trans nI_0.symm)
    subst y0
    rw [Nat.gcd_zero_right] at e
    exact ⟨rfl, rfl, by rw [e]⟩
  · have y1 : 0 < y := by
      have : y ≠ 0 := fun q => c (by rw [q]; exact nI_0)
      omega
    refine and_have c (fun _ => ?_)
    rintro _ rfl
    rw [pk_rem hx y1 hy]
    have hm := Nat.mod_lt x y1
    refine hK _ ⟨y, x % y, hy, by omega, rfl, rfl, rfl, rfl, ?_⟩ ?_
    · rw [← e, Nat.gcd_comm x y, Nat.gcd_rec y x, Nat.gcd_comm]
    · dsimp only
      rw [nI_clamp (by omega), nI_clamp (by omega)]
      exact hm
end
