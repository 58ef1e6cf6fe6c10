theorem clamp8 (x : Int32) : ∃ y : Nat, y ≤ 8 ∧ (if (0 : Int32) < (if (8 : Int32) < x then (8 : Int32) else x) then (if (8 : Int32) < x then (8 : Int32) else x) else (0 : Int32)) = nI y := by
  by_cases c : (8 : Int32) < x
  · rw [if_pos c, if_pos (by decide)]; exact ⟨8, by omega, rfl⟩
  · rw [if_neg c]
    by_cases d : (0 : Int32) < x
    · rw [if_pos d]
      obtain ⟨j, hj, rfl⟩ := nI_of (x := x) (fun q => by
        rw [Int32.lt_iff_toInt_lt] at q d; omega)
      rw [show (8 : Int32) = nI 8 from rfl, nI_ltI (by omega) (by omega)] at c
      exact ⟨j, by omega, rfl⟩
    · rw [if_neg d]; exact ⟨0, by omega, nI_0.symm⟩
theorem clamp8' (x : Int32) : ∃ y : Nat, y ≤ 8 ∧ (if (0 : Int32) < (if x < (8 : Int32) then x else (8 : Int32)) then (if x < (8 : Int32) then x else (8 : Int32)) else (0 : Int32)) = nI y := by
  by_cases c : x < (8 : Int32)
  · rw [if_pos c]
    by_cases d : (0 : Int32) < x
    · rw [if_pos d]
      obtain ⟨j, hj, rfl⟩ := nI_of (x := x) (fun q => by
        rw [Int32.lt_iff_toInt_lt] at q d; omega)
      rw [show (8 : Int32) = nI 8 from rfl, nI_ltI (by omega) (by omega)] at c
      exact ⟨j, by omega, rfl⟩
    · rw [if_neg d]; exact ⟨0, by omega, nI_0.symm⟩
  · rw [if_neg c, if_pos (by decide)]; exact ⟨8, by omega, rfl⟩
theorem pf_0 {m : Nat} (hm : m ≤ 8) : ¬ (8 : Int32) ≤ nI m - 1 := by
  rw [Int32.le_iff_toInt_le]
  have e1 : (1 : Int32).toInt = 1 := by decide
  have e6 : (8 : Int32).toInt = 8 := by decide
  have e2 := nI_toInt (n := m) (by omega)
  have := sub_i (x := nI m) e1 (by omega) (by omega) (by omega)
  omega
theorem p_X5_find {h : HI} {g : HL} {x1 : Int32} (hC : CI h) : w_X5_find x1 h g (fun h' _ => JJ SPln h h' ∧ PL h') := by
  unfold w_X5_find
  intro h1 e1
  have hJ : JJ SPln h h1 := JJ.rf.hu e1 (by unfold SPln; omega)
  obtain ⟨y, hy, ey⟩ := clamp8 x1
  have hT : h1 118 10 = nI y := by rw [e1, hu_eq, pk_us]; exact ey
  refine c_v (p_X5_chooseBits (hC.jj hJ nSPln)) ?_
  rintro h2 g2 ⟨hJ2, hp, hb⟩
  have hJ := hJ.tr hJ2
  have hT := hp.trans hT
  refine c_v (p_X5_chooseLessons (hC.jj hJ nSPln) hb) ?_
  rintro h3 g3 ⟨hJ2, hp, hP⟩
  have hJ := hJ.tr hJ2
  have hT := hp.trans hT
  refine c_v (p_X5_chooseRuns (hC.jj hJ nSPln)) ?_
  rintro h4 g4 hJ2
  have hJ := hJ.tr (hJ2.mo (fun q hq => by unfold SO at hq; unfold SPln; omega))
  have hT := (hJ2.at 10 (by unfold SO; omega)).trans hT
  have hP := hP.cg (hJ2 118 (by unfold SO; omega)) (hJ2 120 (by unfold SO; omega))
  refine c_v (p_X5_chooseYears (hC.jj hJ nSPln)) ?_
  rintro h5 g5 hJ2
  have hJ := hJ.tr (hJ2.mo (fun q hq => by unfold SO at hq; unfold SPln; omega))
  have hT := (hJ2.at 10 (by unfold SO; omega)).trans hT
  have hP := hP.cg (hJ2 118 (by unfold SO; omega)) (hJ2 120 (by unfold SO; omega))
  obtain ⟨l, hl, el⟩ := clamp8' (h5 118 9)
  rw [el]
  rintro x2 e2
  have hx2 : x2 = nI (2 ^ l) := by rw [e2]; exact shl_t l (by omega)
  have p2 : 2 ^ l ≤ 256 := by
    have : 2 ^ l ≤ 2 ^ 8 := Nat.pow_le_pow_right (by omega) (by omega)
    omega
  have ix : ∀ x : Int32, ¬ x < 0 → ¬ x2 ≤ x → vp_in x 256 := by
    intro x a b
    obtain ⟨i, hi, rfl⟩ := nI_of a
    rw [hx2, nI_leI (by omega) (by omega)] at b
    exact vp_in_nI (by omega) (by omega)
  clear e2 el
  refine lpE_intro (fun ⟨a_q, b_q, h_q, _⟩ => x2 = a_q ∧ ¬ b_q < 0 ∧ JJ SPln h h_q ∧ h_q 118 10 = nI y ∧ PL h_q) (fun ⟨_, b_q, _, _⟩ => dif x2 b_q) ?_ _ ⟨rfl, nn0, hJ, hT, hP⟩
  clear hJ hT hP
  rintro ⟨a1, a2, h6, g6⟩ K ⟨rfl, n0, hJ, hT, hP⟩ hK
  unfold F_X5_find_48; dsimp only; unfold b_X5_find_48
  refine ⟨fun c => ?_, fun c => ?_⟩
  · rintro x3 e3
    have h8 : ¬ (8 : Int32) ≤ x3 := by rw [e3, hT]; exact pf_0 hy
    clear e3
    refine lpE_intro (fun ⟨a_q, b_q, h_q, _⟩ => x2 = a_q ∧ ¬ (8 : Int32) ≤ b_q ∧ JJ SPln h h_q ∧ PL h_q) (fun ⟨_, b_q, _, _⟩ => prd b_q) ?_ _ ⟨rfl, h8, hJ, hP⟩
    clear hJ hT hP
    rintro ⟨a1, a2, h6, g6⟩ K2 ⟨rfl, n8, hJ, hP⟩ hK2
    unfold F_X5_find_78; dsimp only; unfold b_X5_find_78
    refine ⟨fun c => ⟨hJ, hP⟩, fun c8 => ?_⟩
    have h9 : vp_in a2 9 := vinm c8 n8 (by decide)
    refine lpE_intro (fun ⟨a_q, b_q, c_q, h_q, _⟩ => x2 = a_q ∧ a2 = b_q ∧ ¬ c_q < 0 ∧ JJ SPln h h_q ∧ PL h_q) (fun ⟨_, _, c_q, _, _⟩ => dif x2 c_q) ?_ _ ⟨rfl, rfl, nn0, hJ, hP⟩
    clear hJ hP
    rintro ⟨a1, a3, a4, h7, g7⟩ K3 ⟨rfl, rfl, n0, hJ, hP⟩ hK3
    unfold F_X5_find_85; dsimp only; unfold b_X5_find_85
    refine ⟨fun c => ?_, fun c => ?_⟩
    · rintro _ rfl
      exact hK2 _ ⟨rfl, dec_nle c8 n8, hJ, hP⟩ (prd_lt c8)
    · refine c_i (p_J6_bitCount_0f7a4 (hC.jj hJ nSPln)) ?_
      rintro r _ _ ⟨rfl, rfl⟩
      refine ⟨fun _ => ?_, fun _ => ?_⟩
      · unfold j_X5_find_116
        rintro _ rfl
        exact hK3 _ ⟨rfl, rfl, inc_nn n0 c, hJ, hP⟩ (dif_lt c)
      · refine and_have h9 (fun _ => ?_)
        refine c_i (p_X5_mostOf (hC.jj hJ nSPln) hP) ?_
        rintro r2 _ _ ⟨rfl, rfl⟩
        refine and_have (ix _ n0 c) (fun _ => ?_)
        intro h8 e8
        have hv := vp_lt h9
        unfold j_X5_find_116
        rintro _ rfl
        exact hK3 _ ⟨rfl, rfl, inc_nn n0 c, hJ.hu e8 (by unfold SPln; omega), hP.cg (by rw [e8, hu_ne (by omega)]) (by rw [e8, hu_ne (by omega)])⟩ (dif_lt c)
  · refine and_have (by rw [hT]; exact vp_in_nI (by omega) (by omega)) (fun hv => ?_)
    refine and_have (ix _ n0 c) (fun _ => ?_)
    intro h7 e7
    have hv := vp_lt hv
    rintro _ rfl
    exact hK _ ⟨rfl, inc_nn n0 c, hJ.hu e7 (by unfold SPln; omega), by rw [e7, hu_ne (by omega)]; exact hT, hP.cg (by rw [e7, hu_ne (by omega)]) (by rw [e7, hu_ne (by omega)])⟩ (dif_lt c)
