def w_X4_wornOf (x1 : Int32) (x2 : Int32) (h : HI) (g : HL) (Q : Int32 → HI → HL → Prop) : Prop :=
  (∃ P_11 : Int32 → HI → HL → Prop, w_X8_at 2 x1 (2 : Int32) h g P_11 ∧ ∀ (r_11 : Int32) (h_11 : HI) (g_11 : HL), P_11 r_11 h_11 g_11 → (∀ x3_18 : Int32, x3_18 = (if (0 : Int32) < (x2 - r_11) then (x2 - r_11) else (0 : Int32)) → (((h_11 77 9) = (-1 : Int32) → (∃ P_40 : Int32 → HI → HL → Prop, w_X8_at 2 x1 (0 : Int32) h_11 g_11 P_40 ∧ ∀ (r_40 : Int32) (h_40 : HI) (g_40 : HL), P_40 r_40 h_40 g_40 → (∃ P_52 : Int32 → HI → HL → Prop, w_X8_at 2 x1 (1 : Int32) h_40 g_40 P_52 ∧ ∀ (r_52 : Int32) (h_52 : HI) (g_52 : HL), P_52 r_52 h_52 g_52 → (∃ P_55 : Int64 → HI → HL → Prop, w_X4_tells x3_18 r_40 r_52 h_52 g_52 P_55 ∧ ∀ (r_55 : Int64) (h_55 : HI) (g_55 : HL), P_55 r_55 h_55 g_55 → Q (((if (if r_55 < (10000 : Int64) then r_55 else (10000 : Int64)) < (0 : Int64) then (0 : Int64) else (if r_55 < (10000 : Int64) then r_55 else (10000 : Int64)))).toInt32) h_55 g_55)))) ∧ (¬ (h_11 77 9) = (-1 : Int32) → Q x3_18 h_11 g_11))))
set_option maxHeartbeats 8000000 in
set_option maxRecDepth 100000 in
theorem m_X4_wornOf (l : Launch) (D : va_G) (cy : Nat → ClassId) (ad : Nat → Nat) (h : HI) (g : HL) (sz : Nat) (x1 : Int32) (x2 : Int32) (Q : Int32 → HI → HL → Prop) (HW : w_X4_wornOf x1 x2 h g Q) : Met l yX4_wornOf (wa yX4_wornOf cX4_wornOf 6 (some .int)) ({ frames := 2, cells := 0, slots := 0, locals := 50 }) (va_Pc [.ref (ad 77), .int x1, .int x2] (gI D cy ad h g sz)) (va_Qi (fun (r : Int32) (u : HI × HL) => Q r u.1 u.2) (gB D cy ad sz) (gA ad sz)) 0 0 (gA ad sz) := by
  refine Met.ofW (cc := cX4_wornOf) (maxL := 6) (ret := (some .int)) (by decide) rfl ?_
  intro p e s m args below meth c s₁ B hml hv
  obtain ⟨hav, hsz, hP, hK, hD0, hNw⟩ := hv
  have hx := B.exec
  have hb := B.bytes
  have hr := B.returns
  have hts := atoms_spec (ws := (wa yX4_wornOf cX4_wornOf 6 (some .int))) B.pre
  have hw := wa_hw hts
  have hown : s.vm.findClass RX4 = some m.cls := findClass_of_methodNamed B.named
  have hlocks := B.notSynchronized
  subst hsz
  have hG : gG D cy ad (gA ad s.heap.size) s.heap h g s.heap [] := ⟨hP, gA_self hD0, va_S.rf⟩
  clear hP hD0
  have lk22 := hw (.fieldLink RX4 22 "OldWorks$Law" "shop" "LOldWorks$Shop;") (wm1 129 rfl rfl)
  have lk93 := hw (.fieldLink RX4 93 "OldWorks$Shop" "parts" "LOldWorks$Table;") (wm1 64 rfl rfl)
  have ml96 := hw (.methodLink RX4 96 Lib.Math.max.name) (wm3 44 rfl rfl)
  have ms96 := hw (.static Lib.Math.max.name) (wm3 45 rfl rfl)
  have mi96 := hw (.initialized "java/lang/Math") (wm1 14 rfl rfl)
  have mc96 := hw (.code Lib.Math.max.name Lib.Math.max.code 2 (some .int)) (wm3 46 rfl rfl)
  have lk26 := hw (.fieldLink RX4 26 "OldWorks$Law" "flaw" "I") (wm1 138 rfl rfl)
  have cn105 := hw (.constantLong RX4 105 (10000)) (wm3 54 rfl rfl)
  have ml107 := hw (.methodLink RX4 107 Lib.MathLoose.min_long.x) (wm3 55 rfl rfl)
  have ms107 := hw (.static Lib.MathLoose.min_long.x) (wm3 56 rfl rfl)
  have mi107 := hw (.initialized "java/lang/Math") (wm1 14 rfl rfl)
  have mc107 := hw (.code Lib.MathLoose.min_long.x Lib.MathLoose.min_long.code 4 (some .long)) (wm3 57 rfl rfl)
  have ml111 := hw (.methodLink RX4 111 Lib.MathLoose.max_long.x) (wm3 58 rfl rfl)
  have ms111 := hw (.static Lib.MathLoose.max_long.x) (wm3 59 rfl rfl)
  have mi111 := hw (.initialized "java/lang/Math") (wm1 14 rfl rfl)
  have mc111 := hw (.code Lib.MathLoose.max_long.x Lib.MathLoose.max_long.code 4 (some .long)) (wm3 60 rfl rfl)
  rw [show (headSpec (wa yX4_wornOf cX4_wornOf 6 (some .int)) ({ frames := 2, cells := 0, slots := 0, locals := 50 } : Room)).room = ({ frames := 2, cells := 0, slots := 0, locals := 50 } : Room) from rfl]
  have hl := lv_entry ([.ref (ad 77), .int x1, .int x2]) (n := 6) (Nat.le_of_ble_eq_true rfl)
  rw [show entryFrame m args 6 = entryFrame m ([.ref (ad 77), .int x1, .int x2] : List Value).toArray 6 from by rw [hav], lg_entry_eq]
  generalize (lg_sl ([.ref (ad 77), .int x1, .int x2]) ++ List.replicate (6 - (lg_sl ([.ref (ad 77), .int x1, .int x2])).length) Slot.unset).toArray = ls at hl ⊢
  have hl : lv_has ls 6 [(0, .ref (ad 77)), (1, .int x1), (2, .int x2)] := hl
  have E0 : ∀ (H : Heap) (locs : List Loc) (ls : Array Slot), gG D cy ad (gA ad s.heap.size) s.heap h g H locs → lv_has ls 6 [(0, .ref (ad 77)), (1, .int x1), (2, .int x2)] → W p l e ({ frames := 2, cells := 0, slots := 0, locals := 50 } : Room) s m args below meth c H locs 0 0 (MQ below (va_Qi (fun (r : Int32) (u : HI × HL) => Q r u.1 u.2) (gB D cy ad s.heap.size) (gA ad s.heap.size)) args s 0 0 (gA ad s.heap.size)) (F0 m 0 ls []) := by
    intro H locs ls hG hl
    unfold w_X4_wornOf at HW
    refine lv_iconst (v := 0) hx hb dX4_wornOf_0 (by decide) ?_
    refine lv_iload_n hx hb dX4_wornOf_1 rfl (lv_at hl 2 rfl) ?_
    refine lv_aload_n hx hb dX4_wornOf_2 rfl (lv_at hl 0 rfl) ?_
    refine g_getr hx hb hw inG4 hown hK hG gl_77 rfl gk_77 (by decide) 0 (by decide) (by rw [gm_77]; decide) (r := 1) gr_77_0 lk22 dX4_wornOf_3 ?_
    refine g_getr hx hb hw inG6 hown hK hG gl_1 rfl gk_1 (by decide) 0 (by decide) (by rw [gm_1]; decide) (r := 2) gr_1_0 lk93 dX4_wornOf_6 ?_
    refine lv_iload_n hx hb dX4_wornOf_9 rfl (lv_at hl 1 rfl) ?_
    refine lv_iconst (v := 2) hx hb dX4_wornOf_10 (by decide) ?_
    obtain ⟨P_11, HC_11, HW⟩ := HW
    refine g_calli (g_runV (As := [.int x1, .int (2 : Int32)]) (rest := [.int x2, .int (0 : Int32)]) ⟨hx, hb, hml, hown, hts⟩ (m_X8_at l D cy ad h g H.size 2 (gs_2) x1 (2 : Int32) P_11 HC_11) (cwV 2 hts (gd_V (wm2 220 rfl rfl) (wm2 221 rfl rfl) (wm2 222 rfl rfl) (wm1 3 rfl rfl) (wm2 223 rfl rfl)) rfl rfl rfl (by decide +kernel) ⟨Nat.le_of_ble_eq_true rfl, Nat.le_of_ble_eq_true rfl⟩) hK hNw hG gl_2 rfl gk_2 (by decide) rfl rfl hl.1 rfl (lv_room (Nat.le_of_ble_eq_true rfl)) dX4_wornOf_11 ⟨Nat.zero_le _, Nat.zero_le _⟩) hG (fun r_11 h_11 g_11 H locs hq hG => ?_)
    replace HW := HW r_11 h_11 g_11 hq
    refine lv_isub hx hb dX4_wornOf_14 ?_
    refine va_mmax hx hb (hml.trans hl.1.symm) hown ml96 ms96 mi96 mc96 (by decide) (Nat.le_of_ble_eq_true rfl) (Nat.zero_le _) (Nat.zero_le _) dX4_wornOf_15 ?_
    refine lv_topi (fun x3_18 ex3_18 => ?_)
    replace HW := HW x3_18 ex3_18
    refine lv_istore_n (lv' := [(3, .int x3_18), (0, .ref (ad 77)), (1, .int x1), (2, .int x2)]) hx hb dX4_wornOf_18 rfl hl (by decide) rfl (fun ls hl => ?_)
    refine lv_aload_n hx hb dX4_wornOf_19 rfl (lv_at hl 1 rfl) ?_
    refine g_geti hx hb hw inG4 hown hK hG gl_77 rfl gk_77 (by decide) 9 (by decide) (by rw [gm_77]; decide) gr_77_9 lk26 dX4_wornOf_20 ?_
    refine lv_iconst (v := (-1)) hx hb dX4_wornOf_23 (by decide) ?_
    refine lv_icmp_eq (tgt := 29) hx hb dX4_wornOf_24 (by decide) (fun c_24 => ?_) (fun c_24 => ?_)
    · replace HW := HW.1 c_24
      refine lv_aload_n hx hb dX4_wornOf_29 rfl (lv_at hl 1 rfl) ?_
      refine lv_iload_n hx hb dX4_wornOf_30 rfl (lv_at hl 0 rfl) ?_
      refine lv_aload_n hx hb dX4_wornOf_31 rfl (lv_at hl 1 rfl) ?_
      refine g_getr hx hb hw inG4 hown hK hG gl_77 rfl gk_77 (by decide) 0 (by decide) (by rw [gm_77]; decide) (r := 1) gr_77_0 lk22 dX4_wornOf_32 ?_
      refine g_getr hx hb hw inG6 hown hK hG gl_1 rfl gk_1 (by decide) 0 (by decide) (by rw [gm_1]; decide) (r := 2) gr_1_0 lk93 dX4_wornOf_35 ?_
      refine lv_iload_n hx hb dX4_wornOf_38 rfl (lv_at hl 2 rfl) ?_
      refine lv_iconst (v := 0) hx hb dX4_wornOf_39 (by decide) ?_
      obtain ⟨P_40, HC_40, HW⟩ := HW
      refine g_calli (g_runV (As := [.int x1, .int (0 : Int32)]) (rest := [.int x3_18, .ref (ad 77)]) ⟨hx, hb, hml, hown, hts⟩ (m_X8_at l D cy ad h_11 g_11 H.size 2 (gs_2) x1 (0 : Int32) P_40 HC_40) (cwV 2 hts (gd_V (wm2 220 rfl rfl) (wm2 221 rfl rfl) (wm2 222 rfl rfl) (wm1 3 rfl rfl) (wm2 223 rfl rfl)) rfl rfl rfl (by decide +kernel) ⟨Nat.le_of_ble_eq_true rfl, Nat.le_of_ble_eq_true rfl⟩) hK hNw hG gl_2 rfl gk_2 (by decide) rfl rfl hl.1 rfl (lv_room (Nat.le_of_ble_eq_true rfl)) dX4_wornOf_40 ⟨Nat.zero_le _, Nat.zero_le _⟩) hG (fun r_40 h_40 g_40 H locs hq hG => ?_)
      replace HW := HW r_40 h_40 g_40 hq
      refine lv_aload_n hx hb dX4_wornOf_43 rfl (lv_at hl 1 rfl) ?_
      refine g_getr hx hb hw inG4 hown hK hG gl_77 rfl gk_77 (by decide) 0 (by decide) (by rw [gm_77]; decide) (r := 1) gr_77_0 lk22 dX4_wornOf_44 ?_
      refine g_getr hx hb hw inG6 hown hK hG gl_1 rfl gk_1 (by decide) 0 (by decide) (by rw [gm_1]; decide) (r := 2) gr_1_0 lk93 dX4_wornOf_47 ?_
      refine lv_iload_n hx hb dX4_wornOf_50 rfl (lv_at hl 2 rfl) ?_
      refine lv_iconst (v := 1) hx hb dX4_wornOf_51 (by decide) ?_
      obtain ⟨P_52, HC_52, HW⟩ := HW
      refine g_calli (g_runV (As := [.int x1, .int (1 : Int32)]) (rest := [.int r_40, .int x3_18, .ref (ad 77)]) ⟨hx, hb, hml, hown, hts⟩ (m_X8_at l D cy ad h_40 g_40 H.size 2 (gs_2) x1 (1 : Int32) P_52 HC_52) (cwV 2 hts (gd_V (wm2 220 rfl rfl) (wm2 221 rfl rfl) (wm2 222 rfl rfl) (wm1 3 rfl rfl) (wm2 223 rfl rfl)) rfl rfl rfl (by decide +kernel) ⟨Nat.le_of_ble_eq_true rfl, Nat.le_of_ble_eq_true rfl⟩) hK hNw hG gl_2 rfl gk_2 (by decide) rfl rfl hl.1 rfl (lv_room (Nat.le_of_ble_eq_true rfl)) dX4_wornOf_52 ⟨Nat.zero_le _, Nat.zero_le _⟩) hG (fun r_52 h_52 g_52 H locs hq hG => ?_)
      replace HW := HW r_52 h_52 g_52 hq
      obtain ⟨P_55, HC_55, HW⟩ := HW
      refine g_calll (g_runV (As := [.int x3_18, .int r_40, .int r_52]) (rest := []) ⟨hx, hb, hml, hown, hts⟩ (m_X4_tells l D cy ad h_52 g_52 H.size x3_18 r_40 r_52 P_55 HC_55) (cwV 3 hts (gd_V (wm3 47 rfl rfl) (wm3 49 rfl rfl) (wmp1 (q := (yX4_tells, 10)) 8 rfl) (wm1 4 rfl rfl) (wm3 50 rfl rfl)) rfl rfl rfl (by decide +kernel) ⟨Nat.le_of_ble_eq_true rfl, Nat.le_of_ble_eq_true rfl⟩) hK hNw hG gl_77 rfl gk_77 (by decide) rfl rfl hl.1 rfl (lv_room (Nat.le_of_ble_eq_true rfl)) dX4_wornOf_55 ⟨Nat.zero_le _, Nat.zero_le _⟩) hG (fun r_55 h_55 g_55 H locs hq hG => ?_)
      replace HW := HW r_55 h_55 g_55 hq
      refine lv_lstore (lv' := [(4, .long r_55), (3, .int x3_18), (0, .ref (ad 77)), (1, .int x1), (2, .int x2)]) hx hb dX4_wornOf_58 hl (by decide) rfl (fun ls hl => ?_)
      refine lv_lconst (v := 0) hx hb dX4_wornOf_60 (by decide) ?_
      refine lv_ldc2 (v := 10000) hx hb hown cn105 dX4_wornOf_61 ?_
      refine lv_lload hx hb dX4_wornOf_64 (lv_at hl 0 rfl) ?_
      refine va_mmin_long hx hb (hml.trans hl.1.symm) hown ml107 ms107 mi107 mc107 (by decide) (Nat.le_of_ble_eq_true rfl) (Nat.zero_le _) (Nat.zero_le _) dX4_wornOf_66 ?_
      refine va_mmax_long hx hb (hml.trans hl.1.symm) hown ml111 ms111 mi111 mc111 (by decide) (Nat.le_of_ble_eq_true rfl) (Nat.zero_le _) (Nat.zero_le _) dX4_wornOf_69 ?_
      refine lv_l2i hx hb dX4_wornOf_72 rfl ?_
      exact W.iret (v := (((if (if r_55 < (10000 : Int64) then r_55 else (10000 : Int64)) < (0 : Int64) then (0 : Int64) else (if r_55 < (10000 : Int64) then r_55 else (10000 : Int64)))).toInt32)) hx hb hr (fun t ht hW => ⟨⟨(((if (if r_55 < (10000 : Int64) then r_55 else (10000 : Int64)) < (0 : Int64) then (0 : Int64) else (if r_55 < (10000 : Int64) then r_55 else (10000 : Int64)))).toInt32), (h_55, g_55), rfl, HW, g_B ht hG⟩, hG.2.2.F ht⟩) hG.2.2.2.2 dX4_wornOf_73
    · replace HW := HW.2 c_24
      refine lv_iload_n hx hb dX4_wornOf_27 rfl (lv_at hl 0 rfl) ?_
      exact W.iret (v := x3_18) hx hb hr (fun t ht hW => ⟨⟨x3_18, (h_11, g_11), rfl, HW, g_B ht hG⟩, hG.2.2.F ht⟩) hG.2.2.2.2 dX4_wornOf_28
  exact E0 _ _ _ hG hl

def j_X7_allow_147 (Q : HI → HL → Prop) (x2 : Int32) (x3 : Int32) (s1 : Int32) (s2 : Int32) (h : HI) (g : HL) : Prop :=
  (vp_in s1 60 ∧ ∀ h_147 : HI, h_147 = hu h 83 s1.toNatClampNeg s2 → (vp_in x3 60 ∧ ∀ h_154 : HI, h_154 = hu h_147 84 x3.toNatClampNeg x2 → Q h_154 g))
def j_X7_allow_125 (Q : HI → HL → Prop) (x2 : Int32) (x3 : Int32) (x4 : Int32) (x5 : Int32) (x6 : Int32) (s1 : Int32) (s2 : Int32) (h : HI) (g : HL) : Prop :=
  (vp_in s1 60 ∧ ∀ h_125 : HI, h_125 = hu h 82 s1.toNatClampNeg s2 → ((¬ x4 = (3 : Int32) → j_X7_allow_147 Q x2 x3 x3 (x5 + x6) h_125 g) ∧ (x4 = (3 : Int32) → j_X7_allow_147 Q x2 x3 x3 (1000000 : Int32) h_125 g)))
def j_X7_allow_104 (Q : HI → HL → Prop) (x2 : Int32) (x3 : Int32) (x4 : Int32) (x5 : Int32) (x6 : Int32) (h : HI) (g : HL) : Prop :=
  ((¬ x4 = (2 : Int32) → j_X7_allow_125 Q x2 x3 x4 x5 x6 x3 (x5 - x6) h g) ∧ (x4 = (2 : Int32) → j_X7_allow_125 Q x2 x3 x4 x5 x6 x3 (-1000000 : Int32) h g))
def w_X7_allow (x1 : Int32) (x2 : Int32) (x3 : Int32) (h : HI) (g : HL) (Q : HI → HL → Prop) : Prop :=
  ((x3 < 0 → Q h g) ∧ (¬ x3 < 0 → (((60 : Int32) ≤ x3 → Q h g) ∧ (¬ (60 : Int32) ≤ x3 → (((60 : Int32) ≤ x3 → Q h g) ∧ (¬ (60 : Int32) ≤ x3 → ((x3 < (60 : Int32) → (∃ P_41 : Int32 → HI → HL → Prop, w_X8_at 6 x2 (1 : Int32) h g P_41 ∧ ∀ (r_41 : Int32) (h_41 : HI) (g_41 : HL), P_41 r_41 h_41 g_41 → (∃ P_55 : Int32 → HI → HL → Prop, w_X8_at 6 x2 (2 : Int32) h_41 g_41 P_55 ∧ ∀ (r_55 : Int32) (h_55 : HI) (g_55 : HL), P_55 r_55 h_55 g_55 → (∃ P_69 : Int32 → HI → HL → Prop, w_X8_at 6 x2 (3 : Int32) h_55 g_55 P_69 ∧ ∀ (r_69 : Int32) (h_69 : HI) (g_69 : HL), P_69 r_69 h_69 g_69 → ((¬ r_41 = 0 → j_X7_allow_104 Q x2 x3 r_41 r_55 r_69 h_69 g_69) ∧ (r_41 = 0 → (∃ P_95 : Int32 → HI → HL → Prop, w_X8_at 6 x2 (4 : Int32) h_69 g_69 P_95 ∧ ∀ (r_95 : Int32) (h_95 : HI) (g_95 : HL), P_95 r_95 h_95 g_95 → (∃ P_98 : Int32 → HI → HL → Prop, w_X4_wornOf x1 r_95 h_95 g_95 P_98 ∧ ∀ (r_98 : Int32) (h_98 : HI) (g_98 : HL), P_98 r_98 h_98 g_98 → (∀ x5_102 : Int32, x5_102 = (r_55 + r_98) → j_X7_allow_104 Q x2 x3 r_41 x5_102 r_69 h_98 g_98))))))))) ∧ (¬ x3 < (60 : Int32) → Q h g))))))))
set_option maxHeartbeats 8000000 in
set_option maxRecDepth 100000 in
theorem m_X7_allow (l : Launch) (D : va_G) (cy : Nat → ClassId) (ad : Nat → Nat) (h : HI) (g : HL) (sz : Nat) (x1 : Int32) (x2 : Int32) (x3 : Int32) (Q : HI → HL → Prop) (HW : w_X7_allow x1 x2 x3 h g Q) : Met l yX7_allow (wa yX7_allow cX7_allow 7 none) ({ frames := 3, cells := 0, slots := 0, locals := 75 }) (va_Pc [.ref (ad 81), .int x1, .int x2, .int x3] (gI D cy ad h g sz)) (va_Qv (fun (u : HI × HL) => Q u.1 u.2) (gB D cy ad sz) (gA ad sz)) 0 0 (gA ad sz) := by
  refine Met.ofW (cc := cX7_allow) (maxL := 7) (ret := none) (by decide) rfl ?_
  intro p e s m args below meth c s₁ B hml hv
  obtain ⟨hav, hsz, hP, hK, hD0, hNw⟩ := hv
  have hx := B.exec
  have hb := B.bytes
  have hr := B.returns
  have hts := atoms_spec (ws := (wa yX7_allow cX7_allow 7 none)) B.pre
  have hw := wa_hw hts
  have hown : s.vm.findClass RX7 = some m.cls := findClass_of_methodNamed B.named
  have hlocks := B.notSynchronized
  subst hsz
  have hG : gG D cy ad (gA ad s.heap.size) s.heap h g s.heap [] := ⟨hP, gA_self hD0, va_S.rf⟩
  clear hP hD0
  have lk19 := hw (.fieldLink RX7 19 "OldWorks$Sizes" "lows" "[I") (wm1 170 rfl rfl)
  have lk23 := hw (.fieldLink RX7 23 "OldWorks$Sizes" "highs" "[I") (wm1 171 rfl rfl)
  have lk26 := hw (.fieldLink RX7 26 "OldWorks$Sizes" "sayings" "[I") (wm1 172 rfl rfl)
  have lk9 := hw (.fieldLink RX7 9 "OldWorks$Sizes" "shop" "LOldWorks$Shop;") (wm1 168 rfl rfl)
  have lk49 := hw (.fieldLink RX7 49 "OldWorks$Shop" "sayings" "LOldWorks$Table;") (wm1 69 rfl rfl)
  have lk15 := hw (.fieldLink RX7 15 "OldWorks$Sizes" "law" "LOldWorks$Law;") (wm1 169 rfl rfl)
  have cn89 := hw (.constant RX7 89 (-1000000)) (wm3 92 rfl rfl)
  have cn90 := hw (.constant RX7 90 (1000000)) (wm3 93 rfl rfl)
  rw [show (headSpec (wa yX7_allow cX7_allow 7 none) ({ frames := 3, cells := 0, slots := 0, locals := 75 } : Room)).room = ({ frames := 3, cells := 0, slots := 0, locals := 75 } : Room) from rfl]
  have hl := lv_entry ([.ref (ad 81), .int x1, .int x2, .int x3]) (n := 7) (Nat.le_of_ble_eq_true rfl)
  rw [show entryFrame m args 7 = entryFrame m ([.ref (ad 81), .int x1, .int x2, .int x3] : List Value).toArray 7 from by rw [hav], lg_entry_eq]
  generalize (lg_sl ([.ref (ad 81), .int x1, .int x2, .int x3]) ++ List.replicate (7 - (lg_sl ([.ref (ad 81), .int x1, .int x2, .int x3])).length) Slot.unset).toArray = ls at hl ⊢
  have hl : lv_has ls 7 [(0, .ref (ad 81)), (1, .int x1), (2, .int x2), (3, .int x3)] := hl
  have B147 : ∀ (x2 : Int32) (x3 : Int32) (s1 : Int32) (s2 : Int32) (h : HI) (g : HL) (H : Heap) (locs : List Loc) (ls : Array Slot), j_X7_allow_147 Q x2 x3 s1 s2 h g → gG D cy ad (gA ad s.heap.size) s.heap h g H locs → lv_has ls 7 [(0, .ref (ad 81)), (2, .int x2), (3, .int x3)] → W p l e ({ frames := 3, cells := 0, slots := 0, locals := 75 } : Room) s m args below meth c H locs 0 0 (MQ below (va_Qv (fun (u : HI × HL) => Q u.1 u.2) (gB D cy ad s.heap.size) (gA ad s.heap.size)) args s 0 0 (gA ad s.heap.size)) (F0 m 147 ls [.int s2, .int s1, .ref (ad 83)]) := by
    intro x2 x3 s1 s2 h g H locs ls HW hG hl
    unfold j_X7_allow_147 at HW
    refine g_iast hx hb hK hG gl_83 gk_83 gn_83 HW.1 dX7_allow_147 (fun H locs hG => ?_)
    replace HW := HW.2
    obtain ⟨h_147, eh_147⟩ : ∃ y : HI, y = hu h 83 s1.toNatClampNeg s2 := ⟨_, rfl⟩
    rw [← eh_147] at hG
    replace HW := HW h_147 eh_147
    refine lv_aload_n hx hb dX7_allow_148 rfl (lv_at hl 0 rfl) ?_
    refine g_getr hx hb hw inG7 hown hK hG gl_81 rfl gk_81 (by decide) 4 (by decide) (by rw [gm_81]; decide) (r := 84) gr_81_4 lk26 dX7_allow_149 ?_
    refine lv_iload_n hx hb dX7_allow_152 rfl (lv_at hl 2 rfl) ?_
    refine lv_iload_n hx hb dX7_allow_153 rfl (lv_at hl 1 rfl) ?_
    refine g_iast hx hb hK hG gl_84 gk_84 gn_84 HW.1 dX7_allow_154 (fun H locs hG => ?_)
    replace HW := HW.2
    obtain ⟨h_154, eh_154⟩ : ∃ y : HI, y = hu h_147 84 x3.toNatClampNeg x2 := ⟨_, rfl⟩
    rw [← eh_154] at hG
    replace HW := HW h_154 eh_154
    exact W.vret hx hb hr (fun t ht hW => ⟨⟨(h_154, g), rfl, HW, g_B ht hG⟩, hG.2.2.F ht⟩) hG.2.2.2.2 dX7_allow_155
  have B125 : ∀ (x2 : Int32) (x3 : Int32) (x4 : Int32) (x5 : Int32) (x6 : Int32) (s1 : Int32) (s2 : Int32) (h : HI) (g : HL) (H : Heap) (locs : List Loc) (ls : Array Slot), j_X7_allow_125 Q x2 x3 x4 x5 x6 s1 s2 h g → gG D cy ad (gA ad s.heap.size) s.heap h g H locs → lv_has ls 7 [(0, .ref (ad 81)), (2, .int x2), (3, .int x3), (4, .int x4), (5, .int x5), (6, .int x6)] → W p l e ({ frames := 3, cells := 0, slots := 0, locals := 75 } : Room) s m args below meth c H locs 0 0 (MQ below (va_Qv (fun (u : HI × HL) => Q u.1 u.2) (gB D cy ad s.heap.size) (gA ad s.heap.size)) args s 0 0 (gA ad s.heap.size)) (F0 m 125 ls [.int s2, .int s1, .ref (ad 82)]) := by
    intro x2 x3 x4 x5 x6 s1 s2 h g H locs ls HW hG hl
    unfold j_X7_allow_125 at HW
    refine g_iast hx hb hK hG gl_82 gk_82 gn_82 HW.1 dX7_allow_125 (fun H locs hG => ?_)
    replace HW := HW.2
    obtain ⟨h_125, eh_125⟩ : ∃ y : HI, y = hu h 82 s1.toNatClampNeg s2 := ⟨_, rfl⟩
    rw [← eh_125] at hG
    replace HW := HW h_125 eh_125
    refine lv_aload_n hx hb dX7_allow_126 rfl (lv_at hl 0 rfl) ?_
    refine g_getr hx hb hw inG7 hown hK hG gl_81 rfl gk_81 (by decide) 3 (by decide) (by rw [gm_81]; decide) (r := 83) gr_81_3 lk23 dX7_allow_127 ?_
    refine lv_iload_n hx hb dX7_allow_130 rfl (lv_at hl 2 rfl) ?_
    refine lv_iload hx hb dX7_allow_131 (lv_at hl 3 rfl) ?_
    refine lv_iconst (v := 3) hx hb dX7_allow_133 (by decide) ?_
    refine lv_icmp_ne (tgt := 142) hx hb dX7_allow_134 (by decide) (fun c_134 => ?_) (fun c_134 => ?_)
    · replace HW := HW.1 c_134
      refine lv_iload hx hb dX7_allow_142 (lv_at hl 4 rfl) ?_
      refine lv_iload hx hb dX7_allow_144 (lv_at hl 5 rfl) ?_
      refine lv_iadd hx hb dX7_allow_146 ?_
      exact B147 x2 x3 x3 (x5 + x6) h_125 g _ _ _ HW hG (lv_sub hl [0, 1, 2] rfl)
    · replace HW := HW.2 c_134
      refine lv_ldc (v := 1000000) hx hb hown cn90 dX7_allow_137 ?_
      refine lv_goto (tgt := 147) hx hb dX7_allow_139 (by decide) ?_
      exact B147 x2 x3 x3 (1000000 : Int32) h_125 g _ _ _ HW hG (lv_sub hl [0, 1, 2] rfl)
  have B104 : ∀ (x2 : Int32) (x3 : Int32) (x4 : Int32) (x5 : Int32) (x6 : Int32) (h : HI) (g : HL) (H : Heap) (locs : List Loc) (ls : Array Slot), j_X7_allow_104 Q x2 x3 x4 x5 x6 h g → gG D cy ad (gA ad s.heap.size) s.heap h g H locs → lv_has ls 7 [(0, .ref (ad 81)), (2, .int x2), (3, .int x3), (4, .int x4), (5, .int x5), (6, .int x6)] → W p l e ({ frames := 3, cells := 0, slots := 0, locals := 75 } : Room) s m args below meth c H locs 0 0 (MQ below (va_Qv (fun (u : HI × HL) => Q u.1 u.2) (gB D cy ad s.heap.size) (gA ad s.heap.size)) args s 0 0 (gA ad s.heap.size)) (F0 m 104 ls []) := by
    intro x2 x3 x4 x5 x6 h g H locs ls HW hG hl
    unfold j_X7_allow_104 at HW
    refine lv_aload_n hx hb dX7_allow_104 rfl (lv_at hl 0 rfl) ?_
    refine g_getr hx hb hw inG7 hown hK hG gl_81 rfl gk_81 (by decide) 2 (by decide) (by rw [gm_81]; decide) (r := 82) gr_81_2 lk19 dX7_allow_105 ?_
    refine lv_iload_n hx hb dX7_allow_108 rfl (lv_at hl 2 rfl) ?_
    refine lv_iload hx hb dX7_allow_109 (lv_at hl 3 rfl) ?_
    refine lv_iconst (v := 2) hx hb dX7_allow_111 (by decide) ?_
    refine lv_icmp_ne (tgt := 120) hx hb dX7_allow_112 (by decide) (fun c_112 => ?_) (fun c_112 => ?_)
    · replace HW := HW.1 c_112
      refine lv_iload hx hb dX7_allow_120 (lv_at hl 4 rfl) ?_
      refine lv_iload hx hb dX7_allow_122 (lv_at hl 5 rfl) ?_
      refine lv_isub hx hb dX7_allow_124 ?_
      exact B125 x2 x3 x4 x5 x6 x3 (x5 - x6) h g _ _ _ HW hG (lv_sub hl [0, 1, 2, 3, 4, 5] rfl)
    · replace HW := HW.2 c_112
      refine lv_ldc (v := (-1000000)) hx hb hown cn89 dX7_allow_115 ?_
      refine lv_goto (tgt := 125) hx hb dX7_allow_117 (by decide) ?_
      exact B125 x2 x3 x4 x5 x6 x3 (-1000000 : Int32) h g _ _ _ HW hG (lv_sub hl [0, 1, 2, 3, 4, 5] rfl)
  have E0 : ∀ (H : Heap) (locs : List Loc) (ls : Array Slot), gG D cy ad (gA ad s.heap.size) s.heap h g H locs → lv_has ls 7 [(0, .ref (ad 81)), (1, .int x1), (2, .int x2), (3, .int x3)] → W p l e ({ frames := 3, cells := 0, slots := 0, locals := 75 } : Room) s m args below meth c H locs 0 0 (MQ below (va_Qv (fun (u : HI × HL) => Q u.1 u.2) (gB D cy ad s.heap.size) (gA ad s.heap.size)) args s 0 0 (gA ad s.heap.size)) (F0 m 0 ls []) := by
    intro H locs ls hG hl
    unfold w_X7_allow at HW
    refine lv_iload_n hx hb dX7_allow_0 rfl (lv_at hl 3 rfl) ?_
    refine lv_if_lt (tgt := 31) hx hb dX7_allow_1 (by decide) (fun c_1 => ?_) (fun c_1 => ?_)
    · replace HW := HW.1 c_1
      exact W.vret hx hb hr (fun t ht hW => ⟨⟨(h, g), rfl, HW, g_B ht hG⟩, hG.2.2.F ht⟩) hG.2.2.2.2 dX7_allow_31
    · replace HW := HW.2 c_1
      refine lv_iload_n hx hb dX7_allow_4 rfl (lv_at hl 3 rfl) ?_
      refine lv_aload_n hx hb dX7_allow_5 rfl (lv_at hl 0 rfl) ?_
      refine g_getr hx hb hw inG7 hown hK hG gl_81 rfl gk_81 (by decide) 2 (by decide) (by rw [gm_81]; decide) (r := 82) gr_81_2 lk19 dX7_allow_6 ?_
      refine g_alen hx hb hK hG gl_82 gk_82 (v := (60 : Int32)) (by rw [gn_82]; decide) dX7_allow_9 ?_
      refine lv_icmp_ge (tgt := 31) hx hb dX7_allow_10 (by decide) (fun c_10 => ?_) (fun c_10 => ?_)
      · replace HW := HW.1 c_10
        exact W.vret hx hb hr (fun t ht hW => ⟨⟨(h, g), rfl, HW, g_B ht hG⟩, hG.2.2.F ht⟩) hG.2.2.2.2 dX7_allow_31
      · replace HW := HW.2 c_10
        refine lv_iload_n hx hb dX7_allow_13 rfl (lv_at hl 3 rfl) ?_
        refine lv_aload_n hx hb dX7_allow_14 rfl (lv_at hl 0 rfl) ?_
        refine g_getr hx hb hw inG7 hown hK hG gl_81 rfl gk_81 (by decide) 3 (by decide) (by rw [gm_81]; decide) (r := 83) gr_81_3 lk23 dX7_allow_15 ?_
        refine g_alen hx hb hK hG gl_83 gk_83 (v := (60 : Int32)) (by rw [gn_83]; decide) dX7_allow_18 ?_
        refine lv_icmp_ge (tgt := 31) hx hb dX7_allow_19 (by decide) (fun c_19 => ?_) (fun c_19 => ?_)
        · replace HW := HW.1 c_19
          exact W.vret hx hb hr (fun t ht hW => ⟨⟨(h, g), rfl, HW, g_B ht hG⟩, hG.2.2.F ht⟩) hG.2.2.2.2 dX7_allow_31
        · replace HW := HW.2 c_19
          refine lv_iload_n hx hb dX7_allow_22 rfl (lv_at hl 3 rfl) ?_
          refine lv_aload_n hx hb dX7_allow_23 rfl (lv_at hl 0 rfl) ?_
          refine g_getr hx hb hw inG7 hown hK hG gl_81 rfl gk_81 (by decide) 4 (by decide) (by rw [gm_81]; decide) (r := 84) gr_81_4 lk26 dX7_allow_24 ?_
          refine g_alen hx hb hK hG gl_84 gk_84 (v := (60 : Int32)) (by rw [gn_84]; decide) dX7_allow_27 ?_
          refine lv_icmp_lt (tgt := 32) hx hb dX7_allow_28 (by decide) (fun c_28 => ?_) (fun c_28 => ?_)
          · replace HW := HW.1 c_28
            refine lv_aload_n hx hb dX7_allow_32 rfl (lv_at hl 0 rfl) ?_
            refine g_getr hx hb hw inG7 hown hK hG gl_81 rfl gk_81 (by decide) 0 (by decide) (by rw [gm_81]; decide) (r := 1) gr_81_0 lk9 dX7_allow_33 ?_
            refine g_getr hx hb hw inG6 hown hK hG gl_1 rfl gk_1 (by decide) 2 (by decide) (by rw [gm_1]; decide) (r := 6) gr_1_2 lk49 dX7_allow_36 ?_
            refine lv_iload_n hx hb dX7_allow_39 rfl (lv_at hl 2 rfl) ?_
            refine lv_iconst (v := 1) hx hb dX7_allow_40 (by decide) ?_
            obtain ⟨P_41, HC_41, HW⟩ := HW
            refine g_calli (g_runV (As := [.int x2, .int (1 : Int32)]) (rest := []) ⟨hx, hb, hml, hown, hts⟩ (m_X8_at l D cy ad h g H.size 6 (gs_6) x2 (1 : Int32) P_41 HC_41) (cwV 2 hts (gd_V (wm3 78 rfl rfl) (wm2 221 rfl rfl) (wm2 222 rfl rfl) (wm1 3 rfl rfl) (wm2 223 rfl rfl)) rfl rfl rfl (by decide +kernel) ⟨Nat.le_of_ble_eq_true rfl, Nat.le_of_ble_eq_true rfl⟩) hK hNw hG gl_6 rfl gk_6 (by decide) rfl rfl hl.1 rfl (lv_room (Nat.le_of_ble_eq_true rfl)) dX7_allow_41 ⟨Nat.zero_le _, Nat.zero_le _⟩) hG (fun r_41 h_41 g_41 H locs hq hG => ?_)
            replace HW := HW r_41 h_41 g_41 hq
            refine lv_istore (lv' := [(4, .int r_41), (0, .ref (ad 81)), (1, .int x1), (2, .int x2), (3, .int x3)]) hx hb dX7_allow_44 hl (by decide) rfl (fun ls hl => ?_)
            refine lv_aload_n hx hb dX7_allow_46 rfl (lv_at hl 1 rfl) ?_
            refine g_getr hx hb hw inG7 hown hK hG gl_81 rfl gk_81 (by decide) 0 (by decide) (by rw [gm_81]; decide) (r := 1) gr_81_0 lk9 dX7_allow_47 ?_
            refine g_getr hx hb hw inG6 hown hK hG gl_1 rfl gk_1 (by decide) 2 (by decide) (by rw [gm_1]; decide) (r := 6) gr_1_2 lk49 dX7_allow_50 ?_
            refine lv_iload_n hx hb dX7_allow_53 rfl (lv_at hl 3 rfl) ?_
            refine lv_iconst (v := 2) hx hb dX7_allow_54 (by decide) ?_
            obtain ⟨P_55, HC_55, HW⟩ := HW
            refine g_calli (g_runV (As := [.int x2, .int (2 : Int32)]) (rest := []) ⟨hx, hb, hml, hown, hts⟩ (m_X8_at l D cy ad h_41 g_41 H.size 6 (gs_6) x2 (2 : Int32) P_55 HC_55) (cwV 2 hts (gd_V (wm3 78 rfl rfl) (wm2 221 rfl rfl) (wm2 222 rfl rfl) (wm1 3 rfl rfl) (wm2 223 rfl rfl)) rfl rfl rfl (by decide +kernel) ⟨Nat.le_of_ble_eq_true rfl, Nat.le_of_ble_eq_true rfl⟩) hK hNw hG gl_6 rfl gk_6 (by decide) rfl rfl hl.1 rfl (lv_room (Nat.le_of_ble_eq_true rfl)) dX7_allow_55 ⟨Nat.zero_le _, Nat.zero_le _⟩) hG (fun r_55 h_55 g_55 H locs hq hG => ?_)
            replace HW := HW r_55 h_55 g_55 hq
            refine lv_istore (lv' := [(5, .int r_55), (4, .int r_41), (0, .ref (ad 81)), (1, .int x1), (2, .int x2), (3, .int x3)]) hx hb dX7_allow_58 hl (by decide) rfl (fun ls hl => ?_)
            refine lv_aload_n hx hb dX7_allow_60 rfl (lv_at hl 2 rfl) ?_
            refine g_getr hx hb hw inG7 hown hK hG gl_81 rfl gk_81 (by decide) 0 (by decide) (by rw [gm_81]; decide) (r := 1) gr_81_0 lk9 dX7_allow_61 ?_
            refine g_getr hx hb hw inG6 hown hK hG gl_1 rfl gk_1 (by decide) 2 (by decide) (by rw [gm_1]; decide) (r := 6) gr_1_2 lk49 dX7_allow_64 ?_
            refine lv_iload_n hx hb dX7_allow_67 rfl (lv_at hl 4 rfl) ?_
            refine lv_iconst (v := 3) hx hb dX7_allow_68 (by decide) ?_
            obtain ⟨P_69, HC_69, HW⟩ := HW
            refine g_calli (g_runV (As := [.int x2, .int (3 : Int32)]) (rest := []) ⟨hx, hb, hml, hown, hts⟩ (m_X8_at l D cy ad h_55 g_55 H.size 6 (gs_6) x2 (3 : Int32) P_69 HC_69) (cwV 2 hts (gd_V (wm3 78 rfl rfl) (wm2 221 rfl rfl) (wm2 222 rfl rfl) (wm1 3 rfl rfl) (wm2 223 rfl rfl)) rfl rfl rfl (by decide +kernel) ⟨Nat.le_of_ble_eq_true rfl, Nat.le_of_ble_eq_true rfl⟩) hK hNw hG gl_6 rfl gk_6 (by decide) rfl rfl hl.1 rfl (lv_room (Nat.le_of_ble_eq_true rfl)) dX7_allow_69 ⟨Nat.zero_le _, Nat.zero_le _⟩) hG (fun r_69 h_69 g_69 H locs hq hG => ?_)
            replace HW := HW r_69 h_69 g_69 hq
            refine lv_istore (lv' := [(6, .int r_69), (5, .int r_55), (4, .int r_41), (0, .ref (ad 81)), (1, .int x1), (2, .int x2), (3, .int x3)]) hx hb dX7_allow_72 hl (by decide) rfl (fun ls hl => ?_)
            refine lv_iload hx hb dX7_allow_74 (lv_at hl 2 rfl) ?_
            refine lv_if_ne (tgt := 104) hx hb dX7_allow_76 (by decide) (fun c_76 => ?_) (fun c_76 => ?_)
            · replace HW := HW.1 c_76
              exact B104 x2 x3 r_41 r_55 r_69 h_69 g_69 _ _ _ HW hG (lv_sub hl [3, 5, 6, 2, 1, 0] rfl)
            · replace HW := HW.2 c_76
              refine lv_iload hx hb dX7_allow_79 (lv_at hl 1 rfl) ?_
              refine lv_aload_n hx hb dX7_allow_81 rfl (lv_at hl 3 rfl) ?_
              refine g_getr hx hb hw inG7 hown hK hG gl_81 rfl gk_81 (by decide) 1 (by decide) (by rw [gm_81]; decide) (r := 77) gr_81_1 lk15 dX7_allow_82 ?_
              refine lv_iload_n hx hb dX7_allow_85 rfl (lv_at hl 4 rfl) ?_
              refine lv_aload_n hx hb dX7_allow_86 rfl (lv_at hl 3 rfl) ?_
              refine g_getr hx hb hw inG7 hown hK hG gl_81 rfl gk_81 (by decide) 0 (by decide) (by rw [gm_81]; decide) (r := 1) gr_81_0 lk9 dX7_allow_87 ?_
              refine g_getr hx hb hw inG6 hown hK hG gl_1 rfl gk_1 (by decide) 2 (by decide) (by rw [gm_1]; decide) (r := 6) gr_1_2 lk49 dX7_allow_90 ?_
              refine lv_iload_n hx hb dX7_allow_93 rfl (lv_at hl 5 rfl) ?_
              refine lv_iconst (v := 4) hx hb dX7_allow_94 (by decide) ?_
              obtain ⟨P_95, HC_95, HW⟩ := HW
              refine g_calli (g_runV (As := [.int x2, .int (4 : Int32)]) (rest := [.int x1, .ref (ad 77), .int r_55]) ⟨hx, hb, hml, hown, hts⟩ (m_X8_at l D cy ad h_69 g_69 H.size 6 (gs_6) x2 (4 : Int32) P_95 HC_95) (cwV 2 hts (gd_V (wm3 78 rfl rfl) (wm2 221 rfl rfl) (wm2 222 rfl rfl) (wm1 3 rfl rfl) (wm2 223 rfl rfl)) rfl rfl rfl (by decide +kernel) ⟨Nat.le_of_ble_eq_true rfl, Nat.le_of_ble_eq_true rfl⟩) hK hNw hG gl_6 rfl gk_6 (by decide) rfl rfl hl.1 rfl (lv_room (Nat.le_of_ble_eq_true rfl)) dX7_allow_95 ⟨Nat.zero_le _, Nat.zero_le _⟩) hG (fun r_95 h_95 g_95 H locs hq hG => ?_)
              replace HW := HW r_95 h_95 g_95 hq
              obtain ⟨P_98, HC_98, HW⟩ := HW
              refine g_calli (g_runV (As := [.int x1, .int r_95]) (rest := [.int r_55]) ⟨hx, hb, hml, hown, hts⟩ (m_X4_wornOf l D cy ad h_95 g_95 H.size x1 r_95 P_98 HC_98) (cwV 2 hts (gd_V (wm3 91 rfl rfl) (wm3 41 rfl rfl) (wm3 42 rfl rfl) (wm1 4 rfl rfl) (wm3 43 rfl rfl)) rfl rfl rfl (by decide +kernel) ⟨Nat.le_of_ble_eq_true rfl, Nat.le_of_ble_eq_true rfl⟩) hK hNw hG gl_77 rfl gk_77 (by decide) rfl rfl hl.1 rfl (lv_room (Nat.le_of_ble_eq_true rfl)) dX7_allow_98 ⟨Nat.zero_le _, Nat.zero_le _⟩) hG (fun r_98 h_98 g_98 H locs hq hG => ?_)
              replace HW := HW r_98 h_98 g_98 hq
              refine lv_iadd hx hb dX7_allow_101 ?_
              refine lv_topi (fun x5_102 ex5_102 => ?_)
              replace HW := HW x5_102 ex5_102
              refine lv_istore (lv' := [(5, .int x5_102), (6, .int r_69), (4, .int r_41), (0, .ref (ad 81)), (1, .int x1), (2, .int x2), (3, .int x3)]) hx hb dX7_allow_102 hl (by decide) rfl (fun ls hl => ?_)
              exact B104 x2 x3 r_41 x5_102 r_69 h_98 g_98 _ _ _ HW hG (lv_sub hl [3, 5, 6, 2, 0, 1] rfl)
          · replace HW := HW.2 c_28
            exact W.vret hx hb hr (fun t ht hW => ⟨⟨(h, g), rfl, HW, g_B ht hG⟩, hG.2.2.F ht⟩) hG.2.2.2.2 dX7_allow_31
  exact E0 _ _ _ hG hl

def j_X7_placeFrom_16 (Q : Int32 → HI → HL → Prop) (h : HI) (g : HL) : Prop :=
  Q (0 : Int32) h g
def w_X7_placeFrom (x1 : Int32) (h : HI) (g : HL) (Q : Int32 → HI → HL → Prop) : Prop :=
  ((x1 ≤ (h 81 6) → j_X7_placeFrom_16 Q h g) ∧ (¬ x1 ≤ (h 81 6) → (((1 : Int32) ≤ (h 81 7) → (¬ (h 81 7) = 0 ∧ Q ((((x1 - (h 81 6)) + (h 81 7)) - (1 : Int32)) / (h 81 7)) h g)) ∧ (¬ (1 : Int32) ≤ (h 81 7) → j_X7_placeFrom_16 Q h g))))
set_option maxHeartbeats 8000000 in
set_option maxRecDepth 100000 in
theorem m_X7_placeFrom (l : Launch) (D : va_G) (cy : Nat → ClassId) (ad : Nat → Nat) (h : HI) (g : HL) (sz : Nat) (x1 : Int32) (Q : Int32 → HI → HL → Prop) (HW : w_X7_placeFrom x1 h g Q) : Met l yX7_placeFrom (wa yX7_placeFrom cX7_placeFrom 2 (some .int)) ({ frames := 0, cells := 0, slots := 0, locals := 0 }) (va_Pc [.ref (ad 81), .int x1] (gI D cy ad h g sz)) (va_Qi (fun (r : Int32) (u : HI × HL) => Q r u.1 u.2) (gB D cy ad sz) (gA ad sz)) 0 0 (gA ad sz) := by
  refine Met.ofW (cc := cX7_placeFrom) (maxL := 2) (ret := (some .int)) (by decide) rfl ?_
  intro p e s m args below meth c s₁ B hml hv
  obtain ⟨hav, hsz, hP, hK, hD0, hNw⟩ := hv
  have hx := B.exec
  have hb := B.bytes
  have hr := B.returns
  have hts := atoms_spec (ws := (wa yX7_placeFrom cX7_placeFrom 2 (some .int))) B.pre
  have hw := wa_hw hts
  have hown : s.vm.findClass RX7 = some m.cls := findClass_of_methodNamed B.named
  have hlocks := B.notSynchronized
  subst hsz
  have hG : gG D cy ad (gA ad s.heap.size) s.heap h g s.heap [] := ⟨hP, gA_self hD0, va_S.rf⟩
  clear hP hD0
  have lk69 := hw (.fieldLink RX7 69 "OldWorks$Sizes" "base" "I") (wm1 174 rfl rfl)
  have lk77 := hw (.fieldLink RX7 77 "OldWorks$Sizes" "step" "I") (wm1 175 rfl rfl)
  rw [show (headSpec (wa yX7_placeFrom cX7_placeFrom 2 (some .int)) ({ frames := 0, cells := 0, slots := 0, locals := 0 } : Room)).room = ({ frames := 0, cells := 0, slots := 0, locals := 0 } : Room) from rfl]
  have hl := lv_entry ([.ref (ad 81), .int x1]) (n := 2) (Nat.le_of_ble_eq_true rfl)
  rw [show entryFrame m args 2 = entryFrame m ([.ref (ad 81), .int x1] : List Value).toArray 2 from by rw [hav], lg_entry_eq]
  generalize (lg_sl ([.ref (ad 81), .int x1]) ++ List.replicate (2 - (lg_sl ([.ref (ad 81), .int x1])).length) Slot.unset).toArray = ls at hl ⊢
  have hl : lv_has ls 2 [(0, .ref (ad 81)), (1, .int x1)] := hl
  have B16 : ∀ (h : HI) (g : HL) (H : Heap) (locs : List Loc) (ls : Array Slot), j_X7_placeFrom_16 Q h g → gG D cy ad (gA ad s.heap.size) s.heap h g H locs → lv_has ls 2 [] → W p l e ({ frames := 0, cells := 0, slots := 0, locals := 0 } : Room) s m args below meth c H locs 0 0 (MQ below (va_Qi (fun (r : Int32) (u : HI × HL) => Q r u.1 u.2) (gB D cy ad s.heap.size) (gA ad s.heap.size)) args s 0 0 (gA ad s.heap.size)) (F0 m 16 ls []) := by
    intro  h g H locs ls HW hG hl
    unfold j_X7_placeFrom_16 at HW
    refine lv_iconst (v := 0) hx hb dX7_placeFrom_16 (by decide) ?_
    refine lv_goto (tgt := 38) hx hb dX7_placeFrom_17 (by decide) ?_
    exact W.iret (v := (0 : Int32)) hx hb hr (fun t ht hW => ⟨⟨(0 : Int32), (h, g), rfl, HW, g_B ht hG⟩, hG.2.2.F ht⟩) hG.2.2.2.2 dX7_placeFrom_38
  have E0 : ∀ (H : Heap) (locs : List Loc) (ls : Array Slot), gG D cy ad (gA ad s.heap.size) s.heap h g H locs → lv_has ls 2 [(0, .ref (ad 81)), (1, .int x1)] → W p l e ({ frames := 0, cells := 0, slots := 0, locals := 0 } : Room) s m args below meth c H locs 0 0 (MQ below (va_Qi (fun (r : Int32) (u : HI × HL) => Q r u.1 u.2) (gB D cy ad s.heap.size) (gA ad s.heap.size)) args s 0 0 (gA ad s.heap.size)) (F0 m 0 ls []) := by
    intro H locs ls hG hl
    unfold w_X7_placeFrom at HW
    refine lv_iload_n hx hb dX7_placeFrom_0 rfl (lv_at hl 1 rfl) ?_
    refine lv_aload_n hx hb dX7_placeFrom_1 rfl (lv_at hl 0 rfl) ?_
    refine g_geti hx hb hw inG7 hown hK hG gl_81 rfl gk_81 (by decide) 6 (by decide) (by rw [gm_81]; decide) gr_81_6 lk69 dX7_placeFrom_2 ?_
    refine lv_icmp_le (tgt := 16) hx hb dX7_placeFrom_5 (by decide) (fun c_5 => ?_) (fun c_5 => ?_)
    · replace HW := HW.1 c_5
      exact B16 h g _ _ _ HW hG (lv_sub hl [] rfl)
    · replace HW := HW.2 c_5
      refine lv_aload_n hx hb dX7_placeFrom_8 rfl (lv_at hl 0 rfl) ?_
      refine g_geti hx hb hw inG7 hown hK hG gl_81 rfl gk_81 (by decide) 7 (by decide) (by rw [gm_81]; decide) gr_81_7 lk77 dX7_placeFrom_9 ?_
      refine lv_iconst (v := 1) hx hb dX7_placeFrom_12 (by decide) ?_
      refine lv_icmp_ge (tgt := 20) hx hb dX7_placeFrom_13 (by decide) (fun c_13 => ?_) (fun c_13 => ?_)
      · replace HW := HW.1 c_13
        refine lv_iload_n hx hb dX7_placeFrom_20 rfl (lv_at hl 1 rfl) ?_
        refine lv_aload_n hx hb dX7_placeFrom_21 rfl (lv_at hl 0 rfl) ?_
        refine g_geti hx hb hw inG7 hown hK hG gl_81 rfl gk_81 (by decide) 6 (by decide) (by rw [gm_81]; decide) gr_81_6 lk69 dX7_placeFrom_22 ?_
        refine lv_isub hx hb dX7_placeFrom_25 ?_
        refine lv_aload_n hx hb dX7_placeFrom_26 rfl (lv_at hl 0 rfl) ?_
        refine g_geti hx hb hw inG7 hown hK hG gl_81 rfl gk_81 (by decide) 7 (by decide) (by rw [gm_81]; decide) gr_81_7 lk77 dX7_placeFrom_27 ?_
        refine lv_iadd hx hb dX7_placeFrom_30 ?_
        refine lv_iconst (v := 1) hx hb dX7_placeFrom_31 (by decide) ?_
        refine lv_isub hx hb dX7_placeFrom_32 ?_
        refine lv_aload_n hx hb dX7_placeFrom_33 rfl (lv_at hl 0 rfl) ?_
        refine g_geti hx hb hw inG7 hown hK hG gl_81 rfl gk_81 (by decide) 7 (by decide) (by rw [gm_81]; decide) gr_81_7 lk77 dX7_placeFrom_34 ?_
        refine lv_idiv hx hb dX7_placeFrom_37 HW.1 ?_
        replace HW := HW.2
        exact W.iret (v := ((((x1 - (h 81 6)) + (h 81 7)) - (1 : Int32)) / (h 81 7))) hx hb hr (fun t ht hW => ⟨⟨((((x1 - (h 81 6)) + (h 81 7)) - (1 : Int32)) / (h 81 7)), (h, g), rfl, HW, g_B ht hG⟩, hG.2.2.F ht⟩) hG.2.2.2.2 dX7_placeFrom_38
      · replace HW := HW.2 c_13
        exact B16 h g _ _ _ HW hG (lv_sub hl [] rfl)
  exact E0 _ _ _ hG hl

def j_X7_chooseSizes_172 (Q : HI → HL → Prop) (s1 : Int32) (h : HI) (g : HL) : Prop :=
  (∀ h_172 : HI, h_172 = hu h 81 10 s1 → Q h_172 g)
def j_X7_chooseSizes_145 (Q : HI → HL → Prop) (x4 : Int32) (s1 : Int32) (h : HI) (g : HL) : Prop :=
  (∀ h_145 : HI, h_145 = hu h 81 9 s1 → (((h_145 81 11) ≤ 0 → j_X7_chooseSizes_172 Q (-1 : Int32) h_145 g) ∧ (¬ (h_145 81 11) ≤ 0 → j_X7_chooseSizes_172 Q ((h_145 81 6) + (x4 * (h_145 81 7))) h_145 g)))
def j_X7_chooseSizes_106 (Q : HI → HL → Prop) (x3 : Int32) (s0 : Int32) (h : HI) (g : HL) : Prop :=
  (∀ h_119 : HI, h_119 = hu h 81 11 (if (0 : Int32) < ((s0 - x3) + (1 : Int32)) then ((s0 - x3) + (1 : Int32)) else (0 : Int32)) → (((h_119 81 11) ≤ 0 → j_X7_chooseSizes_145 Q s0 (-1 : Int32) h_119 g) ∧ (¬ (h_119 81 11) ≤ 0 → j_X7_chooseSizes_145 Q s0 ((h_119 81 6) + (x3 * (h_119 81 7))) h_119 g)))
def j_X7_chooseSizes_84 (Q : HI → HL → Prop) (x3 : Int32) (h : HI) (g : HL) : Prop :=
  j_X7_chooseSizes_106 Q x3 (-1 : Int32) h g
def j_X7_chooseSizes_62 (Q : HI → HL → Prop) (x1 : Int32) (x2 : Int32) (h : HI) (g : HL) : Prop :=
  (∃ P_64 : Int32 → HI → HL → Prop, w_X7_placeFrom x1 h g P_64 ∧ ∀ (r_64 : Int32) (h_64 : HI) (g_64 : HL), P_64 r_64 h_64 g_64 → ((x2 < (h_64 81 6) → j_X7_chooseSizes_84 Q r_64 h_64 g_64) ∧ (¬ x2 < (h_64 81 6) → (((1 : Int32) ≤ (h_64 81 7) → (¬ (h_64 81 7) = 0 ∧ j_X7_chooseSizes_106 Q r_64 (if ((x2 - (h_64 81 6)) / (h_64 81 7)) < (h_64 81 8) then ((x2 - (h_64 81 6)) / (h_64 81 7)) else (h_64 81 8)) h_64 g_64)) ∧ (¬ (1 : Int32) ≤ (h_64 81 7) → j_X7_chooseSizes_84 Q r_64 h_64 g_64)))))
def b_X7_chooseSizes_8 (Q : HI → HL → Prop) (K8 : Int32 → Int32 → Int32 → HI → HL → Prop) (x1 : Int32) (x2 : Int32) (x3 : Int32) (h : HI) (g : HL) : Prop :=
  (((h 81 5) ≤ x3 → j_X7_chooseSizes_62 Q x1 x2 h g) ∧ (¬ (h 81 5) ≤ x3 → (((60 : Int32) ≤ x3 → j_X7_chooseSizes_62 Q x1 x2 h g) ∧ (¬ (60 : Int32) ≤ x3 → (((60 : Int32) ≤ x3 → j_X7_chooseSizes_62 Q x1 x2 h g) ∧ (¬ (60 : Int32) ≤ x3 → (vp_in x3 60 ∧ (∀ x1_44 : Int32, x1_44 = (if x1 < (h 82 x3.toNatClampNeg) then (h 82 x3.toNatClampNeg) else x1) → (vp_in x3 60 ∧ (∀ x2_55 : Int32, x2_55 = (if (h 83 x3.toNatClampNeg) < x2 then (h 83 x3.toNatClampNeg) else x2) → (∀ x3_56 : Int32, x3_56 = (x3 + 1) → K8 x1_44 x2_55 x3_56 h g)))))))))))
def F_X7_chooseSizes_8 (Q : HI → HL → Prop) (K : Int32 × Int32 × Int32 × HI × HL → Prop) (q : Int32 × Int32 × Int32 × HI × HL) : Prop := b_X7_chooseSizes_8 Q (fun x1 x2 x3 h g => K (x1, x2, x3, h, g)) q.1 q.2.1 q.2.2.1 q.2.2.2.1 q.2.2.2.2
def w_X7_chooseSizes  (h : HI) (g : HL) (Q : HI → HL → Prop) : Prop :=
  lpE (F_X7_chooseSizes_8 Q) ((-1000000 : Int32), (1000000 : Int32), (0 : Int32), h, g)
set_option maxHeartbeats 8000000 in
set_option maxRecDepth 100000 in
theorem m_X7_chooseSizes (l : Launch) (D : va_G) (cy : Nat → ClassId) (ad : Nat → Nat) (h : HI) (g : HL) (sz : Nat)  (Q : HI → HL → Prop) (HW : w_X7_chooseSizes h g Q) : Met l yX7_chooseSizes (wa yX7_chooseSizes cX7_chooseSizes 5 none) ({ frames := 1, cells := 0, slots := 0, locals := 32 }) (va_Pc [.ref (ad 81)] (gI D cy ad h g sz)) (va_Qv (fun (u : HI × HL) => Q u.1 u.2) (gB D cy ad sz) (gA ad sz)) 0 0 (gA ad sz) := by
  refine Met.ofW (cc := cX7_chooseSizes) (maxL := 5) (ret := none) (by decide) rfl ?_
  intro p e s m args below meth c s₁ B hml hv
  obtain ⟨hav, hsz, hP, hK, hD0, hNw⟩ := hv
  have hx := B.exec
  have hb := B.bytes
  have hr := B.returns
  have hts := atoms_spec (ws := (wa yX7_chooseSizes cX7_chooseSizes 5 none)) B.pre
  have hw := wa_hw hts
  have hown : s.vm.findClass RX7 = some m.cls := findClass_of_methodNamed B.named
  have hlocks := B.notSynchronized
  subst hsz
  have hG : gG D cy ad (gA ad s.heap.size) s.heap h g s.heap [] := ⟨hP, gA_self hD0, va_S.rf⟩
  clear hP hD0
  have cn89 := hw (.constant RX7 89 (-1000000)) (wm3 92 rfl rfl)
  have cn90 := hw (.constant RX7 90 (1000000)) (wm3 93 rfl rfl)
  have lk45 := hw (.fieldLink RX7 45 "OldWorks$Sizes" "said" "I") (wm1 173 rfl rfl)
  have lk19 := hw (.fieldLink RX7 19 "OldWorks$Sizes" "lows" "[I") (wm1 170 rfl rfl)
  have lk23 := hw (.fieldLink RX7 23 "OldWorks$Sizes" "highs" "[I") (wm1 171 rfl rfl)
  have ml72 := hw (.methodLink RX7 72 Lib.Math.max.name) (wm3 84 rfl rfl)
  have ms72 := hw (.static Lib.Math.max.name) (wm3 45 rfl rfl)
  have mi72 := hw (.initialized "java/lang/Math") (wm1 14 rfl rfl)
  have mc72 := hw (.code Lib.Math.max.name Lib.Math.max.code 2 (some .int)) (wm3 46 rfl rfl)
  have ml91 := hw (.methodLink RX7 91 Lib.Math.min.name) (wm3 98 rfl rfl)
  have ms91 := hw (.static Lib.Math.min.name) (wm3 99 rfl rfl)
  have mi91 := hw (.initialized "java/lang/Math") (wm1 14 rfl rfl)
  have mc91 := hw (.code Lib.Math.min.name Lib.Math.min.code 2 (some .int)) (wm3 100 rfl rfl)
  have lk69 := hw (.fieldLink RX7 69 "OldWorks$Sizes" "base" "I") (wm1 174 rfl rfl)
  have lk77 := hw (.fieldLink RX7 77 "OldWorks$Sizes" "step" "I") (wm1 175 rfl rfl)
  have lk81 := hw (.fieldLink RX7 81 "OldWorks$Sizes" "last" "I") (wm1 176 rfl rfl)
  have lk98 := hw (.fieldLink RX7 98 "OldWorks$Sizes" "many" "I") (wm1 182 rfl rfl)
  have lk101 := hw (.fieldLink RX7 101 "OldWorks$Sizes" "least" "I") (wm1 178 rfl rfl)
  have lk104 := hw (.fieldLink RX7 104 "OldWorks$Sizes" "greatest" "I") (wm1 180 rfl rfl)
  rw [show (headSpec (wa yX7_chooseSizes cX7_chooseSizes 5 none) ({ frames := 1, cells := 0, slots := 0, locals := 32 } : Room)).room = ({ frames := 1, cells := 0, slots := 0, locals := 32 } : Room) from rfl]
  have hl := lv_entry ([.ref (ad 81)]) (n := 5) (Nat.le_of_ble_eq_true rfl)
  rw [show entryFrame m args 5 = entryFrame m ([.ref (ad 81)] : List Value).toArray 5 from by rw [hav], lg_entry_eq]
  generalize (lg_sl ([.ref (ad 81)]) ++ List.replicate (5 - (lg_sl ([.ref (ad 81)])).length) Slot.unset).toArray = ls at hl ⊢
  have hl : lv_has ls 5 [(0, .ref (ad 81))] := hl
  have B172 : ∀ (s1 : Int32) (h : HI) (g : HL) (H : Heap) (locs : List Loc) (ls : Array Slot), j_X7_chooseSizes_172 Q s1 h g → gG D cy ad (gA ad s.heap.size) s.heap h g H locs → lv_has ls 5 [] → W p l e ({ frames := 1, cells := 0, slots := 0, locals := 32 } : Room) s m args below meth c H locs 0 0 (MQ below (va_Qv (fun (u : HI × HL) => Q u.1 u.2) (gB D cy ad s.heap.size) (gA ad s.heap.size)) args s 0 0 (gA ad s.heap.size)) (F0 m 172 ls [.int s1, .ref (ad 81)]) := by
    intro s1 h g H locs ls HW hG hl
    unfold j_X7_chooseSizes_172 at HW
    refine g_put hx hb hw inG7 tyX7 tyX7_ok nmX7 hown hK hG gl_81 rfl gk_81 (by decide) 10 (by decide) (by rw [gm_81]; decide) gr_81_10 rfl (ty := .int) (by decide +kernel) rfl rfl lk104 dX7_chooseSizes_172 (fun H locs hG => ?_)
    obtain ⟨h_172, eh_172⟩ : ∃ y : HI, y = hu h 81 10 s1 := ⟨_, rfl⟩
    rw [← eh_172] at hG
    replace HW := HW h_172 eh_172
    exact W.vret hx hb hr (fun t ht hW => ⟨⟨(h_172, g), rfl, HW, g_B ht hG⟩, hG.2.2.F ht⟩) hG.2.2.2.2 dX7_chooseSizes_175
  have B145 : ∀ (x4 : Int32) (s1 : Int32) (h : HI) (g : HL) (H : Heap) (locs : List Loc) (ls : Array Slot), j_X7_chooseSizes_145 Q x4 s1 h g → gG D cy ad (gA ad s.heap.size) s.heap h g H locs → lv_has ls 5 [(0, .ref (ad 81)), (4, .int x4)] → W p l e ({ frames := 1, cells := 0, slots := 0, locals := 32 } : Room) s m args below meth c H locs 0 0 (MQ below (va_Qv (fun (u : HI × HL) => Q u.1 u.2) (gB D cy ad s.heap.size) (gA ad s.heap.size)) args s 0 0 (gA ad s.heap.size)) (F0 m 145 ls [.int s1, .ref (ad 81)]) := by
    intro x4 s1 h g H locs ls HW hG hl
    unfold j_X7_chooseSizes_145 at HW
    refine g_put hx hb hw inG7 tyX7 tyX7_ok nmX7 hown hK hG gl_81 rfl gk_81 (by decide) 9 (by decide) (by rw [gm_81]; decide) gr_81_9 rfl (ty := .int) (by decide +kernel) rfl rfl lk101 dX7_chooseSizes_145 (fun H locs hG => ?_)
    obtain ⟨h_145, eh_145⟩ : ∃ y : HI, y = hu h 81 9 s1 := ⟨_, rfl⟩
    rw [← eh_145] at hG
    replace HW := HW h_145 eh_145
    refine lv_aload_n hx hb dX7_chooseSizes_148 rfl (lv_at hl 0 rfl) ?_
    refine lv_aload_n hx hb dX7_chooseSizes_149 rfl (lv_at hl 0 rfl) ?_
    refine g_geti hx hb hw inG7 hown hK hG gl_81 rfl gk_81 (by decide) 11 (by decide) (by rw [gm_81]; decide) gr_81_11 lk98 dX7_chooseSizes_150 ?_
    refine lv_if_le (tgt := 171) hx hb dX7_chooseSizes_153 (by decide) (fun c_153 => ?_) (fun c_153 => ?_)
    · replace HW := HW.1 c_153
      refine lv_iconst (v := (-1)) hx hb dX7_chooseSizes_171 (by decide) ?_
      exact B172 (-1 : Int32) h_145 g _ _ _ HW hG (lv_sub hl [] rfl)
    · replace HW := HW.2 c_153
      refine lv_aload_n hx hb dX7_chooseSizes_156 rfl (lv_at hl 0 rfl) ?_
      refine g_geti hx hb hw inG7 hown hK hG gl_81 rfl gk_81 (by decide) 6 (by decide) (by rw [gm_81]; decide) gr_81_6 lk69 dX7_chooseSizes_157 ?_
      refine lv_iload hx hb dX7_chooseSizes_160 (lv_at hl 1 rfl) ?_
      refine lv_aload_n hx hb dX7_chooseSizes_162 rfl (lv_at hl 0 rfl) ?_
      refine g_geti hx hb hw inG7 hown hK hG gl_81 rfl gk_81 (by decide) 7 (by decide) (by rw [gm_81]; decide) gr_81_7 lk77 dX7_chooseSizes_163 ?_
      refine lv_imul hx hb dX7_chooseSizes_166 ?_
      refine lv_iadd hx hb dX7_chooseSizes_167 ?_
      refine lv_goto (tgt := 172) hx hb dX7_chooseSizes_168 (by decide) ?_
      exact B172 ((h_145 81 6) + (x4 * (h_145 81 7))) h_145 g _ _ _ HW hG (lv_sub hl [] rfl)
  have B106 : ∀ (x3 : Int32) (s0 : Int32) (h : HI) (g : HL) (H : Heap) (locs : List Loc) (ls : Array Slot), j_X7_chooseSizes_106 Q x3 s0 h g → gG D cy ad (gA ad s.heap.size) s.heap h g H locs → lv_has ls 5 [(0, .ref (ad 81)), (3, .int x3)] → W p l e ({ frames := 1, cells := 0, slots := 0, locals := 32 } : Room) s m args below meth c H locs 0 0 (MQ below (va_Qv (fun (u : HI × HL) => Q u.1 u.2) (gB D cy ad s.heap.size) (gA ad s.heap.size)) args s 0 0 (gA ad s.heap.size)) (F0 m 106 ls [.int s0]) := by
    intro x3 s0 h g H locs ls HW hG hl
    unfold j_X7_chooseSizes_106 at HW
    refine lv_istore (lv' := [(4, .int s0), (0, .ref (ad 81)), (3, .int x3)]) hx hb dX7_chooseSizes_106 hl (by decide) rfl (fun ls hl => ?_)
    refine lv_aload_n hx hb dX7_chooseSizes_108 rfl (lv_at hl 1 rfl) ?_
    refine lv_iconst (v := 0) hx hb dX7_chooseSizes_109 (by decide) ?_
    refine lv_iload hx hb dX7_chooseSizes_110 (lv_at hl 0 rfl) ?_
    refine lv_iload_n hx hb dX7_chooseSizes_112 rfl (lv_at hl 2 rfl) ?_
    refine lv_isub hx hb dX7_chooseSizes_113 ?_
    refine lv_iconst (v := 1) hx hb dX7_chooseSizes_114 (by decide) ?_
    refine lv_iadd hx hb dX7_chooseSizes_115 ?_
    refine va_mmax hx hb (hml.trans hl.1.symm) hown ml72 ms72 mi72 mc72 (by decide) (Nat.le_of_ble_eq_true rfl) (Nat.zero_le _) (Nat.zero_le _) dX7_chooseSizes_116 ?_
    refine g_put hx hb hw inG7 tyX7 tyX7_ok nmX7 hown hK hG gl_81 rfl gk_81 (by decide) 11 (by decide) (by rw [gm_81]; decide) gr_81_11 rfl (ty := .int) (by decide +kernel) rfl rfl lk98 dX7_chooseSizes_119 (fun H locs hG => ?_)
    obtain ⟨h_119, eh_119⟩ : ∃ y : HI, y = hu h 81 11 (if (0 : Int32) < ((s0 - x3) + (1 : Int32)) then ((s0 - x3) + (1 : Int32)) else (0 : Int32)) := ⟨_, rfl⟩
    rw [← eh_119] at hG
    replace HW := HW h_119 eh_119
    refine lv_aload_n hx hb dX7_chooseSizes_122 rfl (lv_at hl 1 rfl) ?_
    refine lv_aload_n hx hb dX7_chooseSizes_123 rfl (lv_at hl 1 rfl) ?_
    refine g_geti hx hb hw inG7 hown hK hG gl_81 rfl gk_81 (by decide) 11 (by decide) (by rw [gm_81]; decide) gr_81_11 lk98 dX7_chooseSizes_124 ?_
    refine lv_if_le (tgt := 144) hx hb dX7_chooseSizes_127 (by decide) (fun c_127 => ?_) (fun c_127 => ?_)
    · replace HW := HW.1 c_127
      refine lv_iconst (v := (-1)) hx hb dX7_chooseSizes_144 (by decide) ?_
      exact B145 s0 (-1 : Int32) h_119 g _ _ _ HW hG (lv_sub hl [1, 0] rfl)
    · replace HW := HW.2 c_127
      refine lv_aload_n hx hb dX7_chooseSizes_130 rfl (lv_at hl 1 rfl) ?_
      refine g_geti hx hb hw inG7 hown hK hG gl_81 rfl gk_81 (by decide) 6 (by decide) (by rw [gm_81]; decide) gr_81_6 lk69 dX7_chooseSizes_131 ?_
      refine lv_iload_n hx hb dX7_chooseSizes_134 rfl (lv_at hl 2 rfl) ?_
      refine lv_aload_n hx hb dX7_chooseSizes_135 rfl (lv_at hl 1 rfl) ?_
      refine g_geti hx hb hw inG7 hown hK hG gl_81 rfl gk_81 (by decide) 7 (by decide) (by rw [gm_81]; decide) gr_81_7 lk77 dX7_chooseSizes_136 ?_
      refine lv_imul hx hb dX7_chooseSizes_139 ?_
      refine lv_iadd hx hb dX7_chooseSizes_140 ?_
      refine lv_goto (tgt := 145) hx hb dX7_chooseSizes_141 (by decide) ?_
      exact B145 s0 ((h_119 81 6) + (x3 * (h_119 81 7))) h_119 g _ _ _ HW hG (lv_sub hl [1, 0] rfl)
  have B84 : ∀ (x3 : Int32) (h : HI) (g : HL) (H : Heap) (locs : List Loc) (ls : Array Slot), j_X7_chooseSizes_84 Q x3 h g → gG D cy ad (gA ad s.heap.size) s.heap h g H locs → lv_has ls 5 [(0, .ref (ad 81)), (3, .int x3)] → W p l e ({ frames := 1, cells := 0, slots := 0, locals := 32 } : Room) s m args below meth c H locs 0 0 (MQ below (va_Qv (fun (u : HI × HL) => Q u.1 u.2) (gB D cy ad s.heap.size) (gA ad s.heap.size)) args s 0 0 (gA ad s.heap.size)) (F0 m 84 ls []) := by
    intro x3 h g H locs ls HW hG hl
    unfold j_X7_chooseSizes_84 at HW
    refine lv_iconst (v := (-1)) hx hb dX7_chooseSizes_84 (by decide) ?_
    refine lv_goto (tgt := 106) hx hb dX7_chooseSizes_85 (by decide) ?_
    exact B106 x3 (-1 : Int32) h g _ _ _ HW hG (lv_sub hl [0, 1] rfl)
  have B62 : ∀ (x1 : Int32) (x2 : Int32) (h : HI) (g : HL) (H : Heap) (locs : List Loc) (ls : Array Slot), j_X7_chooseSizes_62 Q x1 x2 h g → gG D cy ad (gA ad s.heap.size) s.heap h g H locs → lv_has ls 5 [(0, .ref (ad 81)), (1, .int x1), (2, .int x2)] → W p l e ({ frames := 1, cells := 0, slots := 0, locals := 32 } : Room) s m args below meth c H locs 0 0 (MQ below (va_Qv (fun (u : HI × HL) => Q u.1 u.2) (gB D cy ad s.heap.size) (gA ad s.heap.size)) args s 0 0 (gA ad s.heap.size)) (F0 m 62 ls []) := by
    intro x1 x2 h g H locs ls HW hG hl
    unfold j_X7_chooseSizes_62 at HW
    refine lv_aload_n hx hb dX7_chooseSizes_62 rfl (lv_at hl 0 rfl) ?_
    refine lv_iload_n hx hb dX7_chooseSizes_63 rfl (lv_at hl 1 rfl) ?_
    obtain ⟨P_64, HC_64, HW⟩ := HW
    refine g_calli (g_runV (As := [.int x1]) (rest := []) ⟨hx, hb, hml, hown, hts⟩ (m_X7_placeFrom l D cy ad h g H.size x1 P_64 HC_64) (cwV 1 hts (gd_V (wm3 101 rfl rfl) (wm3 103 rfl rfl) (wmp1 (q := (yX7_placeFrom, 12)) 12 rfl) (wm1 5 rfl rfl) (wm3 104 rfl rfl)) rfl rfl rfl (by decide +kernel) ⟨Nat.le_of_ble_eq_true rfl, Nat.le_of_ble_eq_true rfl⟩) hK hNw hG gl_81 rfl gk_81 (by decide) rfl rfl hl.1 rfl (lv_room (Nat.le_of_ble_eq_true rfl)) dX7_chooseSizes_64 ⟨Nat.zero_le _, Nat.zero_le _⟩) hG (fun r_64 h_64 g_64 H locs hq hG => ?_)
    replace HW := HW r_64 h_64 g_64 hq
    refine lv_istore_n (lv' := [(3, .int r_64), (0, .ref (ad 81)), (1, .int x1), (2, .int x2)]) hx hb dX7_chooseSizes_67 rfl hl (by decide) rfl (fun ls hl => ?_)
    refine lv_iload_n hx hb dX7_chooseSizes_68 rfl (lv_at hl 3 rfl) ?_
    refine lv_aload_n hx hb dX7_chooseSizes_69 rfl (lv_at hl 1 rfl) ?_
    refine g_geti hx hb hw inG7 hown hK hG gl_81 rfl gk_81 (by decide) 6 (by decide) (by rw [gm_81]; decide) gr_81_6 lk69 dX7_chooseSizes_70 ?_
    refine lv_icmp_lt (tgt := 84) hx hb dX7_chooseSizes_73 (by decide) (fun c_73 => ?_) (fun c_73 => ?_)
    · replace HW := HW.1 c_73
      exact B84 r_64 h_64 g_64 _ _ _ HW hG (lv_sub hl [1, 0] rfl)
    · replace HW := HW.2 c_73
      refine lv_aload_n hx hb dX7_chooseSizes_76 rfl (lv_at hl 1 rfl) ?_
      refine g_geti hx hb hw inG7 hown hK hG gl_81 rfl gk_81 (by decide) 7 (by decide) (by rw [gm_81]; decide) gr_81_7 lk77 dX7_chooseSizes_77 ?_
      refine lv_iconst (v := 1) hx hb dX7_chooseSizes_80 (by decide) ?_
      refine lv_icmp_ge (tgt := 88) hx hb dX7_chooseSizes_81 (by decide) (fun c_81 => ?_) (fun c_81 => ?_)
      · replace HW := HW.1 c_81
        refine lv_aload_n hx hb dX7_chooseSizes_88 rfl (lv_at hl 1 rfl) ?_
        refine g_geti hx hb hw inG7 hown hK hG gl_81 rfl gk_81 (by decide) 8 (by decide) (by rw [gm_81]; decide) gr_81_8 lk81 dX7_chooseSizes_89 ?_
        refine lv_iload_n hx hb dX7_chooseSizes_92 rfl (lv_at hl 3 rfl) ?_
        refine lv_aload_n hx hb dX7_chooseSizes_93 rfl (lv_at hl 1 rfl) ?_
        refine g_geti hx hb hw inG7 hown hK hG gl_81 rfl gk_81 (by decide) 6 (by decide) (by rw [gm_81]; decide) gr_81_6 lk69 dX7_chooseSizes_94 ?_
        refine lv_isub hx hb dX7_chooseSizes_97 ?_
        refine lv_aload_n hx hb dX7_chooseSizes_98 rfl (lv_at hl 1 rfl) ?_
        refine g_geti hx hb hw inG7 hown hK hG gl_81 rfl gk_81 (by decide) 7 (by decide) (by rw [gm_81]; decide) gr_81_7 lk77 dX7_chooseSizes_99 ?_
        refine lv_idiv hx hb dX7_chooseSizes_102 HW.1 ?_
        replace HW := HW.2
        refine va_mmin hx hb (hml.trans hl.1.symm) hown ml91 ms91 mi91 mc91 (by decide) (Nat.le_of_ble_eq_true rfl) (Nat.zero_le _) (Nat.zero_le _) dX7_chooseSizes_103 ?_
        exact B106 r_64 (if ((x2 - (h_64 81 6)) / (h_64 81 7)) < (h_64 81 8) then ((x2 - (h_64 81 6)) / (h_64 81 7)) else (h_64 81 8)) h_64 g_64 _ _ _ HW hG (lv_sub hl [1, 0] rfl)
      · replace HW := HW.2 c_81
        exact B84 r_64 h_64 g_64 _ _ _ HW hG (lv_sub hl [1, 0] rfl)
  have L8 : ∀ (n : Nat) (x1 : Int32) (x2 : Int32) (x3 : Int32) (h : HI) (g : HL) (H : Heap) (locs : List Loc) (ls : Array Slot), lpN (F_X7_chooseSizes_8 Q) n (x1, x2, x3, h, g) → gG D cy ad (gA ad s.heap.size) s.heap h g H locs → lv_has ls 5 [(0, .ref (ad 81)), (1, .int x1), (2, .int x2), (3, .int x3)] → W p l e ({ frames := 1, cells := 0, slots := 0, locals := 32 } : Room) s m args below meth c H locs 0 0 (MQ below (va_Qv (fun (u : HI × HL) => Q u.1 u.2) (gB D cy ad s.heap.size) (gA ad s.heap.size)) args s 0 0 (gA ad s.heap.size)) (F0 m 8 ls []) := by
    intro n
    induction n with
    | zero => intro x1 x2 x3 h g H locs ls HW; exact HW.elim
    | succ n ih =>
      intro x1 x2 x3 h g H locs ls HW hG hl
      have HW : b_X7_chooseSizes_8 Q (fun x1 x2 x3 h g => lpN (F_X7_chooseSizes_8 Q) n (x1, x2, x3, h, g)) x1 x2 x3 h g := HW
      generalize hKe : (fun (x1 : Int32) (x2 : Int32) (x3 : Int32) (h : HI) (g : HL) => lpN (F_X7_chooseSizes_8 Q) n (x1, x2, x3, h, g)) = K8 at HW
      have hK8 : ∀ (x1 : Int32) (x2 : Int32) (x3 : Int32) (h : HI) (g : HL) (H : Heap) (locs : List Loc) (ls : Array Slot), K8 x1 x2 x3 h g → gG D cy ad (gA ad s.heap.size) s.heap h g H locs → lv_has ls 5 [(0, .ref (ad 81)), (1, .int x1), (2, .int x2), (3, .int x3)] → W p l e ({ frames := 1, cells := 0, slots := 0, locals := 32 } : Room) s m args below meth c H locs 0 0 (MQ below (va_Qv (fun (u : HI × HL) => Q u.1 u.2) (gB D cy ad s.heap.size) (gA ad s.heap.size)) args s 0 0 (gA ad s.heap.size)) (F0 m 8 ls []) := by subst hKe; exact ih
      clear ih
      clear hKe
      unfold b_X7_chooseSizes_8 at HW
      refine lv_iload_n hx hb dX7_chooseSizes_8 rfl (lv_at hl 3 rfl) ?_
      refine lv_aload_n hx hb dX7_chooseSizes_9 rfl (lv_at hl 0 rfl) ?_
      refine g_geti hx hb hw inG7 hown hK hG gl_81 rfl gk_81 (by decide) 5 (by decide) (by rw [gm_81]; decide) gr_81_5 lk45 dX7_chooseSizes_10 ?_
      refine lv_icmp_ge (tgt := 62) hx hb dX7_chooseSizes_13 (by decide) (fun c_13 => ?_) (fun c_13 => ?_)
      · replace HW := HW.1 c_13
        exact B62 x1 x2 h g _ _ _ HW hG (lv_sub hl [0, 1, 2] rfl)
      · replace HW := HW.2 c_13
        refine lv_iload_n hx hb dX7_chooseSizes_16 rfl (lv_at hl 3 rfl) ?_
        refine lv_aload_n hx hb dX7_chooseSizes_17 rfl (lv_at hl 0 rfl) ?_
        refine g_getr hx hb hw inG7 hown hK hG gl_81 rfl gk_81 (by decide) 2 (by decide) (by rw [gm_81]; decide) (r := 82) gr_81_2 lk19 dX7_chooseSizes_18 ?_
        refine g_alen hx hb hK hG gl_82 gk_82 (v := (60 : Int32)) (by rw [gn_82]; decide) dX7_chooseSizes_21 ?_
        refine lv_icmp_ge (tgt := 62) hx hb dX7_chooseSizes_22 (by decide) (fun c_22 => ?_) (fun c_22 => ?_)
        · replace HW := HW.1 c_22
          exact B62 x1 x2 h g _ _ _ HW hG (lv_sub hl [0, 1, 2] rfl)
        · replace HW := HW.2 c_22
          refine lv_iload_n hx hb dX7_chooseSizes_25 rfl (lv_at hl 3 rfl) ?_
          refine lv_aload_n hx hb dX7_chooseSizes_26 rfl (lv_at hl 0 rfl) ?_
          refine g_getr hx hb hw inG7 hown hK hG gl_81 rfl gk_81 (by decide) 3 (by decide) (by rw [gm_81]; decide) (r := 83) gr_81_3 lk23 dX7_chooseSizes_27 ?_
          refine g_alen hx hb hK hG gl_83 gk_83 (v := (60 : Int32)) (by rw [gn_83]; decide) dX7_chooseSizes_30 ?_
          refine lv_icmp_ge (tgt := 62) hx hb dX7_chooseSizes_31 (by decide) (fun c_31 => ?_) (fun c_31 => ?_)
          · replace HW := HW.1 c_31
            exact B62 x1 x2 h g _ _ _ HW hG (lv_sub hl [0, 1, 2] rfl)
          · replace HW := HW.2 c_31
            refine lv_iload_n hx hb dX7_chooseSizes_34 rfl (lv_at hl 1 rfl) ?_
            refine lv_aload_n hx hb dX7_chooseSizes_35 rfl (lv_at hl 0 rfl) ?_
            refine g_getr hx hb hw inG7 hown hK hG gl_81 rfl gk_81 (by decide) 2 (by decide) (by rw [gm_81]; decide) (r := 82) gr_81_2 lk19 dX7_chooseSizes_36 ?_
            refine lv_iload_n hx hb dX7_chooseSizes_39 rfl (lv_at hl 3 rfl) ?_
            refine g_iald hx hb hK hG gl_82 gk_82 gn_82 HW.1 dX7_chooseSizes_40 ?_
            replace HW := HW.2
            refine va_mmax hx hb (hml.trans hl.1.symm) hown ml72 ms72 mi72 mc72 (by decide) (Nat.le_of_ble_eq_true rfl) (Nat.zero_le _) (Nat.zero_le _) dX7_chooseSizes_41 ?_
            refine lv_topi (fun x1_44 ex1_44 => ?_)
            replace HW := HW x1_44 ex1_44
            refine lv_istore_n (lv' := [(1, .int x1_44), (0, .ref (ad 81)), (2, .int x2), (3, .int x3)]) hx hb dX7_chooseSizes_44 rfl hl (by decide) rfl (fun ls hl => ?_)
            refine lv_iload_n hx hb dX7_chooseSizes_45 rfl (lv_at hl 2 rfl) ?_
            refine lv_aload_n hx hb dX7_chooseSizes_46 rfl (lv_at hl 1 rfl) ?_
            refine g_getr hx hb hw inG7 hown hK hG gl_81 rfl gk_81 (by decide) 3 (by decide) (by rw [gm_81]; decide) (r := 83) gr_81_3 lk23 dX7_chooseSizes_47 ?_
            refine lv_iload_n hx hb dX7_chooseSizes_50 rfl (lv_at hl 3 rfl) ?_
            refine g_iald hx hb hK hG gl_83 gk_83 gn_83 HW.1 dX7_chooseSizes_51 ?_
            replace HW := HW.2
            refine va_mmin hx hb (hml.trans hl.1.symm) hown ml91 ms91 mi91 mc91 (by decide) (Nat.le_of_ble_eq_true rfl) (Nat.zero_le _) (Nat.zero_le _) dX7_chooseSizes_52 ?_
            refine lv_topi (fun x2_55 ex2_55 => ?_)
            replace HW := HW x2_55 ex2_55
            refine lv_istore_n (lv' := [(2, .int x2_55), (1, .int x1_44), (0, .ref (ad 81)), (3, .int x3)]) hx hb dX7_chooseSizes_55 rfl hl (by decide) rfl (fun ls hl => ?_)
            obtain ⟨x3_56, ex3_56⟩ : ∃ y : Int32, y = (x3 + 1) := ⟨_, rfl⟩
            replace HW := HW x3_56 ex3_56
            refine lv_iinc (v := x3_56) (lv' := [(3, .int x3_56), (2, .int x2_55), (1, .int x1_44), (0, .ref (ad 81))]) hx hb dX7_chooseSizes_56 hl (k := 3) rfl (by rw [ex3_56]; rfl) (by decide) rfl (fun ls hl => ?_)
            refine lv_goto (tgt := 8) hx hb dX7_chooseSizes_59 (by decide) ?_
            exact hK8 x1_44 x2_55 x3_56 h g _ _ _ HW hG (lv_sub hl [3, 2, 1, 0] rfl)
  have E0 : ∀ (H : Heap) (locs : List Loc) (ls : Array Slot), gG D cy ad (gA ad s.heap.size) s.heap h g H locs → lv_has ls 5 [(0, .ref (ad 81))] → W p l e ({ frames := 1, cells := 0, slots := 0, locals := 32 } : Room) s m args below meth c H locs 0 0 (MQ below (va_Qv (fun (u : HI × HL) => Q u.1 u.2) (gB D cy ad s.heap.size) (gA ad s.heap.size)) args s 0 0 (gA ad s.heap.size)) (F0 m 0 ls []) := by
    intro H locs ls hG hl
    unfold w_X7_chooseSizes at HW
    refine lv_ldc (v := (-1000000)) hx hb hown cn89 dX7_chooseSizes_0 ?_
    refine lv_istore_n (lv' := [(1, .int (-1000000 : Int32)), (0, .ref (ad 81))]) hx hb dX7_chooseSizes_2 rfl hl (by decide) rfl (fun ls hl => ?_)
    refine lv_ldc (v := 1000000) hx hb hown cn90 dX7_chooseSizes_3 ?_
    refine lv_istore_n (lv' := [(2, .int (1000000 : Int32)), (1, .int (-1000000 : Int32)), (0, .ref (ad 81))]) hx hb dX7_chooseSizes_5 rfl hl (by decide) rfl (fun ls hl => ?_)
    refine lv_iconst (v := 0) hx hb dX7_chooseSizes_6 (by decide) ?_
    refine lv_istore_n (lv' := [(3, .int (0 : Int32)), (2, .int (1000000 : Int32)), (1, .int (-1000000 : Int32)), (0, .ref (ad 81))]) hx hb dX7_chooseSizes_7 rfl hl (by decide) rfl (fun ls hl => ?_)
    obtain ⟨n_8, HW⟩ := HW
    exact L8 n_8 (-1000000 : Int32) (1000000 : Int32) (0 : Int32) h g _ _ _ HW hG (lv_sub hl [3, 2, 1, 0] rfl)
  exact E0 _ _ _ hG hl

def j_X7_find_110 (Q : HI → HL → Prop) (K23 : Int32 → Int32 → HI → HL → Prop) (x1 : Int32) (x2 : Int32) (h : HI) (g : HL) : Prop :=
  (∀ x2_110 : Int32, x2_110 = (x2 + 1) → K23 x1 x2_110 h g)
def j_X7_find_73 (Q : HI → HL → Prop) (K23 : Int32 → Int32 → HI → HL → Prop) (x1 : Int32) (x2 : Int32) (s0 : Int32) (h : HI) (g : HL) : Prop :=
  ((s0 = 0 → j_X7_find_110 Q K23 x1 x2 h g) ∧ (¬ s0 = 0 → (((60 : Int32) ≤ (h 81 5) → j_X7_find_110 Q K23 x1 x2 h g) ∧ (¬ (60 : Int32) ≤ (h 81 5) → (∃ P_97 : HI → HL → Prop, w_X7_allow x1 x2 (h 81 5) h g P_97 ∧ ∀ (h_97 : HI) (g_97 : HL), P_97 h_97 g_97 → (∀ h_107 : HI, h_107 = hu h_97 81 5 ((h_97 81 5) + (1 : Int32)) → j_X7_find_110 Q K23 x1 x2 h_107 g_97))))))
def j_X7_find_72 (Q : HI → HL → Prop) (K23 : Int32 → Int32 → HI → HL → Prop) (x1 : Int32) (x2 : Int32) (h : HI) (g : HL) : Prop :=
  j_X7_find_73 Q K23 x1 x2 (0 : Int32) h g
def b_X7_find_23 (Q : HI → HL → Prop) (K23 : Int32 → Int32 → HI → HL → Prop) (x1 : Int32) (x2 : Int32) (h : HI) (g : HL) : Prop :=
  (∃ P_31 : Int32 → HI → HL → Prop, w_X8_rows 6 h g P_31 ∧ ∀ (r_31 : Int32) (h_31 : HI) (g_31 : HL), P_31 r_31 h_31 g_31 → ((r_31 ≤ x2 → (∃ P_117 : HI → HL → Prop, w_X7_chooseSizes h_31 g_31 P_117 ∧ ∀ (h_117 : HI) (g_117 : HL), P_117 h_117 g_117 → Q h_117 g_117)) ∧ (¬ r_31 ≤ x2 → (∃ P_46 : Int32 → HI → HL → Prop, w_X8_at 6 x2 (0 : Int32) h_31 g_31 P_46 ∧ ∀ (r_46 : Int32) (h_46 : HI) (g_46 : HL), P_46 r_46 h_46 g_46 → ((¬ r_46 = x1 → j_X7_find_72 Q K23 x1 x2 h_46 g_46) ∧ (r_46 = x1 → (∃ P_62 : Int32 → HI → HL → Prop, w_X8_at 6 x2 (5 : Int32) h_46 g_46 P_62 ∧ ∀ (r_62 : Int32) (h_62 : HI) (g_62 : HL), P_62 r_62 h_62 g_62 → ((¬ r_62 = 0 → j_X7_find_72 Q K23 x1 x2 h_62 g_62) ∧ (r_62 = 0 → j_X7_find_73 Q K23 x1 x2 (1 : Int32) h_62 g_62)))))))))
def F_X7_find_23 (Q : HI → HL → Prop) (K : Int32 × Int32 × HI × HL → Prop) (q : Int32 × Int32 × HI × HL) : Prop := b_X7_find_23 Q (fun x1 x2 h g => K (x1, x2, h, g)) q.1 q.2.1 q.2.2.1 q.2.2.2
def w_X7_find (x1 : Int32) (h : HI) (g : HL) (Q : HI → HL → Prop) : Prop :=
  (∃ P_10 : Int32 → HI → HL → Prop, w_X8_at 2 x1 (3 : Int32) h g P_10 ∧ ∀ (r_10 : Int32) (h_10 : HI) (g_10 : HL), P_10 r_10 h_10 g_10 → (∃ P_13 : HI → HL → Prop, w_X7_chooseFamily r_10 h_10 g_10 P_13 ∧ ∀ (h_13 : HI) (g_13 : HL), P_13 h_13 g_13 → (∀ h_18 : HI, h_18 = hu h_13 81 5 (0 : Int32) → lpE (F_X7_find_23 Q) (x1, (0 : Int32), h_18, g_13))))
set_option maxHeartbeats 8000000 in
set_option maxRecDepth 100000 in
theorem m_X7_find (l : Launch) (D : va_G) (cy : Nat → ClassId) (ad : Nat → Nat) (h : HI) (g : HL) (sz : Nat) (x1 : Int32) (Q : HI → HL → Prop) (HW : w_X7_find x1 h g Q) : Met l yX7_find (wa yX7_find cX7_find 4 none) ({ frames := 4, cells := 0, slots := 0, locals := 101 }) (va_Pc [.ref (ad 81), .int x1] (gI D cy ad h g sz)) (va_Qv (fun (u : HI × HL) => Q u.1 u.2) (gB D cy ad sz) (gA ad sz)) 0 0 (gA ad sz) := by
  refine Met.ofW (cc := cX7_find) (maxL := 4) (ret := none) (by decide) rfl ?_
  intro p e s m args below meth c s₁ B hml hv
  obtain ⟨hav, hsz, hP, hK, hD0, hNw⟩ := hv
  have hx := B.exec
  have hb := B.bytes
  have hr := B.returns
  have hts := atoms_spec (ws := (wa yX7_find cX7_find 4 none)) B.pre
  have hw := wa_hw hts
  have hown : s.vm.findClass RX7 = some m.cls := findClass_of_methodNamed B.named
  have hlocks := B.notSynchronized
  subst hsz
  have hG : gG D cy ad (gA ad s.heap.size) s.heap h g s.heap [] := ⟨hP, gA_self hD0, va_S.rf⟩
  clear hP hD0
  have lk9 := hw (.fieldLink RX7 9 "OldWorks$Sizes" "shop" "LOldWorks$Shop;") (wm1 168 rfl rfl)
  have lk29 := hw (.fieldLink RX7 29 "OldWorks$Shop" "parts" "LOldWorks$Table;") (wm1 61 rfl rfl)
  have lk45 := hw (.fieldLink RX7 45 "OldWorks$Sizes" "said" "I") (wm1 173 rfl rfl)
  have lk49 := hw (.fieldLink RX7 49 "OldWorks$Shop" "sayings" "LOldWorks$Table;") (wm1 69 rfl rfl)
  have lk26 := hw (.fieldLink RX7 26 "OldWorks$Sizes" "sayings" "[I") (wm1 172 rfl rfl)
  rw [show (headSpec (wa yX7_find cX7_find 4 none) ({ frames := 4, cells := 0, slots := 0, locals := 101 } : Room)).room = ({ frames := 4, cells := 0, slots := 0, locals := 101 } : Room) from rfl]
  have hl := lv_entry ([.ref (ad 81), .int x1]) (n := 4) (Nat.le_of_ble_eq_true rfl)
  rw [show entryFrame m args 4 = entryFrame m ([.ref (ad 81), .int x1] : List Value).toArray 4 from by rw [hav], lg_entry_eq]
  generalize (lg_sl ([.ref (ad 81), .int x1]) ++ List.replicate (4 - (lg_sl ([.ref (ad 81), .int x1])).length) Slot.unset).toArray = ls at hl ⊢
  have hl : lv_has ls 4 [(0, .ref (ad 81)), (1, .int x1)] := hl
  have B110 : ∀ (K23 : Int32 → Int32 → HI → HL → Prop) (hK23 : ∀ (x1 : Int32) (x2 : Int32) (h : HI) (g : HL) (H : Heap) (locs : List Loc) (ls : Array Slot), K23 x1 x2 h g → gG D cy ad (gA ad s.heap.size) s.heap h g H locs → lv_has ls 4 [(0, .ref (ad 81)), (1, .int x1), (2, .int x2)] → W p l e ({ frames := 4, cells := 0, slots := 0, locals := 101 } : Room) s m args below meth c H locs 0 0 (MQ below (va_Qv (fun (u : HI × HL) => Q u.1 u.2) (gB D cy ad s.heap.size) (gA ad s.heap.size)) args s 0 0 (gA ad s.heap.size)) (F0 m 23 ls [])) (x1 : Int32) (x2 : Int32) (h : HI) (g : HL) (H : Heap) (locs : List Loc) (ls : Array Slot), j_X7_find_110 Q K23 x1 x2 h g → gG D cy ad (gA ad s.heap.size) s.heap h g H locs → lv_has ls 4 [(0, .ref (ad 81)), (1, .int x1), (2, .int x2)] → W p l e ({ frames := 4, cells := 0, slots := 0, locals := 101 } : Room) s m args below meth c H locs 0 0 (MQ below (va_Qv (fun (u : HI × HL) => Q u.1 u.2) (gB D cy ad s.heap.size) (gA ad s.heap.size)) args s 0 0 (gA ad s.heap.size)) (F0 m 110 ls []) := by
    intro K23 hK23 x1 x2 h g H locs ls HW hG hl
    unfold j_X7_find_110 at HW
    obtain ⟨x2_110, ex2_110⟩ : ∃ y : Int32, y = (x2 + 1) := ⟨_, rfl⟩
    replace HW := HW x2_110 ex2_110
    refine lv_iinc (v := x2_110) (lv' := [(2, .int x2_110), (0, .ref (ad 81)), (1, .int x1)]) hx hb dX7_find_110 hl (k := 2) rfl (by rw [ex2_110]; rfl) (by decide) rfl (fun ls hl => ?_)
    refine lv_goto (tgt := 23) hx hb dX7_find_113 (by decide) ?_
    exact hK23 x1 x2_110 h g _ _ _ HW hG (lv_sub hl [1, 2, 0] rfl)
  have B73 : ∀ (K23 : Int32 → Int32 → HI → HL → Prop) (hK23 : ∀ (x1 : Int32) (x2 : Int32) (h : HI) (g : HL) (H : Heap) (locs : List Loc) (ls : Array Slot), K23 x1 x2 h g → gG D cy ad (gA ad s.heap.size) s.heap h g H locs → lv_has ls 4 [(0, .ref (ad 81)), (1, .int x1), (2, .int x2)] → W p l e ({ frames := 4, cells := 0, slots := 0, locals := 101 } : Room) s m args below meth c H locs 0 0 (MQ below (va_Qv (fun (u : HI × HL) => Q u.1 u.2) (gB D cy ad s.heap.size) (gA ad s.heap.size)) args s 0 0 (gA ad s.heap.size)) (F0 m 23 ls [])) (x1 : Int32) (x2 : Int32) (s0 : Int32) (h : HI) (g : HL) (H : Heap) (locs : List Loc) (ls : Array Slot), j_X7_find_73 Q K23 x1 x2 s0 h g → gG D cy ad (gA ad s.heap.size) s.heap h g H locs → lv_has ls 4 [(0, .ref (ad 81)), (1, .int x1), (2, .int x2)] → W p l e ({ frames := 4, cells := 0, slots := 0, locals := 101 } : Room) s m args below meth c H locs 0 0 (MQ below (va_Qv (fun (u : HI × HL) => Q u.1 u.2) (gB D cy ad s.heap.size) (gA ad s.heap.size)) args s 0 0 (gA ad s.heap.size)) (F0 m 73 ls [.int s0]) := by
    intro K23 hK23 x1 x2 s0 h g H locs ls HW hG hl
    unfold j_X7_find_73 at HW
    refine lv_istore_n (lv' := [(3, .int s0), (0, .ref (ad 81)), (1, .int x1), (2, .int x2)]) hx hb dX7_find_73 rfl hl (by decide) rfl (fun ls hl => ?_)
    refine lv_iload_n hx hb dX7_find_74 rfl (lv_at hl 0 rfl) ?_
    refine lv_if_eq (tgt := 110) hx hb dX7_find_75 (by decide) (fun c_75 => ?_) (fun c_75 => ?_)
    · replace HW := HW.1 c_75
      exact B110 K23 hK23 x1 x2 h g _ _ _ HW hG (lv_sub hl [1, 2, 3] rfl)
    · replace HW := HW.2 c_75
      refine lv_aload_n hx hb dX7_find_78 rfl (lv_at hl 1 rfl) ?_
      refine g_geti hx hb hw inG7 hown hK hG gl_81 rfl gk_81 (by decide) 5 (by decide) (by rw [gm_81]; decide) gr_81_5 lk45 dX7_find_79 ?_
      refine lv_aload_n hx hb dX7_find_82 rfl (lv_at hl 1 rfl) ?_
      refine g_getr hx hb hw inG7 hown hK hG gl_81 rfl gk_81 (by decide) 4 (by decide) (by rw [gm_81]; decide) (r := 84) gr_81_4 lk26 dX7_find_83 ?_
      refine g_alen hx hb hK hG gl_84 gk_84 (v := (60 : Int32)) (by rw [gn_84]; decide) dX7_find_86 ?_
      refine lv_icmp_ge (tgt := 110) hx hb dX7_find_87 (by decide) (fun c_87 => ?_) (fun c_87 => ?_)
      · replace HW := HW.1 c_87
        exact B110 K23 hK23 x1 x2 h g _ _ _ HW hG (lv_sub hl [1, 2, 3] rfl)
      · replace HW := HW.2 c_87
        refine lv_aload_n hx hb dX7_find_90 rfl (lv_at hl 1 rfl) ?_
        refine lv_iload_n hx hb dX7_find_91 rfl (lv_at hl 2 rfl) ?_
        refine lv_iload_n hx hb dX7_find_92 rfl (lv_at hl 3 rfl) ?_
        refine lv_aload_n hx hb dX7_find_93 rfl (lv_at hl 1 rfl) ?_
        refine g_geti hx hb hw inG7 hown hK hG gl_81 rfl gk_81 (by decide) 5 (by decide) (by rw [gm_81]; decide) gr_81_5 lk45 dX7_find_94 ?_
        obtain ⟨P_97, HC_97, HW⟩ := HW
        refine g_callv (g_runV (As := [.int x1, .int x2, .int (h 81 5)]) (rest := []) ⟨hx, hb, hml, hown, hts⟩ (m_X7_allow l D cy ad h g H.size x1 x2 (h 81 5) P_97 HC_97) (cwV 3 hts (gd_V (wm3 87 rfl rfl) (wm3 89 rfl rfl) (wmp1 (q := (yX7_allow, 12)) 10 rfl) (wm1 5 rfl rfl) (wm3 90 rfl rfl)) rfl rfl rfl (by decide +kernel) ⟨Nat.le_of_ble_eq_true rfl, Nat.le_of_ble_eq_true rfl⟩) hK hNw hG gl_81 rfl gk_81 (by decide) rfl rfl hl.1 rfl (lv_room (Nat.le_of_ble_eq_true rfl)) dX7_find_97 ⟨Nat.zero_le _, Nat.zero_le _⟩) hG (fun h_97 g_97 H locs hq hG => ?_)
        replace HW := HW h_97 g_97 hq
        refine lv_aload_n hx hb dX7_find_100 rfl (lv_at hl 1 rfl) ?_
        refine lv_dup hx hb dX7_find_101 rfl ?_
        refine g_geti hx hb hw inG7 hown hK hG gl_81 rfl gk_81 (by decide) 5 (by decide) (by rw [gm_81]; decide) gr_81_5 lk45 dX7_find_102 ?_
        refine lv_iconst (v := 1) hx hb dX7_find_105 (by decide) ?_
        refine lv_iadd hx hb dX7_find_106 ?_
        refine g_put hx hb hw inG7 tyX7 tyX7_ok nmX7 hown hK hG gl_81 rfl gk_81 (by decide) 5 (by decide) (by rw [gm_81]; decide) gr_81_5 rfl (ty := .int) (by decide +kernel) rfl rfl lk45 dX7_find_107 (fun H locs hG => ?_)
        obtain ⟨h_107, eh_107⟩ : ∃ y : HI, y = hu h_97 81 5 ((h_97 81 5) + (1 : Int32)) := ⟨_, rfl⟩
        rw [← eh_107] at hG
        replace HW := HW h_107 eh_107
        exact B110 K23 hK23 x1 x2 h_107 g_97 _ _ _ HW hG (lv_sub hl [1, 2, 3] rfl)
  have B72 : ∀ (K23 : Int32 → Int32 → HI → HL → Prop) (hK23 : ∀ (x1 : Int32) (x2 : Int32) (h : HI) (g : HL) (H : Heap) (locs : List Loc) (ls : Array Slot), K23 x1 x2 h g → gG D cy ad (gA ad s.heap.size) s.heap h g H locs → lv_has ls 4 [(0, .ref (ad 81)), (1, .int x1), (2, .int x2)] → W p l e ({ frames := 4, cells := 0, slots := 0, locals := 101 } : Room) s m args below meth c H locs 0 0 (MQ below (va_Qv (fun (u : HI × HL) => Q u.1 u.2) (gB D cy ad s.heap.size) (gA ad s.heap.size)) args s 0 0 (gA ad s.heap.size)) (F0 m 23 ls [])) (x1 : Int32) (x2 : Int32) (h : HI) (g : HL) (H : Heap) (locs : List Loc) (ls : Array Slot), j_X7_find_72 Q K23 x1 x2 h g → gG D cy ad (gA ad s.heap.size) s.heap h g H locs → lv_has ls 4 [(0, .ref (ad 81)), (1, .int x1), (2, .int x2)] → W p l e ({ frames := 4, cells := 0, slots := 0, locals := 101 } : Room) s m args below meth c H locs 0 0 (MQ below (va_Qv (fun (u : HI × HL) => Q u.1 u.2) (gB D cy ad s.heap.size) (gA ad s.heap.size)) args s 0 0 (gA ad s.heap.size)) (F0 m 72 ls []) := by
    intro K23 hK23 x1 x2 h g H locs ls HW hG hl
    unfold j_X7_find_72 at HW
    refine lv_iconst (v := 0) hx hb dX7_find_72 (by decide) ?_
    exact B73 K23 hK23 x1 x2 (0 : Int32) h g _ _ _ HW hG (lv_sub hl [0, 1, 2] rfl)
  have L23 : ∀ (n : Nat) (x1 : Int32) (x2 : Int32) (h : HI) (g : HL) (H : Heap) (locs : List Loc) (ls : Array Slot), lpN (F_X7_find_23 Q) n (x1, x2, h, g) → gG D cy ad (gA ad s.heap.size) s.heap h g H locs → lv_has ls 4 [(0, .ref (ad 81)), (1, .int x1), (2, .int x2)] → W p l e ({ frames := 4, cells := 0, slots := 0, locals := 101 } : Room) s m args below meth c H locs 0 0 (MQ below (va_Qv (fun (u : HI × HL) => Q u.1 u.2) (gB D cy ad s.heap.size) (gA ad s.heap.size)) args s 0 0 (gA ad s.heap.size)) (F0 m 23 ls []) := by
    intro n
    induction n with
    | zero => intro x1 x2 h g H locs ls HW; exact HW.elim
    | succ n ih =>
      intro x1 x2 h g H locs ls HW hG hl
      have HW : b_X7_find_23 Q (fun x1 x2 h g => lpN (F_X7_find_23 Q) n (x1, x2, h, g)) x1 x2 h g := HW
      generalize hKe : (fun (x1 : Int32) (x2 : Int32) (h : HI) (g : HL) => lpN (F_X7_find_23 Q) n (x1, x2, h, g)) = K23 at HW
      have hK23 : ∀ (x1 : Int32) (x2 : Int32) (h : HI) (g : HL) (H : Heap) (locs : List Loc) (ls : Array Slot), K23 x1 x2 h g → gG D cy ad (gA ad s.heap.size) s.heap h g H locs → lv_has ls 4 [(0, .ref (ad 81)), (1, .int x1), (2, .int x2)] → W p l e ({ frames := 4, cells := 0, slots := 0, locals := 101 } : Room) s m args below meth c H locs 0 0 (MQ below (va_Qv (fun (u : HI × HL) => Q u.1 u.2) (gB D cy ad s.heap.size) (gA ad s.heap.size)) args s 0 0 (gA ad s.heap.size)) (F0 m 23 ls []) := by subst hKe; exact ih
      clear ih
      clear hKe
      unfold b_X7_find_23 at HW
      refine lv_iload_n hx hb dX7_find_23 rfl (lv_at hl 2 rfl) ?_
      refine lv_aload_n hx hb dX7_find_24 rfl (lv_at hl 0 rfl) ?_
      refine g_getr hx hb hw inG7 hown hK hG gl_81 rfl gk_81 (by decide) 0 (by decide) (by rw [gm_81]; decide) (r := 1) gr_81_0 lk9 dX7_find_25 ?_
      refine g_getr hx hb hw inG6 hown hK hG gl_1 rfl gk_1 (by decide) 2 (by decide) (by rw [gm_1]; decide) (r := 6) gr_1_2 lk49 dX7_find_28 ?_
      obtain ⟨P_31, HC_31, HW⟩ := HW
      refine g_calli (g_runV (As := []) (rest := [.int x2]) ⟨hx, hb, hml, hown, hts⟩ (m_X8_rows l D cy ad h g H.size 6 (gs_6) P_31 HC_31) (cwV 0 hts (gd_V (wm3 86 rfl rfl) (wm2 217 rfl rfl) (wm2 218 rfl rfl) (wm1 3 rfl rfl) (wm2 219 rfl rfl)) rfl rfl rfl (by decide +kernel) ⟨Nat.le_of_ble_eq_true rfl, Nat.le_of_ble_eq_true rfl⟩) hK hNw hG gl_6 rfl gk_6 (by decide) rfl rfl hl.1 rfl (lv_room (Nat.le_of_ble_eq_true rfl)) dX7_find_31 ⟨Nat.zero_le _, Nat.zero_le _⟩) hG (fun r_31 h_31 g_31 H locs hq hG => ?_)
      replace HW := HW r_31 h_31 g_31 hq
      refine lv_icmp_ge (tgt := 116) hx hb dX7_find_34 (by decide) (fun c_34 => ?_) (fun c_34 => ?_)
      · replace HW := HW.1 c_34
        refine lv_aload_n hx hb dX7_find_116 rfl (lv_at hl 0 rfl) ?_
        obtain ⟨P_117, HC_117, HW⟩ := HW
        refine g_callv (g_runV (As := []) (rest := []) ⟨hx, hb, hml, hown, hts⟩ (m_X7_chooseSizes l D cy ad h_31 g_31 H.size  P_117 HC_117) (cwV 0 hts (gd_V (wm3 94 rfl rfl) (wm3 96 rfl rfl) (wmp1 (q := (yX7_chooseSizes, 12)) 11 rfl) (wm1 5 rfl rfl) (wm3 97 rfl rfl)) rfl rfl rfl (by decide +kernel) ⟨Nat.le_of_ble_eq_true rfl, Nat.le_of_ble_eq_true rfl⟩) hK hNw hG gl_81 rfl gk_81 (by decide) rfl rfl hl.1 rfl (lv_room (Nat.le_of_ble_eq_true rfl)) dX7_find_117 ⟨Nat.zero_le _, Nat.zero_le _⟩) hG (fun h_117 g_117 H locs hq hG => ?_)
        replace HW := HW h_117 g_117 hq
        exact W.vret hx hb hr (fun t ht hW => ⟨⟨(h_117, g_117), rfl, HW, g_B ht hG⟩, hG.2.2.F ht⟩) hG.2.2.2.2 dX7_find_120
      · replace HW := HW.2 c_34
        refine lv_aload_n hx hb dX7_find_37 rfl (lv_at hl 0 rfl) ?_
        refine g_getr hx hb hw inG7 hown hK hG gl_81 rfl gk_81 (by decide) 0 (by decide) (by rw [gm_81]; decide) (r := 1) gr_81_0 lk9 dX7_find_38 ?_
        refine g_getr hx hb hw inG6 hown hK hG gl_1 rfl gk_1 (by decide) 2 (by decide) (by rw [gm_1]; decide) (r := 6) gr_1_2 lk49 dX7_find_41 ?_
        refine lv_iload_n hx hb dX7_find_44 rfl (lv_at hl 2 rfl) ?_
        refine lv_iconst (v := 0) hx hb dX7_find_45 (by decide) ?_
        obtain ⟨P_46, HC_46, HW⟩ := HW
        refine g_calli (g_runV (As := [.int x2, .int (0 : Int32)]) (rest := []) ⟨hx, hb, hml, hown, hts⟩ (m_X8_at l D cy ad h_31 g_31 H.size 6 (gs_6) x2 (0 : Int32) P_46 HC_46) (cwV 2 hts (gd_V (wm3 78 rfl rfl) (wm2 221 rfl rfl) (wm2 222 rfl rfl) (wm1 3 rfl rfl) (wm2 223 rfl rfl)) rfl rfl rfl (by decide +kernel) ⟨Nat.le_of_ble_eq_true rfl, Nat.le_of_ble_eq_true rfl⟩) hK hNw hG gl_6 rfl gk_6 (by decide) rfl rfl hl.1 rfl (lv_room (Nat.le_of_ble_eq_true rfl)) dX7_find_46 ⟨Nat.zero_le _, Nat.zero_le _⟩) hG (fun r_46 h_46 g_46 H locs hq hG => ?_)
        replace HW := HW r_46 h_46 g_46 hq
        refine lv_iload_n hx hb dX7_find_49 rfl (lv_at hl 1 rfl) ?_
        refine lv_icmp_ne (tgt := 72) hx hb dX7_find_50 (by decide) (fun c_50 => ?_) (fun c_50 => ?_)
        · replace HW := HW.1 c_50
          exact B72 K23 hK23 x1 x2 h_46 g_46 _ _ _ HW hG (lv_sub hl [0, 1, 2] rfl)
        · replace HW := HW.2 c_50
          refine lv_aload_n hx hb dX7_find_53 rfl (lv_at hl 0 rfl) ?_
          refine g_getr hx hb hw inG7 hown hK hG gl_81 rfl gk_81 (by decide) 0 (by decide) (by rw [gm_81]; decide) (r := 1) gr_81_0 lk9 dX7_find_54 ?_
          refine g_getr hx hb hw inG6 hown hK hG gl_1 rfl gk_1 (by decide) 2 (by decide) (by rw [gm_1]; decide) (r := 6) gr_1_2 lk49 dX7_find_57 ?_
          refine lv_iload_n hx hb dX7_find_60 rfl (lv_at hl 2 rfl) ?_
          refine lv_iconst (v := 5) hx hb dX7_find_61 (by decide) ?_
          obtain ⟨P_62, HC_62, HW⟩ := HW
          refine g_calli (g_runV (As := [.int x2, .int (5 : Int32)]) (rest := []) ⟨hx, hb, hml, hown, hts⟩ (m_X8_at l D cy ad h_46 g_46 H.size 6 (gs_6) x2 (5 : Int32) P_62 HC_62) (cwV 2 hts (gd_V (wm3 78 rfl rfl) (wm2 221 rfl rfl) (wm2 222 rfl rfl) (wm1 3 rfl rfl) (wm2 223 rfl rfl)) rfl rfl rfl (by decide +kernel) ⟨Nat.le_of_ble_eq_true rfl, Nat.le_of_ble_eq_true rfl⟩) hK hNw hG gl_6 rfl gk_6 (by decide) rfl rfl hl.1 rfl (lv_room (Nat.le_of_ble_eq_true rfl)) dX7_find_62 ⟨Nat.zero_le _, Nat.zero_le _⟩) hG (fun r_62 h_62 g_62 H locs hq hG => ?_)
          replace HW := HW r_62 h_62 g_62 hq
          refine lv_if_ne (tgt := 72) hx hb dX7_find_65 (by decide) (fun c_65 => ?_) (fun c_65 => ?_)
          · replace HW := HW.1 c_65
            exact B72 K23 hK23 x1 x2 h_62 g_62 _ _ _ HW hG (lv_sub hl [0, 1, 2] rfl)
          · replace HW := HW.2 c_65
            refine lv_iconst (v := 1) hx hb dX7_find_68 (by decide) ?_
            refine lv_goto (tgt := 73) hx hb dX7_find_69 (by decide) ?_
            exact B73 K23 hK23 x1 x2 (1 : Int32) h_62 g_62 _ _ _ HW hG (lv_sub hl [0, 1, 2] rfl)
  have E0 : ∀ (H : Heap) (locs : List Loc) (ls : Array Slot), gG D cy ad (gA ad s.heap.size) s.heap h g H locs → lv_has ls 4 [(0, .ref (ad 81)), (1, .int x1)] → W p l e ({ frames := 4, cells := 0, slots := 0, locals := 101 } : Room) s m args below meth c H locs 0 0 (MQ below (va_Qv (fun (u : HI × HL) => Q u.1 u.2) (gB D cy ad s.heap.size) (gA ad s.heap.size)) args s 0 0 (gA ad s.heap.size)) (F0 m 0 ls []) := by
    intro H locs ls hG hl
    unfold w_X7_find at HW
    refine lv_aload_n hx hb dX7_find_0 rfl (lv_at hl 0 rfl) ?_
    refine lv_aload_n hx hb dX7_find_1 rfl (lv_at hl 0 rfl) ?_
    refine g_getr hx hb hw inG7 hown hK hG gl_81 rfl gk_81 (by decide) 0 (by decide) (by rw [gm_81]; decide) (r := 1) gr_81_0 lk9 dX7_find_2 ?_
    refine g_getr hx hb hw inG6 hown hK hG gl_1 rfl gk_1 (by decide) 0 (by decide) (by rw [gm_1]; decide) (r := 2) gr_1_0 lk29 dX7_find_5 ?_
    refine lv_iload_n hx hb dX7_find_8 rfl (lv_at hl 1 rfl) ?_
    refine lv_iconst (v := 3) hx hb dX7_find_9 (by decide) ?_
    obtain ⟨P_10, HC_10, HW⟩ := HW
    refine g_calli (g_runV (As := [.int x1, .int (3 : Int32)]) (rest := [.ref (ad 81)]) ⟨hx, hb, hml, hown, hts⟩ (m_X8_at l D cy ad h g H.size 2 (gs_2) x1 (3 : Int32) P_10 HC_10) (cwV 2 hts (gd_V (wm3 78 rfl rfl) (wm2 221 rfl rfl) (wm2 222 rfl rfl) (wm1 3 rfl rfl) (wm2 223 rfl rfl)) rfl rfl rfl (by decide +kernel) ⟨Nat.le_of_ble_eq_true rfl, Nat.le_of_ble_eq_true rfl⟩) hK hNw hG gl_2 rfl gk_2 (by decide) rfl rfl hl.1 rfl (lv_room (Nat.le_of_ble_eq_true rfl)) dX7_find_10 ⟨Nat.zero_le _, Nat.zero_le _⟩) hG (fun r_10 h_10 g_10 H locs hq hG => ?_)
    replace HW := HW r_10 h_10 g_10 hq
    obtain ⟨P_13, HC_13, HW⟩ := HW
    refine g_callv (g_runV (As := [.int r_10]) (rest := []) ⟨hx, hb, hml, hown, hts⟩ (m_X7_chooseFamily l D cy ad h_10 g_10 H.size r_10 P_13 HC_13) (cwV 1 hts (gd_V (wm3 79 rfl rfl) (wm3 81 rfl rfl) (wmp1 (q := (yX7_chooseFamily, 12)) 9 rfl) (wm1 5 rfl rfl) (wm3 82 rfl rfl)) rfl rfl rfl (by decide +kernel) ⟨Nat.le_of_ble_eq_true rfl, Nat.le_of_ble_eq_true rfl⟩) hK hNw hG gl_81 rfl gk_81 (by decide) rfl rfl hl.1 rfl (lv_room (Nat.le_of_ble_eq_true rfl)) dX7_find_13 ⟨Nat.zero_le _, Nat.zero_le _⟩) hG (fun h_13 g_13 H locs hq hG => ?_)
    replace HW := HW h_13 g_13 hq
    refine lv_aload_n hx hb dX7_find_16 rfl (lv_at hl 0 rfl) ?_
    refine lv_iconst (v := 0) hx hb dX7_find_17 (by decide) ?_
    refine g_put hx hb hw inG7 tyX7 tyX7_ok nmX7 hown hK hG gl_81 rfl gk_81 (by decide) 5 (by decide) (by rw [gm_81]; decide) gr_81_5 rfl (ty := .int) (by decide +kernel) rfl rfl lk45 dX7_find_18 (fun H locs hG => ?_)
    obtain ⟨h_18, eh_18⟩ : ∃ y : HI, y = hu h_13 81 5 (0 : Int32) := ⟨_, rfl⟩
    rw [← eh_18] at hG
    replace HW := HW h_18 eh_18
    refine lv_iconst (v := 0) hx hb dX7_find_21 (by decide) ?_
    refine lv_istore_n (lv' := [(2, .int (0 : Int32)), (0, .ref (ad 81)), (1, .int x1)]) hx hb dX7_find_22 rfl hl (by decide) rfl (fun ls hl => ?_)
    obtain ⟨n_23, HW⟩ := HW
    exact L23 n_23 x1 (0 : Int32) h_18 g_13 _ _ _ HW hG (lv_sub hl [1, 2, 0] rfl)
  exact E0 _ _ _ hG hl

def j_X2_take_114 (Q : HI → HL → Prop) (K30 : Int32 → Int32 → Int32 → Int32 → HI → HL → Prop) (x2 : Int32) (x3 : Int32) (x4 : Int32) (x5 : Int32) (h : HI) (g : HL) : Prop :=
  (vp_in x5 6 ∧ ∀ h_127 : HI, h_127 = hu h 87 x5.toNatClampNeg (h 81 9) → (vp_in x5 6 ∧ ∀ h_141 : HI, h_141 = hu h_127 88 x5.toNatClampNeg (h_127 81 10) → (∀ x5_142 : Int32, x5_142 = (x5 + 1) → K30 x2 x3 x4 x5_142 h_141 g)))
def j_X2_take_84 (Q : HI → HL → Prop) (K30 : Int32 → Int32 → Int32 → Int32 → HI → HL → Prop) (x2 : Int32) (x3 : Int32) (x4 : Int32) (x5 : Int32) (s1 : Int32) (s2 : Int32) (h : HI) (g : HL) : Prop :=
  (vp_in s1 6 ∧ ∀ h_84 : HI, h_84 = hu h 86 s1.toNatClampNeg s2 → (vp_in x5 6 ∧ (∃ P_96 : HI → HL → Prop, w_X7_find (h_84 86 x5.toNatClampNeg) h_84 g P_96 ∧ ∀ (h_96 : HI) (g_96 : HL), P_96 h_96 g_96 → ((¬ (h_96 81 11) = 0 → j_X2_take_114 Q K30 x2 x3 x4 x5 h_96 g_96) ∧ ((h_96 81 11) = 0 → (∀ h_111 : HI, h_111 = hu h_96 85 7 (0 : Int32) → j_X2_take_114 Q K30 x2 x3 x4 x5 h_111 g_96))))))
def b_X2_take_30 (Q : HI → HL → Prop) (K30 : Int32 → Int32 → Int32 → Int32 → HI → HL → Prop) (x2 : Int32) (x3 : Int32) (x4 : Int32) (x5 : Int32) (h : HI) (g : HL) : Prop :=
  ((x4 ≤ x5 → Q h g) ∧ (¬ x4 ≤ x5 → (((6 : Int32) ≤ x5 → Q h g) ∧ (¬ (6 : Int32) ≤ x5 → (∃ P_61 : Int32 → HI → HL → Prop, w_X8_at 8 (h 85 6) ((3 : Int32) + ((2 : Int32) * x5)) h g P_61 ∧ ∀ (r_61 : Int32) (h_61 : HI) (g_61 : HL), P_61 r_61 h_61 g_61 → ((¬ r_61 = x2 → j_X2_take_84 Q K30 x2 x3 x4 x5 x5 r_61 h_61 g_61) ∧ (r_61 = x2 → j_X2_take_84 Q K30 x2 x3 x4 x5 x5 x3 h_61 g_61)))))))
def F_X2_take_30 (Q : HI → HL → Prop) (K : Int32 × Int32 × Int32 × Int32 × HI × HL → Prop) (q : Int32 × Int32 × Int32 × Int32 × HI × HL) : Prop := b_X2_take_30 Q (fun x2 x3 x4 x5 h g => K (x2, x3, x4, x5, h, g)) q.1 q.2.1 q.2.2.1 q.2.2.2.1 q.2.2.2.2.1 q.2.2.2.2.2
def w_X2_take (x1 : Int32) (x2 : Int32) (x3 : Int32) (h : HI) (g : HL) (Q : HI → HL → Prop) : Prop :=
  (∀ h_2 : HI, h_2 = hu h 85 6 x1 → (∀ h_7 : HI, h_7 = hu h_2 85 7 (1 : Int32) → (∃ P_22 : Int32 → HI → HL → Prop, w_X8_at 8 (h_7 85 6) (2 : Int32) h_7 g P_22 ∧ ∀ (r_22 : Int32) (h_22 : HI) (g_22 : HL), P_22 r_22 h_22 g_22 → lpE (F_X2_take_30 Q) (x2, x3, r_22, (0 : Int32), h_22, g_22))))
set_option maxHeartbeats 8000000 in
set_option maxRecDepth 100000 in
theorem m_X2_take (l : Launch) (D : va_G) (cy : Nat → ClassId) (ad : Nat → Nat) (h : HI) (g : HL) (sz : Nat) (x1 : Int32) (x2 : Int32) (x3 : Int32) (Q : HI → HL → Prop) (HW : w_X2_take x1 x2 x3 h g Q) : Met l yX2_take (wa yX2_take cX2_take 7 none) ({ frames := 5, cells := 0, slots := 0, locals := 124 }) (va_Pc [.ref (ad 85), .int x1, .int x2, .int x3] (gI D cy ad h g sz)) (va_Qv (fun (u : HI × HL) => Q u.1 u.2) (gB D cy ad sz) (gA ad sz)) 0 0 (gA ad sz) := by
  refine Met.ofW (cc := cX2_take) (maxL := 7) (ret := none) (by decide) rfl ?_
  intro p e s m args below meth c s₁ B hml hv
  obtain ⟨hav, hsz, hP, hK, hD0, hNw⟩ := hv
  have hx := B.exec
  have hb := B.bytes
  have hr := B.returns
  have hts := atoms_spec (ws := (wa yX2_take cX2_take 7 none)) B.pre
  have hw := wa_hw hts
  have hown : s.vm.findClass RX2 = some m.cls := findClass_of_methodNamed B.named
  have hlocks := B.notSynchronized
  subst hsz
  have hG : gG D cy ad (gA ad s.heap.size) s.heap h g s.heap [] := ⟨hP, gA_self hD0, va_S.rf⟩
  clear hP hD0
  have lk33 := hw (.fieldLink RX2 33 "OldWorks$Fits" "chain" "I") (wm1 220 rfl rfl)
  have lk37 := hw (.fieldLink RX2 37 "OldWorks$Fits" "sized" "Z") (wm1 221 rfl rfl)
  have lk21 := hw (.fieldLink RX2 21 "OldWorks$Fits" "shop" "LOldWorks$Shop;") (wm1 214 rfl rfl)
  have lk41 := hw (.fieldLink RX2 41 "OldWorks$Shop" "chains" "LOldWorks$Table;") (wm1 72 rfl rfl)
  have lk9 := hw (.fieldLink RX2 9 "OldWorks$Fits" "parts" "[I") (wm1 217 rfl rfl)
  have lk29 := hw (.fieldLink RX2 29 "OldWorks$Fits" "sizes" "LOldWorks$Sizes;") (wm1 216 rfl rfl)
  have lk57 := hw (.fieldLink RX2 57 "OldWorks$Sizes" "many" "I") (wm1 181 rfl rfl)
  have lk15 := hw (.fieldLink RX2 15 "OldWorks$Fits" "leasts" "[I") (wm1 218 rfl rfl)
  have lk60 := hw (.fieldLink RX2 60 "OldWorks$Sizes" "least" "I") (wm1 177 rfl rfl)
  have lk18 := hw (.fieldLink RX2 18 "OldWorks$Fits" "greatests" "[I") (wm1 219 rfl rfl)
  have lk63 := hw (.fieldLink RX2 63 "OldWorks$Sizes" "greatest" "I") (wm1 179 rfl rfl)
  rw [show (headSpec (wa yX2_take cX2_take 7 none) ({ frames := 5, cells := 0, slots := 0, locals := 124 } : Room)).room = ({ frames := 5, cells := 0, slots := 0, locals := 124 } : Room) from rfl]
  have hl := lv_entry ([.ref (ad 85), .int x1, .int x2, .int x3]) (n := 7) (Nat.le_of_ble_eq_true rfl)
  rw [show entryFrame m args 7 = entryFrame m ([.ref (ad 85), .int x1, .int x2, .int x3] : List Value).toArray 7 from by rw [hav], lg_entry_eq]
  generalize (lg_sl ([.ref (ad 85), .int x1, .int x2, .int x3]) ++ List.replicate (7 - (lg_sl ([.ref (ad 85), .int x1, .int x2, .int x3])).length) Slot.unset).toArray = ls at hl ⊢
  have hl : lv_has ls 7 [(0, .ref (ad 85)), (1, .int x1), (2, .int x2), (3, .int x3)] := hl
  have B114 : ∀ (K30 : Int32 → Int32 → Int32 → Int32 → HI → HL → Prop) (hK30 : ∀ (x2 : Int32) (x3 : Int32) (x4 : Int32) (x5 : Int32) (h : HI) (g : HL) (H : Heap) (locs : List Loc) (ls : Array Slot), K30 x2 x3 x4 x5 h g → gG D cy ad (gA ad s.heap.size) s.heap h g H locs → lv_has ls 7 [(0, .ref (ad 85)), (2, .int x2), (3, .int x3), (4, .int x4), (5, .int x5)] → W p l e ({ frames := 5, cells := 0, slots := 0, locals := 124 } : Room) s m args below meth c H locs 0 0 (MQ below (va_Qv (fun (u : HI × HL) => Q u.1 u.2) (gB D cy ad s.heap.size) (gA ad s.heap.size)) args s 0 0 (gA ad s.heap.size)) (F0 m 30 ls [])) (x2 : Int32) (x3 : Int32) (x4 : Int32) (x5 : Int32) (h : HI) (g : HL) (H : Heap) (locs : List Loc) (ls : Array Slot), j_X2_take_114 Q K30 x2 x3 x4 x5 h g → gG D cy ad (gA ad s.heap.size) s.heap h g H locs → lv_has ls 7 [(0, .ref (ad 85)), (2, .int x2), (3, .int x3), (4, .int x4), (5, .int x5)] → W p l e ({ frames := 5, cells := 0, slots := 0, locals := 124 } : Room) s m args below meth c H locs 0 0 (MQ below (va_Qv (fun (u : HI × HL) => Q u.1 u.2) (gB D cy ad s.heap.size) (gA ad s.heap.size)) args s 0 0 (gA ad s.heap.size)) (F0 m 114 ls []) := by
    intro K30 hK30 x2 x3 x4 x5 h g H locs ls HW hG hl
    unfold j_X2_take_114 at HW
    refine lv_aload_n hx hb dX2_take_114 rfl (lv_at hl 0 rfl) ?_
    refine g_getr hx hb hw inG2 hown hK hG gl_85 rfl gk_85 (by decide) 4 (by decide) (by rw [gm_85]; decide) (r := 87) gr_85_4 lk15 dX2_take_115 ?_
    refine lv_iload hx hb dX2_take_118 (lv_at hl 4 rfl) ?_
    refine lv_aload_n hx hb dX2_take_120 rfl (lv_at hl 0 rfl) ?_
    refine g_getr hx hb hw inG2 hown hK hG gl_85 rfl gk_85 (by decide) 2 (by decide) (by rw [gm_85]; decide) (r := 81) gr_85_2 lk29 dX2_take_121 ?_
    refine g_geti hx hb hw inG7 hown hK hG gl_81 rfl gk_81 (by decide) 9 (by decide) (by rw [gm_81]; decide) gr_81_9 lk60 dX2_take_124 ?_
    refine g_iast hx hb hK hG gl_87 gk_87 gn_87 HW.1 dX2_take_127 (fun H locs hG => ?_)
    replace HW := HW.2
    obtain ⟨h_127, eh_127⟩ : ∃ y : HI, y = hu h 87 x5.toNatClampNeg (h 81 9) := ⟨_, rfl⟩
    rw [← eh_127] at hG
    replace HW := HW h_127 eh_127
    refine lv_aload_n hx hb dX2_take_128 rfl (lv_at hl 0 rfl) ?_
    refine g_getr hx hb hw inG2 hown hK hG gl_85 rfl gk_85 (by decide) 5 (by decide) (by rw [gm_85]; decide) (r := 88) gr_85_5 lk18 dX2_take_129 ?_
    refine lv_iload hx hb dX2_take_132 (lv_at hl 4 rfl) ?_
    refine lv_aload_n hx hb dX2_take_134 rfl (lv_at hl 0 rfl) ?_
    refine g_getr hx hb hw inG2 hown hK hG gl_85 rfl gk_85 (by decide) 2 (by decide) (by rw [gm_85]; decide) (r := 81) gr_85_2 lk29 dX2_take_135 ?_
    refine g_geti hx hb hw inG7 hown hK hG gl_81 rfl gk_81 (by decide) 10 (by decide) (by rw [gm_81]; decide) gr_81_10 lk63 dX2_take_138 ?_
    refine g_iast hx hb hK hG gl_88 gk_88 gn_88 HW.1 dX2_take_141 (fun H locs hG => ?_)
    replace HW := HW.2
    obtain ⟨h_141, eh_141⟩ : ∃ y : HI, y = hu h_127 88 x5.toNatClampNeg (h_127 81 10) := ⟨_, rfl⟩
    rw [← eh_141] at hG
    replace HW := HW h_141 eh_141
    obtain ⟨x5_142, ex5_142⟩ : ∃ y : Int32, y = (x5 + 1) := ⟨_, rfl⟩
    replace HW := HW x5_142 ex5_142
    refine lv_iinc (v := x5_142) (lv' := [(5, .int x5_142), (0, .ref (ad 85)), (2, .int x2), (3, .int x3), (4, .int x4)]) hx hb dX2_take_142 hl (k := 4) rfl (by rw [ex5_142]; rfl) (by decide) rfl (fun ls hl => ?_)
    refine lv_goto (tgt := 30) hx hb dX2_take_145 (by decide) ?_
    exact hK30 x2 x3 x4 x5_142 h_141 g _ _ _ HW hG (lv_sub hl [1, 2, 3, 4, 0] rfl)
  have B84 : ∀ (K30 : Int32 → Int32 → Int32 → Int32 → HI → HL → Prop) (hK30 : ∀ (x2 : Int32) (x3 : Int32) (x4 : Int32) (x5 : Int32) (h : HI) (g : HL) (H : Heap) (locs : List Loc) (ls : Array Slot), K30 x2 x3 x4 x5 h g → gG D cy ad (gA ad s.heap.size) s.heap h g H locs → lv_has ls 7 [(0, .ref (ad 85)), (2, .int x2), (3, .int x3), (4, .int x4), (5, .int x5)] → W p l e ({ frames := 5, cells := 0, slots := 0, locals := 124 } : Room) s m args below meth c H locs 0 0 (MQ below (va_Qv (fun (u : HI × HL) => Q u.1 u.2) (gB D cy ad s.heap.size) (gA ad s.heap.size)) args s 0 0 (gA ad s.heap.size)) (F0 m 30 ls [])) (x2 : Int32) (x3 : Int32) (x4 : Int32) (x5 : Int32) (s1 : Int32) (s2 : Int32) (h : HI) (g : HL) (H : Heap) (locs : List Loc) (ls : Array Slot), j_X2_take_84 Q K30 x2 x3 x4 x5 s1 s2 h g → gG D cy ad (gA ad s.heap.size) s.heap h g H locs → lv_has ls 7 [(0, .ref (ad 85)), (2, .int x2), (3, .int x3), (4, .int x4), (5, .int x5)] → W p l e ({ frames := 5, cells := 0, slots := 0, locals := 124 } : Room) s m args below meth c H locs 0 0 (MQ below (va_Qv (fun (u : HI × HL) => Q u.1 u.2) (gB D cy ad s.heap.size) (gA ad s.heap.size)) args s 0 0 (gA ad s.heap.size)) (F0 m 84 ls [.int s2, .int s1, .ref (ad 86)]) := by
    intro K30 hK30 x2 x3 x4 x5 s1 s2 h g H locs ls HW hG hl
    unfold j_X2_take_84 at HW
    refine g_iast hx hb hK hG gl_86 gk_86 gn_86 HW.1 dX2_take_84 (fun H locs hG => ?_)
    replace HW := HW.2
    obtain ⟨h_84, eh_84⟩ : ∃ y : HI, y = hu h 86 s1.toNatClampNeg s2 := ⟨_, rfl⟩
    rw [← eh_84] at hG
    replace HW := HW h_84 eh_84
    refine lv_aload_n hx hb dX2_take_85 rfl (lv_at hl 0 rfl) ?_
    refine g_getr hx hb hw inG2 hown hK hG gl_85 rfl gk_85 (by decide) 2 (by decide) (by rw [gm_85]; decide) (r := 81) gr_85_2 lk29 dX2_take_86 ?_
    refine lv_aload_n hx hb dX2_take_89 rfl (lv_at hl 0 rfl) ?_
    refine g_getr hx hb hw inG2 hown hK hG gl_85 rfl gk_85 (by decide) 3 (by decide) (by rw [gm_85]; decide) (r := 86) gr_85_3 lk9 dX2_take_90 ?_
    refine lv_iload hx hb dX2_take_93 (lv_at hl 4 rfl) ?_
    refine g_iald hx hb hK hG gl_86 gk_86 gn_86 HW.1 dX2_take_95 ?_
    replace HW := HW.2
    obtain ⟨P_96, HC_96, HW⟩ := HW
    refine g_callv (g_runV (As := [.int (h_84 86 x5.toNatClampNeg)]) (rest := []) ⟨hx, hb, hml, hown, hts⟩ (m_X7_find l D cy ad h_84 g H.size (h_84 86 x5.toNatClampNeg) P_96 HC_96) (cwV 1 hts (gd_V (wm3 154 rfl rfl) (wm3 75 rfl rfl) (wm3 76 rfl rfl) (wm1 5 rfl rfl) (wm3 77 rfl rfl)) rfl rfl rfl (by decide +kernel) ⟨Nat.le_of_ble_eq_true rfl, Nat.le_of_ble_eq_true rfl⟩) hK hNw hG gl_81 rfl gk_81 (by decide) rfl rfl hl.1 rfl (lv_room (Nat.le_of_ble_eq_true rfl)) dX2_take_96 ⟨Nat.zero_le _, Nat.zero_le _⟩) hG (fun h_96 g_96 H locs hq hG => ?_)
    replace HW := HW h_96 g_96 hq
    refine lv_aload_n hx hb dX2_take_99 rfl (lv_at hl 0 rfl) ?_
    refine g_getr hx hb hw inG2 hown hK hG gl_85 rfl gk_85 (by decide) 2 (by decide) (by rw [gm_85]; decide) (r := 81) gr_85_2 lk29 dX2_take_100 ?_
    refine g_geti hx hb hw inG7 hown hK hG gl_81 rfl gk_81 (by decide) 11 (by decide) (by rw [gm_81]; decide) gr_81_11 lk57 dX2_take_103 ?_
    refine lv_if_ne (tgt := 114) hx hb dX2_take_106 (by decide) (fun c_106 => ?_) (fun c_106 => ?_)
    · replace HW := HW.1 c_106
      exact B114 K30 hK30 x2 x3 x4 x5 h_96 g_96 _ _ _ HW hG (lv_sub hl [0, 1, 2, 3, 4] rfl)
    · replace HW := HW.2 c_106
      refine lv_aload_n hx hb dX2_take_109 rfl (lv_at hl 0 rfl) ?_
      refine lv_iconst (v := 0) hx hb dX2_take_110 (by decide) ?_
      refine g_put hx hb hw inG2 tyX2 tyX2_ok nmX2 hown hK hG gl_85 rfl gk_85 (by decide) 7 (by decide) (by rw [gm_85]; decide) gr_85_7 rfl (ty := .boolean) (by decide +kernel) rfl rfl lk37 dX2_take_111 (fun H locs hG => ?_)
      obtain ⟨h_111, eh_111⟩ : ∃ y : HI, y = hu h_96 85 7 (0 : Int32) := ⟨_, rfl⟩
      rw [← eh_111] at hG
      replace HW := HW h_111 eh_111
      exact B114 K30 hK30 x2 x3 x4 x5 h_111 g_96 _ _ _ HW hG (lv_sub hl [0, 1, 2, 3, 4] rfl)
  have L30 : ∀ (n : Nat) (x2 : Int32) (x3 : Int32) (x4 : Int32) (x5 : Int32) (h : HI) (g : HL) (H : Heap) (locs : List Loc) (ls : Array Slot), lpN (F_X2_take_30 Q) n (x2, x3, x4, x5, h, g) → gG D cy ad (gA ad s.heap.size) s.heap h g H locs → lv_has ls 7 [(0, .ref (ad 85)), (2, .int x2), (3, .int x3), (4, .int x4), (5, .int x5)] → W p l e ({ frames := 5, cells := 0, slots := 0, locals := 124 } : Room) s m args below meth c H locs 0 0 (MQ below (va_Qv (fun (u : HI × HL) => Q u.1 u.2) (gB D cy ad s.heap.size) (gA ad s.heap.size)) args s 0 0 (gA ad s.heap.size)) (F0 m 30 ls []) := by
    intro n
    induction n with
    | zero => intro x2 x3 x4 x5 h g H locs ls HW; exact HW.elim
    | succ n ih =>
      intro x2 x3 x4 x5 h g H locs ls HW hG hl
      have HW : b_X2_take_30 Q (fun x2 x3 x4 x5 h g => lpN (F_X2_take_30 Q) n (x2, x3, x4, x5, h, g)) x2 x3 x4 x5 h g := HW
      generalize hKe : (fun (x2 : Int32) (x3 : Int32) (x4 : Int32) (x5 : Int32) (h : HI) (g : HL) => lpN (F_X2_take_30 Q) n (x2, x3, x4, x5, h, g)) = K30 at HW
      have hK30 : ∀ (x2 : Int32) (x3 : Int32) (x4 : Int32) (x5 : Int32) (h : HI) (g : HL) (H : Heap) (locs : List Loc) (ls : Array Slot), K30 x2 x3 x4 x5 h g → gG D cy ad (gA ad s.heap.size) s.heap h g H locs → lv_has ls 7 [(0, .ref (ad 85)), (2, .int x2), (3, .int x3), (4, .int x4), (5, .int x5)] → W p l e ({ frames := 5, cells := 0, slots := 0, locals := 124 } : Room) s m args below meth c H locs 0 0 (MQ below (va_Qv (fun (u : HI × HL) => Q u.1 u.2) (gB D cy ad s.heap.size) (gA ad s.heap.size)) args s 0 0 (gA ad s.heap.size)) (F0 m 30 ls []) := by subst hKe; exact ih
      clear ih
      clear hKe
      unfold b_X2_take_30 at HW
      refine lv_iload hx hb dX2_take_30 (lv_at hl 4 rfl) ?_
      refine lv_iload hx hb dX2_take_32 (lv_at hl 3 rfl) ?_
      refine lv_icmp_ge (tgt := 148) hx hb dX2_take_34 (by decide) (fun c_34 => ?_) (fun c_34 => ?_)
      · replace HW := HW.1 c_34
        exact W.vret hx hb hr (fun t ht hW => ⟨⟨(h, g), rfl, HW, g_B ht hG⟩, hG.2.2.F ht⟩) hG.2.2.2.2 dX2_take_148
      · replace HW := HW.2 c_34
        refine lv_iload hx hb dX2_take_37 (lv_at hl 4 rfl) ?_
        refine lv_bipush (v := 6) hx hb dX2_take_39 (by decide) ?_
        refine lv_icmp_ge (tgt := 148) hx hb dX2_take_41 (by decide) (fun c_41 => ?_) (fun c_41 => ?_)
        · replace HW := HW.1 c_41
          exact W.vret hx hb hr (fun t ht hW => ⟨⟨(h, g), rfl, HW, g_B ht hG⟩, hG.2.2.F ht⟩) hG.2.2.2.2 dX2_take_148
        · replace HW := HW.2 c_41
          refine lv_aload_n hx hb dX2_take_44 rfl (lv_at hl 0 rfl) ?_
          refine g_getr hx hb hw inG2 hown hK hG gl_85 rfl gk_85 (by decide) 0 (by decide) (by rw [gm_85]; decide) (r := 1) gr_85_0 lk21 dX2_take_45 ?_
          refine g_getr hx hb hw inG6 hown hK hG gl_1 rfl gk_1 (by decide) 3 (by decide) (by rw [gm_1]; decide) (r := 8) gr_1_3 lk41 dX2_take_48 ?_
          refine lv_aload_n hx hb dX2_take_51 rfl (lv_at hl 0 rfl) ?_
          refine g_geti hx hb hw inG2 hown hK hG gl_85 rfl gk_85 (by decide) 6 (by decide) (by rw [gm_85]; decide) gr_85_6 lk33 dX2_take_52 ?_
          refine lv_iconst (v := 3) hx hb dX2_take_55 (by decide) ?_
          refine lv_iconst (v := 2) hx hb dX2_take_56 (by decide) ?_
          refine lv_iload hx hb dX2_take_57 (lv_at hl 4 rfl) ?_
          refine lv_imul hx hb dX2_take_59 ?_
          refine lv_iadd hx hb dX2_take_60 ?_
          obtain ⟨P_61, HC_61, HW⟩ := HW
          refine g_calli (g_runV (As := [.int (h 85 6), .int ((3 : Int32) + ((2 : Int32) * x5))]) (rest := []) ⟨hx, hb, hml, hown, hts⟩ (m_X8_at l D cy ad h g H.size 8 (gs_8) (h 85 6) ((3 : Int32) + ((2 : Int32) * x5)) P_61 HC_61) (cwV 2 hts (gd_V (wm3 153 rfl rfl) (wm2 221 rfl rfl) (wm2 222 rfl rfl) (wm1 3 rfl rfl) (wm2 223 rfl rfl)) rfl rfl rfl (by decide +kernel) ⟨Nat.le_of_ble_eq_true rfl, Nat.le_of_ble_eq_true rfl⟩) hK hNw hG gl_8 rfl gk_8 (by decide) rfl rfl hl.1 rfl (lv_room (Nat.le_of_ble_eq_true rfl)) dX2_take_61 ⟨Nat.zero_le _, Nat.zero_le _⟩) hG (fun r_61 h_61 g_61 H locs hq hG => ?_)
          replace HW := HW r_61 h_61 g_61 hq
          refine lv_istore (lv' := [(6, .int r_61), (0, .ref (ad 85)), (2, .int x2), (3, .int x3), (4, .int x4), (5, .int x5)]) hx hb dX2_take_64 hl (by decide) rfl (fun ls hl => ?_)
          refine lv_aload_n hx hb dX2_take_66 rfl (lv_at hl 1 rfl) ?_
          refine g_getr hx hb hw inG2 hown hK hG gl_85 rfl gk_85 (by decide) 3 (by decide) (by rw [gm_85]; decide) (r := 86) gr_85_3 lk9 dX2_take_67 ?_
          refine lv_iload hx hb dX2_take_70 (lv_at hl 5 rfl) ?_
          refine lv_iload hx hb dX2_take_72 (lv_at hl 0 rfl) ?_
          refine lv_iload_n hx hb dX2_take_74 rfl (lv_at hl 2 rfl) ?_
          refine lv_icmp_ne (tgt := 82) hx hb dX2_take_75 (by decide) (fun c_75 => ?_) (fun c_75 => ?_)
          · replace HW := HW.1 c_75
            refine lv_iload hx hb dX2_take_82 (lv_at hl 0 rfl) ?_
            exact B84 K30 hK30 x2 x3 x4 x5 x5 r_61 h_61 g_61 _ _ _ HW hG (lv_sub hl [1, 2, 3, 4, 5] rfl)
          · replace HW := HW.2 c_75
            refine lv_iload_n hx hb dX2_take_78 rfl (lv_at hl 3 rfl) ?_
            refine lv_goto (tgt := 84) hx hb dX2_take_79 (by decide) ?_
            exact B84 K30 hK30 x2 x3 x4 x5 x5 x3 h_61 g_61 _ _ _ HW hG (lv_sub hl [1, 2, 3, 4, 5] rfl)
  have E0 : ∀ (H : Heap) (locs : List Loc) (ls : Array Slot), gG D cy ad (gA ad s.heap.size) s.heap h g H locs → lv_has ls 7 [(0, .ref (ad 85)), (1, .int x1), (2, .int x2), (3, .int x3)] → W p l e ({ frames := 5, cells := 0, slots := 0, locals := 124 } : Room) s m args below meth c H locs 0 0 (MQ below (va_Qv (fun (u : HI × HL) => Q u.1 u.2) (gB D cy ad s.heap.size) (gA ad s.heap.size)) args s 0 0 (gA ad s.heap.size)) (F0 m 0 ls []) := by
    intro H locs ls hG hl
    unfold w_X2_take at HW
    refine lv_aload_n hx hb dX2_take_0 rfl (lv_at hl 0 rfl) ?_
    refine lv_iload_n hx hb dX2_take_1 rfl (lv_at hl 1 rfl) ?_
    refine g_put hx hb hw inG2 tyX2 tyX2_ok nmX2 hown hK hG gl_85 rfl gk_85 (by decide) 6 (by decide) (by rw [gm_85]; decide) gr_85_6 rfl (ty := .int) (by decide +kernel) rfl rfl lk33 dX2_take_2 (fun H locs hG => ?_)
    obtain ⟨h_2, eh_2⟩ : ∃ y : HI, y = hu h 85 6 x1 := ⟨_, rfl⟩
    rw [← eh_2] at hG
    replace HW := HW h_2 eh_2
    refine lv_aload_n hx hb dX2_take_5 rfl (lv_at hl 0 rfl) ?_
    refine lv_iconst (v := 1) hx hb dX2_take_6 (by decide) ?_
    refine g_put hx hb hw inG2 tyX2 tyX2_ok nmX2 hown hK hG gl_85 rfl gk_85 (by decide) 7 (by decide) (by rw [gm_85]; decide) gr_85_7 rfl (ty := .boolean) (by decide +kernel) rfl rfl lk37 dX2_take_7 (fun H locs hG => ?_)
    obtain ⟨h_7, eh_7⟩ : ∃ y : HI, y = hu h_2 85 7 (1 : Int32) := ⟨_, rfl⟩
    rw [← eh_7] at hG
    replace HW := HW h_7 eh_7
    refine lv_aload_n hx hb dX2_take_10 rfl (lv_at hl 0 rfl) ?_
    refine g_getr hx hb hw inG2 hown hK hG gl_85 rfl gk_85 (by decide) 0 (by decide) (by rw [gm_85]; decide) (r := 1) gr_85_0 lk21 dX2_take_11 ?_
    refine g_getr hx hb hw inG6 hown hK hG gl_1 rfl gk_1 (by decide) 3 (by decide) (by rw [gm_1]; decide) (r := 8) gr_1_3 lk41 dX2_take_14 ?_
    refine lv_aload_n hx hb dX2_take_17 rfl (lv_at hl 0 rfl) ?_
    refine g_geti hx hb hw inG2 hown hK hG gl_85 rfl gk_85 (by decide) 6 (by decide) (by rw [gm_85]; decide) gr_85_6 lk33 dX2_take_18 ?_
    refine lv_iconst (v := 2) hx hb dX2_take_21 (by decide) ?_
    obtain ⟨P_22, HC_22, HW⟩ := HW
    refine g_calli (g_runV (As := [.int (h_7 85 6), .int (2 : Int32)]) (rest := []) ⟨hx, hb, hml, hown, hts⟩ (m_X8_at l D cy ad h_7 g H.size 8 (gs_8) (h_7 85 6) (2 : Int32) P_22 HC_22) (cwV 2 hts (gd_V (wm3 153 rfl rfl) (wm2 221 rfl rfl) (wm2 222 rfl rfl) (wm1 3 rfl rfl) (wm2 223 rfl rfl)) rfl rfl rfl (by decide +kernel) ⟨Nat.le_of_ble_eq_true rfl, Nat.le_of_ble_eq_true rfl⟩) hK hNw hG gl_8 rfl gk_8 (by decide) rfl rfl hl.1 rfl (lv_room (Nat.le_of_ble_eq_true rfl)) dX2_take_22 ⟨Nat.zero_le _, Nat.zero_le _⟩) hG (fun r_22 h_22 g_22 H locs hq hG => ?_)
    replace HW := HW r_22 h_22 g_22 hq
    refine lv_istore (lv' := [(4, .int r_22), (0, .ref (ad 85)), (1, .int x1), (2, .int x2), (3, .int x3)]) hx hb dX2_take_25 hl (by decide) rfl (fun ls hl => ?_)
    refine lv_iconst (v := 0) hx hb dX2_take_27 (by decide) ?_
    refine lv_istore (lv' := [(5, .int (0 : Int32)), (4, .int r_22), (0, .ref (ad 85)), (1, .int x1), (2, .int x2), (3, .int x3)]) hx hb dX2_take_28 hl (by decide) rfl (fun ls hl => ?_)
    obtain ⟨n_30, HW⟩ := HW
    exact L30 n_30 x2 x3 r_22 (0 : Int32) h_22 g_22 _ _ _ HW hG (lv_sub hl [2, 4, 5, 1, 0] rfl)
  exact E0 _ _ _ hG hl
