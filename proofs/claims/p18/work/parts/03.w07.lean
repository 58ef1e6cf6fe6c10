def w_X5_idle (x1 : Int32) (x2 : Int32) (h : HI) (g : HL) (Q : Int32 → HI → HL → Prop) : Prop :=
  (∃ P_4 : Int32 → HI → HL → Prop, w_X10_within x1 (0 : Int32) (7 : Int32) h g P_4 ∧ ∀ (r_4 : Int32) (h_4 : HI) (g_4 : HL), zb r_4 → P_4 r_4 h_4 g_4 → ((r_4 = 0 → Q (-1 : Int32) h_4 g_4) ∧ (¬ r_4 = 0 → (∃ P_15 : Int32 → HI → HL → Prop, w_X10_within x2 (0 : Int32) (255 : Int32) h_4 g_4 P_15 ∧ ∀ (r_15 : Int32) (h_15 : HI) (g_15 : HL), zb r_15 → P_15 r_15 h_15 g_15 → ((¬ r_15 = 0 → (vp_in x1 8 ∧ (∃ P_31 : Int32 → HI → HL → Prop, w_X5_runsBy (h_15 124 x1.toNatClampNeg) x2 h_15 g_15 P_31 ∧ ∀ (r_31 : Int32) (h_31 : HI) (g_31 : HL), P_31 r_31 h_31 g_31 → (vp_in (x1 + (1 : Int32)) 9 ∧ (vp_in x2 256 ∧ Q (r_31 + (h_31 (126 + (x1 + (1 : Int32)).toNatClampNeg) x2.toNatClampNeg)) h_31 g_31))))) ∧ (r_15 = 0 → Q (-1 : Int32) h_15 g_15))))))
set_option maxHeartbeats 8000000 in
set_option maxRecDepth 100000 in
theorem m_X5_idle (l : Launch) (D : va_G) (cy : Nat → ClassId) (ad : Nat → Nat) (h : HI) (g : HL) (sz : Nat) (x1 : Int32) (x2 : Int32) (Q : Int32 → HI → HL → Prop) (HW : w_X5_idle x1 x2 h g Q) : Met l yX5_idle (wa yX5_idle cX5_idle 3 (some .int)) ({ frames := 2, cells := 0, slots := 0, locals := 46 }) (va_Pc [.ref (ad 118), .int x1, .int x2] (gI D cy ad h g sz)) (va_Qi (fun (r : Int32) (u : HI × HL) => Q r u.1 u.2) (gB D cy ad sz) (gA ad sz)) 0 0 (gA ad sz) := by
  refine Met.ofW (cc := cX5_idle) (maxL := 3) (ret := (some .int)) (by decide) rfl ?_
  intro p e s m args below meth c s₁ B hml hv
  obtain ⟨hav, hsz, hP, hK, hD0, hNw⟩ := hv
  have hx := B.exec
  have hb := B.bytes
  have hr := B.returns
  have hts := atoms_spec (ws := (wa yX5_idle cX5_idle 3 (some .int))) B.pre
  have hw := wa_hw hts
  have hown : s.vm.findClass RX5 = some m.cls := findClass_of_methodNamed B.named
  have hlocks := B.notSynchronized
  subst hsz
  have hG : gG D cy ad (gA ad s.heap.size) s.heap h g s.heap [] := ⟨hP, gA_self hD0, va_S.rf⟩
  clear hP hD0
  have lk27 := hw (.fieldLink RX5 27 "OldWorks$Plans" "there" "[I") (wm2 127 rfl rfl)
  have lk32 := hw (.fieldLink RX5 32 "OldWorks$Plans" "most" "[[I") (wm2 128 rfl rfl)
  rw [show (headSpec (wa yX5_idle cX5_idle 3 (some .int)) ({ frames := 2, cells := 0, slots := 0, locals := 46 } : Room)).room = ({ frames := 2, cells := 0, slots := 0, locals := 46 } : Room) from rfl]
  have hl := lv_entry ([.ref (ad 118), .int x1, .int x2]) (n := 3) (Nat.le_of_ble_eq_true rfl)
  rw [show entryFrame m args 3 = entryFrame m ([.ref (ad 118), .int x1, .int x2] : List Value).toArray 3 from by rw [hav], lg_entry_eq]
  generalize (lg_sl ([.ref (ad 118), .int x1, .int x2]) ++ List.replicate (3 - (lg_sl ([.ref (ad 118), .int x1, .int x2])).length) Slot.unset).toArray = ls at hl ⊢
  have hl : lv_has ls 3 [(0, .ref (ad 118)), (1, .int x1), (2, .int x2)] := hl
  have E0 : ∀ (H : Heap) (locs : List Loc) (ls : Array Slot), gG D cy ad (gA ad s.heap.size) s.heap h g H locs → lv_has ls 3 [(0, .ref (ad 118)), (1, .int x1), (2, .int x2)] → W p l e ({ frames := 2, cells := 0, slots := 0, locals := 46 } : Room) s m args below meth c H locs 0 0 (MQ below (va_Qi (fun (r : Int32) (u : HI × HL) => Q r u.1 u.2) (gB D cy ad s.heap.size) (gA ad s.heap.size)) args s 0 0 (gA ad s.heap.size)) (F0 m 0 ls []) := by
    intro H locs ls hG hl
    unfold w_X5_idle at HW
    refine lv_iload_n hx hb dX5_idle_0 rfl (lv_at hl 1 rfl) ?_
    refine lv_iconst (v := 0) hx hb dX5_idle_1 (by decide) ?_
    refine lv_bipush (v := 7) hx hb dX5_idle_2 (by decide) ?_
    obtain ⟨P_4, HC_4, HW⟩ := HW
    refine g_callz (g_runSN (As := [.int x1, .int (0 : Int32), .int (7 : Int32)]) (rest := []) ⟨hx, hb, hml, hown, hts⟩ (m_X10_within l D cy ad h g H.size x1 (0 : Int32) (7 : Int32) P_4 HC_4) ⟨va_cnB 3 hts (gd_w (wm2 195 rfl rfl)) rfl rfl rfl (hNw _ (List.mem_of_getElem? (i := 4) rfl)) (hw (.initialized RX10) (wm1 1 rfl rfl)) (by decide +kernel) ⟨Nat.le_of_ble_eq_true rfl, Nat.le_of_ble_eq_true rfl⟩, hw (.static yX10_within) (wm2 194 rfl rfl), trivial⟩ hK hNw hG rfl rfl hl.1 rfl (lv_room (Nat.le_of_ble_eq_true rfl)) dX5_idle_4 ⟨Nat.zero_le _, Nat.zero_le _⟩) hG (fun r_4 h_4 g_4 H locs hz hq hG => ?_)
    replace HW := HW r_4 h_4 g_4 hz hq
    refine lv_if_eq (tgt := 21) hx hb dX5_idle_7 (by decide) (fun c_7 => ?_) (fun c_7 => ?_)
    · replace HW := HW.1 c_7
      refine lv_iconst (v := (-1)) hx hb dX5_idle_21 (by decide) ?_
      exact W.iret (v := (-1 : Int32)) hx hb hr (fun t ht hW => ⟨⟨(-1 : Int32), (h_4, g_4), rfl, HW, g_B ht hG⟩, hG.2.2.F ht⟩) hG.2.2.2.2 dX5_idle_22
    · replace HW := HW.2 c_7
      refine lv_iload_n hx hb dX5_idle_10 rfl (lv_at hl 2 rfl) ?_
      refine lv_iconst (v := 0) hx hb dX5_idle_11 (by decide) ?_
      refine lv_sipush (v := 255) hx hb dX5_idle_12 (by decide) ?_
      obtain ⟨P_15, HC_15, HW⟩ := HW
      refine g_callz (g_runSN (As := [.int x2, .int (0 : Int32), .int (255 : Int32)]) (rest := []) ⟨hx, hb, hml, hown, hts⟩ (m_X10_within l D cy ad h_4 g_4 H.size x2 (0 : Int32) (255 : Int32) P_15 HC_15) ⟨va_cnB 3 hts (gd_w (wm2 195 rfl rfl)) rfl rfl rfl (hNw _ (List.mem_of_getElem? (i := 4) rfl)) (hw (.initialized RX10) (wm1 1 rfl rfl)) (by decide +kernel) ⟨Nat.le_of_ble_eq_true rfl, Nat.le_of_ble_eq_true rfl⟩, hw (.static yX10_within) (wm2 194 rfl rfl), trivial⟩ hK hNw hG rfl rfl hl.1 rfl (lv_room (Nat.le_of_ble_eq_true rfl)) dX5_idle_15 ⟨Nat.zero_le _, Nat.zero_le _⟩) hG (fun r_15 h_15 g_15 H locs hz hq hG => ?_)
      replace HW := HW r_15 h_15 g_15 hz hq
      refine lv_if_ne (tgt := 23) hx hb dX5_idle_18 (by decide) (fun c_18 => ?_) (fun c_18 => ?_)
      · replace HW := HW.1 c_18
        refine lv_aload_n hx hb dX5_idle_23 rfl (lv_at hl 0 rfl) ?_
        refine lv_aload_n hx hb dX5_idle_24 rfl (lv_at hl 0 rfl) ?_
        refine g_getr hx hb hw inG5 hown hK hG gl_118 rfl gk_118 (by decide) 6 (by decide) (by rw [gm_118]; decide) (r := 124) gr_118_6 lk27 dX5_idle_25 ?_
        refine lv_iload_n hx hb dX5_idle_28 rfl (lv_at hl 1 rfl) ?_
        refine g_iald hx hb hK hG gl_124 gk_124 gn_124 HW.1 dX5_idle_29 ?_
        replace HW := HW.2
        refine lv_iload_n hx hb dX5_idle_30 rfl (lv_at hl 2 rfl) ?_
        obtain ⟨P_31, HC_31, HW⟩ := HW
        refine g_calli (g_runV (As := [.int (h_15 124 x1.toNatClampNeg), .int x2]) (rest := []) ⟨hx, hb, hml, hown, hts⟩ (m_X5_runsBy l D cy ad h_15 g_15 H.size (h_15 124 x1.toNatClampNeg) x2 P_31 HC_31) (cwV 2 hts (gd_V (wm4 188 rfl rfl) (wm4 190 rfl rfl) (wmp3 (q := (yX5_runsBy, 11)) 1 rfl) (wm1 12 rfl rfl) (wm4 191 rfl rfl)) rfl rfl rfl (by decide +kernel) ⟨Nat.le_of_ble_eq_true rfl, Nat.le_of_ble_eq_true rfl⟩) hK hNw hG gl_118 rfl gk_118 (by decide) rfl rfl hl.1 rfl (lv_room (Nat.le_of_ble_eq_true rfl)) dX5_idle_31 ⟨Nat.zero_le _, Nat.zero_le _⟩) hG (fun r_31 h_31 g_31 H locs hq hG => ?_)
        replace HW := HW r_31 h_31 g_31 hq
        refine lv_aload_n hx hb dX5_idle_34 rfl (lv_at hl 0 rfl) ?_
        refine g_getr hx hb hw inG5 hown hK hG gl_118 rfl gk_118 (by decide) 7 (by decide) (by rw [gm_118]; decide) (r := 125) gr_118_7 lk32 dX5_idle_35 ?_
        refine lv_iload_n hx hb dX5_idle_38 rfl (lv_at hl 1 rfl) ?_
        refine lv_iconst (v := 1) hx hb dX5_idle_39 (by decide) ?_
        refine lv_iadd hx hb dX5_idle_40 ?_
        have hi_41 := vp_lt HW.1
        refine g_aald hx hb hK hG gl_125 gk_125 gn_125 HW.1 (go_125 _ hi_41).1 dX5_idle_41 ?_
        replace HW := HW.2
        refine lv_iload_n hx hb dX5_idle_42 rfl (lv_at hl 2 rfl) ?_
        refine g_iald hx hb hK hG ((go_125 _ hi_41).2.2.1) ((go_125 _ hi_41).2.1) ((go_125 _ hi_41).2.2.2) HW.1 dX5_idle_43 ?_
        replace HW := HW.2
        refine lv_iadd hx hb dX5_idle_44 ?_
        exact W.iret (v := (r_31 + (h_31 (126 + (x1 + (1 : Int32)).toNatClampNeg) x2.toNatClampNeg))) hx hb hr (fun t ht hW => ⟨⟨(r_31 + (h_31 (126 + (x1 + (1 : Int32)).toNatClampNeg) x2.toNatClampNeg)), (h_31, g_31), rfl, HW, g_B ht hG⟩, hG.2.2.F ht⟩) hG.2.2.2.2 dX5_idle_45
      · replace HW := HW.2 c_18
        refine lv_iconst (v := (-1)) hx hb dX5_idle_21 (by decide) ?_
        exact W.iret (v := (-1 : Int32)) hx hb hr (fun t ht hW => ⟨⟨(-1 : Int32), (h_15, g_15), rfl, HW, g_B ht hG⟩, hG.2.2.F ht⟩) hG.2.2.2.2 dX5_idle_22
  exact E0 _ _ _ hG hl

def w_X5_taught (x1 : Int32) (x2 : Int32) (x3 : Int32) (h : HI) (g : HL) (Q : Int32 → HI → HL → Prop) : Prop :=
  (∃ P_4 : Int32 → HI → HL → Prop, w_X10_within x3 (0 : Int32) (15 : Int32) h g P_4 ∧ ∀ (r_4 : Int32) (h_4 : HI) (g_4 : HL), zb r_4 → P_4 r_4 h_4 g_4 → ((¬ r_4 = 0 → (∃ P_16 : Int32 → HI → HL → Prop, w_X10_within x1 (0 : Int32) (7 : Int32) h_4 g_4 P_16 ∧ ∀ (r_16 : Int32) (h_16 : HI) (g_16 : HL), zb r_16 → P_16 r_16 h_16 g_16 → ((r_16 = 0 → Q (-1 : Int32) h_16 g_16) ∧ (¬ r_16 = 0 → (∃ P_27 : Int32 → HI → HL → Prop, w_X10_within x2 (0 : Int32) (255 : Int32) h_16 g_16 P_27 ∧ ∀ (r_27 : Int32) (h_27 : HI) (g_27 : HL), zb r_27 → P_27 r_27 h_27 g_27 → ((¬ r_27 = 0 → (vp_in x3 16 ∧ (∀ x4_43 : Int32, x4_43 = ((h_27 119 x3.toNatClampNeg) >>> ((4 : Int32) &&& 31)) → (vp_in x3 16 ∧ (∀ x5_60 : Int32, x5_60 = (((1 : Int32) <<< (x4_43 &&& 31)) ||| ((1 : Int32) <<< (((h_27 119 x3.toNatClampNeg) &&& (3 : Int32)) &&& 31))) → (vp_in x3 16 ∧ (∀ x6_70 : Int32, x6_70 = (x2 ||| (h_27 120 x3.toNatClampNeg)) → (vp_in x1 8 ∧ ((¬ ((h_27 124 x1.toNatClampNeg) &&& x5_60) = x5_60 → Q (-1 : Int32) h_27 g_27) ∧ (((h_27 124 x1.toNatClampNeg) &&& x5_60) = x5_60 → ((x6_70 = x2 → Q (-1 : Int32) h_27 g_27) ∧ (¬ x6_70 = x2 → ((x6_70 < (256 : Int32) → (vp_in x2 256 ∧ (vp_in x3 16 ∧ (∃ P_120 : Int32 → HI → HL → Prop, w_X5_knows (h_27 122 x2.toNatClampNeg) x4_43 (((h_27 119 x3.toNatClampNeg) >>> ((2 : Int32) &&& 31)) &&& (3 : Int32)) h_27 g_27 P_120 ∧ ∀ (r_120 : Int32) (h_120 : HI) (g_120 : HL), zb r_120 → P_120 r_120 h_120 g_120 → ((¬ r_120 = 0 → (vp_in x1 8 ∧ (∃ P_141 : Int32 → HI → HL → Prop, w_X5_runsBy ((h_120 124 x1.toNatClampNeg) &&& (x5_60 ^^^ (-1 : Int32))) x2 h_120 g_120 P_141 ∧ ∀ (r_141 : Int32) (h_141 : HI) (g_141 : HL), P_141 r_141 h_141 g_141 → (vp_in (x1 + (1 : Int32)) 9 ∧ (vp_in x6_70 256 ∧ Q (r_141 + (h_141 (126 + (x1 + (1 : Int32)).toNatClampNeg) x6_70.toNatClampNeg)) h_141 g_141))))) ∧ (r_120 = 0 → Q (-1 : Int32) h_120 g_120)))))) ∧ (¬ x6_70 < (256 : Int32) → Q (-1 : Int32) h_27 g_27)))))))))))))) ∧ (r_27 = 0 → Q (-1 : Int32) h_27 g_27))))))) ∧ (r_4 = 0 → Q (-1 : Int32) h_4 g_4)))
set_option maxHeartbeats 8000000 in
set_option maxRecDepth 100000 in
theorem m_X5_taught (l : Launch) (D : va_G) (cy : Nat → ClassId) (ad : Nat → Nat) (h : HI) (g : HL) (sz : Nat) (x1 : Int32) (x2 : Int32) (x3 : Int32) (Q : Int32 → HI → HL → Prop) (HW : w_X5_taught x1 x2 x3 h g Q) : Met l yX5_taught (wa yX5_taught cX5_taught 7 (some .int)) ({ frames := 2, cells := 0, slots := 0, locals := 46 }) (va_Pc [.ref (ad 118), .int x1, .int x2, .int x3] (gI D cy ad h g sz)) (va_Qi (fun (r : Int32) (u : HI × HL) => Q r u.1 u.2) (gB D cy ad sz) (gA ad sz)) 0 0 (gA ad sz) := by
  refine Met.ofW (cc := cX5_taught) (maxL := 7) (ret := (some .int)) (by decide) rfl ?_
  intro p e s m args below meth c s₁ B hml hv
  obtain ⟨hav, hsz, hP, hK, hD0, hNw⟩ := hv
  have hx := B.exec
  have hb := B.bytes
  have hr := B.returns
  have hts := atoms_spec (ws := (wa yX5_taught cX5_taught 7 (some .int))) B.pre
  have hw := wa_hw hts
  have hown : s.vm.findClass RX5 = some m.cls := findClass_of_methodNamed B.named
  have hlocks := B.notSynchronized
  subst hsz
  have hG : gG D cy ad (gA ad s.heap.size) s.heap h g s.heap [] := ⟨hP, gA_self hD0, va_S.rf⟩
  clear hP hD0
  have lk11 := hw (.fieldLink RX5 11 "OldWorks$Plans" "lessons" "[I") (wm2 122 rfl rfl)
  have lk15 := hw (.fieldLink RX5 15 "OldWorks$Plans" "learns" "[I") (wm2 123 rfl rfl)
  have lk27 := hw (.fieldLink RX5 27 "OldWorks$Plans" "there" "[I") (wm2 127 rfl rfl)
  have lk21 := hw (.fieldLink RX5 21 "OldWorks$Plans" "skilled" "[I") (wm2 125 rfl rfl)
  have lk32 := hw (.fieldLink RX5 32 "OldWorks$Plans" "most" "[[I") (wm2 128 rfl rfl)
  rw [show (headSpec (wa yX5_taught cX5_taught 7 (some .int)) ({ frames := 2, cells := 0, slots := 0, locals := 46 } : Room)).room = ({ frames := 2, cells := 0, slots := 0, locals := 46 } : Room) from rfl]
  have hl := lv_entry ([.ref (ad 118), .int x1, .int x2, .int x3]) (n := 7) (Nat.le_of_ble_eq_true rfl)
  rw [show entryFrame m args 7 = entryFrame m ([.ref (ad 118), .int x1, .int x2, .int x3] : List Value).toArray 7 from by rw [hav], lg_entry_eq]
  generalize (lg_sl ([.ref (ad 118), .int x1, .int x2, .int x3]) ++ List.replicate (7 - (lg_sl ([.ref (ad 118), .int x1, .int x2, .int x3])).length) Slot.unset).toArray = ls at hl ⊢
  have hl : lv_has ls 7 [(0, .ref (ad 118)), (1, .int x1), (2, .int x2), (3, .int x3)] := hl
  have E0 : ∀ (H : Heap) (locs : List Loc) (ls : Array Slot), gG D cy ad (gA ad s.heap.size) s.heap h g H locs → lv_has ls 7 [(0, .ref (ad 118)), (1, .int x1), (2, .int x2), (3, .int x3)] → W p l e ({ frames := 2, cells := 0, slots := 0, locals := 46 } : Room) s m args below meth c H locs 0 0 (MQ below (va_Qi (fun (r : Int32) (u : HI × HL) => Q r u.1 u.2) (gB D cy ad s.heap.size) (gA ad s.heap.size)) args s 0 0 (gA ad s.heap.size)) (F0 m 0 ls []) := by
    intro H locs ls hG hl
    unfold w_X5_taught at HW
    refine lv_iload_n hx hb dX5_taught_0 rfl (lv_at hl 3 rfl) ?_
    refine lv_iconst (v := 0) hx hb dX5_taught_1 (by decide) ?_
    refine lv_bipush (v := 15) hx hb dX5_taught_2 (by decide) ?_
    obtain ⟨P_4, HC_4, HW⟩ := HW
    refine g_callz (g_runSN (As := [.int x3, .int (0 : Int32), .int (15 : Int32)]) (rest := []) ⟨hx, hb, hml, hown, hts⟩ (m_X10_within l D cy ad h g H.size x3 (0 : Int32) (15 : Int32) P_4 HC_4) ⟨va_cnB 3 hts (gd_w (wm2 195 rfl rfl)) rfl rfl rfl (hNw _ (List.mem_of_getElem? (i := 4) rfl)) (hw (.initialized RX10) (wm1 1 rfl rfl)) (by decide +kernel) ⟨Nat.le_of_ble_eq_true rfl, Nat.le_of_ble_eq_true rfl⟩, hw (.static yX10_within) (wm2 194 rfl rfl), trivial⟩ hK hNw hG rfl rfl hl.1 rfl (lv_room (Nat.le_of_ble_eq_true rfl)) dX5_taught_4 ⟨Nat.zero_le _, Nat.zero_le _⟩) hG (fun r_4 h_4 g_4 H locs hz hq hG => ?_)
    replace HW := HW r_4 h_4 g_4 hz hq
    refine lv_if_ne (tgt := 12) hx hb dX5_taught_7 (by decide) (fun c_7 => ?_) (fun c_7 => ?_)
    · replace HW := HW.1 c_7
      refine lv_iload_n hx hb dX5_taught_12 rfl (lv_at hl 1 rfl) ?_
      refine lv_iconst (v := 0) hx hb dX5_taught_13 (by decide) ?_
      refine lv_bipush (v := 7) hx hb dX5_taught_14 (by decide) ?_
      obtain ⟨P_16, HC_16, HW⟩ := HW
      refine g_callz (g_runSN (As := [.int x1, .int (0 : Int32), .int (7 : Int32)]) (rest := []) ⟨hx, hb, hml, hown, hts⟩ (m_X10_within l D cy ad h_4 g_4 H.size x1 (0 : Int32) (7 : Int32) P_16 HC_16) ⟨va_cnB 3 hts (gd_w (wm2 195 rfl rfl)) rfl rfl rfl (hNw _ (List.mem_of_getElem? (i := 4) rfl)) (hw (.initialized RX10) (wm1 1 rfl rfl)) (by decide +kernel) ⟨Nat.le_of_ble_eq_true rfl, Nat.le_of_ble_eq_true rfl⟩, hw (.static yX10_within) (wm2 194 rfl rfl), trivial⟩ hK hNw hG rfl rfl hl.1 rfl (lv_room (Nat.le_of_ble_eq_true rfl)) dX5_taught_16 ⟨Nat.zero_le _, Nat.zero_le _⟩) hG (fun r_16 h_16 g_16 H locs hz hq hG => ?_)
      replace HW := HW r_16 h_16 g_16 hz hq
      refine lv_if_eq (tgt := 33) hx hb dX5_taught_19 (by decide) (fun c_19 => ?_) (fun c_19 => ?_)
      · replace HW := HW.1 c_19
        refine lv_iconst (v := (-1)) hx hb dX5_taught_33 (by decide) ?_
        exact W.iret (v := (-1 : Int32)) hx hb hr (fun t ht hW => ⟨⟨(-1 : Int32), (h_16, g_16), rfl, HW, g_B ht hG⟩, hG.2.2.F ht⟩) hG.2.2.2.2 dX5_taught_34
      · replace HW := HW.2 c_19
        refine lv_iload_n hx hb dX5_taught_22 rfl (lv_at hl 2 rfl) ?_
        refine lv_iconst (v := 0) hx hb dX5_taught_23 (by decide) ?_
        refine lv_sipush (v := 255) hx hb dX5_taught_24 (by decide) ?_
        obtain ⟨P_27, HC_27, HW⟩ := HW
        refine g_callz (g_runSN (As := [.int x2, .int (0 : Int32), .int (255 : Int32)]) (rest := []) ⟨hx, hb, hml, hown, hts⟩ (m_X10_within l D cy ad h_16 g_16 H.size x2 (0 : Int32) (255 : Int32) P_27 HC_27) ⟨va_cnB 3 hts (gd_w (wm2 195 rfl rfl)) rfl rfl rfl (hNw _ (List.mem_of_getElem? (i := 4) rfl)) (hw (.initialized RX10) (wm1 1 rfl rfl)) (by decide +kernel) ⟨Nat.le_of_ble_eq_true rfl, Nat.le_of_ble_eq_true rfl⟩, hw (.static yX10_within) (wm2 194 rfl rfl), trivial⟩ hK hNw hG rfl rfl hl.1 rfl (lv_room (Nat.le_of_ble_eq_true rfl)) dX5_taught_27 ⟨Nat.zero_le _, Nat.zero_le _⟩) hG (fun r_27 h_27 g_27 H locs hz hq hG => ?_)
        replace HW := HW r_27 h_27 g_27 hz hq
        refine lv_if_ne (tgt := 35) hx hb dX5_taught_30 (by decide) (fun c_30 => ?_) (fun c_30 => ?_)
        · replace HW := HW.1 c_30
          refine lv_aload_n hx hb dX5_taught_35 rfl (lv_at hl 0 rfl) ?_
          refine g_getr hx hb hw inG5 hown hK hG gl_118 rfl gk_118 (by decide) 1 (by decide) (by rw [gm_118]; decide) (r := 119) gr_118_1 lk11 dX5_taught_36 ?_
          refine lv_iload_n hx hb dX5_taught_39 rfl (lv_at hl 3 rfl) ?_
          refine g_iald hx hb hK hG gl_119 gk_119 gn_119 HW.1 dX5_taught_40 ?_
          replace HW := HW.2
          refine lv_iconst (v := 4) hx hb dX5_taught_41 (by decide) ?_
          refine lv_ishr hx hb dX5_taught_42 ?_
          refine lv_topi (fun x4_43 ex4_43 => ?_)
          replace HW := HW x4_43 ex4_43
          refine lv_istore (lv' := [(4, .int x4_43), (0, .ref (ad 118)), (1, .int x1), (2, .int x2), (3, .int x3)]) hx hb dX5_taught_43 hl (by decide) rfl (fun ls hl => ?_)
          refine lv_iconst (v := 1) hx hb dX5_taught_45 (by decide) ?_
          refine lv_iload hx hb dX5_taught_46 (lv_at hl 0 rfl) ?_
          refine lv_ishl hx hb dX5_taught_48 ?_
          refine lv_iconst (v := 1) hx hb dX5_taught_49 (by decide) ?_
          refine lv_aload_n hx hb dX5_taught_50 rfl (lv_at hl 1 rfl) ?_
          refine g_getr hx hb hw inG5 hown hK hG gl_118 rfl gk_118 (by decide) 1 (by decide) (by rw [gm_118]; decide) (r := 119) gr_118_1 lk11 dX5_taught_51 ?_
          refine lv_iload_n hx hb dX5_taught_54 rfl (lv_at hl 4 rfl) ?_
          refine g_iald hx hb hK hG gl_119 gk_119 gn_119 HW.1 dX5_taught_55 ?_
          replace HW := HW.2
          refine lv_iconst (v := 3) hx hb dX5_taught_56 (by decide) ?_
          refine lv_iand hx hb dX5_taught_57 ?_
          refine lv_ishl hx hb dX5_taught_58 ?_
          refine lv_ior hx hb dX5_taught_59 ?_
          refine lv_topi (fun x5_60 ex5_60 => ?_)
          replace HW := HW x5_60 ex5_60
          refine lv_istore (lv' := [(5, .int x5_60), (4, .int x4_43), (0, .ref (ad 118)), (1, .int x1), (2, .int x2), (3, .int x3)]) hx hb dX5_taught_60 hl (by decide) rfl (fun ls hl => ?_)
          refine lv_iload_n hx hb dX5_taught_62 rfl (lv_at hl 4 rfl) ?_
          refine lv_aload_n hx hb dX5_taught_63 rfl (lv_at hl 2 rfl) ?_
          refine g_getr hx hb hw inG5 hown hK hG gl_118 rfl gk_118 (by decide) 2 (by decide) (by rw [gm_118]; decide) (r := 120) gr_118_2 lk15 dX5_taught_64 ?_
          refine lv_iload_n hx hb dX5_taught_67 rfl (lv_at hl 5 rfl) ?_
          refine g_iald hx hb hK hG gl_120 gk_120 gn_120 HW.1 dX5_taught_68 ?_
          replace HW := HW.2
          refine lv_ior hx hb dX5_taught_69 ?_
          refine lv_topi (fun x6_70 ex6_70 => ?_)
          replace HW := HW x6_70 ex6_70
          refine lv_istore (lv' := [(6, .int x6_70), (5, .int x5_60), (4, .int x4_43), (0, .ref (ad 118)), (1, .int x1), (2, .int x2), (3, .int x3)]) hx hb dX5_taught_70 hl (by decide) rfl (fun ls hl => ?_)
          refine lv_aload_n hx hb dX5_taught_72 rfl (lv_at hl 3 rfl) ?_
          refine g_getr hx hb hw inG5 hown hK hG gl_118 rfl gk_118 (by decide) 6 (by decide) (by rw [gm_118]; decide) (r := 124) gr_118_6 lk27 dX5_taught_73 ?_
          refine lv_iload_n hx hb dX5_taught_76 rfl (lv_at hl 4 rfl) ?_
          refine g_iald hx hb hK hG gl_124 gk_124 gn_124 HW.1 dX5_taught_77 ?_
          replace HW := HW.2
          refine lv_iload hx hb dX5_taught_78 (lv_at hl 1 rfl) ?_
          refine lv_iand hx hb dX5_taught_80 ?_
          refine lv_iload hx hb dX5_taught_81 (lv_at hl 1 rfl) ?_
          refine lv_icmp_ne (tgt := 100) hx hb dX5_taught_83 (by decide) (fun c_83 => ?_) (fun c_83 => ?_)
          · replace HW := HW.1 c_83
            refine lv_iconst (v := (-1)) hx hb dX5_taught_100 (by decide) ?_
            exact W.iret (v := (-1 : Int32)) hx hb hr (fun t ht hW => ⟨⟨(-1 : Int32), (h_27, g_27), rfl, HW, g_B ht hG⟩, hG.2.2.F ht⟩) hG.2.2.2.2 dX5_taught_101
          · replace HW := HW.2 c_83
            refine lv_iload hx hb dX5_taught_86 (lv_at hl 0 rfl) ?_
            refine lv_iload_n hx hb dX5_taught_88 rfl (lv_at hl 5 rfl) ?_
            refine lv_icmp_eq (tgt := 100) hx hb dX5_taught_89 (by decide) (fun c_89 => ?_) (fun c_89 => ?_)
            · replace HW := HW.1 c_89
              refine lv_iconst (v := (-1)) hx hb dX5_taught_100 (by decide) ?_
              exact W.iret (v := (-1 : Int32)) hx hb hr (fun t ht hW => ⟨⟨(-1 : Int32), (h_27, g_27), rfl, HW, g_B ht hG⟩, hG.2.2.F ht⟩) hG.2.2.2.2 dX5_taught_101
            · replace HW := HW.2 c_89
              refine lv_iload hx hb dX5_taught_92 (lv_at hl 0 rfl) ?_
              refine lv_sipush (v := 256) hx hb dX5_taught_94 (by decide) ?_
              refine lv_icmp_lt (tgt := 102) hx hb dX5_taught_97 (by decide) (fun c_97 => ?_) (fun c_97 => ?_)
              · replace HW := HW.1 c_97
                refine lv_aload_n hx hb dX5_taught_102 rfl (lv_at hl 3 rfl) ?_
                refine g_getr hx hb hw inG5 hown hK hG gl_118 rfl gk_118 (by decide) 4 (by decide) (by rw [gm_118]; decide) (r := 122) gr_118_4 lk21 dX5_taught_103 ?_
                refine lv_iload_n hx hb dX5_taught_106 rfl (lv_at hl 5 rfl) ?_
                refine g_iald hx hb hK hG gl_122 gk_122 gn_122 HW.1 dX5_taught_107 ?_
                replace HW := HW.2
                refine lv_iload hx hb dX5_taught_108 (lv_at hl 2 rfl) ?_
                refine lv_aload_n hx hb dX5_taught_110 rfl (lv_at hl 3 rfl) ?_
                refine g_getr hx hb hw inG5 hown hK hG gl_118 rfl gk_118 (by decide) 1 (by decide) (by rw [gm_118]; decide) (r := 119) gr_118_1 lk11 dX5_taught_111 ?_
                refine lv_iload_n hx hb dX5_taught_114 rfl (lv_at hl 6 rfl) ?_
                refine g_iald hx hb hK hG gl_119 gk_119 gn_119 HW.1 dX5_taught_115 ?_
                replace HW := HW.2
                refine lv_iconst (v := 2) hx hb dX5_taught_116 (by decide) ?_
                refine lv_ishr hx hb dX5_taught_117 ?_
                refine lv_iconst (v := 3) hx hb dX5_taught_118 (by decide) ?_
                refine lv_iand hx hb dX5_taught_119 ?_
                obtain ⟨P_120, HC_120, HW⟩ := HW
                refine g_callz (g_runS (As := [.int (h_27 122 x2.toNatClampNeg), .int x4_43, .int (((h_27 119 x3.toNatClampNeg) >>> ((2 : Int32) &&& 31)) &&& (3 : Int32))]) (rest := []) ⟨hx, hb, hml, hown, hts⟩ (m_X5_knows l D cy ad h_27 g_27 H.size (h_27 122 x2.toNatClampNeg) x4_43 (((h_27 119 x3.toNatClampNeg) >>> ((2 : Int32) &&& 31)) &&& (3 : Int32)) P_120 HC_120) (va_cwS 3 hts (gd_S (wm4 162 rfl rfl) (wm4 163 rfl rfl) (wm1 12 rfl rfl) (wm4 164 rfl rfl)) rfl rfl rfl (by decide +kernel) ⟨Nat.le_of_ble_eq_true rfl, Nat.le_of_ble_eq_true rfl⟩) hK hNw hG rfl rfl hl.1 rfl (lv_room (Nat.le_of_ble_eq_true rfl)) dX5_taught_120 ⟨Nat.zero_le _, Nat.zero_le _⟩) hG (fun r_120 h_120 g_120 H locs hz hq hG => ?_)
                replace HW := HW r_120 h_120 g_120 hz hq
                refine lv_if_ne (tgt := 128) hx hb dX5_taught_123 (by decide) (fun c_123 => ?_) (fun c_123 => ?_)
                · replace HW := HW.1 c_123
                  refine lv_aload_n hx hb dX5_taught_128 rfl (lv_at hl 3 rfl) ?_
                  refine lv_aload_n hx hb dX5_taught_129 rfl (lv_at hl 3 rfl) ?_
                  refine g_getr hx hb hw inG5 hown hK hG gl_118 rfl gk_118 (by decide) 6 (by decide) (by rw [gm_118]; decide) (r := 124) gr_118_6 lk27 dX5_taught_130 ?_
                  refine lv_iload_n hx hb dX5_taught_133 rfl (lv_at hl 4 rfl) ?_
                  refine g_iald hx hb hK hG gl_124 gk_124 gn_124 HW.1 dX5_taught_134 ?_
                  replace HW := HW.2
                  refine lv_iload hx hb dX5_taught_135 (lv_at hl 1 rfl) ?_
                  refine lv_iconst (v := (-1)) hx hb dX5_taught_137 (by decide) ?_
                  refine lv_ixor hx hb dX5_taught_138 ?_
                  refine lv_iand hx hb dX5_taught_139 ?_
                  refine lv_iload_n hx hb dX5_taught_140 rfl (lv_at hl 5 rfl) ?_
                  obtain ⟨P_141, HC_141, HW⟩ := HW
                  refine g_calli (g_runV (As := [.int ((h_120 124 x1.toNatClampNeg) &&& (x5_60 ^^^ (-1 : Int32))), .int x2]) (rest := []) ⟨hx, hb, hml, hown, hts⟩ (m_X5_runsBy l D cy ad h_120 g_120 H.size ((h_120 124 x1.toNatClampNeg) &&& (x5_60 ^^^ (-1 : Int32))) x2 P_141 HC_141) (cwV 2 hts (gd_V (wm4 188 rfl rfl) (wm4 190 rfl rfl) (wmp3 (q := (yX5_runsBy, 11)) 1 rfl) (wm1 12 rfl rfl) (wm4 191 rfl rfl)) rfl rfl rfl (by decide +kernel) ⟨Nat.le_of_ble_eq_true rfl, Nat.le_of_ble_eq_true rfl⟩) hK hNw hG gl_118 rfl gk_118 (by decide) rfl rfl hl.1 rfl (lv_room (Nat.le_of_ble_eq_true rfl)) dX5_taught_141 ⟨Nat.zero_le _, Nat.zero_le _⟩) hG (fun r_141 h_141 g_141 H locs hq hG => ?_)
                  replace HW := HW r_141 h_141 g_141 hq
                  refine lv_aload_n hx hb dX5_taught_144 rfl (lv_at hl 3 rfl) ?_
                  refine g_getr hx hb hw inG5 hown hK hG gl_118 rfl gk_118 (by decide) 7 (by decide) (by rw [gm_118]; decide) (r := 125) gr_118_7 lk32 dX5_taught_145 ?_
                  refine lv_iload_n hx hb dX5_taught_148 rfl (lv_at hl 4 rfl) ?_
                  refine lv_iconst (v := 1) hx hb dX5_taught_149 (by decide) ?_
                  refine lv_iadd hx hb dX5_taught_150 ?_
                  have hi_151 := vp_lt HW.1
                  refine g_aald hx hb hK hG gl_125 gk_125 gn_125 HW.1 (go_125 _ hi_151).1 dX5_taught_151 ?_
                  replace HW := HW.2
                  refine lv_iload hx hb dX5_taught_152 (lv_at hl 0 rfl) ?_
                  refine g_iald hx hb hK hG ((go_125 _ hi_151).2.2.1) ((go_125 _ hi_151).2.1) ((go_125 _ hi_151).2.2.2) HW.1 dX5_taught_154 ?_
                  replace HW := HW.2
                  refine lv_iadd hx hb dX5_taught_155 ?_
                  exact W.iret (v := (r_141 + (h_141 (126 + (x1 + (1 : Int32)).toNatClampNeg) x6_70.toNatClampNeg))) hx hb hr (fun t ht hW => ⟨⟨(r_141 + (h_141 (126 + (x1 + (1 : Int32)).toNatClampNeg) x6_70.toNatClampNeg)), (h_141, g_141), rfl, HW, g_B ht hG⟩, hG.2.2.F ht⟩) hG.2.2.2.2 dX5_taught_156
                · replace HW := HW.2 c_123
                  refine lv_iconst (v := (-1)) hx hb dX5_taught_126 (by decide) ?_
                  exact W.iret (v := (-1 : Int32)) hx hb hr (fun t ht hW => ⟨⟨(-1 : Int32), (h_120, g_120), rfl, HW, g_B ht hG⟩, hG.2.2.F ht⟩) hG.2.2.2.2 dX5_taught_127
              · replace HW := HW.2 c_97
                refine lv_iconst (v := (-1)) hx hb dX5_taught_100 (by decide) ?_
                exact W.iret (v := (-1 : Int32)) hx hb hr (fun t ht hW => ⟨⟨(-1 : Int32), (h_27, g_27), rfl, HW, g_B ht hG⟩, hG.2.2.F ht⟩) hG.2.2.2.2 dX5_taught_101
        · replace HW := HW.2 c_30
          refine lv_iconst (v := (-1)) hx hb dX5_taught_33 (by decide) ?_
          exact W.iret (v := (-1 : Int32)) hx hb hr (fun t ht hW => ⟨⟨(-1 : Int32), (h_27, g_27), rfl, HW, g_B ht hG⟩, hG.2.2.F ht⟩) hG.2.2.2.2 dX5_taught_34
    · replace HW := HW.2 c_7
      refine lv_iconst (v := (-1)) hx hb dX5_taught_10 (by decide) ?_
      exact W.iret (v := (-1 : Int32)) hx hb hr (fun t ht hW => ⟨⟨(-1 : Int32), (h_4, g_4), rfl, HW, g_B ht hG⟩, hG.2.2.F ht⟩) hG.2.2.2.2 dX5_taught_11
  exact E0 _ _ _ hG hl

def b_X5_mostOf_10 (Q : Int32 → HI → HL → Prop) (K10 : Int32 → Int32 → Int32 → Int32 → HI → HL → Prop) (x1 : Int32) (x2 : Int32) (x3 : Int32) (x4 : Int32) (h : HI) (g : HL) : Prop :=
  (((h 118 8) ≤ x4 → Q x3 h g) ∧ (¬ (h 118 8) ≤ x4 → (∃ P_25 : Int32 → HI → HL → Prop, w_X5_taught x1 x2 x4 h g P_25 ∧ ∀ (r_25 : Int32) (h_25 : HI) (g_25 : HL), P_25 r_25 h_25 g_25 → (∀ x3_31 : Int32, x3_31 = (if x3 < r_25 then r_25 else x3) → (∀ x4_32 : Int32, x4_32 = (x4 + 1) → K10 x1 x2 x3_31 x4_32 h_25 g_25)))))
def F_X5_mostOf_10 (Q : Int32 → HI → HL → Prop) (K : Int32 × Int32 × Int32 × Int32 × HI × HL → Prop) (q : Int32 × Int32 × Int32 × Int32 × HI × HL) : Prop := b_X5_mostOf_10 Q (fun x1 x2 x3 x4 h g => K (x1, x2, x3, x4, h, g)) q.1 q.2.1 q.2.2.1 q.2.2.2.1 q.2.2.2.2.1 q.2.2.2.2.2
def w_X5_mostOf (x1 : Int32) (x2 : Int32) (h : HI) (g : HL) (Q : Int32 → HI → HL → Prop) : Prop :=
  (∃ P_3 : Int32 → HI → HL → Prop, w_X5_idle x1 x2 h g P_3 ∧ ∀ (r_3 : Int32) (h_3 : HI) (g_3 : HL), P_3 r_3 h_3 g_3 → lpE (F_X5_mostOf_10 Q) (x1, x2, r_3, (0 : Int32), h_3, g_3))
set_option maxHeartbeats 8000000 in
set_option maxRecDepth 100000 in
theorem m_X5_mostOf (l : Launch) (D : va_G) (cy : Nat → ClassId) (ad : Nat → Nat) (h : HI) (g : HL) (sz : Nat) (x1 : Int32) (x2 : Int32) (Q : Int32 → HI → HL → Prop) (HW : w_X5_mostOf x1 x2 h g Q) : Met l yX5_mostOf (wa yX5_mostOf cX5_mostOf 5 (some .int)) ({ frames := 3, cells := 0, slots := 0, locals := 72 }) (va_Pc [.ref (ad 118), .int x1, .int x2] (gI D cy ad h g sz)) (va_Qi (fun (r : Int32) (u : HI × HL) => Q r u.1 u.2) (gB D cy ad sz) (gA ad sz)) 0 0 (gA ad sz) := by
  refine Met.ofW (cc := cX5_mostOf) (maxL := 5) (ret := (some .int)) (by decide) rfl ?_
  intro p e s m args below meth c s₁ B hml hv
  obtain ⟨hav, hsz, hP, hK, hD0, hNw⟩ := hv
  have hx := B.exec
  have hb := B.bytes
  have hr := B.returns
  have hts := atoms_spec (ws := (wa yX5_mostOf cX5_mostOf 5 (some .int))) B.pre
  have hw := wa_hw hts
  have hown : s.vm.findClass RX5 = some m.cls := findClass_of_methodNamed B.named
  have hlocks := B.notSynchronized
  subst hsz
  have hG : gG D cy ad (gA ad s.heap.size) s.heap h g s.heap [] := ⟨hP, gA_self hD0, va_S.rf⟩
  clear hP hD0
  have lk101 := hw (.fieldLink RX5 101 "OldWorks$Plans" "many" "I") (wm2 129 rfl rfl)
  have ml45 := hw (.methodLink RX5 45 Lib.Math.max.name) (wm4 155 rfl rfl)
  have ms45 := hw (.static Lib.Math.max.name) (wm3 45 rfl rfl)
  have mi45 := hw (.initialized "java/lang/Math") (wm1 14 rfl rfl)
  have mc45 := hw (.code Lib.Math.max.name Lib.Math.max.code 2 (some .int)) (wm3 46 rfl rfl)
  rw [show (headSpec (wa yX5_mostOf cX5_mostOf 5 (some .int)) ({ frames := 3, cells := 0, slots := 0, locals := 72 } : Room)).room = ({ frames := 3, cells := 0, slots := 0, locals := 72 } : Room) from rfl]
  have hl := lv_entry ([.ref (ad 118), .int x1, .int x2]) (n := 5) (Nat.le_of_ble_eq_true rfl)
  rw [show entryFrame m args 5 = entryFrame m ([.ref (ad 118), .int x1, .int x2] : List Value).toArray 5 from by rw [hav], lg_entry_eq]
  generalize (lg_sl ([.ref (ad 118), .int x1, .int x2]) ++ List.replicate (5 - (lg_sl ([.ref (ad 118), .int x1, .int x2])).length) Slot.unset).toArray = ls at hl ⊢
  have hl : lv_has ls 5 [(0, .ref (ad 118)), (1, .int x1), (2, .int x2)] := hl
  have L10 : ∀ (n : Nat) (x1 : Int32) (x2 : Int32) (x3 : Int32) (x4 : Int32) (h : HI) (g : HL) (H : Heap) (locs : List Loc) (ls : Array Slot), lpN (F_X5_mostOf_10 Q) n (x1, x2, x3, x4, h, g) → gG D cy ad (gA ad s.heap.size) s.heap h g H locs → lv_has ls 5 [(0, .ref (ad 118)), (1, .int x1), (2, .int x2), (3, .int x3), (4, .int x4)] → W p l e ({ frames := 3, cells := 0, slots := 0, locals := 72 } : Room) s m args below meth c H locs 0 0 (MQ below (va_Qi (fun (r : Int32) (u : HI × HL) => Q r u.1 u.2) (gB D cy ad s.heap.size) (gA ad s.heap.size)) args s 0 0 (gA ad s.heap.size)) (F0 m 10 ls []) := by
    intro n
    induction n with
    | zero => intro x1 x2 x3 x4 h g H locs ls HW; exact HW.elim
    | succ n ih =>
      intro x1 x2 x3 x4 h g H locs ls HW hG hl
      have HW : b_X5_mostOf_10 Q (fun x1 x2 x3 x4 h g => lpN (F_X5_mostOf_10 Q) n (x1, x2, x3, x4, h, g)) x1 x2 x3 x4 h g := HW
      generalize hKe : (fun (x1 : Int32) (x2 : Int32) (x3 : Int32) (x4 : Int32) (h : HI) (g : HL) => lpN (F_X5_mostOf_10 Q) n (x1, x2, x3, x4, h, g)) = K10 at HW
      have hK10 : ∀ (x1 : Int32) (x2 : Int32) (x3 : Int32) (x4 : Int32) (h : HI) (g : HL) (H : Heap) (locs : List Loc) (ls : Array Slot), K10 x1 x2 x3 x4 h g → gG D cy ad (gA ad s.heap.size) s.heap h g H locs → lv_has ls 5 [(0, .ref (ad 118)), (1, .int x1), (2, .int x2), (3, .int x3), (4, .int x4)] → W p l e ({ frames := 3, cells := 0, slots := 0, locals := 72 } : Room) s m args below meth c H locs 0 0 (MQ below (va_Qi (fun (r : Int32) (u : HI × HL) => Q r u.1 u.2) (gB D cy ad s.heap.size) (gA ad s.heap.size)) args s 0 0 (gA ad s.heap.size)) (F0 m 10 ls []) := by subst hKe; exact ih
      clear ih
      clear hKe
      unfold b_X5_mostOf_10 at HW
      refine lv_iload hx hb dX5_mostOf_10 (lv_at hl 4 rfl) ?_
      refine lv_aload_n hx hb dX5_mostOf_12 rfl (lv_at hl 0 rfl) ?_
      refine g_geti hx hb hw inG5 hown hK hG gl_118 rfl gk_118 (by decide) 8 (by decide) (by rw [gm_118]; decide) gr_118_8 lk101 dX5_mostOf_13 ?_
      refine lv_icmp_ge (tgt := 38) hx hb dX5_mostOf_16 (by decide) (fun c_16 => ?_) (fun c_16 => ?_)
      · replace HW := HW.1 c_16
        refine lv_iload_n hx hb dX5_mostOf_38 rfl (lv_at hl 3 rfl) ?_
        exact W.iret (v := x3) hx hb hr (fun t ht hW => ⟨⟨x3, (h, g), rfl, HW, g_B ht hG⟩, hG.2.2.F ht⟩) hG.2.2.2.2 dX5_mostOf_39
      · replace HW := HW.2 c_16
        refine lv_iload_n hx hb dX5_mostOf_19 rfl (lv_at hl 3 rfl) ?_
        refine lv_aload_n hx hb dX5_mostOf_20 rfl (lv_at hl 0 rfl) ?_
        refine lv_iload_n hx hb dX5_mostOf_21 rfl (lv_at hl 1 rfl) ?_
        refine lv_iload_n hx hb dX5_mostOf_22 rfl (lv_at hl 2 rfl) ?_
        refine lv_iload hx hb dX5_mostOf_23 (lv_at hl 4 rfl) ?_
        obtain ⟨P_25, HC_25, HW⟩ := HW
        refine g_calli (g_runV (As := [.int x1, .int x2, .int x4]) (rest := [.int x3]) ⟨hx, hb, hml, hown, hts⟩ (m_X5_taught l D cy ad h g H.size x1 x2 x4 P_25 HC_25) (cwV 3 hts (gd_V (wm4 192 rfl rfl) (wm4 194 rfl rfl) (wmp3 (q := (yX5_taught, 11)) 2 rfl) (wm1 12 rfl rfl) (wm4 195 rfl rfl)) rfl rfl rfl (by decide +kernel) ⟨Nat.le_of_ble_eq_true rfl, Nat.le_of_ble_eq_true rfl⟩) hK hNw hG gl_118 rfl gk_118 (by decide) rfl rfl hl.1 rfl (lv_room (Nat.le_of_ble_eq_true rfl)) dX5_mostOf_25 ⟨Nat.zero_le _, Nat.zero_le _⟩) hG (fun r_25 h_25 g_25 H locs hq hG => ?_)
        replace HW := HW r_25 h_25 g_25 hq
        refine va_mmax hx hb (hml.trans hl.1.symm) hown ml45 ms45 mi45 mc45 (by decide) (Nat.le_of_ble_eq_true rfl) (Nat.zero_le _) (Nat.zero_le _) dX5_mostOf_28 ?_
        refine lv_topi (fun x3_31 ex3_31 => ?_)
        replace HW := HW x3_31 ex3_31
        refine lv_istore_n (lv' := [(3, .int x3_31), (0, .ref (ad 118)), (1, .int x1), (2, .int x2), (4, .int x4)]) hx hb dX5_mostOf_31 rfl hl (by decide) rfl (fun ls hl => ?_)
        obtain ⟨x4_32, ex4_32⟩ : ∃ y : Int32, y = (x4 + 1) := ⟨_, rfl⟩
        replace HW := HW x4_32 ex4_32
        refine lv_iinc (v := x4_32) (lv' := [(4, .int x4_32), (3, .int x3_31), (0, .ref (ad 118)), (1, .int x1), (2, .int x2)]) hx hb dX5_mostOf_32 hl (k := 4) rfl (by rw [ex4_32]; rfl) (by decide) rfl (fun ls hl => ?_)
        refine lv_goto (tgt := 10) hx hb dX5_mostOf_35 (by decide) ?_
        exact hK10 x1 x2 x3_31 x4_32 h_25 g_25 _ _ _ HW hG (lv_sub hl [2, 3, 4, 1, 0] rfl)
  have E0 : ∀ (H : Heap) (locs : List Loc) (ls : Array Slot), gG D cy ad (gA ad s.heap.size) s.heap h g H locs → lv_has ls 5 [(0, .ref (ad 118)), (1, .int x1), (2, .int x2)] → W p l e ({ frames := 3, cells := 0, slots := 0, locals := 72 } : Room) s m args below meth c H locs 0 0 (MQ below (va_Qi (fun (r : Int32) (u : HI × HL) => Q r u.1 u.2) (gB D cy ad s.heap.size) (gA ad s.heap.size)) args s 0 0 (gA ad s.heap.size)) (F0 m 0 ls []) := by
    intro H locs ls hG hl
    unfold w_X5_mostOf at HW
    refine lv_aload_n hx hb dX5_mostOf_0 rfl (lv_at hl 0 rfl) ?_
    refine lv_iload_n hx hb dX5_mostOf_1 rfl (lv_at hl 1 rfl) ?_
    refine lv_iload_n hx hb dX5_mostOf_2 rfl (lv_at hl 2 rfl) ?_
    obtain ⟨P_3, HC_3, HW⟩ := HW
    refine g_calli (g_runV (As := [.int x1, .int x2]) (rest := []) ⟨hx, hb, hml, hown, hts⟩ (m_X5_idle l D cy ad h g H.size x1 x2 P_3 HC_3) (cwV 2 hts (gd_V (wm4 184 rfl rfl) (wm4 186 rfl rfl) (wmp3 (q := (yX5_idle, 11)) 0 rfl) (wm1 12 rfl rfl) (wm4 187 rfl rfl)) rfl rfl rfl (by decide +kernel) ⟨Nat.le_of_ble_eq_true rfl, Nat.le_of_ble_eq_true rfl⟩) hK hNw hG gl_118 rfl gk_118 (by decide) rfl rfl hl.1 rfl (lv_room (Nat.le_of_ble_eq_true rfl)) dX5_mostOf_3 ⟨Nat.zero_le _, Nat.zero_le _⟩) hG (fun r_3 h_3 g_3 H locs hq hG => ?_)
    replace HW := HW r_3 h_3 g_3 hq
    refine lv_istore_n (lv' := [(3, .int r_3), (0, .ref (ad 118)), (1, .int x1), (2, .int x2)]) hx hb dX5_mostOf_6 rfl hl (by decide) rfl (fun ls hl => ?_)
    refine lv_iconst (v := 0) hx hb dX5_mostOf_7 (by decide) ?_
    refine lv_istore (lv' := [(4, .int (0 : Int32)), (3, .int r_3), (0, .ref (ad 118)), (1, .int x1), (2, .int x2)]) hx hb dX5_mostOf_8 hl (by decide) rfl (fun ls hl => ?_)
    obtain ⟨n_10, HW⟩ := HW
    exact L10 n_10 x1 x2 r_3 (0 : Int32) h_3 g_3 _ _ _ HW hG (lv_sub hl [2, 3, 4, 1, 0] rfl)
  exact E0 _ _ _ hG hl

def j_X5_find_116 (Q : HI → HL → Prop) (K78 : Int32 → Int32 → HI → HL → Prop) (K85 : Int32 → Int32 → Int32 → HI → HL → Prop) (x2 : Int32) (x3 : Int32) (x4 : Int32) (h : HI) (g : HL) : Prop :=
  (∀ x4_116 : Int32, x4_116 = (x4 + 1) → K85 x2 x3 x4_116 h g)
def b_X5_find_85 (Q : HI → HL → Prop) (K78 : Int32 → Int32 → HI → HL → Prop) (K85 : Int32 → Int32 → Int32 → HI → HL → Prop) (x2 : Int32) (x3 : Int32) (x4 : Int32) (h : HI) (g : HL) : Prop :=
  ((x2 ≤ x4 → (∀ x3_122 : Int32, x3_122 = (x3 + (-1)) → K78 x2 x3_122 h g)) ∧ (¬ x2 ≤ x4 → (∃ P_93 : Int32 → HI → HL → Prop, w_J6_bitCount_0f7a4 x4 h g P_93 ∧ ∀ (r_93 : Int32) (h_93 : HI) (g_93 : HL), P_93 r_93 h_93 g_93 → ((x3 < r_93 → j_X5_find_116 Q K78 K85 x2 x3 x4 h_93 g_93) ∧ (¬ x3 < r_93 → (vp_in x3 9 ∧ (∃ P_112 : Int32 → HI → HL → Prop, w_X5_mostOf x3 x4 h_93 g_93 P_112 ∧ ∀ (r_112 : Int32) (h_112 : HI) (g_112 : HL), P_112 r_112 h_112 g_112 → (vp_in x4 256 ∧ ∀ h_115 : HI, h_115 = hu h_112 (126 + x3.toNatClampNeg) x4.toNatClampNeg r_112 → j_X5_find_116 Q K78 K85 x2 x3 x4 h_115 g_112))))))))
def F_X5_find_85 (Q : HI → HL → Prop) (K78 : Int32 → Int32 → HI → HL → Prop) (K : Int32 × Int32 × Int32 × HI × HL → Prop) (q : Int32 × Int32 × Int32 × HI × HL) : Prop := b_X5_find_85 Q K78 (fun x2 x3 x4 h g => K (x2, x3, x4, h, g)) q.1 q.2.1 q.2.2.1 q.2.2.2.1 q.2.2.2.2
def b_X5_find_78 (Q : HI → HL → Prop) (K78 : Int32 → Int32 → HI → HL → Prop) (x2 : Int32) (x3 : Int32) (h : HI) (g : HL) : Prop :=
  ((x3 < 0 → Q h g) ∧ (¬ x3 < 0 → lpE (F_X5_find_85 Q K78) (x2, x3, (0 : Int32), h, g)))
def F_X5_find_78 (Q : HI → HL → Prop) (K : Int32 × Int32 × HI × HL → Prop) (q : Int32 × Int32 × HI × HL) : Prop := b_X5_find_78 Q (fun x2 x3 h g => K (x2, x3, h, g)) q.1 q.2.1 q.2.2.1 q.2.2.2
def b_X5_find_48 (Q : HI → HL → Prop) (K48 : Int32 → Int32 → HI → HL → Prop) (x2 : Int32) (x3 : Int32) (h : HI) (g : HL) : Prop :=
  ((x2 ≤ x3 → (∀ x3_77 : Int32, x3_77 = ((h 118 10) - (1 : Int32)) → lpE (F_X5_find_78 Q) (x2, x3_77, h, g))) ∧ (¬ x2 ≤ x3 → (vp_in (h 118 10) 9 ∧ (vp_in x3 256 ∧ ∀ h_64 : HI, h_64 = hu h (126 + (h 118 10).toNatClampNeg) x3.toNatClampNeg (0 : Int32) → (∀ x3_65 : Int32, x3_65 = (x3 + 1) → K48 x2 x3_65 h_64 g)))))
def F_X5_find_48 (Q : HI → HL → Prop) (K : Int32 × Int32 × HI × HL → Prop) (q : Int32 × Int32 × HI × HL) : Prop := b_X5_find_48 Q (fun x2 x3 h g => K (x2, x3, h, g)) q.1 q.2.1 q.2.2.1 q.2.2.2
def w_X5_find (x1 : Int32) (h : HI) (g : HL) (Q : HI → HL → Prop) : Prop :=
  (∀ h_11 : HI, h_11 = hu h 118 10 (if (0 : Int32) < (if (8 : Int32) < x1 then (8 : Int32) else x1) then (if (8 : Int32) < x1 then (8 : Int32) else x1) else (0 : Int32)) → (∃ P_15 : HI → HL → Prop, w_X5_chooseBits h_11 g P_15 ∧ ∀ (h_15 : HI) (g_15 : HL), P_15 h_15 g_15 → (∃ P_19 : HI → HL → Prop, w_X5_chooseLessons h_15 g_15 P_19 ∧ ∀ (h_19 : HI) (g_19 : HL), P_19 h_19 g_19 → (∃ P_23 : HI → HL → Prop, w_X5_chooseRuns h_19 g_19 P_23 ∧ ∀ (h_23 : HI) (g_23 : HL), P_23 h_23 g_23 → (∃ P_27 : HI → HL → Prop, w_X5_chooseYears h_23 g_23 P_27 ∧ ∀ (h_27 : HI) (g_27 : HL), P_27 h_27 g_27 → (∀ x2_45 : Int32, x2_45 = ((1 : Int32) <<< ((if (0 : Int32) < (if (h_27 118 9) < (8 : Int32) then (h_27 118 9) else (8 : Int32)) then (if (h_27 118 9) < (8 : Int32) then (h_27 118 9) else (8 : Int32)) else (0 : Int32)) &&& 31)) → lpE (F_X5_find_48 Q) (x2_45, (0 : Int32), h_27, g_27)))))))
set_option maxHeartbeats 8000000 in
set_option maxRecDepth 100000 in
theorem m_X5_find (l : Launch) (D : va_G) (cy : Nat → ClassId) (ad : Nat → Nat) (h : HI) (g : HL) (sz : Nat) (x1 : Int32) (Q : HI → HL → Prop) (HW : w_X5_find x1 h g Q) : Met l yX5_find (wa yX5_find cX5_find 5 none) ({ frames := 4, cells := 0, slots := 0, locals := 96 }) (va_Pc [.ref (ad 118), .int x1] (gI D cy ad h g sz)) (va_Qv (fun (u : HI × HL) => Q u.1 u.2) (gB D cy ad sz) (gA ad sz)) 0 0 (gA ad sz) := by
  refine Met.ofW (cc := cX5_find) (maxL := 5) (ret := none) (by decide) rfl ?_
  intro p e s m args below meth c s₁ B hml hv
  obtain ⟨hav, hsz, hP, hK, hD0, hNw⟩ := hv
  have hx := B.exec
  have hb := B.bytes
  have hr := B.returns
  have hts := atoms_spec (ws := (wa yX5_find cX5_find 5 none)) B.pre
  have hw := wa_hw hts
  have hown : s.vm.findClass RX5 = some m.cls := findClass_of_methodNamed B.named
  have hlocks := B.notSynchronized
  subst hsz
  have hG : gG D cy ad (gA ad s.heap.size) s.heap h g s.heap [] := ⟨hP, gA_self hD0, va_S.rf⟩
  clear hP hD0
  have ml39 := hw (.methodLink RX5 39 Lib.Math.min.name) (wm4 154 rfl rfl)
  have ms39 := hw (.static Lib.Math.min.name) (wm3 99 rfl rfl)
  have mi39 := hw (.initialized "java/lang/Math") (wm1 14 rfl rfl)
  have mc39 := hw (.code Lib.Math.min.name Lib.Math.min.code 2 (some .int)) (wm3 100 rfl rfl)
  have ml45 := hw (.methodLink RX5 45 Lib.Math.max.name) (wm4 155 rfl rfl)
  have ms45 := hw (.static Lib.Math.max.name) (wm3 45 rfl rfl)
  have mi45 := hw (.initialized "java/lang/Math") (wm1 14 rfl rfl)
  have mc45 := hw (.code Lib.Math.max.name Lib.Math.max.code 2 (some .int)) (wm3 46 rfl rfl)
  have lk48 := hw (.fieldLink RX5 48 "OldWorks$Plans" "years" "I") (wm2 131 rfl rfl)
  have lk64 := hw (.fieldLink RX5 64 "OldWorks$Plans" "learned" "I") (wm2 130 rfl rfl)
  have lk32 := hw (.fieldLink RX5 32 "OldWorks$Plans" "most" "[[I") (wm2 128 rfl rfl)
  rw [show (headSpec (wa yX5_find cX5_find 5 none) ({ frames := 4, cells := 0, slots := 0, locals := 96 } : Room)).room = ({ frames := 4, cells := 0, slots := 0, locals := 96 } : Room) from rfl]
  have hl := lv_entry ([.ref (ad 118), .int x1]) (n := 5) (Nat.le_of_ble_eq_true rfl)
  rw [show entryFrame m args 5 = entryFrame m ([.ref (ad 118), .int x1] : List Value).toArray 5 from by rw [hav], lg_entry_eq]
  generalize (lg_sl ([.ref (ad 118), .int x1]) ++ List.replicate (5 - (lg_sl ([.ref (ad 118), .int x1])).length) Slot.unset).toArray = ls at hl ⊢
  have hl : lv_has ls 5 [(0, .ref (ad 118)), (1, .int x1)] := hl
  have B116 : ∀ (K78 : Int32 → Int32 → HI → HL → Prop) (hK78 : ∀ (x2 : Int32) (x3 : Int32) (h : HI) (g : HL) (H : Heap) (locs : List Loc) (ls : Array Slot), K78 x2 x3 h g → gG D cy ad (gA ad s.heap.size) s.heap h g H locs → lv_has ls 5 [(0, .ref (ad 118)), (2, .int x2), (3, .int x3)] → W p l e ({ frames := 4, cells := 0, slots := 0, locals := 96 } : Room) s m args below meth c H locs 0 0 (MQ below (va_Qv (fun (u : HI × HL) => Q u.1 u.2) (gB D cy ad s.heap.size) (gA ad s.heap.size)) args s 0 0 (gA ad s.heap.size)) (F0 m 78 ls [])) (K85 : Int32 → Int32 → Int32 → HI → HL → Prop) (hK85 : ∀ (x2 : Int32) (x3 : Int32) (x4 : Int32) (h : HI) (g : HL) (H : Heap) (locs : List Loc) (ls : Array Slot), K85 x2 x3 x4 h g → gG D cy ad (gA ad s.heap.size) s.heap h g H locs → lv_has ls 5 [(0, .ref (ad 118)), (2, .int x2), (3, .int x3), (4, .int x4)] → W p l e ({ frames := 4, cells := 0, slots := 0, locals := 96 } : Room) s m args below meth c H locs 0 0 (MQ below (va_Qv (fun (u : HI × HL) => Q u.1 u.2) (gB D cy ad s.heap.size) (gA ad s.heap.size)) args s 0 0 (gA ad s.heap.size)) (F0 m 85 ls [])) (x2 : Int32) (x3 : Int32) (x4 : Int32) (h : HI) (g : HL) (H : Heap) (locs : List Loc) (ls : Array Slot), j_X5_find_116 Q K78 K85 x2 x3 x4 h g → gG D cy ad (gA ad s.heap.size) s.heap h g H locs → lv_has ls 5 [(0, .ref (ad 118)), (2, .int x2), (3, .int x3), (4, .int x4)] → W p l e ({ frames := 4, cells := 0, slots := 0, locals := 96 } : Room) s m args below meth c H locs 0 0 (MQ below (va_Qv (fun (u : HI × HL) => Q u.1 u.2) (gB D cy ad s.heap.size) (gA ad s.heap.size)) args s 0 0 (gA ad s.heap.size)) (F0 m 116 ls []) := by
    intro K78 hK78 K85 hK85 x2 x3 x4 h g H locs ls HW hG hl
    unfold j_X5_find_116 at HW
    obtain ⟨x4_116, ex4_116⟩ : ∃ y : Int32, y = (x4 + 1) := ⟨_, rfl⟩
    replace HW := HW x4_116 ex4_116
    refine lv_iinc (v := x4_116) (lv' := [(4, .int x4_116), (0, .ref (ad 118)), (2, .int x2), (3, .int x3)]) hx hb dX5_find_116 hl (k := 3) rfl (by rw [ex4_116]; rfl) (by decide) rfl (fun ls hl => ?_)
    refine lv_goto (tgt := 85) hx hb dX5_find_119 (by decide) ?_
    exact hK85 x2 x3 x4_116 h g _ _ _ HW hG (lv_sub hl [1, 2, 3, 0] rfl)
  have L85 : ∀ (K78 : Int32 → Int32 → HI → HL → Prop) (hK78 : ∀ (x2 : Int32) (x3 : Int32) (h : HI) (g : HL) (H : Heap) (locs : List Loc) (ls : Array Slot), K78 x2 x3 h g → gG D cy ad (gA ad s.heap.size) s.heap h g H locs → lv_has ls 5 [(0, .ref (ad 118)), (2, .int x2), (3, .int x3)] → W p l e ({ frames := 4, cells := 0, slots := 0, locals := 96 } : Room) s m args below meth c H locs 0 0 (MQ below (va_Qv (fun (u : HI × HL) => Q u.1 u.2) (gB D cy ad s.heap.size) (gA ad s.heap.size)) args s 0 0 (gA ad s.heap.size)) (F0 m 78 ls [])) (n : Nat) (x2 : Int32) (x3 : Int32) (x4 : Int32) (h : HI) (g : HL) (H : Heap) (locs : List Loc) (ls : Array Slot), lpN (F_X5_find_85 Q K78) n (x2, x3, x4, h, g) → gG D cy ad (gA ad s.heap.size) s.heap h g H locs → lv_has ls 5 [(0, .ref (ad 118)), (2, .int x2), (3, .int x3), (4, .int x4)] → W p l e ({ frames := 4, cells := 0, slots := 0, locals := 96 } : Room) s m args below meth c H locs 0 0 (MQ below (va_Qv (fun (u : HI × HL) => Q u.1 u.2) (gB D cy ad s.heap.size) (gA ad s.heap.size)) args s 0 0 (gA ad s.heap.size)) (F0 m 85 ls []) := by
    intro K78 hK78 n
    induction n with
    | zero => intro x2 x3 x4 h g H locs ls HW; exact HW.elim
    | succ n ih =>
      intro x2 x3 x4 h g H locs ls HW hG hl
      have HW : b_X5_find_85 Q K78 (fun x2 x3 x4 h g => lpN (F_X5_find_85 Q K78) n (x2, x3, x4, h, g)) x2 x3 x4 h g := HW
      generalize hKe : (fun (x2 : Int32) (x3 : Int32) (x4 : Int32) (h : HI) (g : HL) => lpN (F_X5_find_85 Q K78) n (x2, x3, x4, h, g)) = K85 at HW
      have hK85 : ∀ (x2 : Int32) (x3 : Int32) (x4 : Int32) (h : HI) (g : HL) (H : Heap) (locs : List Loc) (ls : Array Slot), K85 x2 x3 x4 h g → gG D cy ad (gA ad s.heap.size) s.heap h g H locs → lv_has ls 5 [(0, .ref (ad 118)), (2, .int x2), (3, .int x3), (4, .int x4)] → W p l e ({ frames := 4, cells := 0, slots := 0, locals := 96 } : Room) s m args below meth c H locs 0 0 (MQ below (va_Qv (fun (u : HI × HL) => Q u.1 u.2) (gB D cy ad s.heap.size) (gA ad s.heap.size)) args s 0 0 (gA ad s.heap.size)) (F0 m 85 ls []) := by subst hKe; exact ih
      clear ih
      clear hKe
      unfold b_X5_find_85 at HW
      refine lv_iload hx hb dX5_find_85 (lv_at hl 3 rfl) ?_
      refine lv_iload_n hx hb dX5_find_87 rfl (lv_at hl 1 rfl) ?_
      refine lv_icmp_ge (tgt := 122) hx hb dX5_find_88 (by decide) (fun c_88 => ?_) (fun c_88 => ?_)
      · replace HW := HW.1 c_88
        obtain ⟨x3_122, ex3_122⟩ : ∃ y : Int32, y = (x3 + (-1)) := ⟨_, rfl⟩
        replace HW := HW x3_122 ex3_122
        refine lv_iinc (v := x3_122) (lv' := [(3, .int x3_122), (0, .ref (ad 118)), (2, .int x2), (4, .int x4)]) hx hb dX5_find_122 hl (k := 2) rfl (by rw [ex3_122]; rfl) (by decide) rfl (fun ls hl => ?_)
        refine lv_goto (tgt := 78) hx hb dX5_find_125 (by decide) ?_
        exact hK78 x2 x3_122 h g _ _ _ HW hG (lv_sub hl [1, 2, 0] rfl)
      · replace HW := HW.2 c_88
        refine lv_iload hx hb dX5_find_91 (lv_at hl 3 rfl) ?_
        obtain ⟨P_93, HC_93, HW⟩ := HW
        refine g_calli (g_runS (As := [.int x4]) (rest := []) ⟨hx, hb, hml, hown, hts⟩ (m_J6_bitCount_0f7a4 l D cy ad h g H.size x4 P_93 HC_93) (va_cwS 1 hts (gd_S (wm4 179 rfl rfl) (wm4 2 rfl rfl) (wm1 15 rfl rfl) (wm4 3 rfl rfl)) rfl rfl rfl (by decide +kernel) ⟨Nat.le_of_ble_eq_true rfl, Nat.le_of_ble_eq_true rfl⟩) hK hNw hG rfl rfl hl.1 rfl (lv_room (Nat.le_of_ble_eq_true rfl)) dX5_find_93 ⟨Nat.zero_le _, Nat.zero_le _⟩) hG (fun r_93 h_93 g_93 H locs hq hG => ?_)
        replace HW := HW r_93 h_93 g_93 hq
        refine lv_iload_n hx hb dX5_find_96 rfl (lv_at hl 2 rfl) ?_
        refine lv_icmp_gt (tgt := 116) hx hb dX5_find_97 (by decide) (fun c_97 => ?_) (fun c_97 => ?_)
        · replace HW := HW.1 c_97
          exact B116 K78 hK78 K85 hK85 x2 x3 x4 h_93 g_93 _ _ _ HW hG (lv_sub hl [0, 1, 2, 3] rfl)
        · replace HW := HW.2 c_97
          refine lv_aload_n hx hb dX5_find_100 rfl (lv_at hl 0 rfl) ?_
          refine g_getr hx hb hw inG5 hown hK hG gl_118 rfl gk_118 (by decide) 7 (by decide) (by rw [gm_118]; decide) (r := 125) gr_118_7 lk32 dX5_find_101 ?_
          refine lv_iload_n hx hb dX5_find_104 rfl (lv_at hl 2 rfl) ?_
          have hi_105 := vp_lt HW.1
          refine g_aald hx hb hK hG gl_125 gk_125 gn_125 HW.1 (go_125 _ hi_105).1 dX5_find_105 ?_
          replace HW := HW.2
          refine lv_iload hx hb dX5_find_106 (lv_at hl 3 rfl) ?_
          refine lv_aload_n hx hb dX5_find_108 rfl (lv_at hl 0 rfl) ?_
          refine lv_iload_n hx hb dX5_find_109 rfl (lv_at hl 2 rfl) ?_
          refine lv_iload hx hb dX5_find_110 (lv_at hl 3 rfl) ?_
          obtain ⟨P_112, HC_112, HW⟩ := HW
          refine g_calli (g_runV (As := [.int x3, .int x4]) (rest := [.int x4, .ref (ad (126 + x3.toNatClampNeg))]) ⟨hx, hb, hml, hown, hts⟩ (m_X5_mostOf l D cy ad h_93 g_93 H.size x3 x4 P_112 HC_112) (cwV 2 hts (gd_V (wm4 180 rfl rfl) (wm4 182 rfl rfl) (wmp2 (q := (yX5_mostOf, 11)) 15 rfl) (wm1 12 rfl rfl) (wm4 183 rfl rfl)) rfl rfl rfl (by decide +kernel) ⟨Nat.le_of_ble_eq_true rfl, Nat.le_of_ble_eq_true rfl⟩) hK hNw hG gl_118 rfl gk_118 (by decide) rfl rfl hl.1 rfl (lv_room (Nat.le_of_ble_eq_true rfl)) dX5_find_112 ⟨Nat.zero_le _, Nat.zero_le _⟩) hG (fun r_112 h_112 g_112 H locs hq hG => ?_)
          replace HW := HW r_112 h_112 g_112 hq
          refine g_iast hx hb hK hG ((go_125 _ hi_105).2.2.1) ((go_125 _ hi_105).2.1) ((go_125 _ hi_105).2.2.2) HW.1 dX5_find_115 (fun H locs hG => ?_)
          replace HW := HW.2
          obtain ⟨h_115, eh_115⟩ : ∃ y : HI, y = hu h_112 (126 + x3.toNatClampNeg) x4.toNatClampNeg r_112 := ⟨_, rfl⟩
          rw [← eh_115] at hG
          replace HW := HW h_115 eh_115
          exact B116 K78 hK78 K85 hK85 x2 x3 x4 h_115 g_112 _ _ _ HW hG (lv_sub hl [0, 1, 2, 3] rfl)
  have L78 : ∀ (n : Nat) (x2 : Int32) (x3 : Int32) (h : HI) (g : HL) (H : Heap) (locs : List Loc) (ls : Array Slot), lpN (F_X5_find_78 Q) n (x2, x3, h, g) → gG D cy ad (gA ad s.heap.size) s.heap h g H locs → lv_has ls 5 [(0, .ref (ad 118)), (2, .int x2), (3, .int x3)] → W p l e ({ frames := 4, cells := 0, slots := 0, locals := 96 } : Room) s m args below meth c H locs 0 0 (MQ below (va_Qv (fun (u : HI × HL) => Q u.1 u.2) (gB D cy ad s.heap.size) (gA ad s.heap.size)) args s 0 0 (gA ad s.heap.size)) (F0 m 78 ls []) := by
    intro n
    induction n with
    | zero => intro x2 x3 h g H locs ls HW; exact HW.elim
    | succ n ih =>
      intro x2 x3 h g H locs ls HW hG hl
      have HW : b_X5_find_78 Q (fun x2 x3 h g => lpN (F_X5_find_78 Q) n (x2, x3, h, g)) x2 x3 h g := HW
      generalize hKe : (fun (x2 : Int32) (x3 : Int32) (h : HI) (g : HL) => lpN (F_X5_find_78 Q) n (x2, x3, h, g)) = K78 at HW
      have hK78 : ∀ (x2 : Int32) (x3 : Int32) (h : HI) (g : HL) (H : Heap) (locs : List Loc) (ls : Array Slot), K78 x2 x3 h g → gG D cy ad (gA ad s.heap.size) s.heap h g H locs → lv_has ls 5 [(0, .ref (ad 118)), (2, .int x2), (3, .int x3)] → W p l e ({ frames := 4, cells := 0, slots := 0, locals := 96 } : Room) s m args below meth c H locs 0 0 (MQ below (va_Qv (fun (u : HI × HL) => Q u.1 u.2) (gB D cy ad s.heap.size) (gA ad s.heap.size)) args s 0 0 (gA ad s.heap.size)) (F0 m 78 ls []) := by subst hKe; exact ih
      clear ih
      clear hKe
      unfold b_X5_find_78 at HW
      refine lv_iload_n hx hb dX5_find_78 rfl (lv_at hl 2 rfl) ?_
      refine lv_if_lt (tgt := 128) hx hb dX5_find_79 (by decide) (fun c_79 => ?_) (fun c_79 => ?_)
      · replace HW := HW.1 c_79
        exact W.vret hx hb hr (fun t ht hW => ⟨⟨(h, g), rfl, HW, g_B ht hG⟩, hG.2.2.F ht⟩) hG.2.2.2.2 dX5_find_128
      · replace HW := HW.2 c_79
        refine lv_iconst (v := 0) hx hb dX5_find_82 (by decide) ?_
        refine lv_istore (lv' := [(4, .int (0 : Int32)), (0, .ref (ad 118)), (2, .int x2), (3, .int x3)]) hx hb dX5_find_83 hl (by decide) rfl (fun ls hl => ?_)
        obtain ⟨n_85, HW⟩ := HW
        exact L85 K78 hK78 n_85 x2 x3 (0 : Int32) h g _ _ _ HW hG (lv_sub hl [1, 2, 3, 0] rfl)
  have L48 : ∀ (n : Nat) (x2 : Int32) (x3 : Int32) (h : HI) (g : HL) (H : Heap) (locs : List Loc) (ls : Array Slot), lpN (F_X5_find_48 Q) n (x2, x3, h, g) → gG D cy ad (gA ad s.heap.size) s.heap h g H locs → lv_has ls 5 [(0, .ref (ad 118)), (2, .int x2), (3, .int x3)] → W p l e ({ frames := 4, cells := 0, slots := 0, locals := 96 } : Room) s m args below meth c H locs 0 0 (MQ below (va_Qv (fun (u : HI × HL) => Q u.1 u.2) (gB D cy ad s.heap.size) (gA ad s.heap.size)) args s 0 0 (gA ad s.heap.size)) (F0 m 48 ls []) := by
    intro n
    induction n with
    | zero => intro x2 x3 h g H locs ls HW; exact HW.elim
    | succ n ih =>
      intro x2 x3 h g H locs ls HW hG hl
      have HW : b_X5_find_48 Q (fun x2 x3 h g => lpN (F_X5_find_48 Q) n (x2, x3, h, g)) x2 x3 h g := HW
      generalize hKe : (fun (x2 : Int32) (x3 : Int32) (h : HI) (g : HL) => lpN (F_X5_find_48 Q) n (x2, x3, h, g)) = K48 at HW
      have hK48 : ∀ (x2 : Int32) (x3 : Int32) (h : HI) (g : HL) (H : Heap) (locs : List Loc) (ls : Array Slot), K48 x2 x3 h g → gG D cy ad (gA ad s.heap.size) s.heap h g H locs → lv_has ls 5 [(0, .ref (ad 118)), (2, .int x2), (3, .int x3)] → W p l e ({ frames := 4, cells := 0, slots := 0, locals := 96 } : Room) s m args below meth c H locs 0 0 (MQ below (va_Qv (fun (u : HI × HL) => Q u.1 u.2) (gB D cy ad s.heap.size) (gA ad s.heap.size)) args s 0 0 (gA ad s.heap.size)) (F0 m 48 ls []) := by subst hKe; exact ih
      clear ih
      clear hKe
      unfold b_X5_find_48 at HW
      refine lv_iload_n hx hb dX5_find_48 rfl (lv_at hl 2 rfl) ?_
      refine lv_iload_n hx hb dX5_find_49 rfl (lv_at hl 1 rfl) ?_
      refine lv_icmp_ge (tgt := 71) hx hb dX5_find_50 (by decide) (fun c_50 => ?_) (fun c_50 => ?_)
      · replace HW := HW.1 c_50
        refine lv_aload_n hx hb dX5_find_71 rfl (lv_at hl 0 rfl) ?_
        refine g_geti hx hb hw inG5 hown hK hG gl_118 rfl gk_118 (by decide) 10 (by decide) (by rw [gm_118]; decide) gr_118_10 lk48 dX5_find_72 ?_
        refine lv_iconst (v := 1) hx hb dX5_find_75 (by decide) ?_
        refine lv_isub hx hb dX5_find_76 ?_
        refine lv_topi (fun x3_77 ex3_77 => ?_)
        replace HW := HW x3_77 ex3_77
        refine lv_istore_n (lv' := [(3, .int x3_77), (0, .ref (ad 118)), (2, .int x2)]) hx hb dX5_find_77 rfl hl (by decide) rfl (fun ls hl => ?_)
        obtain ⟨n_78, HW⟩ := HW
        exact L78 n_78 x2 x3_77 h g _ _ _ HW hG (lv_sub hl [1, 2, 0] rfl)
      · replace HW := HW.2 c_50
        refine lv_aload_n hx hb dX5_find_53 rfl (lv_at hl 0 rfl) ?_
        refine g_getr hx hb hw inG5 hown hK hG gl_118 rfl gk_118 (by decide) 7 (by decide) (by rw [gm_118]; decide) (r := 125) gr_118_7 lk32 dX5_find_54 ?_
        refine lv_aload_n hx hb dX5_find_57 rfl (lv_at hl 0 rfl) ?_
        refine g_geti hx hb hw inG5 hown hK hG gl_118 rfl gk_118 (by decide) 10 (by decide) (by rw [gm_118]; decide) gr_118_10 lk48 dX5_find_58 ?_
        have hi_61 := vp_lt HW.1
        refine g_aald hx hb hK hG gl_125 gk_125 gn_125 HW.1 (go_125 _ hi_61).1 dX5_find_61 ?_
        replace HW := HW.2
        refine lv_iload_n hx hb dX5_find_62 rfl (lv_at hl 2 rfl) ?_
        refine lv_iconst (v := 0) hx hb dX5_find_63 (by decide) ?_
        refine g_iast hx hb hK hG ((go_125 _ hi_61).2.2.1) ((go_125 _ hi_61).2.1) ((go_125 _ hi_61).2.2.2) HW.1 dX5_find_64 (fun H locs hG => ?_)
        replace HW := HW.2
        obtain ⟨h_64, eh_64⟩ : ∃ y : HI, y = hu h (126 + (h 118 10).toNatClampNeg) x3.toNatClampNeg (0 : Int32) := ⟨_, rfl⟩
        rw [← eh_64] at hG
        replace HW := HW h_64 eh_64
        obtain ⟨x3_65, ex3_65⟩ : ∃ y : Int32, y = (x3 + 1) := ⟨_, rfl⟩
        replace HW := HW x3_65 ex3_65
        refine lv_iinc (v := x3_65) (lv' := [(3, .int x3_65), (0, .ref (ad 118)), (2, .int x2)]) hx hb dX5_find_65 hl (k := 2) rfl (by rw [ex3_65]; rfl) (by decide) rfl (fun ls hl => ?_)
        refine lv_goto (tgt := 48) hx hb dX5_find_68 (by decide) ?_
        exact hK48 x2 x3_65 h_64 g _ _ _ HW hG (lv_sub hl [1, 2, 0] rfl)
  have E0 : ∀ (H : Heap) (locs : List Loc) (ls : Array Slot), gG D cy ad (gA ad s.heap.size) s.heap h g H locs → lv_has ls 5 [(0, .ref (ad 118)), (1, .int x1)] → W p l e ({ frames := 4, cells := 0, slots := 0, locals := 96 } : Room) s m args below meth c H locs 0 0 (MQ below (va_Qv (fun (u : HI × HL) => Q u.1 u.2) (gB D cy ad s.heap.size) (gA ad s.heap.size)) args s 0 0 (gA ad s.heap.size)) (F0 m 0 ls []) := by
    intro H locs ls hG hl
    unfold w_X5_find at HW
    refine lv_aload_n hx hb dX5_find_0 rfl (lv_at hl 0 rfl) ?_
    refine lv_iconst (v := 0) hx hb dX5_find_1 (by decide) ?_
    refine lv_iload_n hx hb dX5_find_2 rfl (lv_at hl 1 rfl) ?_
    refine lv_bipush (v := 8) hx hb dX5_find_3 (by decide) ?_
    refine va_mmin hx hb (hml.trans hl.1.symm) hown ml39 ms39 mi39 mc39 (by decide) (Nat.le_of_ble_eq_true rfl) (Nat.zero_le _) (Nat.zero_le _) dX5_find_5 ?_
    refine va_mmax hx hb (hml.trans hl.1.symm) hown ml45 ms45 mi45 mc45 (by decide) (Nat.le_of_ble_eq_true rfl) (Nat.zero_le _) (Nat.zero_le _) dX5_find_8 ?_
    refine g_put hx hb hw inG5 tyX5 tyX5_ok nmX5 hown hK hG gl_118 rfl gk_118 (by decide) 10 (by decide) (by rw [gm_118]; decide) gr_118_10 rfl (ty := .int) (by decide +kernel) rfl rfl lk48 dX5_find_11 (fun H locs hG => ?_)
    obtain ⟨h_11, eh_11⟩ : ∃ y : HI, y = hu h 118 10 (if (0 : Int32) < (if (8 : Int32) < x1 then (8 : Int32) else x1) then (if (8 : Int32) < x1 then (8 : Int32) else x1) else (0 : Int32)) := ⟨_, rfl⟩
    rw [← eh_11] at hG
    replace HW := HW h_11 eh_11
    refine lv_aload_n hx hb dX5_find_14 rfl (lv_at hl 0 rfl) ?_
    obtain ⟨P_15, HC_15, HW⟩ := HW
    refine g_callv (g_runV (As := []) (rest := []) ⟨hx, hb, hml, hown, hts⟩ (m_X5_chooseBits l D cy ad h_11 g H.size  P_15 HC_15) (cwV 0 hts (gd_V (wm4 156 rfl rfl) (wm4 158 rfl rfl) (wmp2 (q := (yX5_chooseBits, 11)) 11 rfl) (wm1 12 rfl rfl) (wm4 159 rfl rfl)) rfl rfl rfl (by decide +kernel) ⟨Nat.le_of_ble_eq_true rfl, Nat.le_of_ble_eq_true rfl⟩) hK hNw hG gl_118 rfl gk_118 (by decide) rfl rfl hl.1 rfl (lv_room (Nat.le_of_ble_eq_true rfl)) dX5_find_15 ⟨Nat.zero_le _, Nat.zero_le _⟩) hG (fun h_15 g_15 H locs hq hG => ?_)
    replace HW := HW h_15 g_15 hq
    refine lv_aload_n hx hb dX5_find_18 rfl (lv_at hl 0 rfl) ?_
    obtain ⟨P_19, HC_19, HW⟩ := HW
    refine g_callv (g_runV (As := []) (rest := []) ⟨hx, hb, hml, hown, hts⟩ (m_X5_chooseLessons l D cy ad h_15 g_15 H.size  P_19 HC_19) (cwV 0 hts (gd_V (wm4 166 rfl rfl) (wm4 168 rfl rfl) (wmp2 (q := (yX5_chooseLessons, 11)) 12 rfl) (wm1 12 rfl rfl) (wm4 169 rfl rfl)) rfl rfl rfl (by decide +kernel) ⟨Nat.le_of_ble_eq_true rfl, Nat.le_of_ble_eq_true rfl⟩) hK hNw hG gl_118 rfl gk_118 (by decide) rfl rfl hl.1 rfl (lv_room (Nat.le_of_ble_eq_true rfl)) dX5_find_19 ⟨Nat.zero_le _, Nat.zero_le _⟩) hG (fun h_19 g_19 H locs hq hG => ?_)
    replace HW := HW h_19 g_19 hq
    refine lv_aload_n hx hb dX5_find_22 rfl (lv_at hl 0 rfl) ?_
    obtain ⟨P_23, HC_23, HW⟩ := HW
    refine g_callv (g_runV (As := []) (rest := []) ⟨hx, hb, hml, hown, hts⟩ (m_X5_chooseRuns l D cy ad h_19 g_19 H.size  P_23 HC_23) (cwV 0 hts (gd_V (wm4 171 rfl rfl) (wm4 173 rfl rfl) (wmp2 (q := (yX5_chooseRuns, 11)) 13 rfl) (wm1 12 rfl rfl) (wm4 174 rfl rfl)) rfl rfl rfl (by decide +kernel) ⟨Nat.le_of_ble_eq_true rfl, Nat.le_of_ble_eq_true rfl⟩) hK hNw hG gl_118 rfl gk_118 (by decide) rfl rfl hl.1 rfl (lv_room (Nat.le_of_ble_eq_true rfl)) dX5_find_23 ⟨Nat.zero_le _, Nat.zero_le _⟩) hG (fun h_23 g_23 H locs hq hG => ?_)
    replace HW := HW h_23 g_23 hq
    refine lv_aload_n hx hb dX5_find_26 rfl (lv_at hl 0 rfl) ?_
    obtain ⟨P_27, HC_27, HW⟩ := HW
    refine g_callv (g_runV (As := []) (rest := []) ⟨hx, hb, hml, hown, hts⟩ (m_X5_chooseYears l D cy ad h_23 g_23 H.size  P_27 HC_27) (cwV 0 hts (gd_V (wm4 175 rfl rfl) (wm4 177 rfl rfl) (wmp2 (q := (yX5_chooseYears, 11)) 14 rfl) (wm1 12 rfl rfl) (wm4 178 rfl rfl)) rfl rfl rfl (by decide +kernel) ⟨Nat.le_of_ble_eq_true rfl, Nat.le_of_ble_eq_true rfl⟩) hK hNw hG gl_118 rfl gk_118 (by decide) rfl rfl hl.1 rfl (lv_room (Nat.le_of_ble_eq_true rfl)) dX5_find_27 ⟨Nat.zero_le _, Nat.zero_le _⟩) hG (fun h_27 g_27 H locs hq hG => ?_)
    replace HW := HW h_27 g_27 hq
    refine lv_iconst (v := 1) hx hb dX5_find_30 (by decide) ?_
    refine lv_iconst (v := 0) hx hb dX5_find_31 (by decide) ?_
    refine lv_bipush (v := 8) hx hb dX5_find_32 (by decide) ?_
    refine lv_aload_n hx hb dX5_find_34 rfl (lv_at hl 0 rfl) ?_
    refine g_geti hx hb hw inG5 hown hK hG gl_118 rfl gk_118 (by decide) 9 (by decide) (by rw [gm_118]; decide) gr_118_9 lk64 dX5_find_35 ?_
    refine va_mmin hx hb (hml.trans hl.1.symm) hown ml39 ms39 mi39 mc39 (by decide) (Nat.le_of_ble_eq_true rfl) (Nat.zero_le _) (Nat.zero_le _) dX5_find_38 ?_
    refine va_mmax hx hb (hml.trans hl.1.symm) hown ml45 ms45 mi45 mc45 (by decide) (Nat.le_of_ble_eq_true rfl) (Nat.zero_le _) (Nat.zero_le _) dX5_find_41 ?_
    refine lv_ishl hx hb dX5_find_44 ?_
    refine lv_topi (fun x2_45 ex2_45 => ?_)
    replace HW := HW x2_45 ex2_45
    refine lv_istore_n (lv' := [(2, .int x2_45), (0, .ref (ad 118)), (1, .int x1)]) hx hb dX5_find_45 rfl hl (by decide) rfl (fun ls hl => ?_)
    refine lv_iconst (v := 0) hx hb dX5_find_46 (by decide) ?_
    refine lv_istore_n (lv' := [(3, .int (0 : Int32)), (2, .int x2_45), (0, .ref (ad 118)), (1, .int x1)]) hx hb dX5_find_47 rfl hl (by decide) rfl (fun ls hl => ?_)
    obtain ⟨n_48, HW⟩ := HW
    exact L48 n_48 x2_45 (0 : Int32) h_27 g_27 _ _ _ HW hG (lv_sub hl [2, 1, 0] rfl)
  exact E0 _ _ _ hG hl

def w_X5_mostRuns  (h : HI) (g : HL) (Q : Int32 → HI → HL → Prop) : Prop :=
  (vp_in (0 : Int32) 9 ∧ (vp_in (0 : Int32) 256 ∧ Q (h (126 + (0 : Int32).toNatClampNeg) (0 : Int32).toNatClampNeg) h g))
set_option maxHeartbeats 8000000 in
set_option maxRecDepth 100000 in
theorem m_X5_mostRuns (l : Launch) (D : va_G) (cy : Nat → ClassId) (ad : Nat → Nat) (h : HI) (g : HL) (sz : Nat)  (Q : Int32 → HI → HL → Prop) (HW : w_X5_mostRuns h g Q) : Met l yX5_mostRuns (wa yX5_mostRuns cX5_mostRuns 1 (some .int)) ({ frames := 0, cells := 0, slots := 0, locals := 0 }) (va_Pc [.ref (ad 118)] (gI D cy ad h g sz)) (va_Qi (fun (r : Int32) (u : HI × HL) => Q r u.1 u.2) (gB D cy ad sz) (gA ad sz)) 0 0 (gA ad sz) := by
  refine Met.ofW (cc := cX5_mostRuns) (maxL := 1) (ret := (some .int)) (by decide) rfl ?_
  intro p e s m args below meth c s₁ B hml hv
  obtain ⟨hav, hsz, hP, hK, hD0, hNw⟩ := hv
  have hx := B.exec
  have hb := B.bytes
  have hr := B.returns
  have hts := atoms_spec (ws := (wa yX5_mostRuns cX5_mostRuns 1 (some .int))) B.pre
  have hw := wa_hw hts
  have hown : s.vm.findClass RX5 = some m.cls := findClass_of_methodNamed B.named
  have hlocks := B.notSynchronized
  subst hsz
  have hG : gG D cy ad (gA ad s.heap.size) s.heap h g s.heap [] := ⟨hP, gA_self hD0, va_S.rf⟩
  clear hP hD0
  have lk32 := hw (.fieldLink RX5 32 "OldWorks$Plans" "most" "[[I") (wm2 128 rfl rfl)
  rw [show (headSpec (wa yX5_mostRuns cX5_mostRuns 1 (some .int)) ({ frames := 0, cells := 0, slots := 0, locals := 0 } : Room)).room = ({ frames := 0, cells := 0, slots := 0, locals := 0 } : Room) from rfl]
  have hl := lv_entry ([.ref (ad 118)]) (n := 1) (Nat.le_of_ble_eq_true rfl)
  rw [show entryFrame m args 1 = entryFrame m ([.ref (ad 118)] : List Value).toArray 1 from by rw [hav], lg_entry_eq]
  generalize (lg_sl ([.ref (ad 118)]) ++ List.replicate (1 - (lg_sl ([.ref (ad 118)])).length) Slot.unset).toArray = ls at hl ⊢
  have hl : lv_has ls 1 [(0, .ref (ad 118))] := hl
  have E0 : ∀ (H : Heap) (locs : List Loc) (ls : Array Slot), gG D cy ad (gA ad s.heap.size) s.heap h g H locs → lv_has ls 1 [(0, .ref (ad 118))] → W p l e ({ frames := 0, cells := 0, slots := 0, locals := 0 } : Room) s m args below meth c H locs 0 0 (MQ below (va_Qi (fun (r : Int32) (u : HI × HL) => Q r u.1 u.2) (gB D cy ad s.heap.size) (gA ad s.heap.size)) args s 0 0 (gA ad s.heap.size)) (F0 m 0 ls []) := by
    intro H locs ls hG hl
    unfold w_X5_mostRuns at HW
    refine lv_aload_n hx hb dX5_mostRuns_0 rfl (lv_at hl 0 rfl) ?_
    refine g_getr hx hb hw inG5 hown hK hG gl_118 rfl gk_118 (by decide) 7 (by decide) (by rw [gm_118]; decide) (r := 125) gr_118_7 lk32 dX5_mostRuns_1 ?_
    refine lv_iconst (v := 0) hx hb dX5_mostRuns_4 (by decide) ?_
    have hi_5 := vp_lt HW.1
    refine g_aald hx hb hK hG gl_125 gk_125 gn_125 HW.1 (go_125 _ hi_5).1 dX5_mostRuns_5 ?_
    replace HW := HW.2
    refine lv_iconst (v := 0) hx hb dX5_mostRuns_6 (by decide) ?_
    refine g_iald hx hb hK hG ((go_125 _ hi_5).2.2.1) ((go_125 _ hi_5).2.1) ((go_125 _ hi_5).2.2.2) HW.1 dX5_mostRuns_7 ?_
    replace HW := HW.2
    exact W.iret (v := (h (126 + (0 : Int32).toNatClampNeg) (0 : Int32).toNatClampNeg)) hx hb hr (fun t ht hW => ⟨⟨(h (126 + (0 : Int32).toNatClampNeg) (0 : Int32).toNatClampNeg), (h, g), rfl, HW, g_B ht hG⟩, hG.2.2.F ht⟩) hG.2.2.2.2 dX5_mostRuns_8
  exact E0 _ _ _ hG hl

def b_X5_bestIn_22 (Q : Int32 → HI → HL → Prop) (K22 : Int32 → Int32 → Int32 → Int32 → HI → HL → Prop) (x1 : Int32) (x2 : Int32) (x3 : Int32) (x4 : Int32) (h : HI) (g : HL) : Prop :=
  (((h 118 8) ≤ x4 → Q (-1 : Int32) h g) ∧ (¬ (h 118 8) ≤ x4 → (∃ P_36 : Int32 → HI → HL → Prop, w_X5_taught x1 x2 x4 h g P_36 ∧ ∀ (r_36 : Int32) (h_36 : HI) (g_36 : HL), P_36 r_36 h_36 g_36 → ((¬ r_36 = x3 → (∀ x4_46 : Int32, x4_46 = (x4 + 1) → K22 x1 x2 x3 x4_46 h_36 g_36)) ∧ (r_36 = x3 → Q x4 h_36 g_36)))))
def F_X5_bestIn_22 (Q : Int32 → HI → HL → Prop) (K : Int32 × Int32 × Int32 × Int32 × HI × HL → Prop) (q : Int32 × Int32 × Int32 × Int32 × HI × HL) : Prop := b_X5_bestIn_22 Q (fun x1 x2 x3 x4 h g => K (x1, x2, x3, x4, h, g)) q.1 q.2.1 q.2.2.1 q.2.2.2.1 q.2.2.2.2.1 q.2.2.2.2.2
def w_X5_bestIn (x1 : Int32) (x2 : Int32) (h : HI) (g : HL) (Q : Int32 → HI → HL → Prop) : Prop :=
  (∃ P_3 : Int32 → HI → HL → Prop, w_X5_mostOf x1 x2 h g P_3 ∧ ∀ (r_3 : Int32) (h_3 : HI) (g_3 : HL), P_3 r_3 h_3 g_3 → (∃ P_10 : Int32 → HI → HL → Prop, w_X5_idle x1 x2 h_3 g_3 P_10 ∧ ∀ (r_10 : Int32) (h_10 : HI) (g_10 : HL), P_10 r_10 h_10 g_10 → ((¬ r_10 = r_3 → lpE (F_X5_bestIn_22 Q) (x1, x2, r_3, (0 : Int32), h_10, g_10)) ∧ (r_10 = r_3 → Q (-1 : Int32) h_10 g_10))))
set_option maxHeartbeats 8000000 in
set_option maxRecDepth 100000 in
theorem m_X5_bestIn (l : Launch) (D : va_G) (cy : Nat → ClassId) (ad : Nat → Nat) (h : HI) (g : HL) (sz : Nat) (x1 : Int32) (x2 : Int32) (Q : Int32 → HI → HL → Prop) (HW : w_X5_bestIn x1 x2 h g Q) : Met l yX5_bestIn (wa yX5_bestIn cX5_bestIn 5 (some .int)) ({ frames := 4, cells := 0, slots := 0, locals := 96 }) (va_Pc [.ref (ad 118), .int x1, .int x2] (gI D cy ad h g sz)) (va_Qi (fun (r : Int32) (u : HI × HL) => Q r u.1 u.2) (gB D cy ad sz) (gA ad sz)) 0 0 (gA ad sz) := by
  refine Met.ofW (cc := cX5_bestIn) (maxL := 5) (ret := (some .int)) (by decide) rfl ?_
  intro p e s m args below meth c s₁ B hml hv
  obtain ⟨hav, hsz, hP, hK, hD0, hNw⟩ := hv
  have hx := B.exec
  have hb := B.bytes
  have hr := B.returns
  have hts := atoms_spec (ws := (wa yX5_bestIn cX5_bestIn 5 (some .int))) B.pre
  have hw := wa_hw hts
  have hown : s.vm.findClass RX5 = some m.cls := findClass_of_methodNamed B.named
  have hlocks := B.notSynchronized
  subst hsz
  have hG : gG D cy ad (gA ad s.heap.size) s.heap h g s.heap [] := ⟨hP, gA_self hD0, va_S.rf⟩
  clear hP hD0
  have lk101 := hw (.fieldLink RX5 101 "OldWorks$Plans" "many" "I") (wm2 129 rfl rfl)
  rw [show (headSpec (wa yX5_bestIn cX5_bestIn 5 (some .int)) ({ frames := 4, cells := 0, slots := 0, locals := 96 } : Room)).room = ({ frames := 4, cells := 0, slots := 0, locals := 96 } : Room) from rfl]
  have hl := lv_entry ([.ref (ad 118), .int x1, .int x2]) (n := 5) (Nat.le_of_ble_eq_true rfl)
  rw [show entryFrame m args 5 = entryFrame m ([.ref (ad 118), .int x1, .int x2] : List Value).toArray 5 from by rw [hav], lg_entry_eq]
  generalize (lg_sl ([.ref (ad 118), .int x1, .int x2]) ++ List.replicate (5 - (lg_sl ([.ref (ad 118), .int x1, .int x2])).length) Slot.unset).toArray = ls at hl ⊢
  have hl : lv_has ls 5 [(0, .ref (ad 118)), (1, .int x1), (2, .int x2)] := hl
  have L22 : ∀ (n : Nat) (x1 : Int32) (x2 : Int32) (x3 : Int32) (x4 : Int32) (h : HI) (g : HL) (H : Heap) (locs : List Loc) (ls : Array Slot), lpN (F_X5_bestIn_22 Q) n (x1, x2, x3, x4, h, g) → gG D cy ad (gA ad s.heap.size) s.heap h g H locs → lv_has ls 5 [(0, .ref (ad 118)), (1, .int x1), (2, .int x2), (3, .int x3), (4, .int x4)] → W p l e ({ frames := 4, cells := 0, slots := 0, locals := 96 } : Room) s m args below meth c H locs 0 0 (MQ below (va_Qi (fun (r : Int32) (u : HI × HL) => Q r u.1 u.2) (gB D cy ad s.heap.size) (gA ad s.heap.size)) args s 0 0 (gA ad s.heap.size)) (F0 m 22 ls []) := by
    intro n
    induction n with
    | zero => intro x1 x2 x3 x4 h g H locs ls HW; exact HW.elim
    | succ n ih =>
      intro x1 x2 x3 x4 h g H locs ls HW hG hl
      have HW : b_X5_bestIn_22 Q (fun x1 x2 x3 x4 h g => lpN (F_X5_bestIn_22 Q) n (x1, x2, x3, x4, h, g)) x1 x2 x3 x4 h g := HW
      generalize hKe : (fun (x1 : Int32) (x2 : Int32) (x3 : Int32) (x4 : Int32) (h : HI) (g : HL) => lpN (F_X5_bestIn_22 Q) n (x1, x2, x3, x4, h, g)) = K22 at HW
      have hK22 : ∀ (x1 : Int32) (x2 : Int32) (x3 : Int32) (x4 : Int32) (h : HI) (g : HL) (H : Heap) (locs : List Loc) (ls : Array Slot), K22 x1 x2 x3 x4 h g → gG D cy ad (gA ad s.heap.size) s.heap h g H locs → lv_has ls 5 [(0, .ref (ad 118)), (1, .int x1), (2, .int x2), (3, .int x3), (4, .int x4)] → W p l e ({ frames := 4, cells := 0, slots := 0, locals := 96 } : Room) s m args below meth c H locs 0 0 (MQ below (va_Qi (fun (r : Int32) (u : HI × HL) => Q r u.1 u.2) (gB D cy ad s.heap.size) (gA ad s.heap.size)) args s 0 0 (gA ad s.heap.size)) (F0 m 22 ls []) := by subst hKe; exact ih
      clear ih
      clear hKe
      unfold b_X5_bestIn_22 at HW
      refine lv_iload hx hb dX5_bestIn_22 (lv_at hl 4 rfl) ?_
      refine lv_aload_n hx hb dX5_bestIn_24 rfl (lv_at hl 0 rfl) ?_
      refine g_geti hx hb hw inG5 hown hK hG gl_118 rfl gk_118 (by decide) 8 (by decide) (by rw [gm_118]; decide) gr_118_8 lk101 dX5_bestIn_25 ?_
      refine lv_icmp_ge (tgt := 52) hx hb dX5_bestIn_28 (by decide) (fun c_28 => ?_) (fun c_28 => ?_)
      · replace HW := HW.1 c_28
        refine lv_iconst (v := (-1)) hx hb dX5_bestIn_52 (by decide) ?_
        exact W.iret (v := (-1 : Int32)) hx hb hr (fun t ht hW => ⟨⟨(-1 : Int32), (h, g), rfl, HW, g_B ht hG⟩, hG.2.2.F ht⟩) hG.2.2.2.2 dX5_bestIn_53
      · replace HW := HW.2 c_28
        refine lv_aload_n hx hb dX5_bestIn_31 rfl (lv_at hl 0 rfl) ?_
        refine lv_iload_n hx hb dX5_bestIn_32 rfl (lv_at hl 1 rfl) ?_
        refine lv_iload_n hx hb dX5_bestIn_33 rfl (lv_at hl 2 rfl) ?_
        refine lv_iload hx hb dX5_bestIn_34 (lv_at hl 4 rfl) ?_
        obtain ⟨P_36, HC_36, HW⟩ := HW
        refine g_calli (g_runV (As := [.int x1, .int x2, .int x4]) (rest := []) ⟨hx, hb, hml, hown, hts⟩ (m_X5_taught l D cy ad h g H.size x1 x2 x4 P_36 HC_36) (cwV 3 hts (gd_V (wm4 192 rfl rfl) (wm4 194 rfl rfl) (wmp3 (q := (yX5_taught, 11)) 2 rfl) (wm1 12 rfl rfl) (wm4 195 rfl rfl)) rfl rfl rfl (by decide +kernel) ⟨Nat.le_of_ble_eq_true rfl, Nat.le_of_ble_eq_true rfl⟩) hK hNw hG gl_118 rfl gk_118 (by decide) rfl rfl hl.1 rfl (lv_room (Nat.le_of_ble_eq_true rfl)) dX5_bestIn_36 ⟨Nat.zero_le _, Nat.zero_le _⟩) hG (fun r_36 h_36 g_36 H locs hq hG => ?_)
        replace HW := HW r_36 h_36 g_36 hq
        refine lv_iload_n hx hb dX5_bestIn_39 rfl (lv_at hl 3 rfl) ?_
        refine lv_icmp_ne (tgt := 46) hx hb dX5_bestIn_40 (by decide) (fun c_40 => ?_) (fun c_40 => ?_)
        · replace HW := HW.1 c_40
          obtain ⟨x4_46, ex4_46⟩ : ∃ y : Int32, y = (x4 + 1) := ⟨_, rfl⟩
          replace HW := HW x4_46 ex4_46
          refine lv_iinc (v := x4_46) (lv' := [(4, .int x4_46), (0, .ref (ad 118)), (1, .int x1), (2, .int x2), (3, .int x3)]) hx hb dX5_bestIn_46 hl (k := 4) rfl (by rw [ex4_46]; rfl) (by decide) rfl (fun ls hl => ?_)
          refine lv_goto (tgt := 22) hx hb dX5_bestIn_49 (by decide) ?_
          exact hK22 x1 x2 x3 x4_46 h_36 g_36 _ _ _ HW hG (lv_sub hl [1, 2, 3, 4, 0] rfl)
        · replace HW := HW.2 c_40
          refine lv_iload hx hb dX5_bestIn_43 (lv_at hl 4 rfl) ?_
          exact W.iret (v := x4) hx hb hr (fun t ht hW => ⟨⟨x4, (h_36, g_36), rfl, HW, g_B ht hG⟩, hG.2.2.F ht⟩) hG.2.2.2.2 dX5_bestIn_45
  have E0 : ∀ (H : Heap) (locs : List Loc) (ls : Array Slot), gG D cy ad (gA ad s.heap.size) s.heap h g H locs → lv_has ls 5 [(0, .ref (ad 118)), (1, .int x1), (2, .int x2)] → W p l e ({ frames := 4, cells := 0, slots := 0, locals := 96 } : Room) s m args below meth c H locs 0 0 (MQ below (va_Qi (fun (r : Int32) (u : HI × HL) => Q r u.1 u.2) (gB D cy ad s.heap.size) (gA ad s.heap.size)) args s 0 0 (gA ad s.heap.size)) (F0 m 0 ls []) := by
    intro H locs ls hG hl
    unfold w_X5_bestIn at HW
    refine lv_aload_n hx hb dX5_bestIn_0 rfl (lv_at hl 0 rfl) ?_
    refine lv_iload_n hx hb dX5_bestIn_1 rfl (lv_at hl 1 rfl) ?_
    refine lv_iload_n hx hb dX5_bestIn_2 rfl (lv_at hl 2 rfl) ?_
    obtain ⟨P_3, HC_3, HW⟩ := HW
    refine g_calli (g_runV (As := [.int x1, .int x2]) (rest := []) ⟨hx, hb, hml, hown, hts⟩ (m_X5_mostOf l D cy ad h g H.size x1 x2 P_3 HC_3) (cwV 2 hts (gd_V (wm4 180 rfl rfl) (wm4 182 rfl rfl) (wmp2 (q := (yX5_mostOf, 11)) 15 rfl) (wm1 12 rfl rfl) (wm4 183 rfl rfl)) rfl rfl rfl (by decide +kernel) ⟨Nat.le_of_ble_eq_true rfl, Nat.le_of_ble_eq_true rfl⟩) hK hNw hG gl_118 rfl gk_118 (by decide) rfl rfl hl.1 rfl (lv_room (Nat.le_of_ble_eq_true rfl)) dX5_bestIn_3 ⟨Nat.zero_le _, Nat.zero_le _⟩) hG (fun r_3 h_3 g_3 H locs hq hG => ?_)
    replace HW := HW r_3 h_3 g_3 hq
    refine lv_istore_n (lv' := [(3, .int r_3), (0, .ref (ad 118)), (1, .int x1), (2, .int x2)]) hx hb dX5_bestIn_6 rfl hl (by decide) rfl (fun ls hl => ?_)
    refine lv_aload_n hx hb dX5_bestIn_7 rfl (lv_at hl 1 rfl) ?_
    refine lv_iload_n hx hb dX5_bestIn_8 rfl (lv_at hl 2 rfl) ?_
    refine lv_iload_n hx hb dX5_bestIn_9 rfl (lv_at hl 3 rfl) ?_
    obtain ⟨P_10, HC_10, HW⟩ := HW
    refine g_calli (g_runV (As := [.int x1, .int x2]) (rest := []) ⟨hx, hb, hml, hown, hts⟩ (m_X5_idle l D cy ad h_3 g_3 H.size x1 x2 P_10 HC_10) (cwV 2 hts (gd_V (wm4 184 rfl rfl) (wm4 186 rfl rfl) (wmp3 (q := (yX5_idle, 11)) 0 rfl) (wm1 12 rfl rfl) (wm4 187 rfl rfl)) rfl rfl rfl (by decide +kernel) ⟨Nat.le_of_ble_eq_true rfl, Nat.le_of_ble_eq_true rfl⟩) hK hNw hG gl_118 rfl gk_118 (by decide) rfl rfl hl.1 rfl (lv_room (Nat.le_of_ble_eq_true rfl)) dX5_bestIn_10 ⟨Nat.zero_le _, Nat.zero_le _⟩) hG (fun r_10 h_10 g_10 H locs hq hG => ?_)
    replace HW := HW r_10 h_10 g_10 hq
    refine lv_iload_n hx hb dX5_bestIn_13 rfl (lv_at hl 0 rfl) ?_
    refine lv_icmp_ne (tgt := 19) hx hb dX5_bestIn_14 (by decide) (fun c_14 => ?_) (fun c_14 => ?_)
    · replace HW := HW.1 c_14
      refine lv_iconst (v := 0) hx hb dX5_bestIn_19 (by decide) ?_
      refine lv_istore (lv' := [(4, .int (0 : Int32)), (3, .int r_3), (0, .ref (ad 118)), (1, .int x1), (2, .int x2)]) hx hb dX5_bestIn_20 hl (by decide) rfl (fun ls hl => ?_)
      obtain ⟨n_22, HW⟩ := HW
      exact L22 n_22 x1 x2 r_3 (0 : Int32) h_10 g_10 _ _ _ HW hG (lv_sub hl [2, 3, 4, 1, 0] rfl)
    · replace HW := HW.2 c_14
      refine lv_iconst (v := (-1)) hx hb dX5_bestIn_17 (by decide) ?_
      exact W.iret (v := (-1 : Int32)) hx hb hr (fun t ht hW => ⟨⟨(-1 : Int32), (h_10, g_10), rfl, HW, g_B ht hG⟩, hG.2.2.F ht⟩) hG.2.2.2.2 dX5_bestIn_18
  exact E0 _ _ _ hG hl

def j_X5_lessonIn_67 (Q : Int32 → HI → HL → Prop) (K4 : Int32 → Int32 → Int32 → HI → HL → Prop) (x1 : Int32) (x2 : Int32) (x3 : Int32) (h : HI) (g : HL) : Prop :=
  (∀ x3_67 : Int32, x3_67 = (x3 + 1) → K4 x1 x2 x3_67 h g)
def b_X5_lessonIn_4 (Q : Int32 → HI → HL → Prop) (K4 : Int32 → Int32 → Int32 → HI → HL → Prop) (x1 : Int32) (x2 : Int32) (x3 : Int32) (h : HI) (g : HL) : Prop :=
  (((h 118 10) ≤ x3 → Q (-1 : Int32) h g) ∧ (¬ (h 118 10) ≤ x3 → (∃ P_15 : Int32 → HI → HL → Prop, w_X5_bestIn x3 x2 h g P_15 ∧ ∀ (r_15 : Int32) (h_15 : HI) (g_15 : HL), P_15 r_15 h_15 g_15 → (∃ P_25 : Int32 → HI → HL → Prop, w_X10_within r_15 (0 : Int32) (15 : Int32) h_15 g_15 P_25 ∧ ∀ (r_25 : Int32) (h_25 : HI) (g_25 : HL), zb r_25 → P_25 r_25 h_25 g_25 → ((¬ x3 = x1 → ((r_25 = 0 → j_X5_lessonIn_67 Q K4 x1 x2 x3 h_25 g_25) ∧ (¬ r_25 = 0 → (vp_in r_15 16 ∧ (∀ x2_66 : Int32, x2_66 = (x2 ||| (h_25 120 r_15.toNatClampNeg)) → j_X5_lessonIn_67 Q K4 x1 x2_66 x3 h_25 g_25))))) ∧ (x3 = x1 → ((r_25 = 0 → Q (-1 : Int32) h_25 g_25) ∧ (¬ r_25 = 0 → (vp_in r_15 16 ∧ Q (h_25 119 r_15.toNatClampNeg) h_25 g_25)))))))))
def F_X5_lessonIn_4 (Q : Int32 → HI → HL → Prop) (K : Int32 × Int32 × Int32 × HI × HL → Prop) (q : Int32 × Int32 × Int32 × HI × HL) : Prop := b_X5_lessonIn_4 Q (fun x1 x2 x3 h g => K (x1, x2, x3, h, g)) q.1 q.2.1 q.2.2.1 q.2.2.2.1 q.2.2.2.2
def w_X5_lessonIn (x1 : Int32) (h : HI) (g : HL) (Q : Int32 → HI → HL → Prop) : Prop :=
  lpE (F_X5_lessonIn_4 Q) (x1, (0 : Int32), (0 : Int32), h, g)
set_option maxHeartbeats 8000000 in
set_option maxRecDepth 100000 in
theorem m_X5_lessonIn (l : Launch) (D : va_G) (cy : Nat → ClassId) (ad : Nat → Nat) (h : HI) (g : HL) (sz : Nat) (x1 : Int32) (Q : Int32 → HI → HL → Prop) (HW : w_X5_lessonIn x1 h g Q) : Met l yX5_lessonIn (wa yX5_lessonIn cX5_lessonIn 6 (some .int)) ({ frames := 5, cells := 0, slots := 0, locals := 120 }) (va_Pc [.ref (ad 118), .int x1] (gI D cy ad h g sz)) (va_Qi (fun (r : Int32) (u : HI × HL) => Q r u.1 u.2) (gB D cy ad sz) (gA ad sz)) 0 0 (gA ad sz) := by
  refine Met.ofW (cc := cX5_lessonIn) (maxL := 6) (ret := (some .int)) (by decide) rfl ?_
  intro p e s m args below meth c s₁ B hml hv
  obtain ⟨hav, hsz, hP, hK, hD0, hNw⟩ := hv
  have hx := B.exec
  have hb := B.bytes
  have hr := B.returns
  have hts := atoms_spec (ws := (wa yX5_lessonIn cX5_lessonIn 6 (some .int))) B.pre
  have hw := wa_hw hts
  have hown : s.vm.findClass RX5 = some m.cls := findClass_of_methodNamed B.named
  have hlocks := B.notSynchronized
  subst hsz
  have hG : gG D cy ad (gA ad s.heap.size) s.heap h g s.heap [] := ⟨hP, gA_self hD0, va_S.rf⟩
  clear hP hD0
  have lk48 := hw (.fieldLink RX5 48 "OldWorks$Plans" "years" "I") (wm2 131 rfl rfl)
  have lk15 := hw (.fieldLink RX5 15 "OldWorks$Plans" "learns" "[I") (wm2 123 rfl rfl)
  have lk11 := hw (.fieldLink RX5 11 "OldWorks$Plans" "lessons" "[I") (wm2 122 rfl rfl)
  rw [show (headSpec (wa yX5_lessonIn cX5_lessonIn 6 (some .int)) ({ frames := 5, cells := 0, slots := 0, locals := 120 } : Room)).room = ({ frames := 5, cells := 0, slots := 0, locals := 120 } : Room) from rfl]
  have hl := lv_entry ([.ref (ad 118), .int x1]) (n := 6) (Nat.le_of_ble_eq_true rfl)
  rw [show entryFrame m args 6 = entryFrame m ([.ref (ad 118), .int x1] : List Value).toArray 6 from by rw [hav], lg_entry_eq]
  generalize (lg_sl ([.ref (ad 118), .int x1]) ++ List.replicate (6 - (lg_sl ([.ref (ad 118), .int x1])).length) Slot.unset).toArray = ls at hl ⊢
  have hl : lv_has ls 6 [(0, .ref (ad 118)), (1, .int x1)] := hl
  have B67 : ∀ (K4 : Int32 → Int32 → Int32 → HI → HL → Prop) (hK4 : ∀ (x1 : Int32) (x2 : Int32) (x3 : Int32) (h : HI) (g : HL) (H : Heap) (locs : List Loc) (ls : Array Slot), K4 x1 x2 x3 h g → gG D cy ad (gA ad s.heap.size) s.heap h g H locs → lv_has ls 6 [(0, .ref (ad 118)), (1, .int x1), (2, .int x2), (3, .int x3)] → W p l e ({ frames := 5, cells := 0, slots := 0, locals := 120 } : Room) s m args below meth c H locs 0 0 (MQ below (va_Qi (fun (r : Int32) (u : HI × HL) => Q r u.1 u.2) (gB D cy ad s.heap.size) (gA ad s.heap.size)) args s 0 0 (gA ad s.heap.size)) (F0 m 4 ls [])) (x1 : Int32) (x2 : Int32) (x3 : Int32) (h : HI) (g : HL) (H : Heap) (locs : List Loc) (ls : Array Slot), j_X5_lessonIn_67 Q K4 x1 x2 x3 h g → gG D cy ad (gA ad s.heap.size) s.heap h g H locs → lv_has ls 6 [(0, .ref (ad 118)), (1, .int x1), (2, .int x2), (3, .int x3)] → W p l e ({ frames := 5, cells := 0, slots := 0, locals := 120 } : Room) s m args below meth c H locs 0 0 (MQ below (va_Qi (fun (r : Int32) (u : HI × HL) => Q r u.1 u.2) (gB D cy ad s.heap.size) (gA ad s.heap.size)) args s 0 0 (gA ad s.heap.size)) (F0 m 67 ls []) := by
    intro K4 hK4 x1 x2 x3 h g H locs ls HW hG hl
    unfold j_X5_lessonIn_67 at HW
    obtain ⟨x3_67, ex3_67⟩ : ∃ y : Int32, y = (x3 + 1) := ⟨_, rfl⟩
    replace HW := HW x3_67 ex3_67
    refine lv_iinc (v := x3_67) (lv' := [(3, .int x3_67), (0, .ref (ad 118)), (1, .int x1), (2, .int x2)]) hx hb dX5_lessonIn_67 hl (k := 3) rfl (by rw [ex3_67]; rfl) (by decide) rfl (fun ls hl => ?_)
    refine lv_goto (tgt := 4) hx hb dX5_lessonIn_70 (by decide) ?_
    exact hK4 x1 x2 x3_67 h g _ _ _ HW hG (lv_sub hl [1, 2, 3, 0] rfl)
  have L4 : ∀ (n : Nat) (x1 : Int32) (x2 : Int32) (x3 : Int32) (h : HI) (g : HL) (H : Heap) (locs : List Loc) (ls : Array Slot), lpN (F_X5_lessonIn_4 Q) n (x1, x2, x3, h, g) → gG D cy ad (gA ad s.heap.size) s.heap h g H locs → lv_has ls 6 [(0, .ref (ad 118)), (1, .int x1), (2, .int x2), (3, .int x3)] → W p l e ({ frames := 5, cells := 0, slots := 0, locals := 120 } : Room) s m args below meth c H locs 0 0 (MQ below (va_Qi (fun (r : Int32) (u : HI × HL) => Q r u.1 u.2) (gB D cy ad s.heap.size) (gA ad s.heap.size)) args s 0 0 (gA ad s.heap.size)) (F0 m 4 ls []) := by
    intro n
    induction n with
    | zero => intro x1 x2 x3 h g H locs ls HW; exact HW.elim
    | succ n ih =>
      intro x1 x2 x3 h g H locs ls HW hG hl
      have HW : b_X5_lessonIn_4 Q (fun x1 x2 x3 h g => lpN (F_X5_lessonIn_4 Q) n (x1, x2, x3, h, g)) x1 x2 x3 h g := HW
      generalize hKe : (fun (x1 : Int32) (x2 : Int32) (x3 : Int32) (h : HI) (g : HL) => lpN (F_X5_lessonIn_4 Q) n (x1, x2, x3, h, g)) = K4 at HW
      have hK4 : ∀ (x1 : Int32) (x2 : Int32) (x3 : Int32) (h : HI) (g : HL) (H : Heap) (locs : List Loc) (ls : Array Slot), K4 x1 x2 x3 h g → gG D cy ad (gA ad s.heap.size) s.heap h g H locs → lv_has ls 6 [(0, .ref (ad 118)), (1, .int x1), (2, .int x2), (3, .int x3)] → W p l e ({ frames := 5, cells := 0, slots := 0, locals := 120 } : Room) s m args below meth c H locs 0 0 (MQ below (va_Qi (fun (r : Int32) (u : HI × HL) => Q r u.1 u.2) (gB D cy ad s.heap.size) (gA ad s.heap.size)) args s 0 0 (gA ad s.heap.size)) (F0 m 4 ls []) := by subst hKe; exact ih
      clear ih
      clear hKe
      unfold b_X5_lessonIn_4 at HW
      refine lv_iload_n hx hb dX5_lessonIn_4 rfl (lv_at hl 3 rfl) ?_
      refine lv_aload_n hx hb dX5_lessonIn_5 rfl (lv_at hl 0 rfl) ?_
      refine g_geti hx hb hw inG5 hown hK hG gl_118 rfl gk_118 (by decide) 10 (by decide) (by rw [gm_118]; decide) gr_118_10 lk48 dX5_lessonIn_6 ?_
      refine lv_icmp_ge (tgt := 73) hx hb dX5_lessonIn_9 (by decide) (fun c_9 => ?_) (fun c_9 => ?_)
      · replace HW := HW.1 c_9
        refine lv_iconst (v := (-1)) hx hb dX5_lessonIn_73 (by decide) ?_
        exact W.iret (v := (-1 : Int32)) hx hb hr (fun t ht hW => ⟨⟨(-1 : Int32), (h, g), rfl, HW, g_B ht hG⟩, hG.2.2.F ht⟩) hG.2.2.2.2 dX5_lessonIn_74
      · replace HW := HW.2 c_9
        refine lv_aload_n hx hb dX5_lessonIn_12 rfl (lv_at hl 0 rfl) ?_
        refine lv_iload_n hx hb dX5_lessonIn_13 rfl (lv_at hl 3 rfl) ?_
        refine lv_iload_n hx hb dX5_lessonIn_14 rfl (lv_at hl 2 rfl) ?_
        obtain ⟨P_15, HC_15, HW⟩ := HW
        refine g_calli (g_runV (As := [.int x3, .int x2]) (rest := []) ⟨hx, hb, hml, hown, hts⟩ (m_X5_bestIn l D cy ad h g H.size x3 x2 P_15 HC_15) (cwV 2 hts (gd_V (wm4 204 rfl rfl) (wm4 206 rfl rfl) (wmp3 (q := (yX5_bestIn, 11)) 3 rfl) (wm1 12 rfl rfl) (wm4 207 rfl rfl)) rfl rfl rfl (by decide +kernel) ⟨Nat.le_of_ble_eq_true rfl, Nat.le_of_ble_eq_true rfl⟩) hK hNw hG gl_118 rfl gk_118 (by decide) rfl rfl hl.1 rfl (lv_room (Nat.le_of_ble_eq_true rfl)) dX5_lessonIn_15 ⟨Nat.zero_le _, Nat.zero_le _⟩) hG (fun r_15 h_15 g_15 H locs hq hG => ?_)
        replace HW := HW r_15 h_15 g_15 hq
        refine lv_istore (lv' := [(4, .int r_15), (0, .ref (ad 118)), (1, .int x1), (2, .int x2), (3, .int x3)]) hx hb dX5_lessonIn_18 hl (by decide) rfl (fun ls hl => ?_)
        refine lv_iload hx hb dX5_lessonIn_20 (lv_at hl 0 rfl) ?_
        refine lv_iconst (v := 0) hx hb dX5_lessonIn_22 (by decide) ?_
        refine lv_bipush (v := 15) hx hb dX5_lessonIn_23 (by decide) ?_
        obtain ⟨P_25, HC_25, HW⟩ := HW
        refine g_callz (g_runSN (As := [.int r_15, .int (0 : Int32), .int (15 : Int32)]) (rest := []) ⟨hx, hb, hml, hown, hts⟩ (m_X10_within l D cy ad h_15 g_15 H.size r_15 (0 : Int32) (15 : Int32) P_25 HC_25) ⟨va_cnB 3 hts (gd_w (wm2 195 rfl rfl)) rfl rfl rfl (hNw _ (List.mem_of_getElem? (i := 4) rfl)) (hw (.initialized RX10) (wm1 1 rfl rfl)) (by decide +kernel) ⟨Nat.le_of_ble_eq_true rfl, Nat.le_of_ble_eq_true rfl⟩, hw (.static yX10_within) (wm2 194 rfl rfl), trivial⟩ hK hNw hG rfl rfl hl.1 rfl (lv_room (Nat.le_of_ble_eq_true rfl)) dX5_lessonIn_25 ⟨Nat.zero_le _, Nat.zero_le _⟩) hG (fun r_25 h_25 g_25 H locs hz hq hG => ?_)
        replace HW := HW r_25 h_25 g_25 hz hq
        refine lv_istore (lv' := [(5, .int r_25), (4, .int r_15), (0, .ref (ad 118)), (1, .int x1), (2, .int x2), (3, .int x3)]) hx hb dX5_lessonIn_28 hl (by decide) rfl (fun ls hl => ?_)
        refine lv_iload_n hx hb dX5_lessonIn_30 rfl (lv_at hl 5 rfl) ?_
        refine lv_iload_n hx hb dX5_lessonIn_31 rfl (lv_at hl 3 rfl) ?_
        refine lv_icmp_ne (tgt := 52) hx hb dX5_lessonIn_32 (by decide) (fun c_32 => ?_) (fun c_32 => ?_)
        · replace HW := HW.1 c_32
          refine lv_iload hx hb dX5_lessonIn_52 (lv_at hl 0 rfl) ?_
          refine lv_if_eq (tgt := 67) hx hb dX5_lessonIn_54 (by decide) (fun c_54 => ?_) (fun c_54 => ?_)
          · replace HW := HW.1 c_54
            exact B67 K4 hK4 x1 x2 x3 h_25 g_25 _ _ _ HW hG (lv_sub hl [2, 3, 4, 5] rfl)
          · replace HW := HW.2 c_54
            refine lv_iload_n hx hb dX5_lessonIn_57 rfl (lv_at hl 4 rfl) ?_
            refine lv_aload_n hx hb dX5_lessonIn_58 rfl (lv_at hl 2 rfl) ?_
            refine g_getr hx hb hw inG5 hown hK hG gl_118 rfl gk_118 (by decide) 2 (by decide) (by rw [gm_118]; decide) (r := 120) gr_118_2 lk15 dX5_lessonIn_59 ?_
            refine lv_iload hx hb dX5_lessonIn_62 (lv_at hl 1 rfl) ?_
            refine g_iald hx hb hK hG gl_120 gk_120 gn_120 HW.1 dX5_lessonIn_64 ?_
            replace HW := HW.2
            refine lv_ior hx hb dX5_lessonIn_65 ?_
            refine lv_topi (fun x2_66 ex2_66 => ?_)
            replace HW := HW x2_66 ex2_66
            refine lv_istore_n (lv' := [(2, .int x2_66), (5, .int r_25), (4, .int r_15), (0, .ref (ad 118)), (1, .int x1), (3, .int x3)]) hx hb dX5_lessonIn_66 rfl hl (by decide) rfl (fun ls hl => ?_)
            exact B67 K4 hK4 x1 x2_66 x3 h_25 g_25 _ _ _ HW hG (lv_sub hl [3, 4, 0, 5] rfl)
        · replace HW := HW.2 c_32
          refine lv_iload hx hb dX5_lessonIn_35 (lv_at hl 0 rfl) ?_
          refine lv_if_eq (tgt := 50) hx hb dX5_lessonIn_37 (by decide) (fun c_37 => ?_) (fun c_37 => ?_)
          · replace HW := HW.1 c_37
            refine lv_iconst (v := (-1)) hx hb dX5_lessonIn_50 (by decide) ?_
            exact W.iret (v := (-1 : Int32)) hx hb hr (fun t ht hW => ⟨⟨(-1 : Int32), (h_25, g_25), rfl, HW, g_B ht hG⟩, hG.2.2.F ht⟩) hG.2.2.2.2 dX5_lessonIn_51
          · replace HW := HW.2 c_37
            refine lv_aload_n hx hb dX5_lessonIn_40 rfl (lv_at hl 2 rfl) ?_
            refine g_getr hx hb hw inG5 hown hK hG gl_118 rfl gk_118 (by decide) 1 (by decide) (by rw [gm_118]; decide) (r := 119) gr_118_1 lk11 dX5_lessonIn_41 ?_
            refine lv_iload hx hb dX5_lessonIn_44 (lv_at hl 1 rfl) ?_
            refine g_iald hx hb hK hG gl_119 gk_119 gn_119 HW.1 dX5_lessonIn_46 ?_
            replace HW := HW.2
            refine lv_goto (tgt := 51) hx hb dX5_lessonIn_47 (by decide) ?_
            exact W.iret (v := (h_25 119 r_15.toNatClampNeg)) hx hb hr (fun t ht hW => ⟨⟨(h_25 119 r_15.toNatClampNeg), (h_25, g_25), rfl, HW, g_B ht hG⟩, hG.2.2.F ht⟩) hG.2.2.2.2 dX5_lessonIn_51
  have E0 : ∀ (H : Heap) (locs : List Loc) (ls : Array Slot), gG D cy ad (gA ad s.heap.size) s.heap h g H locs → lv_has ls 6 [(0, .ref (ad 118)), (1, .int x1)] → W p l e ({ frames := 5, cells := 0, slots := 0, locals := 120 } : Room) s m args below meth c H locs 0 0 (MQ below (va_Qi (fun (r : Int32) (u : HI × HL) => Q r u.1 u.2) (gB D cy ad s.heap.size) (gA ad s.heap.size)) args s 0 0 (gA ad s.heap.size)) (F0 m 0 ls []) := by
    intro H locs ls hG hl
    unfold w_X5_lessonIn at HW
    refine lv_iconst (v := 0) hx hb dX5_lessonIn_0 (by decide) ?_
    refine lv_istore_n (lv' := [(2, .int (0 : Int32)), (0, .ref (ad 118)), (1, .int x1)]) hx hb dX5_lessonIn_1 rfl hl (by decide) rfl (fun ls hl => ?_)
    refine lv_iconst (v := 0) hx hb dX5_lessonIn_2 (by decide) ?_
    refine lv_istore_n (lv' := [(3, .int (0 : Int32)), (2, .int (0 : Int32)), (0, .ref (ad 118)), (1, .int x1)]) hx hb dX5_lessonIn_3 rfl hl (by decide) rfl (fun ls hl => ?_)
    obtain ⟨n_4, HW⟩ := HW
    exact L4 n_4 x1 (0 : Int32) (0 : Int32) h g _ _ _ HW hG (lv_sub hl [2, 3, 1, 0] rfl)
  exact E0 _ _ _ hG hl

def w_X8_copy (o : Nat) (o1 : Nat) (h : HI) (g : HL) (Q : HI → HL → Prop) : Prop :=
  (∀ x2_9 : Int32, x2_9 = ((h o1 3) * (h o1 1)) → ((¬ (h o1 1) = (h o 1) → Q h g) ∧ ((h o1 1) = (h o 1) → ((x2_9 < 0 → Q h g) ∧ (¬ x2_9 < 0 → (((Int32.ofNat (gN (o + 1))) < x2_9 → Q h g) ∧ (¬ (Int32.ofNat (gN (o + 1))) < x2_9 → ((x2_9 ≤ (Int32.ofNat (gN (o1 + 1))) → ((¬ (0 : Int32) < 0 ∧ ¬ (0 : Int32) < 0 ∧ ¬ x2_9 < 0 ∧ (0 : Int32).toNatClampNeg + x2_9.toNatClampNeg ≤ (gN (o1 + 1)) ∧ (0 : Int32).toNatClampNeg + x2_9.toNatClampNeg ≤ (gN (o + 1))) ∧ ∀ h_55 : HI, h_55 = hua h (o + 1) (va_cpy (h (o1 + 1)) (h (o + 1)) (0 : Int32).toNatClampNeg (0 : Int32).toNatClampNeg x2_9.toNatClampNeg) → (∀ h_63 : HI, h_63 = hu h_55 o 3 (h_55 o1 3) → Q h_63 g))) ∧ (¬ x2_9 ≤ (Int32.ofNat (gN (o1 + 1))) → Q h g)))))))))
set_option maxHeartbeats 8000000 in
set_option maxRecDepth 100000 in
theorem m_X8_copy (l : Launch) (D : va_G) (cy : Nat → ClassId) (ad : Nat → Nat) (h : HI) (g : HL) (sz : Nat) (o : Nat) (hT : isT o) (o1 : Nat) (hT1 : isT o1) (Q : HI → HL → Prop) (HW : w_X8_copy o o1 h g Q) : Met l yX8_copy (wa yX8_copy cX8_copy 3 none) ({ frames := 1, cells := 0, slots := 0, locals := 60 }) (va_Pc [.ref (ad o), .ref (ad o1)] (gI D cy ad h g sz)) (va_Qv (fun (u : HI × HL) => Q u.1 u.2) (gB D cy ad sz) (gA ad sz)) 0 0 (gA ad sz) := by
  refine Met.ofW (cc := cX8_copy) (maxL := 3) (ret := none) (by decide) rfl ?_
  intro p e s m args below meth c s₁ B hml hv
  obtain ⟨hav, hsz, hP, hK, hD0, hNw⟩ := hv
  have hx := B.exec
  have hb := B.bytes
  have hr := B.returns
  have hts := atoms_spec (ws := (wa yX8_copy cX8_copy 3 none)) B.pre
  have hw := wa_hw hts
  have hown : s.vm.findClass RX8 = some m.cls := findClass_of_methodNamed B.named
  have hlocks := B.notSynchronized
  subst hsz
  have hG : gG D cy ad (gA ad s.heap.size) s.heap h g s.heap [] := ⟨hP, gA_self hD0, va_S.rf⟩
  clear hP hD0
  have lk22 := hw (.fieldLink RX8 22 "OldWorks$Table" "many" "I") (wm1 40 rfl rfl)
  have lk15 := hw (.fieldLink RX8 15 "OldWorks$Table" "width" "I") (wm1 38 rfl rfl)
  have lk18 := hw (.fieldLink RX8 18 "OldWorks$Table" "cells" "[I") (wm1 37 rfl rfl)
  have ml29 := hw (.methodLink RX8 29 arraycopyName) (wm4 224 rfl rfl)
  have mn29 := hw (.native arraycopyName) (wm4 125 rfl rfl)
  have ms29 := hw (.static arraycopyName) (wm4 124 rfl rfl)
  have mi29 := hw (.initialized "java/lang/System") (wm1 16 rfl rfl)
  rw [show (headSpec (wa yX8_copy cX8_copy 3 none) ({ frames := 1, cells := 0, slots := 0, locals := 60 } : Room)).room = ({ frames := 1, cells := 0, slots := 0, locals := 60 } : Room) from rfl]
  have hl := lv_entry ([.ref (ad o), .ref (ad o1)]) (n := 3) (Nat.le_of_ble_eq_true rfl)
  rw [show entryFrame m args 3 = entryFrame m ([.ref (ad o), .ref (ad o1)] : List Value).toArray 3 from by rw [hav], lg_entry_eq]
  generalize (lg_sl ([.ref (ad o), .ref (ad o1)]) ++ List.replicate (3 - (lg_sl ([.ref (ad o), .ref (ad o1)])).length) Slot.unset).toArray = ls at hl ⊢
  have hl : lv_has ls 3 [(0, .ref (ad o)), (1, .ref (ad o1))] := hl
  have E0 : ∀ (H : Heap) (locs : List Loc) (ls : Array Slot), gG D cy ad (gA ad s.heap.size) s.heap h g H locs → lv_has ls 3 [(0, .ref (ad o)), (1, .ref (ad o1))] → W p l e ({ frames := 1, cells := 0, slots := 0, locals := 60 } : Room) s m args below meth c H locs 0 0 (MQ below (va_Qv (fun (u : HI × HL) => Q u.1 u.2) (gB D cy ad s.heap.size) (gA ad s.heap.size)) args s 0 0 (gA ad s.heap.size)) (F0 m 0 ls []) := by
    intro H locs ls hG hl
    unfold w_X8_copy at HW
    refine lv_aload_n hx hb dX8_copy_0 rfl (lv_at hl 1 rfl) ?_
    refine g_geti hx hb hw inG8 hown hK hG hT1.lt rfl hT1.k (by decide) 3 (by decide) (by rw [hT1.m]; decide) hT1.r.2.2.2 lk22 dX8_copy_1 ?_
    refine lv_aload_n hx hb dX8_copy_4 rfl (lv_at hl 1 rfl) ?_
    refine g_geti hx hb hw inG8 hown hK hG hT1.lt rfl hT1.k (by decide) 1 (by decide) (by rw [hT1.m]; decide) hT1.r.2.1 lk15 dX8_copy_5 ?_
    refine lv_imul hx hb dX8_copy_8 ?_
    refine lv_topi (fun x2_9 ex2_9 => ?_)
    replace HW := HW x2_9 ex2_9
    refine lv_istore_n (lv' := [(2, .int x2_9), (0, .ref (ad o)), (1, .ref (ad o1))]) hx hb dX8_copy_9 rfl hl (by decide) rfl (fun ls hl => ?_)
    refine lv_aload_n hx hb dX8_copy_10 rfl (lv_at hl 2 rfl) ?_
    refine g_geti hx hb hw inG8 hown hK hG hT1.lt rfl hT1.k (by decide) 1 (by decide) (by rw [hT1.m]; decide) hT1.r.2.1 lk15 dX8_copy_11 ?_
    refine lv_aload_n hx hb dX8_copy_14 rfl (lv_at hl 1 rfl) ?_
    refine g_geti hx hb hw inG8 hown hK hG hT.lt rfl hT.k (by decide) 1 (by decide) (by rw [hT.m]; decide) hT.r.2.1 lk15 dX8_copy_15 ?_
    refine lv_icmp_ne (tgt := 43) hx hb dX8_copy_18 (by decide) (fun c_18 => ?_) (fun c_18 => ?_)
    · replace HW := HW.1 c_18
      exact W.vret hx hb hr (fun t ht hW => ⟨⟨(h, g), rfl, HW, g_B ht hG⟩, hG.2.2.F ht⟩) hG.2.2.2.2 dX8_copy_43
    · replace HW := HW.2 c_18
      refine lv_iload_n hx hb dX8_copy_21 rfl (lv_at hl 0 rfl) ?_
      refine lv_if_lt (tgt := 43) hx hb dX8_copy_22 (by decide) (fun c_22 => ?_) (fun c_22 => ?_)
      · replace HW := HW.1 c_22
        exact W.vret hx hb hr (fun t ht hW => ⟨⟨(h, g), rfl, HW, g_B ht hG⟩, hG.2.2.F ht⟩) hG.2.2.2.2 dX8_copy_43
      · replace HW := HW.2 c_22
        refine lv_iload_n hx hb dX8_copy_25 rfl (lv_at hl 0 rfl) ?_
        refine lv_aload_n hx hb dX8_copy_26 rfl (lv_at hl 1 rfl) ?_
        refine g_getr hx hb hw inG8 hown hK hG hT.lt rfl hT.k (by decide) 0 (by decide) (by rw [hT.m]; decide) (r := (o + 1)) hT.r.1 lk18 dX8_copy_27 ?_
        refine g_alen hx hb hK hG hT.a.2 hT.a.1 (v := (Int32.ofNat (gN (o + 1)))) rfl dX8_copy_30 ?_
        refine lv_icmp_gt (tgt := 43) hx hb dX8_copy_31 (by decide) (fun c_31 => ?_) (fun c_31 => ?_)
        · replace HW := HW.1 c_31
          exact W.vret hx hb hr (fun t ht hW => ⟨⟨(h, g), rfl, HW, g_B ht hG⟩, hG.2.2.F ht⟩) hG.2.2.2.2 dX8_copy_43
        · replace HW := HW.2 c_31
          refine lv_iload_n hx hb dX8_copy_34 rfl (lv_at hl 0 rfl) ?_
          refine lv_aload_n hx hb dX8_copy_35 rfl (lv_at hl 2 rfl) ?_
          refine g_getr hx hb hw inG8 hown hK hG hT1.lt rfl hT1.k (by decide) 0 (by decide) (by rw [hT1.m]; decide) (r := (o1 + 1)) hT1.r.1 lk18 dX8_copy_36 ?_
          refine g_alen hx hb hK hG hT1.a.2 hT1.a.1 (v := (Int32.ofNat (gN (o1 + 1)))) rfl dX8_copy_39 ?_
          refine lv_icmp_le (tgt := 44) hx hb dX8_copy_40 (by decide) (fun c_40 => ?_) (fun c_40 => ?_)
          · replace HW := HW.1 c_40
            refine lv_aload_n hx hb dX8_copy_44 rfl (lv_at hl 2 rfl) ?_
            refine g_getr hx hb hw inG8 hown hK hG hT1.lt rfl hT1.k (by decide) 0 (by decide) (by rw [hT1.m]; decide) (r := (o1 + 1)) hT1.r.1 lk18 dX8_copy_45 ?_
            refine lv_iconst (v := 0) hx hb dX8_copy_48 (by decide) ?_
            refine lv_aload_n hx hb dX8_copy_49 rfl (lv_at hl 1 rfl) ?_
            refine g_getr hx hb hw inG8 hown hK hG hT.lt rfl hT.k (by decide) 0 (by decide) (by rw [hT.m]; decide) (r := (o + 1)) hT.r.1 lk18 dX8_copy_50 ?_
            refine lv_iconst (v := 0) hx hb dX8_copy_53 (by decide) ?_
            refine lv_iload_n hx hb dX8_copy_54 rfl (lv_at hl 0 rfl) ?_
            refine g_copy hx hb (hml.trans hl.1.symm) hown ml29 mn29 ms29 mi29 hK hG hT1.a.2 hT1.a.1 rfl hT.a.2 hT.a.1 rfl HW.1 (by decide) (Nat.le_of_ble_eq_true rfl) dX8_copy_55 (fun H locs hG => ?_)
            replace HW := HW.2
            obtain ⟨h_55, eh_55⟩ : ∃ y : HI, y = hua h (o + 1) (va_cpy (h (o1 + 1)) (h (o + 1)) (0 : Int32).toNatClampNeg (0 : Int32).toNatClampNeg x2_9.toNatClampNeg) := ⟨_, rfl⟩
            rw [← eh_55] at hG
            replace HW := HW h_55 eh_55
            refine lv_aload_n hx hb dX8_copy_58 rfl (lv_at hl 1 rfl) ?_
            refine lv_aload_n hx hb dX8_copy_59 rfl (lv_at hl 2 rfl) ?_
            refine g_geti hx hb hw inG8 hown hK hG hT1.lt rfl hT1.k (by decide) 3 (by decide) (by rw [hT1.m]; decide) hT1.r.2.2.2 lk22 dX8_copy_60 ?_
            refine g_put hx hb hw inG8 tyX8 tyX8_ok nmX8 hown hK hG hT.lt rfl hT.k (by decide) 3 (by decide) (by rw [hT.m]; decide) hT.r.2.2.2 rfl (ty := .int) (by decide +kernel) rfl rfl lk22 dX8_copy_63 (fun H locs hG => ?_)
            obtain ⟨h_63, eh_63⟩ : ∃ y : HI, y = hu h_55 o 3 (h_55 o1 3) := ⟨_, rfl⟩
            rw [← eh_63] at hG
            replace HW := HW h_63 eh_63
            exact W.vret hx hb hr (fun t ht hW => ⟨⟨(h_63, g), rfl, HW, g_B ht hG⟩, hG.2.2.F ht⟩) hG.2.2.2.2 dX8_copy_66
          · replace HW := HW.2 c_40
            exact W.vret hx hb hr (fun t ht hW => ⟨⟨(h, g), rfl, HW, g_B ht hG⟩, hG.2.2.F ht⟩) hG.2.2.2.2 dX8_copy_43
  exact E0 _ _ _ hG hl

def w_X6_copy (o : Nat) (o1 : Nat) (h : HI) (g : HL) (Q : HI → HL → Prop) : Prop :=
  (∃ P_8 : HI → HL → Prop, w_X8_copy (o + 1) (o1 + 1) h g P_8 ∧ ∀ (h_8 : HI) (g_8 : HL), P_8 h_8 g_8 → (∃ P_19 : HI → HL → Prop, w_X8_copy (o + 3) (o1 + 3) h_8 g_8 P_19 ∧ ∀ (h_19 : HI) (g_19 : HL), P_19 h_19 g_19 → (∃ P_30 : HI → HL → Prop, w_X8_copy (o + 5) (o1 + 5) h_19 g_19 P_30 ∧ ∀ (h_30 : HI) (g_30 : HL), P_30 h_30 g_30 → (∃ P_41 : HI → HL → Prop, w_X8_copy (o + 7) (o1 + 7) h_30 g_30 P_41 ∧ ∀ (h_41 : HI) (g_41 : HL), P_41 h_41 g_41 → (∃ P_52 : HI → HL → Prop, w_X8_copy (o + 9) (o1 + 9) h_41 g_41 P_52 ∧ ∀ (h_52 : HI) (g_52 : HL), P_52 h_52 g_52 → (∃ P_63 : HI → HL → Prop, w_X8_copy (o + 11) (o1 + 11) h_52 g_52 P_63 ∧ ∀ (h_63 : HI) (g_63 : HL), P_63 h_63 g_63 → (∃ P_74 : HI → HL → Prop, w_X8_copy (o + 13) (o1 + 13) h_63 g_63 P_74 ∧ ∀ (h_74 : HI) (g_74 : HL), P_74 h_74 g_74 → (∃ P_85 : HI → HL → Prop, w_X8_copy (o + 15) (o1 + 15) h_74 g_74 P_85 ∧ ∀ (h_85 : HI) (g_85 : HL), P_85 h_85 g_85 → (∃ P_96 : HI → HL → Prop, w_X8_copy (o + 17) (o1 + 17) h_85 g_85 P_96 ∧ ∀ (h_96 : HI) (g_96 : HL), P_96 h_96 g_96 → (∃ P_107 : HI → HL → Prop, w_X8_copy (o + 19) (o1 + 19) h_96 g_96 P_107 ∧ ∀ (h_107 : HI) (g_107 : HL), P_107 h_107 g_107 → (∃ P_118 : HI → HL → Prop, w_X8_copy (o + 21) (o1 + 21) h_107 g_107 P_118 ∧ ∀ (h_118 : HI) (g_118 : HL), P_118 h_118 g_118 → (∃ P_129 : HI → HL → Prop, w_X8_copy (o + 23) (o1 + 23) h_118 g_118 P_129 ∧ ∀ (h_129 : HI) (g_129 : HL), P_129 h_129 g_129 → Q h_129 g_129))))))))))))
set_option maxHeartbeats 8000000 in
set_option maxRecDepth 100000 in
theorem m_X6_copy (l : Launch) (D : va_G) (cy : Nat → ClassId) (ad : Nat → Nat) (h : HI) (g : HL) (sz : Nat) (o : Nat) (hT : isS o) (o1 : Nat) (hT1 : isS o1) (Q : HI → HL → Prop) (HW : w_X6_copy o o1 h g Q) : Met l yX6_copy (wa yX6_copy cX6_copy 2 none) ({ frames := 2, cells := 0, slots := 0, locals := 82 }) (va_Pc [.ref (ad o), .ref (ad o1)] (gI D cy ad h g sz)) (va_Qv (fun (u : HI × HL) => Q u.1 u.2) (gB D cy ad sz) (gA ad sz)) 0 0 (gA ad sz) := by
  refine Met.ofW (cc := cX6_copy) (maxL := 2) (ret := none) (by decide) rfl ?_
  intro p e s m args below meth c s₁ B hml hv
  obtain ⟨hav, hsz, hP, hK, hD0, hNw⟩ := hv
  have hx := B.exec
  have hb := B.bytes
  have hr := B.returns
  have hts := atoms_spec (ws := (wa yX6_copy cX6_copy 2 none)) B.pre
  have hw := wa_hw hts
  have hown : s.vm.findClass RX6 = some m.cls := findClass_of_methodNamed B.named
  have hlocks := B.notSynchronized
  subst hsz
  have hG : gG D cy ad (gA ad s.heap.size) s.heap h g s.heap [] := ⟨hP, gA_self hD0, va_S.rf⟩
  clear hP hD0
  have lk14 := hw (.fieldLink RX6 14 "OldWorks$Shop" "parts" "LOldWorks$Table;") (wm1 60 rfl rfl)
  have lk20 := hw (.fieldLink RX6 20 "OldWorks$Shop" "families" "LOldWorks$Table;") (wm1 65 rfl rfl)
  have lk23 := hw (.fieldLink RX6 23 "OldWorks$Shop" "sayings" "LOldWorks$Table;") (wm1 68 rfl rfl)
  have lk26 := hw (.fieldLink RX6 26 "OldWorks$Shop" "chains" "LOldWorks$Table;") (wm1 71 rfl rfl)
  have lk29 := hw (.fieldLink RX6 29 "OldWorks$Shop" "works" "LOldWorks$Table;") (wm1 74 rfl rfl)
  have lk32 := hw (.fieldLink RX6 32 "OldWorks$Shop" "machines" "LOldWorks$Table;") (wm1 77 rfl rfl)
  have lk35 := hw (.fieldLink RX6 35 "OldWorks$Shop" "spares" "LOldWorks$Table;") (wm1 80 rfl rfl)
  have lk38 := hw (.fieldLink RX6 38 "OldWorks$Shop" "odds" "LOldWorks$Table;") (wm1 83 rfl rfl)
  have lk41 := hw (.fieldLink RX6 41 "OldWorks$Shop" "loads" "LOldWorks$Table;") (wm1 86 rfl rfl)
  have lk44 := hw (.fieldLink RX6 44 "OldWorks$Shop" "hands" "LOldWorks$Table;") (wm1 89 rfl rfl)
  have lk47 := hw (.fieldLink RX6 47 "OldWorks$Shop" "runs" "LOldWorks$Table;") (wm1 92 rfl rfl)
  have lk52 := hw (.fieldLink RX6 52 "OldWorks$Shop" "signs" "LOldWorks$Table;") (wm1 95 rfl rfl)
  rw [show (headSpec (wa yX6_copy cX6_copy 2 none) ({ frames := 2, cells := 0, slots := 0, locals := 82 } : Room)).room = ({ frames := 2, cells := 0, slots := 0, locals := 82 } : Room) from rfl]
  have hl := lv_entry ([.ref (ad o), .ref (ad o1)]) (n := 2) (Nat.le_of_ble_eq_true rfl)
  rw [show entryFrame m args 2 = entryFrame m ([.ref (ad o), .ref (ad o1)] : List Value).toArray 2 from by rw [hav], lg_entry_eq]
  generalize (lg_sl ([.ref (ad o), .ref (ad o1)]) ++ List.replicate (2 - (lg_sl ([.ref (ad o), .ref (ad o1)])).length) Slot.unset).toArray = ls at hl ⊢
  have hl : lv_has ls 2 [(0, .ref (ad o)), (1, .ref (ad o1))] := hl
  have E0 : ∀ (H : Heap) (locs : List Loc) (ls : Array Slot), gG D cy ad (gA ad s.heap.size) s.heap h g H locs → lv_has ls 2 [(0, .ref (ad o)), (1, .ref (ad o1))] → W p l e ({ frames := 2, cells := 0, slots := 0, locals := 82 } : Room) s m args below meth c H locs 0 0 (MQ below (va_Qv (fun (u : HI × HL) => Q u.1 u.2) (gB D cy ad s.heap.size) (gA ad s.heap.size)) args s 0 0 (gA ad s.heap.size)) (F0 m 0 ls []) := by
    intro H locs ls hG hl
    unfold w_X6_copy at HW
    refine lv_aload_n hx hb dX6_copy_0 rfl (lv_at hl 0 rfl) ?_
    refine g_getr hx hb hw inG6 hown hK hG hT.lt rfl hT.k (by decide) 0 (by decide) (by rw [hT.m]; decide) (r := (o + 1)) (show gR o 0 = some (o + 1) from (hT.r 0 (by decide)).1) lk14 dX6_copy_1 ?_
    refine lv_aload_n hx hb dX6_copy_4 rfl (lv_at hl 1 rfl) ?_
    refine g_getr hx hb hw inG6 hown hK hG hT1.lt rfl hT1.k (by decide) 0 (by decide) (by rw [hT1.m]; decide) (r := (o1 + 1)) (show gR o1 0 = some (o1 + 1) from (hT1.r 0 (by decide)).1) lk14 dX6_copy_5 ?_
    obtain ⟨P_8, HC_8, HW⟩ := HW
    refine g_callv (g_runV (As := [.ref (ad (o1 + 1))]) (rest := []) ⟨hx, hb, hml, hown, hts⟩ (m_X8_copy l D cy ad h g H.size (o + 1) (show isT (o + 1) from (hT.r 0 (by decide)).2) (o1 + 1) (show isT (o1 + 1) from (hT1.r 0 (by decide)).2) P_8 HC_8) (cwV 1 hts (gd_V (wm4 220 rfl rfl) (wm4 221 rfl rfl) (wm4 222 rfl rfl) (wm1 3 rfl rfl) (wm4 223 rfl rfl)) rfl rfl rfl (by decide +kernel) ⟨Nat.le_of_ble_eq_true rfl, Nat.le_of_ble_eq_true rfl⟩) hK hNw hG ((show isT (o + 1) from (hT.r 0 (by decide)).2).lt) rfl ((show isT (o + 1) from (hT.r 0 (by decide)).2).k) (by decide) rfl rfl hl.1 rfl (lv_room (Nat.le_of_ble_eq_true rfl)) dX6_copy_8 ⟨Nat.zero_le _, Nat.zero_le _⟩) hG (fun h_8 g_8 H locs hq hG => ?_)
    replace HW := HW h_8 g_8 hq
    refine lv_aload_n hx hb dX6_copy_11 rfl (lv_at hl 0 rfl) ?_
    refine g_getr hx hb hw inG6 hown hK hG hT.lt rfl hT.k (by decide) 1 (by decide) (by rw [hT.m]; decide) (r := (o + 3)) (show gR o 1 = some (o + 3) from (hT.r 1 (by decide)).1) lk20 dX6_copy_12 ?_
    refine lv_aload_n hx hb dX6_copy_15 rfl (lv_at hl 1 rfl) ?_
    refine g_getr hx hb hw inG6 hown hK hG hT1.lt rfl hT1.k (by decide) 1 (by decide) (by rw [hT1.m]; decide) (r := (o1 + 3)) (show gR o1 1 = some (o1 + 3) from (hT1.r 1 (by decide)).1) lk20 dX6_copy_16 ?_
    obtain ⟨P_19, HC_19, HW⟩ := HW
    refine g_callv (g_runV (As := [.ref (ad (o1 + 3))]) (rest := []) ⟨hx, hb, hml, hown, hts⟩ (m_X8_copy l D cy ad h_8 g_8 H.size (o + 3) (show isT (o + 3) from (hT.r 1 (by decide)).2) (o1 + 3) (show isT (o1 + 3) from (hT1.r 1 (by decide)).2) P_19 HC_19) (cwV 1 hts (gd_V (wm4 220 rfl rfl) (wm4 221 rfl rfl) (wm4 222 rfl rfl) (wm1 3 rfl rfl) (wm4 223 rfl rfl)) rfl rfl rfl (by decide +kernel) ⟨Nat.le_of_ble_eq_true rfl, Nat.le_of_ble_eq_true rfl⟩) hK hNw hG ((show isT (o + 3) from (hT.r 1 (by decide)).2).lt) rfl ((show isT (o + 3) from (hT.r 1 (by decide)).2).k) (by decide) rfl rfl hl.1 rfl (lv_room (Nat.le_of_ble_eq_true rfl)) dX6_copy_19 ⟨Nat.zero_le _, Nat.zero_le _⟩) hG (fun h_19 g_19 H locs hq hG => ?_)
    replace HW := HW h_19 g_19 hq
    refine lv_aload_n hx hb dX6_copy_22 rfl (lv_at hl 0 rfl) ?_
    refine g_getr hx hb hw inG6 hown hK hG hT.lt rfl hT.k (by decide) 2 (by decide) (by rw [hT.m]; decide) (r := (o + 5)) (show gR o 2 = some (o + 5) from (hT.r 2 (by decide)).1) lk23 dX6_copy_23 ?_
    refine lv_aload_n hx hb dX6_copy_26 rfl (lv_at hl 1 rfl) ?_
    refine g_getr hx hb hw inG6 hown hK hG hT1.lt rfl hT1.k (by decide) 2 (by decide) (by rw [hT1.m]; decide) (r := (o1 + 5)) (show gR o1 2 = some (o1 + 5) from (hT1.r 2 (by decide)).1) lk23 dX6_copy_27 ?_
    obtain ⟨P_30, HC_30, HW⟩ := HW
    refine g_callv (g_runV (As := [.ref (ad (o1 + 5))]) (rest := []) ⟨hx, hb, hml, hown, hts⟩ (m_X8_copy l D cy ad h_19 g_19 H.size (o + 5) (show isT (o + 5) from (hT.r 2 (by decide)).2) (o1 + 5) (show isT (o1 + 5) from (hT1.r 2 (by decide)).2) P_30 HC_30) (cwV 1 hts (gd_V (wm4 220 rfl rfl) (wm4 221 rfl rfl) (wm4 222 rfl rfl) (wm1 3 rfl rfl) (wm4 223 rfl rfl)) rfl rfl rfl (by decide +kernel) ⟨Nat.le_of_ble_eq_true rfl, Nat.le_of_ble_eq_true rfl⟩) hK hNw hG ((show isT (o + 5) from (hT.r 2 (by decide)).2).lt) rfl ((show isT (o + 5) from (hT.r 2 (by decide)).2).k) (by decide) rfl rfl hl.1 rfl (lv_room (Nat.le_of_ble_eq_true rfl)) dX6_copy_30 ⟨Nat.zero_le _, Nat.zero_le _⟩) hG (fun h_30 g_30 H locs hq hG => ?_)
    replace HW := HW h_30 g_30 hq
    refine lv_aload_n hx hb dX6_copy_33 rfl (lv_at hl 0 rfl) ?_
    refine g_getr hx hb hw inG6 hown hK hG hT.lt rfl hT.k (by decide) 3 (by decide) (by rw [hT.m]; decide) (r := (o + 7)) (show gR o 3 = some (o + 7) from (hT.r 3 (by decide)).1) lk26 dX6_copy_34 ?_
    refine lv_aload_n hx hb dX6_copy_37 rfl (lv_at hl 1 rfl) ?_
    refine g_getr hx hb hw inG6 hown hK hG hT1.lt rfl hT1.k (by decide) 3 (by decide) (by rw [hT1.m]; decide) (r := (o1 + 7)) (show gR o1 3 = some (o1 + 7) from (hT1.r 3 (by decide)).1) lk26 dX6_copy_38 ?_
    obtain ⟨P_41, HC_41, HW⟩ := HW
    refine g_callv (g_runV (As := [.ref (ad (o1 + 7))]) (rest := []) ⟨hx, hb, hml, hown, hts⟩ (m_X8_copy l D cy ad h_30 g_30 H.size (o + 7) (show isT (o + 7) from (hT.r 3 (by decide)).2) (o1 + 7) (show isT (o1 + 7) from (hT1.r 3 (by decide)).2) P_41 HC_41) (cwV 1 hts (gd_V (wm4 220 rfl rfl) (wm4 221 rfl rfl) (wm4 222 rfl rfl) (wm1 3 rfl rfl) (wm4 223 rfl rfl)) rfl rfl rfl (by decide +kernel) ⟨Nat.le_of_ble_eq_true rfl, Nat.le_of_ble_eq_true rfl⟩) hK hNw hG ((show isT (o + 7) from (hT.r 3 (by decide)).2).lt) rfl ((show isT (o + 7) from (hT.r 3 (by decide)).2).k) (by decide) rfl rfl hl.1 rfl (lv_room (Nat.le_of_ble_eq_true rfl)) dX6_copy_41 ⟨Nat.zero_le _, Nat.zero_le _⟩) hG (fun h_41 g_41 H locs hq hG => ?_)
    replace HW := HW h_41 g_41 hq
    refine lv_aload_n hx hb dX6_copy_44 rfl (lv_at hl 0 rfl) ?_
    refine g_getr hx hb hw inG6 hown hK hG hT.lt rfl hT.k (by decide) 4 (by decide) (by rw [hT.m]; decide) (r := (o + 9)) (show gR o 4 = some (o + 9) from (hT.r 4 (by decide)).1) lk29 dX6_copy_45 ?_
    refine lv_aload_n hx hb dX6_copy_48 rfl (lv_at hl 1 rfl) ?_
    refine g_getr hx hb hw inG6 hown hK hG hT1.lt rfl hT1.k (by decide) 4 (by decide) (by rw [hT1.m]; decide) (r := (o1 + 9)) (show gR o1 4 = some (o1 + 9) from (hT1.r 4 (by decide)).1) lk29 dX6_copy_49 ?_
    obtain ⟨P_52, HC_52, HW⟩ := HW
    refine g_callv (g_runV (As := [.ref (ad (o1 + 9))]) (rest := []) ⟨hx, hb, hml, hown, hts⟩ (m_X8_copy l D cy ad h_41 g_41 H.size (o + 9) (show isT (o + 9) from (hT.r 4 (by decide)).2) (o1 + 9) (show isT (o1 + 9) from (hT1.r 4 (by decide)).2) P_52 HC_52) (cwV 1 hts (gd_V (wm4 220 rfl rfl) (wm4 221 rfl rfl) (wm4 222 rfl rfl) (wm1 3 rfl rfl) (wm4 223 rfl rfl)) rfl rfl rfl (by decide +kernel) ⟨Nat.le_of_ble_eq_true rfl, Nat.le_of_ble_eq_true rfl⟩) hK hNw hG ((show isT (o + 9) from (hT.r 4 (by decide)).2).lt) rfl ((show isT (o + 9) from (hT.r 4 (by decide)).2).k) (by decide) rfl rfl hl.1 rfl (lv_room (Nat.le_of_ble_eq_true rfl)) dX6_copy_52 ⟨Nat.zero_le _, Nat.zero_le _⟩) hG (fun h_52 g_52 H locs hq hG => ?_)
    replace HW := HW h_52 g_52 hq
    refine lv_aload_n hx hb dX6_copy_55 rfl (lv_at hl 0 rfl) ?_
    refine g_getr hx hb hw inG6 hown hK hG hT.lt rfl hT.k (by decide) 5 (by decide) (by rw [hT.m]; decide) (r := (o + 11)) (show gR o 5 = some (o + 11) from (hT.r 5 (by decide)).1) lk32 dX6_copy_56 ?_
    refine lv_aload_n hx hb dX6_copy_59 rfl (lv_at hl 1 rfl) ?_
    refine g_getr hx hb hw inG6 hown hK hG hT1.lt rfl hT1.k (by decide) 5 (by decide) (by rw [hT1.m]; decide) (r := (o1 + 11)) (show gR o1 5 = some (o1 + 11) from (hT1.r 5 (by decide)).1) lk32 dX6_copy_60 ?_
    obtain ⟨P_63, HC_63, HW⟩ := HW
    refine g_callv (g_runV (As := [.ref (ad (o1 + 11))]) (rest := []) ⟨hx, hb, hml, hown, hts⟩ (m_X8_copy l D cy ad h_52 g_52 H.size (o + 11) (show isT (o + 11) from (hT.r 5 (by decide)).2) (o1 + 11) (show isT (o1 + 11) from (hT1.r 5 (by decide)).2) P_63 HC_63) (cwV 1 hts (gd_V (wm4 220 rfl rfl) (wm4 221 rfl rfl) (wm4 222 rfl rfl) (wm1 3 rfl rfl) (wm4 223 rfl rfl)) rfl rfl rfl (by decide +kernel) ⟨Nat.le_of_ble_eq_true rfl, Nat.le_of_ble_eq_true rfl⟩) hK hNw hG ((show isT (o + 11) from (hT.r 5 (by decide)).2).lt) rfl ((show isT (o + 11) from (hT.r 5 (by decide)).2).k) (by decide) rfl rfl hl.1 rfl (lv_room (Nat.le_of_ble_eq_true rfl)) dX6_copy_63 ⟨Nat.zero_le _, Nat.zero_le _⟩) hG (fun h_63 g_63 H locs hq hG => ?_)
    replace HW := HW h_63 g_63 hq
    refine lv_aload_n hx hb dX6_copy_66 rfl (lv_at hl 0 rfl) ?_
    refine g_getr hx hb hw inG6 hown hK hG hT.lt rfl hT.k (by decide) 6 (by decide) (by rw [hT.m]; decide) (r := (o + 13)) (show gR o 6 = some (o + 13) from (hT.r 6 (by decide)).1) lk35 dX6_copy_67 ?_
    refine lv_aload_n hx hb dX6_copy_70 rfl (lv_at hl 1 rfl) ?_
    refine g_getr hx hb hw inG6 hown hK hG hT1.lt rfl hT1.k (by decide) 6 (by decide) (by rw [hT1.m]; decide) (r := (o1 + 13)) (show gR o1 6 = some (o1 + 13) from (hT1.r 6 (by decide)).1) lk35 dX6_copy_71 ?_
    obtain ⟨P_74, HC_74, HW⟩ := HW
    refine g_callv (g_runV (As := [.ref (ad (o1 + 13))]) (rest := []) ⟨hx, hb, hml, hown, hts⟩ (m_X8_copy l D cy ad h_63 g_63 H.size (o + 13) (show isT (o + 13) from (hT.r 6 (by decide)).2) (o1 + 13) (show isT (o1 + 13) from (hT1.r 6 (by decide)).2) P_74 HC_74) (cwV 1 hts (gd_V (wm4 220 rfl rfl) (wm4 221 rfl rfl) (wm4 222 rfl rfl) (wm1 3 rfl rfl) (wm4 223 rfl rfl)) rfl rfl rfl (by decide +kernel) ⟨Nat.le_of_ble_eq_true rfl, Nat.le_of_ble_eq_true rfl⟩) hK hNw hG ((show isT (o + 13) from (hT.r 6 (by decide)).2).lt) rfl ((show isT (o + 13) from (hT.r 6 (by decide)).2).k) (by decide) rfl rfl hl.1 rfl (lv_room (Nat.le_of_ble_eq_true rfl)) dX6_copy_74 ⟨Nat.zero_le _, Nat.zero_le _⟩) hG (fun h_74 g_74 H locs hq hG => ?_)
    replace HW := HW h_74 g_74 hq
    refine lv_aload_n hx hb dX6_copy_77 rfl (lv_at hl 0 rfl) ?_
    refine g_getr hx hb hw inG6 hown hK hG hT.lt rfl hT.k (by decide) 7 (by decide) (by rw [hT.m]; decide) (r := (o + 15)) (show gR o 7 = some (o + 15) from (hT.r 7 (by decide)).1) lk38 dX6_copy_78 ?_
    refine lv_aload_n hx hb dX6_copy_81 rfl (lv_at hl 1 rfl) ?_
    refine g_getr hx hb hw inG6 hown hK hG hT1.lt rfl hT1.k (by decide) 7 (by decide) (by rw [hT1.m]; decide) (r := (o1 + 15)) (show gR o1 7 = some (o1 + 15) from (hT1.r 7 (by decide)).1) lk38 dX6_copy_82 ?_
    obtain ⟨P_85, HC_85, HW⟩ := HW
    refine g_callv (g_runV (As := [.ref (ad (o1 + 15))]) (rest := []) ⟨hx, hb, hml, hown, hts⟩ (m_X8_copy l D cy ad h_74 g_74 H.size (o + 15) (show isT (o + 15) from (hT.r 7 (by decide)).2) (o1 + 15) (show isT (o1 + 15) from (hT1.r 7 (by decide)).2) P_85 HC_85) (cwV 1 hts (gd_V (wm4 220 rfl rfl) (wm4 221 rfl rfl) (wm4 222 rfl rfl) (wm1 3 rfl rfl) (wm4 223 rfl rfl)) rfl rfl rfl (by decide +kernel) ⟨Nat.le_of_ble_eq_true rfl, Nat.le_of_ble_eq_true rfl⟩) hK hNw hG ((show isT (o + 15) from (hT.r 7 (by decide)).2).lt) rfl ((show isT (o + 15) from (hT.r 7 (by decide)).2).k) (by decide) rfl rfl hl.1 rfl (lv_room (Nat.le_of_ble_eq_true rfl)) dX6_copy_85 ⟨Nat.zero_le _, Nat.zero_le _⟩) hG (fun h_85 g_85 H locs hq hG => ?_)
    replace HW := HW h_85 g_85 hq
    refine lv_aload_n hx hb dX6_copy_88 rfl (lv_at hl 0 rfl) ?_
    refine g_getr hx hb hw inG6 hown hK hG hT.lt rfl hT.k (by decide) 8 (by decide) (by rw [hT.m]; decide) (r := (o + 17)) (show gR o 8 = some (o + 17) from (hT.r 8 (by decide)).1) lk41 dX6_copy_89 ?_
    refine lv_aload_n hx hb dX6_copy_92 rfl (lv_at hl 1 rfl) ?_
    refine g_getr hx hb hw inG6 hown hK hG hT1.lt rfl hT1.k (by decide) 8 (by decide) (by rw [hT1.m]; decide) (r := (o1 + 17)) (show gR o1 8 = some (o1 + 17) from (hT1.r 8 (by decide)).1) lk41 dX6_copy_93 ?_
    obtain ⟨P_96, HC_96, HW⟩ := HW
    refine g_callv (g_runV (As := [.ref (ad (o1 + 17))]) (rest := []) ⟨hx, hb, hml, hown, hts⟩ (m_X8_copy l D cy ad h_85 g_85 H.size (o + 17) (show isT (o + 17) from (hT.r 8 (by decide)).2) (o1 + 17) (show isT (o1 + 17) from (hT1.r 8 (by decide)).2) P_96 HC_96) (cwV 1 hts (gd_V (wm4 220 rfl rfl) (wm4 221 rfl rfl) (wm4 222 rfl rfl) (wm1 3 rfl rfl) (wm4 223 rfl rfl)) rfl rfl rfl (by decide +kernel) ⟨Nat.le_of_ble_eq_true rfl, Nat.le_of_ble_eq_true rfl⟩) hK hNw hG ((show isT (o + 17) from (hT.r 8 (by decide)).2).lt) rfl ((show isT (o + 17) from (hT.r 8 (by decide)).2).k) (by decide) rfl rfl hl.1 rfl (lv_room (Nat.le_of_ble_eq_true rfl)) dX6_copy_96 ⟨Nat.zero_le _, Nat.zero_le _⟩) hG (fun h_96 g_96 H locs hq hG => ?_)
    replace HW := HW h_96 g_96 hq
    refine lv_aload_n hx hb dX6_copy_99 rfl (lv_at hl 0 rfl) ?_
    refine g_getr hx hb hw inG6 hown hK hG hT.lt rfl hT.k (by decide) 9 (by decide) (by rw [hT.m]; decide) (r := (o + 19)) (show gR o 9 = some (o + 19) from (hT.r 9 (by decide)).1) lk44 dX6_copy_100 ?_
    refine lv_aload_n hx hb dX6_copy_103 rfl (lv_at hl 1 rfl) ?_
    refine g_getr hx hb hw inG6 hown hK hG hT1.lt rfl hT1.k (by decide) 9 (by decide) (by rw [hT1.m]; decide) (r := (o1 + 19)) (show gR o1 9 = some (o1 + 19) from (hT1.r 9 (by decide)).1) lk44 dX6_copy_104 ?_
    obtain ⟨P_107, HC_107, HW⟩ := HW
    refine g_callv (g_runV (As := [.ref (ad (o1 + 19))]) (rest := []) ⟨hx, hb, hml, hown, hts⟩ (m_X8_copy l D cy ad h_96 g_96 H.size (o + 19) (show isT (o + 19) from (hT.r 9 (by decide)).2) (o1 + 19) (show isT (o1 + 19) from (hT1.r 9 (by decide)).2) P_107 HC_107) (cwV 1 hts (gd_V (wm4 220 rfl rfl) (wm4 221 rfl rfl) (wm4 222 rfl rfl) (wm1 3 rfl rfl) (wm4 223 rfl rfl)) rfl rfl rfl (by decide +kernel) ⟨Nat.le_of_ble_eq_true rfl, Nat.le_of_ble_eq_true rfl⟩) hK hNw hG ((show isT (o + 19) from (hT.r 9 (by decide)).2).lt) rfl ((show isT (o + 19) from (hT.r 9 (by decide)).2).k) (by decide) rfl rfl hl.1 rfl (lv_room (Nat.le_of_ble_eq_true rfl)) dX6_copy_107 ⟨Nat.zero_le _, Nat.zero_le _⟩) hG (fun h_107 g_107 H locs hq hG => ?_)
    replace HW := HW h_107 g_107 hq
    refine lv_aload_n hx hb dX6_copy_110 rfl (lv_at hl 0 rfl) ?_
    refine g_getr hx hb hw inG6 hown hK hG hT.lt rfl hT.k (by decide) 10 (by decide) (by rw [hT.m]; decide) (r := (o + 21)) (show gR o 10 = some (o + 21) from (hT.r 10 (by decide)).1) lk47 dX6_copy_111 ?_
    refine lv_aload_n hx hb dX6_copy_114 rfl (lv_at hl 1 rfl) ?_
    refine g_getr hx hb hw inG6 hown hK hG hT1.lt rfl hT1.k (by decide) 10 (by decide) (by rw [hT1.m]; decide) (r := (o1 + 21)) (show gR o1 10 = some (o1 + 21) from (hT1.r 10 (by decide)).1) lk47 dX6_copy_115 ?_
    obtain ⟨P_118, HC_118, HW⟩ := HW
    refine g_callv (g_runV (As := [.ref (ad (o1 + 21))]) (rest := []) ⟨hx, hb, hml, hown, hts⟩ (m_X8_copy l D cy ad h_107 g_107 H.size (o + 21) (show isT (o + 21) from (hT.r 10 (by decide)).2) (o1 + 21) (show isT (o1 + 21) from (hT1.r 10 (by decide)).2) P_118 HC_118) (cwV 1 hts (gd_V (wm4 220 rfl rfl) (wm4 221 rfl rfl) (wm4 222 rfl rfl) (wm1 3 rfl rfl) (wm4 223 rfl rfl)) rfl rfl rfl (by decide +kernel) ⟨Nat.le_of_ble_eq_true rfl, Nat.le_of_ble_eq_true rfl⟩) hK hNw hG ((show isT (o + 21) from (hT.r 10 (by decide)).2).lt) rfl ((show isT (o + 21) from (hT.r 10 (by decide)).2).k) (by decide) rfl rfl hl.1 rfl (lv_room (Nat.le_of_ble_eq_true rfl)) dX6_copy_118 ⟨Nat.zero_le _, Nat.zero_le _⟩) hG (fun h_118 g_118 H locs hq hG => ?_)
    replace HW := HW h_118 g_118 hq
    refine lv_aload_n hx hb dX6_copy_121 rfl (lv_at hl 0 rfl) ?_
    refine g_getr hx hb hw inG6 hown hK hG hT.lt rfl hT.k (by decide) 11 (by decide) (by rw [hT.m]; decide) (r := (o + 23)) (show gR o 11 = some (o + 23) from (hT.r 11 (by decide)).1) lk52 dX6_copy_122 ?_
    refine lv_aload_n hx hb dX6_copy_125 rfl (lv_at hl 1 rfl) ?_
    refine g_getr hx hb hw inG6 hown hK hG hT1.lt rfl hT1.k (by decide) 11 (by decide) (by rw [hT1.m]; decide) (r := (o1 + 23)) (show gR o1 11 = some (o1 + 23) from (hT1.r 11 (by decide)).1) lk52 dX6_copy_126 ?_
    obtain ⟨P_129, HC_129, HW⟩ := HW
    refine g_callv (g_runV (As := [.ref (ad (o1 + 23))]) (rest := []) ⟨hx, hb, hml, hown, hts⟩ (m_X8_copy l D cy ad h_118 g_118 H.size (o + 23) (show isT (o + 23) from (hT.r 11 (by decide)).2) (o1 + 23) (show isT (o1 + 23) from (hT1.r 11 (by decide)).2) P_129 HC_129) (cwV 1 hts (gd_V (wm4 220 rfl rfl) (wm4 221 rfl rfl) (wm4 222 rfl rfl) (wm1 3 rfl rfl) (wm4 223 rfl rfl)) rfl rfl rfl (by decide +kernel) ⟨Nat.le_of_ble_eq_true rfl, Nat.le_of_ble_eq_true rfl⟩) hK hNw hG ((show isT (o + 23) from (hT.r 11 (by decide)).2).lt) rfl ((show isT (o + 23) from (hT.r 11 (by decide)).2).k) (by decide) rfl rfl hl.1 rfl (lv_room (Nat.le_of_ble_eq_true rfl)) dX6_copy_129 ⟨Nat.zero_le _, Nat.zero_le _⟩) hG (fun h_129 g_129 H locs hq hG => ?_)
    replace HW := HW h_129 g_129 hq
    exact W.vret hx hb hr (fun t ht hW => ⟨⟨(h_129, g_129), rfl, HW, g_B ht hG⟩, hG.2.2.F ht⟩) hG.2.2.2.2 dX6_copy_132
  exact E0 _ _ _ hG hl
