def w_X10_write (x1 : Int32) (h : HI) (g : HL) (Q : Int32 → HI → HL → Prop) : Prop :=
  (∃ P_4 : Int32 → HI → HL → Prop, w_X10_within x1 (0 : Int32) (127 : Int32) h g P_4 ∧ ∀ (r_4 : Int32) (h_4 : HI) (g_4 : HL), zb r_4 → P_4 r_4 h_4 g_4 → ((¬ r_4 = 0 → (∃ P_24 : Int32 → HI → HL → Prop, w_X8_add 24 x1 (0 : Int32) (0 : Int32) (0 : Int32) h_4 g_4 P_24 ∧ ∀ (r_24 : Int32) (h_24 : HI) (g_24 : HL), P_24 r_24 h_24 g_24 → ((¬ r_24 = (-4 : Int32) → (∃ P_41 : HI → HL → Prop, w_X4_read h_24 g_24 P_41 ∧ ∀ (h_41 : HI) (g_41 : HL), P_41 h_41 g_41 → (∃ P_51 : Int32 → HI → HL → Prop, w_X8_rows 24 h_41 g_41 P_51 ∧ ∀ (r_51 : Int32) (h_51 : HI) (g_51 : HL), P_51 r_51 h_51 g_51 → Q r_51 h_51 g_51))) ∧ (r_24 = (-4 : Int32) → Q (-4 : Int32) h_24 g_24)))) ∧ (r_4 = 0 → Q (-2 : Int32) h_4 g_4)))
set_option maxHeartbeats 8000000 in
set_option maxRecDepth 100000 in
theorem m_X10_write (l : Launch) (D : va_G) (cy : Nat → ClassId) (ad : Nat → Nat) (h : HI) (g : HL) (sz : Nat) (x1 : Int32) (Q : Int32 → HI → HL → Prop) (HW : w_X10_write x1 h g Q) : Met l yX10_write (wa yX10_write cX10_write 3 (some .int)) ({ frames := 5, cells := 0, slots := 0, locals := 110 }) (va_Pc [.ref (ad 0), .int x1] (gI D cy ad h g sz)) (va_Qi (fun (r : Int32) (u : HI × HL) => Q r u.1 u.2) (gB D cy ad sz) (gA ad sz)) 0 0 (gA ad sz) := by
  refine Met.ofW (cc := cX10_write) (maxL := 3) (ret := (some .int)) (by decide) rfl ?_
  intro p e s m args below meth c s₁ B hml hv
  obtain ⟨hav, hsz, hP, hK, hD0, hNw⟩ := hv
  have hx := B.exec
  have hb := B.bytes
  have hr := B.returns
  have hts := atoms_spec (ws := (wa yX10_write cX10_write 3 (some .int))) B.pre
  have hw := wa_hw hts
  have hown : s.vm.findClass RX10 = some m.cls := findClass_of_methodNamed B.named
  have hlocks := B.notSynchronized
  subst hsz
  have hG : gG D cy ad (gA ad s.heap.size) s.heap h g s.heap [] := ⟨hP, gA_self hD0, va_S.rf⟩
  clear hP hD0
  have lk10 := hw (.fieldLink RX10 10 "OldWorks" "shop" "LOldWorks$Shop;") (wm2 155 rfl rfl)
  have lk109 := hw (.fieldLink RX10 109 "OldWorks$Shop" "signs" "LOldWorks$Table;") (wm1 97 rfl rfl)
  have lk31 := hw (.fieldLink RX10 31 "OldWorks" "law" "LOldWorks$Law;") (wm2 159 rfl rfl)
  rw [show (headSpec (wa yX10_write cX10_write 3 (some .int)) ({ frames := 5, cells := 0, slots := 0, locals := 110 } : Room)).room = ({ frames := 5, cells := 0, slots := 0, locals := 110 } : Room) from rfl]
  have hl := lv_entry ([.ref (ad 0), .int x1]) (n := 3) (Nat.le_of_ble_eq_true rfl)
  rw [show entryFrame m args 3 = entryFrame m ([.ref (ad 0), .int x1] : List Value).toArray 3 from by rw [hav], lg_entry_eq]
  generalize (lg_sl ([.ref (ad 0), .int x1]) ++ List.replicate (3 - (lg_sl ([.ref (ad 0), .int x1])).length) Slot.unset).toArray = ls at hl ⊢
  have hl : lv_has ls 3 [(0, .ref (ad 0)), (1, .int x1)] := hl
  have E0 : ∀ (H : Heap) (locs : List Loc) (ls : Array Slot), gG D cy ad (gA ad s.heap.size) s.heap h g H locs → lv_has ls 3 [(0, .ref (ad 0)), (1, .int x1)] → W p l e ({ frames := 5, cells := 0, slots := 0, locals := 110 } : Room) s m args below meth c H locs 0 0 (MQ below (va_Qi (fun (r : Int32) (u : HI × HL) => Q r u.1 u.2) (gB D cy ad s.heap.size) (gA ad s.heap.size)) args s 0 0 (gA ad s.heap.size)) (F0 m 0 ls []) := by
    intro H locs ls hG hl
    unfold w_X10_write at HW
    refine lv_iload_n hx hb dX10_write_0 rfl (lv_at hl 1 rfl) ?_
    refine lv_iconst (v := 0) hx hb dX10_write_1 (by decide) ?_
    refine lv_bipush (v := 127) hx hb dX10_write_2 (by decide) ?_
    obtain ⟨P_4, HC_4, HW⟩ := HW
    refine g_callz (g_runS (As := [.int x1, .int (0 : Int32), .int (127 : Int32)]) (rest := []) ⟨hx, hb, hml, hown, hts⟩ (m_X10_within l D cy ad h g H.size x1 (0 : Int32) (127 : Int32) P_4 HC_4) (va_cwS 3 hts (gd_S (wm2 193 rfl rfl) (wm2 194 rfl rfl) (wm1 1 rfl rfl) (wm2 195 rfl rfl)) rfl rfl rfl (by decide +kernel) ⟨Nat.le_of_ble_eq_true rfl, Nat.le_of_ble_eq_true rfl⟩) hK hNw hG rfl rfl hl.1 rfl (lv_room (Nat.le_of_ble_eq_true rfl)) dX10_write_4 ⟨Nat.zero_le _, Nat.zero_le _⟩) hG (fun r_4 h_4 g_4 H locs hz hq hG => ?_)
    replace HW := HW r_4 h_4 g_4 hz hq
    refine lv_if_ne (tgt := 13) hx hb dX10_write_7 (by decide) (fun c_7 => ?_) (fun c_7 => ?_)
    · replace HW := HW.1 c_7
      refine lv_aload_n hx hb dX10_write_13 rfl (lv_at hl 0 rfl) ?_
      refine g_getr hx hb hw inG10 hown hK hG gl_0 rfl gk_0 (by decide) 0 (by decide) (by rw [gm_0]; decide) (r := 1) gr_0_0 lk10 dX10_write_14 ?_
      refine g_getr hx hb hw inG6 hown hK hG gl_1 rfl gk_1 (by decide) 11 (by decide) (by rw [gm_1]; decide) (r := 24) gr_1_11 lk109 dX10_write_17 ?_
      refine lv_iload_n hx hb dX10_write_20 rfl (lv_at hl 1 rfl) ?_
      refine lv_iconst (v := 0) hx hb dX10_write_21 (by decide) ?_
      refine lv_iconst (v := 0) hx hb dX10_write_22 (by decide) ?_
      refine lv_iconst (v := 0) hx hb dX10_write_23 (by decide) ?_
      obtain ⟨P_24, HC_24, HW⟩ := HW
      refine g_calli (g_runV (As := [.int x1, .int (0 : Int32), .int (0 : Int32), .int (0 : Int32)]) (rest := []) ⟨hx, hb, hml, hown, hts⟩ (m_X8_add l D cy ad h_4 g_4 H.size 24 (gs_24) x1 (0 : Int32) (0 : Int32) (0 : Int32) P_24 HC_24) (cwV 4 hts (gd_V (wm2 196 rfl rfl) (wm1 53 rfl rfl) (wm1 54 rfl rfl) (wm1 3 rfl rfl) (wm1 55 rfl rfl)) rfl rfl rfl (by decide +kernel) ⟨Nat.le_of_ble_eq_true rfl, Nat.le_of_ble_eq_true rfl⟩) hK hNw hG gl_24 rfl gk_24 (by decide) rfl rfl hl.1 rfl (lv_room (Nat.le_of_ble_eq_true rfl)) dX10_write_24 ⟨Nat.zero_le _, Nat.zero_le _⟩) hG (fun r_24 h_24 g_24 H locs hq hG => ?_)
      replace HW := HW r_24 h_24 g_24 hq
      refine lv_istore_n (lv' := [(2, .int r_24), (0, .ref (ad 0)), (1, .int x1)]) hx hb dX10_write_27 rfl hl (by decide) rfl (fun ls hl => ?_)
      refine lv_iload_n hx hb dX10_write_28 rfl (lv_at hl 0 rfl) ?_
      refine lv_bipush (v := (-4)) hx hb dX10_write_29 (by decide) ?_
      refine lv_icmp_ne (tgt := 37) hx hb dX10_write_31 (by decide) (fun c_31 => ?_) (fun c_31 => ?_)
      · replace HW := HW.1 c_31
        refine lv_aload_n hx hb dX10_write_37 rfl (lv_at hl 1 rfl) ?_
        refine g_getr hx hb hw inG10 hown hK hG gl_0 rfl gk_0 (by decide) 4 (by decide) (by rw [gm_0]; decide) (r := 77) gr_0_4 lk31 dX10_write_38 ?_
        obtain ⟨P_41, HC_41, HW⟩ := HW
        refine g_callv (g_runV (As := []) (rest := []) ⟨hx, hb, hml, hown, hts⟩ (m_X4_read l D cy ad h_24 g_24 H.size  P_41 HC_41) (cwV 0 hts (gd_V (wm2 212 rfl rfl) (wm2 213 rfl rfl) (wm2 214 rfl rfl) (wm1 4 rfl rfl) (wm2 215 rfl rfl)) rfl rfl rfl (by decide +kernel) ⟨Nat.le_of_ble_eq_true rfl, Nat.le_of_ble_eq_true rfl⟩) hK hNw hG gl_77 rfl gk_77 (by decide) rfl rfl hl.1 rfl (lv_room (Nat.le_of_ble_eq_true rfl)) dX10_write_41 ⟨Nat.zero_le _, Nat.zero_le _⟩) hG (fun h_41 g_41 H locs hq hG => ?_)
        replace HW := HW h_41 g_41 hq
        refine lv_aload_n hx hb dX10_write_44 rfl (lv_at hl 1 rfl) ?_
        refine g_getr hx hb hw inG10 hown hK hG gl_0 rfl gk_0 (by decide) 0 (by decide) (by rw [gm_0]; decide) (r := 1) gr_0_0 lk10 dX10_write_45 ?_
        refine g_getr hx hb hw inG6 hown hK hG gl_1 rfl gk_1 (by decide) 11 (by decide) (by rw [gm_1]; decide) (r := 24) gr_1_11 lk109 dX10_write_48 ?_
        obtain ⟨P_51, HC_51, HW⟩ := HW
        refine g_calli (g_runV (As := []) (rest := []) ⟨hx, hb, hml, hown, hts⟩ (m_X8_rows l D cy ad h_41 g_41 H.size 24 (gs_24) P_51 HC_51) (cwV 0 hts (gd_V (wm3 19 rfl rfl) (wm2 217 rfl rfl) (wm2 218 rfl rfl) (wm1 3 rfl rfl) (wm2 219 rfl rfl)) rfl rfl rfl (by decide +kernel) ⟨Nat.le_of_ble_eq_true rfl, Nat.le_of_ble_eq_true rfl⟩) hK hNw hG gl_24 rfl gk_24 (by decide) rfl rfl hl.1 rfl (lv_room (Nat.le_of_ble_eq_true rfl)) dX10_write_51 ⟨Nat.zero_le _, Nat.zero_le _⟩) hG (fun r_51 h_51 g_51 H locs hq hG => ?_)
        replace HW := HW r_51 h_51 g_51 hq
        exact W.iret (v := r_51) hx hb hr (fun t ht hW => ⟨⟨r_51, (h_51, g_51), rfl, HW, g_B ht hG⟩, hG.2.2.F ht⟩) hG.2.2.2.2 dX10_write_54
      · replace HW := HW.2 c_31
        refine lv_bipush (v := (-4)) hx hb dX10_write_34 (by decide) ?_
        exact W.iret (v := (-4 : Int32)) hx hb hr (fun t ht hW => ⟨⟨(-4 : Int32), (h_24, g_24), rfl, HW, g_B ht hG⟩, hG.2.2.F ht⟩) hG.2.2.2.2 dX10_write_36
    · replace HW := HW.2 c_7
      refine lv_bipush (v := (-2)) hx hb dX10_write_10 (by decide) ?_
      exact W.iret (v := (-2 : Int32)) hx hb hr (fun t ht hW => ⟨⟨(-2 : Int32), (h_4, g_4), rfl, HW, g_B ht hG⟩, hG.2.2.F ht⟩) hG.2.2.2.2 dX10_write_12
  exact E0 _ _ _ hG hl

def w_X10_erase  (h : HI) (g : HL) (Q : Int32 → HI → HL → Prop) : Prop :=
  (∃ P_7 : Int32 → HI → HL → Prop, w_X8_rows 24 h g P_7 ∧ ∀ (r_7 : Int32) (h_7 : HI) (g_7 : HL), P_7 r_7 h_7 g_7 → (∃ P_18 : HI → HL → Prop, w_X8_empty 24 h_7 g_7 P_18 ∧ ∀ (h_18 : HI) (g_18 : HL), P_18 h_18 g_18 → (∃ P_25 : HI → HL → Prop, w_X4_read h_18 g_18 P_25 ∧ ∀ (h_25 : HI) (g_25 : HL), P_25 h_25 g_25 → Q r_7 h_25 g_25)))
set_option maxHeartbeats 8000000 in
set_option maxRecDepth 100000 in
theorem m_X10_erase (l : Launch) (D : va_G) (cy : Nat → ClassId) (ad : Nat → Nat) (h : HI) (g : HL) (sz : Nat)  (Q : Int32 → HI → HL → Prop) (HW : w_X10_erase h g Q) : Met l yX10_erase (wa yX10_erase cX10_erase 2 (some .int)) ({ frames := 5, cells := 0, slots := 0, locals := 110 }) (va_Pc [.ref (ad 0)] (gI D cy ad h g sz)) (va_Qi (fun (r : Int32) (u : HI × HL) => Q r u.1 u.2) (gB D cy ad sz) (gA ad sz)) 0 0 (gA ad sz) := by
  refine Met.ofW (cc := cX10_erase) (maxL := 2) (ret := (some .int)) (by decide) rfl ?_
  intro p e s m args below meth c s₁ B hml hv
  obtain ⟨hav, hsz, hP, hK, hD0, hNw⟩ := hv
  have hx := B.exec
  have hb := B.bytes
  have hr := B.returns
  have hts := atoms_spec (ws := (wa yX10_erase cX10_erase 2 (some .int))) B.pre
  have hw := wa_hw hts
  have hown : s.vm.findClass RX10 = some m.cls := findClass_of_methodNamed B.named
  have hlocks := B.notSynchronized
  subst hsz
  have hG : gG D cy ad (gA ad s.heap.size) s.heap h g s.heap [] := ⟨hP, gA_self hD0, va_S.rf⟩
  clear hP hD0
  have lk10 := hw (.fieldLink RX10 10 "OldWorks" "shop" "LOldWorks$Shop;") (wm2 155 rfl rfl)
  have lk109 := hw (.fieldLink RX10 109 "OldWorks$Shop" "signs" "LOldWorks$Table;") (wm1 97 rfl rfl)
  have lk31 := hw (.fieldLink RX10 31 "OldWorks" "law" "LOldWorks$Law;") (wm2 159 rfl rfl)
  rw [show (headSpec (wa yX10_erase cX10_erase 2 (some .int)) ({ frames := 5, cells := 0, slots := 0, locals := 110 } : Room)).room = ({ frames := 5, cells := 0, slots := 0, locals := 110 } : Room) from rfl]
  have hl := lv_entry ([.ref (ad 0)]) (n := 2) (Nat.le_of_ble_eq_true rfl)
  rw [show entryFrame m args 2 = entryFrame m ([.ref (ad 0)] : List Value).toArray 2 from by rw [hav], lg_entry_eq]
  generalize (lg_sl ([.ref (ad 0)]) ++ List.replicate (2 - (lg_sl ([.ref (ad 0)])).length) Slot.unset).toArray = ls at hl ⊢
  have hl : lv_has ls 2 [(0, .ref (ad 0))] := hl
  have E0 : ∀ (H : Heap) (locs : List Loc) (ls : Array Slot), gG D cy ad (gA ad s.heap.size) s.heap h g H locs → lv_has ls 2 [(0, .ref (ad 0))] → W p l e ({ frames := 5, cells := 0, slots := 0, locals := 110 } : Room) s m args below meth c H locs 0 0 (MQ below (va_Qi (fun (r : Int32) (u : HI × HL) => Q r u.1 u.2) (gB D cy ad s.heap.size) (gA ad s.heap.size)) args s 0 0 (gA ad s.heap.size)) (F0 m 0 ls []) := by
    intro H locs ls hG hl
    unfold w_X10_erase at HW
    refine lv_aload_n hx hb dX10_erase_0 rfl (lv_at hl 0 rfl) ?_
    refine g_getr hx hb hw inG10 hown hK hG gl_0 rfl gk_0 (by decide) 0 (by decide) (by rw [gm_0]; decide) (r := 1) gr_0_0 lk10 dX10_erase_1 ?_
    refine g_getr hx hb hw inG6 hown hK hG gl_1 rfl gk_1 (by decide) 11 (by decide) (by rw [gm_1]; decide) (r := 24) gr_1_11 lk109 dX10_erase_4 ?_
    obtain ⟨P_7, HC_7, HW⟩ := HW
    refine g_calli (g_runV (As := []) (rest := []) ⟨hx, hb, hml, hown, hts⟩ (m_X8_rows l D cy ad h g H.size 24 (gs_24) P_7 HC_7) (cwV 0 hts (gd_V (wm3 19 rfl rfl) (wm2 217 rfl rfl) (wm2 218 rfl rfl) (wm1 3 rfl rfl) (wm2 219 rfl rfl)) rfl rfl rfl (by decide +kernel) ⟨Nat.le_of_ble_eq_true rfl, Nat.le_of_ble_eq_true rfl⟩) hK hNw hG gl_24 rfl gk_24 (by decide) rfl rfl hl.1 rfl (lv_room (Nat.le_of_ble_eq_true rfl)) dX10_erase_7 ⟨Nat.zero_le _, Nat.zero_le _⟩) hG (fun r_7 h_7 g_7 H locs hq hG => ?_)
    replace HW := HW r_7 h_7 g_7 hq
    refine lv_istore_n (lv' := [(1, .int r_7), (0, .ref (ad 0))]) hx hb dX10_erase_10 rfl hl (by decide) rfl (fun ls hl => ?_)
    refine lv_aload_n hx hb dX10_erase_11 rfl (lv_at hl 1 rfl) ?_
    refine g_getr hx hb hw inG10 hown hK hG gl_0 rfl gk_0 (by decide) 0 (by decide) (by rw [gm_0]; decide) (r := 1) gr_0_0 lk10 dX10_erase_12 ?_
    refine g_getr hx hb hw inG6 hown hK hG gl_1 rfl gk_1 (by decide) 11 (by decide) (by rw [gm_1]; decide) (r := 24) gr_1_11 lk109 dX10_erase_15 ?_
    obtain ⟨P_18, HC_18, HW⟩ := HW
    refine g_callv (g_runV (As := []) (rest := []) ⟨hx, hb, hml, hown, hts⟩ (m_X8_empty l D cy ad h_7 g_7 H.size 24 (gs_24) P_18 HC_18) (cwV 0 hts (gd_V (wm3 24 rfl rfl) (wm3 25 rfl rfl) (wm3 26 rfl rfl) (wm1 3 rfl rfl) (wm3 27 rfl rfl)) rfl rfl rfl (by decide +kernel) ⟨Nat.le_of_ble_eq_true rfl, Nat.le_of_ble_eq_true rfl⟩) hK hNw hG gl_24 rfl gk_24 (by decide) rfl rfl hl.1 rfl (lv_room (Nat.le_of_ble_eq_true rfl)) dX10_erase_18 ⟨Nat.zero_le _, Nat.zero_le _⟩) hG (fun h_18 g_18 H locs hq hG => ?_)
    replace HW := HW h_18 g_18 hq
    refine lv_aload_n hx hb dX10_erase_21 rfl (lv_at hl 1 rfl) ?_
    refine g_getr hx hb hw inG10 hown hK hG gl_0 rfl gk_0 (by decide) 4 (by decide) (by rw [gm_0]; decide) (r := 77) gr_0_4 lk31 dX10_erase_22 ?_
    obtain ⟨P_25, HC_25, HW⟩ := HW
    refine g_callv (g_runV (As := []) (rest := []) ⟨hx, hb, hml, hown, hts⟩ (m_X4_read l D cy ad h_18 g_18 H.size  P_25 HC_25) (cwV 0 hts (gd_V (wm2 212 rfl rfl) (wm2 213 rfl rfl) (wm2 214 rfl rfl) (wm1 4 rfl rfl) (wm2 215 rfl rfl)) rfl rfl rfl (by decide +kernel) ⟨Nat.le_of_ble_eq_true rfl, Nat.le_of_ble_eq_true rfl⟩) hK hNw hG gl_77 rfl gk_77 (by decide) rfl rfl hl.1 rfl (lv_room (Nat.le_of_ble_eq_true rfl)) dX10_erase_25 ⟨Nat.zero_le _, Nat.zero_le _⟩) hG (fun h_25 g_25 H locs hq hG => ?_)
    replace HW := HW h_25 g_25 hq
    refine lv_iload_n hx hb dX10_erase_28 rfl (lv_at hl 0 rfl) ?_
    exact W.iret (v := r_7) hx hb hr (fun t ht hW => ⟨⟨r_7, (h_25, g_25), rfl, HW, g_B ht hG⟩, hG.2.2.F ht⟩) hG.2.2.2.2 dX10_erase_29
  exact E0 _ _ _ hG hl

def w_X10_fault  (h : HI) (g : HL) (Q : Int32 → HI → HL → Prop) : Prop :=
  (∃ P_4 : Int32 → HI → HL → Prop, w_X4_flaw h g P_4 ∧ ∀ (r_4 : Int32) (h_4 : HI) (g_4 : HL), P_4 r_4 h_4 g_4 → Q r_4 h_4 g_4)
set_option maxHeartbeats 8000000 in
set_option maxRecDepth 100000 in
theorem m_X10_fault (l : Launch) (D : va_G) (cy : Nat → ClassId) (ad : Nat → Nat) (h : HI) (g : HL) (sz : Nat)  (Q : Int32 → HI → HL → Prop) (HW : w_X10_fault h g Q) : Met l yX10_fault (wa yX10_fault cX10_fault 1 (some .int)) ({ frames := 1, cells := 0, slots := 0, locals := 20 }) (va_Pc [.ref (ad 0)] (gI D cy ad h g sz)) (va_Qi (fun (r : Int32) (u : HI × HL) => Q r u.1 u.2) (gB D cy ad sz) (gA ad sz)) 0 0 (gA ad sz) := by
  refine Met.ofW (cc := cX10_fault) (maxL := 1) (ret := (some .int)) (by decide) rfl ?_
  intro p e s m args below meth c s₁ B hml hv
  obtain ⟨hav, hsz, hP, hK, hD0, hNw⟩ := hv
  have hx := B.exec
  have hb := B.bytes
  have hr := B.returns
  have hts := atoms_spec (ws := (wa yX10_fault cX10_fault 1 (some .int))) B.pre
  have hw := wa_hw hts
  have hown : s.vm.findClass RX10 = some m.cls := findClass_of_methodNamed B.named
  have hlocks := B.notSynchronized
  subst hsz
  have hG : gG D cy ad (gA ad s.heap.size) s.heap h g s.heap [] := ⟨hP, gA_self hD0, va_S.rf⟩
  clear hP hD0
  have lk31 := hw (.fieldLink RX10 31 "OldWorks" "law" "LOldWorks$Law;") (wm2 159 rfl rfl)
  rw [show (headSpec (wa yX10_fault cX10_fault 1 (some .int)) ({ frames := 1, cells := 0, slots := 0, locals := 20 } : Room)).room = ({ frames := 1, cells := 0, slots := 0, locals := 20 } : Room) from rfl]
  have hl := lv_entry ([.ref (ad 0)]) (n := 1) (Nat.le_of_ble_eq_true rfl)
  rw [show entryFrame m args 1 = entryFrame m ([.ref (ad 0)] : List Value).toArray 1 from by rw [hav], lg_entry_eq]
  generalize (lg_sl ([.ref (ad 0)]) ++ List.replicate (1 - (lg_sl ([.ref (ad 0)])).length) Slot.unset).toArray = ls at hl ⊢
  have hl : lv_has ls 1 [(0, .ref (ad 0))] := hl
  have E0 : ∀ (H : Heap) (locs : List Loc) (ls : Array Slot), gG D cy ad (gA ad s.heap.size) s.heap h g H locs → lv_has ls 1 [(0, .ref (ad 0))] → W p l e ({ frames := 1, cells := 0, slots := 0, locals := 20 } : Room) s m args below meth c H locs 0 0 (MQ below (va_Qi (fun (r : Int32) (u : HI × HL) => Q r u.1 u.2) (gB D cy ad s.heap.size) (gA ad s.heap.size)) args s 0 0 (gA ad s.heap.size)) (F0 m 0 ls []) := by
    intro H locs ls hG hl
    unfold w_X10_fault at HW
    refine lv_aload_n hx hb dX10_fault_0 rfl (lv_at hl 0 rfl) ?_
    refine g_getr hx hb hw inG10 hown hK hG gl_0 rfl gk_0 (by decide) 4 (by decide) (by rw [gm_0]; decide) (r := 77) gr_0_4 lk31 dX10_fault_1 ?_
    obtain ⟨P_4, HC_4, HW⟩ := HW
    refine g_calli (g_runV (As := []) (rest := []) ⟨hx, hb, hml, hown, hts⟩ (m_X4_flaw l D cy ad h g H.size  P_4 HC_4) (cwV 0 hts (gd_V (wm3 32 rfl rfl) (wm3 33 rfl rfl) (wm3 34 rfl rfl) (wm1 4 rfl rfl) (wm3 35 rfl rfl)) rfl rfl rfl (by decide +kernel) ⟨Nat.le_of_ble_eq_true rfl, Nat.le_of_ble_eq_true rfl⟩) hK hNw hG gl_77 rfl gk_77 (by decide) rfl rfl hl.1 rfl (lv_room (Nat.le_of_ble_eq_true rfl)) dX10_fault_4 ⟨Nat.zero_le _, Nat.zero_le _⟩) hG (fun r_4 h_4 g_4 H locs hq hG => ?_)
    replace HW := HW r_4 h_4 g_4 hq
    exact W.iret (v := r_4) hx hb hr (fun t ht hW => ⟨⟨r_4, (h_4, g_4), rfl, HW, g_B ht hG⟩, hG.2.2.F ht⟩) hG.2.2.2.2 dX10_fault_7
  exact E0 _ _ _ hG hl

def w_X10_worn (x1 : Int32) (x2 : Int32) (h : HI) (g : HL) (Q : Int32 → HI → HL → Prop) : Prop :=
  (∃ P_8 : Int32 → HI → HL → Prop, w_X8_has 2 x1 h g P_8 ∧ ∀ (r_8 : Int32) (h_8 : HI) (g_8 : HL), zb r_8 → P_8 r_8 h_8 g_8 → ((r_8 = 0 → Q (-2 : Int32) h_8 g_8) ∧ (¬ r_8 = 0 → (∃ P_18 : Int32 → HI → HL → Prop, w_X10_within x2 (0 : Int32) (99 : Int32) h_8 g_8 P_18 ∧ ∀ (r_18 : Int32) (h_18 : HI) (g_18 : HL), zb r_18 → P_18 r_18 h_18 g_18 → ((¬ r_18 = 0 → (∃ P_33 : Int32 → HI → HL → Prop, w_X4_wornOf x1 x2 h_18 g_18 P_33 ∧ ∀ (r_33 : Int32) (h_33 : HI) (g_33 : HL), P_33 r_33 h_33 g_33 → Q r_33 h_33 g_33)) ∧ (r_18 = 0 → Q (-2 : Int32) h_18 g_18))))))
set_option maxHeartbeats 8000000 in
set_option maxRecDepth 100000 in
theorem m_X10_worn (l : Launch) (D : va_G) (cy : Nat → ClassId) (ad : Nat → Nat) (h : HI) (g : HL) (sz : Nat) (x1 : Int32) (x2 : Int32) (Q : Int32 → HI → HL → Prop) (HW : w_X10_worn x1 x2 h g Q) : Met l yX10_worn (wa yX10_worn cX10_worn 3 (some .int)) ({ frames := 3, cells := 0, slots := 0, locals := 75 }) (va_Pc [.ref (ad 0), .int x1, .int x2] (gI D cy ad h g sz)) (va_Qi (fun (r : Int32) (u : HI × HL) => Q r u.1 u.2) (gB D cy ad sz) (gA ad sz)) 0 0 (gA ad sz) := by
  refine Met.ofW (cc := cX10_worn) (maxL := 3) (ret := (some .int)) (by decide) rfl ?_
  intro p e s m args below meth c s₁ B hml hv
  obtain ⟨hav, hsz, hP, hK, hD0, hNw⟩ := hv
  have hx := B.exec
  have hb := B.bytes
  have hr := B.returns
  have hts := atoms_spec (ws := (wa yX10_worn cX10_worn 3 (some .int))) B.pre
  have hw := wa_hw hts
  have hown : s.vm.findClass RX10 = some m.cls := findClass_of_methodNamed B.named
  have hlocks := B.notSynchronized
  subst hsz
  have hG : gG D cy ad (gA ad s.heap.size) s.heap h g s.heap [] := ⟨hP, gA_self hD0, va_S.rf⟩
  clear hP hD0
  have lk10 := hw (.fieldLink RX10 10 "OldWorks" "shop" "LOldWorks$Shop;") (wm2 155 rfl rfl)
  have lk85 := hw (.fieldLink RX10 85 "OldWorks$Shop" "parts" "LOldWorks$Table;") (wm1 62 rfl rfl)
  have lk31 := hw (.fieldLink RX10 31 "OldWorks" "law" "LOldWorks$Law;") (wm2 159 rfl rfl)
  rw [show (headSpec (wa yX10_worn cX10_worn 3 (some .int)) ({ frames := 3, cells := 0, slots := 0, locals := 75 } : Room)).room = ({ frames := 3, cells := 0, slots := 0, locals := 75 } : Room) from rfl]
  have hl := lv_entry ([.ref (ad 0), .int x1, .int x2]) (n := 3) (Nat.le_of_ble_eq_true rfl)
  rw [show entryFrame m args 3 = entryFrame m ([.ref (ad 0), .int x1, .int x2] : List Value).toArray 3 from by rw [hav], lg_entry_eq]
  generalize (lg_sl ([.ref (ad 0), .int x1, .int x2]) ++ List.replicate (3 - (lg_sl ([.ref (ad 0), .int x1, .int x2])).length) Slot.unset).toArray = ls at hl ⊢
  have hl : lv_has ls 3 [(0, .ref (ad 0)), (1, .int x1), (2, .int x2)] := hl
  have E0 : ∀ (H : Heap) (locs : List Loc) (ls : Array Slot), gG D cy ad (gA ad s.heap.size) s.heap h g H locs → lv_has ls 3 [(0, .ref (ad 0)), (1, .int x1), (2, .int x2)] → W p l e ({ frames := 3, cells := 0, slots := 0, locals := 75 } : Room) s m args below meth c H locs 0 0 (MQ below (va_Qi (fun (r : Int32) (u : HI × HL) => Q r u.1 u.2) (gB D cy ad s.heap.size) (gA ad s.heap.size)) args s 0 0 (gA ad s.heap.size)) (F0 m 0 ls []) := by
    intro H locs ls hG hl
    unfold w_X10_worn at HW
    refine lv_aload_n hx hb dX10_worn_0 rfl (lv_at hl 0 rfl) ?_
    refine g_getr hx hb hw inG10 hown hK hG gl_0 rfl gk_0 (by decide) 0 (by decide) (by rw [gm_0]; decide) (r := 1) gr_0_0 lk10 dX10_worn_1 ?_
    refine g_getr hx hb hw inG6 hown hK hG gl_1 rfl gk_1 (by decide) 0 (by decide) (by rw [gm_1]; decide) (r := 2) gr_1_0 lk85 dX10_worn_4 ?_
    refine lv_iload_n hx hb dX10_worn_7 rfl (lv_at hl 1 rfl) ?_
    obtain ⟨P_8, HC_8, HW⟩ := HW
    refine g_callz (g_runV (As := [.int x1]) (rest := []) ⟨hx, hb, hml, hown, hts⟩ (m_X8_has l D cy ad h g H.size 2 (gs_2) x1 P_8 HC_8) (cwV 1 hts (gd_V (wm2 201 rfl rfl) (wm2 202 rfl rfl) (wm2 203 rfl rfl) (wm1 3 rfl rfl) (wm2 204 rfl rfl)) rfl rfl rfl (by decide +kernel) ⟨Nat.le_of_ble_eq_true rfl, Nat.le_of_ble_eq_true rfl⟩) hK hNw hG gl_2 rfl gk_2 (by decide) rfl rfl hl.1 rfl (lv_room (Nat.le_of_ble_eq_true rfl)) dX10_worn_8 ⟨Nat.zero_le _, Nat.zero_le _⟩) hG (fun r_8 h_8 g_8 H locs hz hq hG => ?_)
    replace HW := HW r_8 h_8 g_8 hz hq
    refine lv_if_eq (tgt := 24) hx hb dX10_worn_11 (by decide) (fun c_11 => ?_) (fun c_11 => ?_)
    · replace HW := HW.1 c_11
      refine lv_bipush (v := (-2)) hx hb dX10_worn_24 (by decide) ?_
      exact W.iret (v := (-2 : Int32)) hx hb hr (fun t ht hW => ⟨⟨(-2 : Int32), (h_8, g_8), rfl, HW, g_B ht hG⟩, hG.2.2.F ht⟩) hG.2.2.2.2 dX10_worn_26
    · replace HW := HW.2 c_11
      refine lv_iload_n hx hb dX10_worn_14 rfl (lv_at hl 2 rfl) ?_
      refine lv_iconst (v := 0) hx hb dX10_worn_15 (by decide) ?_
      refine lv_bipush (v := 99) hx hb dX10_worn_16 (by decide) ?_
      obtain ⟨P_18, HC_18, HW⟩ := HW
      refine g_callz (g_runS (As := [.int x2, .int (0 : Int32), .int (99 : Int32)]) (rest := []) ⟨hx, hb, hml, hown, hts⟩ (m_X10_within l D cy ad h_8 g_8 H.size x2 (0 : Int32) (99 : Int32) P_18 HC_18) (va_cwS 3 hts (gd_S (wm2 193 rfl rfl) (wm2 194 rfl rfl) (wm1 1 rfl rfl) (wm2 195 rfl rfl)) rfl rfl rfl (by decide +kernel) ⟨Nat.le_of_ble_eq_true rfl, Nat.le_of_ble_eq_true rfl⟩) hK hNw hG rfl rfl hl.1 rfl (lv_room (Nat.le_of_ble_eq_true rfl)) dX10_worn_18 ⟨Nat.zero_le _, Nat.zero_le _⟩) hG (fun r_18 h_18 g_18 H locs hz hq hG => ?_)
      replace HW := HW r_18 h_18 g_18 hz hq
      refine lv_if_ne (tgt := 27) hx hb dX10_worn_21 (by decide) (fun c_21 => ?_) (fun c_21 => ?_)
      · replace HW := HW.1 c_21
        refine lv_aload_n hx hb dX10_worn_27 rfl (lv_at hl 0 rfl) ?_
        refine g_getr hx hb hw inG10 hown hK hG gl_0 rfl gk_0 (by decide) 4 (by decide) (by rw [gm_0]; decide) (r := 77) gr_0_4 lk31 dX10_worn_28 ?_
        refine lv_iload_n hx hb dX10_worn_31 rfl (lv_at hl 1 rfl) ?_
        refine lv_iload_n hx hb dX10_worn_32 rfl (lv_at hl 2 rfl) ?_
        obtain ⟨P_33, HC_33, HW⟩ := HW
        refine g_calli (g_runV (As := [.int x1, .int x2]) (rest := []) ⟨hx, hb, hml, hown, hts⟩ (m_X4_wornOf l D cy ad h_18 g_18 H.size x1 x2 P_33 HC_33) (cwV 2 hts (gd_V (wm3 40 rfl rfl) (wm3 41 rfl rfl) (wm3 42 rfl rfl) (wm1 4 rfl rfl) (wm3 43 rfl rfl)) rfl rfl rfl (by decide +kernel) ⟨Nat.le_of_ble_eq_true rfl, Nat.le_of_ble_eq_true rfl⟩) hK hNw hG gl_77 rfl gk_77 (by decide) rfl rfl hl.1 rfl (lv_room (Nat.le_of_ble_eq_true rfl)) dX10_worn_33 ⟨Nat.zero_le _, Nat.zero_le _⟩) hG (fun r_33 h_33 g_33 H locs hq hG => ?_)
        replace HW := HW r_33 h_33 g_33 hq
        exact W.iret (v := r_33) hx hb hr (fun t ht hW => ⟨⟨r_33, (h_33, g_33), rfl, HW, g_B ht hG⟩, hG.2.2.F ht⟩) hG.2.2.2.2 dX10_worn_36
      · replace HW := HW.2 c_21
        refine lv_bipush (v := (-2)) hx hb dX10_worn_24 (by decide) ?_
        exact W.iret (v := (-2 : Int32)) hx hb hr (fun t ht hW => ⟨⟨(-2 : Int32), (h_18, g_18), rfl, HW, g_B ht hG⟩, hG.2.2.F ht⟩) hG.2.2.2.2 dX10_worn_26
  exact E0 _ _ _ hG hl

def j_X10_say_65 (Q : Int32 → HI → HL → Prop) (x1 : Int32) (x2 : Int32) (x3 : Int32) (x6 : Int32) (s0 : Int32) (h : HI) (g : HL) : Prop :=
  (∃ P_73 : Int32 → HI → HL → Prop, w_X10_within x6 (0 : Int32) (10000 : Int32) h g P_73 ∧ ∀ (r_73 : Int32) (h_73 : HI) (g_73 : HL), zb r_73 → P_73 r_73 h_73 g_73 → ((r_73 = 0 → Q (-2 : Int32) h_73 g_73) ∧ (¬ r_73 = 0 → (∃ P_84 : Int32 → HI → HL → Prop, w_X10_within s0 (0 : Int32) (99 : Int32) h_73 g_73 P_84 ∧ ∀ (r_84 : Int32) (h_84 : HI) (g_84 : HL), zb r_84 → P_84 r_84 h_84 g_84 → ((¬ r_84 = 0 → (∃ P_105 : Int32 → HI → HL → Prop, w_X8_add 6 x1 x2 x3 x6 h_84 g_84 P_105 ∧ ∀ (r_105 : Int32) (h_105 : HI) (g_105 : HL), P_105 r_105 h_105 g_105 → (∃ P_122 : HI → HL → Prop, w_X8_put 6 r_105 (4 : Int32) s0 h_105 g_105 P_122 ∧ ∀ (h_122 : HI) (g_122 : HL), P_122 h_122 g_122 → Q r_105 h_122 g_122))) ∧ (r_84 = 0 → Q (-2 : Int32) h_84 g_84))))))
def j_X10_say_53 (Q : Int32 → HI → HL → Prop) (x1 : Int32) (x2 : Int32) (x3 : Int32) (x5 : Int32) (s0 : Int32) (h : HI) (g : HL) : Prop :=
  ((¬ x2 = 0 → j_X10_say_65 Q x1 x2 x3 s0 (0 : Int32) h g) ∧ (x2 = 0 → j_X10_say_65 Q x1 x2 x3 s0 x5 h g))
def j_X10_say_47 (Q : Int32 → HI → HL → Prop) (x1 : Int32) (x2 : Int32) (x3 : Int32) (x4 : Int32) (x5 : Int32) (h : HI) (g : HL) : Prop :=
  j_X10_say_53 Q x1 x2 x3 x5 x4 h g
def w_X10_say (x1 : Int32) (x2 : Int32) (x3 : Int32) (x4 : Int32) (x5 : Int32) (h : HI) (g : HL) (Q : Int32 → HI → HL → Prop) : Prop :=
  (∃ P_8 : Int32 → HI → HL → Prop, w_X8_has 2 x1 h g P_8 ∧ ∀ (r_8 : Int32) (h_8 : HI) (g_8 : HL), zb r_8 → P_8 r_8 h_8 g_8 → ((r_8 = 0 → Q (-2 : Int32) h_8 g_8) ∧ (¬ r_8 = 0 → (∃ P_17 : Int32 → HI → HL → Prop, w_X10_within x2 (0 : Int32) (3 : Int32) h_8 g_8 P_17 ∧ ∀ (r_17 : Int32) (h_17 : HI) (g_17 : HL), zb r_17 → P_17 r_17 h_17 g_17 → ((r_17 = 0 → Q (-2 : Int32) h_17 g_17) ∧ (¬ r_17 = 0 → (∃ P_29 : Int32 → HI → HL → Prop, w_X10_within x3 (-10000 : Int32) (100000 : Int32) h_17 g_17 P_29 ∧ ∀ (r_29 : Int32) (h_29 : HI) (g_29 : HL), zb r_29 → P_29 r_29 h_29 g_29 → ((¬ r_29 = 0 → ((x2 = 0 → j_X10_say_47 Q x1 x2 x3 x4 x5 h_29 g_29) ∧ (¬ x2 = 0 → ((¬ x2 = (1 : Int32) → j_X10_say_53 Q x1 x2 x3 x5 (0 : Int32) h_29 g_29) ∧ (x2 = (1 : Int32) → j_X10_say_47 Q x1 x2 x3 x4 x5 h_29 g_29))))) ∧ (r_29 = 0 → Q (-2 : Int32) h_29 g_29)))))))))
set_option maxHeartbeats 8000000 in
set_option maxRecDepth 100000 in
theorem m_X10_say (l : Launch) (D : va_G) (cy : Nat → ClassId) (ad : Nat → Nat) (h : HI) (g : HL) (sz : Nat) (x1 : Int32) (x2 : Int32) (x3 : Int32) (x4 : Int32) (x5 : Int32) (Q : Int32 → HI → HL → Prop) (HW : w_X10_say x1 x2 x3 x4 x5 h g Q) : Met l yX10_say (wa yX10_say cX10_say 9 (some .int)) ({ frames := 2, cells := 0, slots := 0, locals := 50 }) (va_Pc [.ref (ad 0), .int x1, .int x2, .int x3, .int x4, .int x5] (gI D cy ad h g sz)) (va_Qi (fun (r : Int32) (u : HI × HL) => Q r u.1 u.2) (gB D cy ad sz) (gA ad sz)) 0 0 (gA ad sz) := by
  refine Met.ofW (cc := cX10_say) (maxL := 9) (ret := (some .int)) (by decide) rfl ?_
  intro p e s m args below meth c s₁ B hml hv
  obtain ⟨hav, hsz, hP, hK, hD0, hNw⟩ := hv
  have hx := B.exec
  have hb := B.bytes
  have hr := B.returns
  have hts := atoms_spec (ws := (wa yX10_say cX10_say 9 (some .int))) B.pre
  have hw := wa_hw hts
  have hown : s.vm.findClass RX10 = some m.cls := findClass_of_methodNamed B.named
  have hlocks := B.notSynchronized
  subst hsz
  have hG : gG D cy ad (gA ad s.heap.size) s.heap h g s.heap [] := ⟨hP, gA_self hD0, va_S.rf⟩
  clear hP hD0
  have lk10 := hw (.fieldLink RX10 10 "OldWorks" "shop" "LOldWorks$Shop;") (wm2 155 rfl rfl)
  have lk85 := hw (.fieldLink RX10 85 "OldWorks$Shop" "parts" "LOldWorks$Table;") (wm1 62 rfl rfl)
  have cn102 := hw (.constant RX10 102 (100000)) (wm2 205 rfl rfl)
  have lk129 := hw (.fieldLink RX10 129 "OldWorks$Shop" "sayings" "LOldWorks$Table;") (wm1 70 rfl rfl)
  rw [show (headSpec (wa yX10_say cX10_say 9 (some .int)) ({ frames := 2, cells := 0, slots := 0, locals := 50 } : Room)).room = ({ frames := 2, cells := 0, slots := 0, locals := 50 } : Room) from rfl]
  have hl := lv_entry ([.ref (ad 0), .int x1, .int x2, .int x3, .int x4, .int x5]) (n := 9) (Nat.le_of_ble_eq_true rfl)
  rw [show entryFrame m args 9 = entryFrame m ([.ref (ad 0), .int x1, .int x2, .int x3, .int x4, .int x5] : List Value).toArray 9 from by rw [hav], lg_entry_eq]
  generalize (lg_sl ([.ref (ad 0), .int x1, .int x2, .int x3, .int x4, .int x5]) ++ List.replicate (9 - (lg_sl ([.ref (ad 0), .int x1, .int x2, .int x3, .int x4, .int x5])).length) Slot.unset).toArray = ls at hl ⊢
  have hl : lv_has ls 9 [(0, .ref (ad 0)), (1, .int x1), (2, .int x2), (3, .int x3), (4, .int x4), (5, .int x5)] := hl
  have B65 : ∀ (x1 : Int32) (x2 : Int32) (x3 : Int32) (x6 : Int32) (s0 : Int32) (h : HI) (g : HL) (H : Heap) (locs : List Loc) (ls : Array Slot), j_X10_say_65 Q x1 x2 x3 x6 s0 h g → gG D cy ad (gA ad s.heap.size) s.heap h g H locs → lv_has ls 9 [(0, .ref (ad 0)), (1, .int x1), (2, .int x2), (3, .int x3), (6, .int x6)] → W p l e ({ frames := 2, cells := 0, slots := 0, locals := 50 } : Room) s m args below meth c H locs 0 0 (MQ below (va_Qi (fun (r : Int32) (u : HI × HL) => Q r u.1 u.2) (gB D cy ad s.heap.size) (gA ad s.heap.size)) args s 0 0 (gA ad s.heap.size)) (F0 m 65 ls [.int s0]) := by
    intro x1 x2 x3 x6 s0 h g H locs ls HW hG hl
    unfold j_X10_say_65 at HW
    refine lv_istore (lv' := [(7, .int s0), (0, .ref (ad 0)), (1, .int x1), (2, .int x2), (3, .int x3), (6, .int x6)]) hx hb dX10_say_65 hl (by decide) rfl (fun ls hl => ?_)
    refine lv_iload hx hb dX10_say_67 (lv_at hl 5 rfl) ?_
    refine lv_iconst (v := 0) hx hb dX10_say_69 (by decide) ?_
    refine lv_sipush (v := 10000) hx hb dX10_say_70 (by decide) ?_
    obtain ⟨P_73, HC_73, HW⟩ := HW
    refine g_callz (g_runS (As := [.int x6, .int (0 : Int32), .int (10000 : Int32)]) (rest := []) ⟨hx, hb, hml, hown, hts⟩ (m_X10_within l D cy ad h g H.size x6 (0 : Int32) (10000 : Int32) P_73 HC_73) (va_cwS 3 hts (gd_S (wm2 193 rfl rfl) (wm2 194 rfl rfl) (wm1 1 rfl rfl) (wm2 195 rfl rfl)) rfl rfl rfl (by decide +kernel) ⟨Nat.le_of_ble_eq_true rfl, Nat.le_of_ble_eq_true rfl⟩) hK hNw hG rfl rfl hl.1 rfl (lv_room (Nat.le_of_ble_eq_true rfl)) dX10_say_73 ⟨Nat.zero_le _, Nat.zero_le _⟩) hG (fun r_73 h_73 g_73 H locs hz hq hG => ?_)
    replace HW := HW r_73 h_73 g_73 hz hq
    refine lv_if_eq (tgt := 90) hx hb dX10_say_76 (by decide) (fun c_76 => ?_) (fun c_76 => ?_)
    · replace HW := HW.1 c_76
      refine lv_bipush (v := (-2)) hx hb dX10_say_90 (by decide) ?_
      exact W.iret (v := (-2 : Int32)) hx hb hr (fun t ht hW => ⟨⟨(-2 : Int32), (h_73, g_73), rfl, HW, g_B ht hG⟩, hG.2.2.F ht⟩) hG.2.2.2.2 dX10_say_92
    · replace HW := HW.2 c_76
      refine lv_iload hx hb dX10_say_79 (lv_at hl 0 rfl) ?_
      refine lv_iconst (v := 0) hx hb dX10_say_81 (by decide) ?_
      refine lv_bipush (v := 99) hx hb dX10_say_82 (by decide) ?_
      obtain ⟨P_84, HC_84, HW⟩ := HW
      refine g_callz (g_runS (As := [.int s0, .int (0 : Int32), .int (99 : Int32)]) (rest := []) ⟨hx, hb, hml, hown, hts⟩ (m_X10_within l D cy ad h_73 g_73 H.size s0 (0 : Int32) (99 : Int32) P_84 HC_84) (va_cwS 3 hts (gd_S (wm2 193 rfl rfl) (wm2 194 rfl rfl) (wm1 1 rfl rfl) (wm2 195 rfl rfl)) rfl rfl rfl (by decide +kernel) ⟨Nat.le_of_ble_eq_true rfl, Nat.le_of_ble_eq_true rfl⟩) hK hNw hG rfl rfl hl.1 rfl (lv_room (Nat.le_of_ble_eq_true rfl)) dX10_say_84 ⟨Nat.zero_le _, Nat.zero_le _⟩) hG (fun r_84 h_84 g_84 H locs hz hq hG => ?_)
      replace HW := HW r_84 h_84 g_84 hz hq
      refine lv_if_ne (tgt := 93) hx hb dX10_say_87 (by decide) (fun c_87 => ?_) (fun c_87 => ?_)
      · replace HW := HW.1 c_87
        refine lv_aload_n hx hb dX10_say_93 rfl (lv_at hl 1 rfl) ?_
        refine g_getr hx hb hw inG10 hown hK hG gl_0 rfl gk_0 (by decide) 0 (by decide) (by rw [gm_0]; decide) (r := 1) gr_0_0 lk10 dX10_say_94 ?_
        refine g_getr hx hb hw inG6 hown hK hG gl_1 rfl gk_1 (by decide) 2 (by decide) (by rw [gm_1]; decide) (r := 6) gr_1_2 lk129 dX10_say_97 ?_
        refine lv_iload_n hx hb dX10_say_100 rfl (lv_at hl 2 rfl) ?_
        refine lv_iload_n hx hb dX10_say_101 rfl (lv_at hl 3 rfl) ?_
        refine lv_iload_n hx hb dX10_say_102 rfl (lv_at hl 4 rfl) ?_
        refine lv_iload hx hb dX10_say_103 (lv_at hl 5 rfl) ?_
        obtain ⟨P_105, HC_105, HW⟩ := HW
        refine g_calli (g_runV (As := [.int x1, .int x2, .int x3, .int x6]) (rest := []) ⟨hx, hb, hml, hown, hts⟩ (m_X8_add l D cy ad h_84 g_84 H.size 6 (gs_6) x1 x2 x3 x6 P_105 HC_105) (cwV 4 hts (gd_V (wm2 196 rfl rfl) (wm1 53 rfl rfl) (wm1 54 rfl rfl) (wm1 3 rfl rfl) (wm1 55 rfl rfl)) rfl rfl rfl (by decide +kernel) ⟨Nat.le_of_ble_eq_true rfl, Nat.le_of_ble_eq_true rfl⟩) hK hNw hG gl_6 rfl gk_6 (by decide) rfl rfl hl.1 rfl (lv_room (Nat.le_of_ble_eq_true rfl)) dX10_say_105 ⟨Nat.zero_le _, Nat.zero_le _⟩) hG (fun r_105 h_105 g_105 H locs hq hG => ?_)
        replace HW := HW r_105 h_105 g_105 hq
        refine lv_istore (lv' := [(8, .int r_105), (7, .int s0), (0, .ref (ad 0)), (1, .int x1), (2, .int x2), (3, .int x3), (6, .int x6)]) hx hb dX10_say_108 hl (by decide) rfl (fun ls hl => ?_)
        refine lv_aload_n hx hb dX10_say_110 rfl (lv_at hl 2 rfl) ?_
        refine g_getr hx hb hw inG10 hown hK hG gl_0 rfl gk_0 (by decide) 0 (by decide) (by rw [gm_0]; decide) (r := 1) gr_0_0 lk10 dX10_say_111 ?_
        refine g_getr hx hb hw inG6 hown hK hG gl_1 rfl gk_1 (by decide) 2 (by decide) (by rw [gm_1]; decide) (r := 6) gr_1_2 lk129 dX10_say_114 ?_
        refine lv_iload hx hb dX10_say_117 (lv_at hl 0 rfl) ?_
        refine lv_iconst (v := 4) hx hb dX10_say_119 (by decide) ?_
        refine lv_iload hx hb dX10_say_120 (lv_at hl 1 rfl) ?_
        obtain ⟨P_122, HC_122, HW⟩ := HW
        refine g_callv (g_runV (As := [.int r_105, .int (4 : Int32), .int s0]) (rest := []) ⟨hx, hb, hml, hown, hts⟩ (m_X8_put l D cy ad h_105 g_105 H.size 6 (gs_6) r_105 (4 : Int32) s0 P_122 HC_122) (cwV 3 hts (gd_V (wm2 207 rfl rfl) (wm1 57 rfl rfl) (wm1 58 rfl rfl) (wm1 3 rfl rfl) (wm1 59 rfl rfl)) rfl rfl rfl (by decide +kernel) ⟨Nat.le_of_ble_eq_true rfl, Nat.le_of_ble_eq_true rfl⟩) hK hNw hG gl_6 rfl gk_6 (by decide) rfl rfl hl.1 rfl (lv_room (Nat.le_of_ble_eq_true rfl)) dX10_say_122 ⟨Nat.zero_le _, Nat.zero_le _⟩) hG (fun h_122 g_122 H locs hq hG => ?_)
        replace HW := HW h_122 g_122 hq
        refine lv_iload hx hb dX10_say_125 (lv_at hl 0 rfl) ?_
        exact W.iret (v := r_105) hx hb hr (fun t ht hW => ⟨⟨r_105, (h_122, g_122), rfl, HW, g_B ht hG⟩, hG.2.2.F ht⟩) hG.2.2.2.2 dX10_say_127
      · replace HW := HW.2 c_87
        refine lv_bipush (v := (-2)) hx hb dX10_say_90 (by decide) ?_
        exact W.iret (v := (-2 : Int32)) hx hb hr (fun t ht hW => ⟨⟨(-2 : Int32), (h_84, g_84), rfl, HW, g_B ht hG⟩, hG.2.2.F ht⟩) hG.2.2.2.2 dX10_say_92
  have B53 : ∀ (x1 : Int32) (x2 : Int32) (x3 : Int32) (x5 : Int32) (s0 : Int32) (h : HI) (g : HL) (H : Heap) (locs : List Loc) (ls : Array Slot), j_X10_say_53 Q x1 x2 x3 x5 s0 h g → gG D cy ad (gA ad s.heap.size) s.heap h g H locs → lv_has ls 9 [(0, .ref (ad 0)), (1, .int x1), (2, .int x2), (3, .int x3), (5, .int x5)] → W p l e ({ frames := 2, cells := 0, slots := 0, locals := 50 } : Room) s m args below meth c H locs 0 0 (MQ below (va_Qi (fun (r : Int32) (u : HI × HL) => Q r u.1 u.2) (gB D cy ad s.heap.size) (gA ad s.heap.size)) args s 0 0 (gA ad s.heap.size)) (F0 m 53 ls [.int s0]) := by
    intro x1 x2 x3 x5 s0 h g H locs ls HW hG hl
    unfold j_X10_say_53 at HW
    refine lv_istore (lv' := [(6, .int s0), (0, .ref (ad 0)), (1, .int x1), (2, .int x2), (3, .int x3), (5, .int x5)]) hx hb dX10_say_53 hl (by decide) rfl (fun ls hl => ?_)
    refine lv_iload_n hx hb dX10_say_55 rfl (lv_at hl 3 rfl) ?_
    refine lv_if_ne (tgt := 64) hx hb dX10_say_56 (by decide) (fun c_56 => ?_) (fun c_56 => ?_)
    · replace HW := HW.1 c_56
      refine lv_iconst (v := 0) hx hb dX10_say_64 (by decide) ?_
      exact B65 x1 x2 x3 s0 (0 : Int32) h g _ _ _ HW hG (lv_sub hl [1, 2, 3, 4, 0] rfl)
    · replace HW := HW.2 c_56
      refine lv_iload hx hb dX10_say_59 (lv_at hl 5 rfl) ?_
      refine lv_goto (tgt := 65) hx hb dX10_say_61 (by decide) ?_
      exact B65 x1 x2 x3 s0 x5 h g _ _ _ HW hG (lv_sub hl [1, 2, 3, 4, 0] rfl)
  have B47 : ∀ (x1 : Int32) (x2 : Int32) (x3 : Int32) (x4 : Int32) (x5 : Int32) (h : HI) (g : HL) (H : Heap) (locs : List Loc) (ls : Array Slot), j_X10_say_47 Q x1 x2 x3 x4 x5 h g → gG D cy ad (gA ad s.heap.size) s.heap h g H locs → lv_has ls 9 [(0, .ref (ad 0)), (1, .int x1), (2, .int x2), (3, .int x3), (4, .int x4), (5, .int x5)] → W p l e ({ frames := 2, cells := 0, slots := 0, locals := 50 } : Room) s m args below meth c H locs 0 0 (MQ below (va_Qi (fun (r : Int32) (u : HI × HL) => Q r u.1 u.2) (gB D cy ad s.heap.size) (gA ad s.heap.size)) args s 0 0 (gA ad s.heap.size)) (F0 m 47 ls []) := by
    intro x1 x2 x3 x4 x5 h g H locs ls HW hG hl
    unfold j_X10_say_47 at HW
    refine lv_iload hx hb dX10_say_47 (lv_at hl 4 rfl) ?_
    refine lv_goto (tgt := 53) hx hb dX10_say_49 (by decide) ?_
    exact B53 x1 x2 x3 x5 x4 h g _ _ _ HW hG (lv_sub hl [0, 1, 2, 3, 5] rfl)
  have E0 : ∀ (H : Heap) (locs : List Loc) (ls : Array Slot), gG D cy ad (gA ad s.heap.size) s.heap h g H locs → lv_has ls 9 [(0, .ref (ad 0)), (1, .int x1), (2, .int x2), (3, .int x3), (4, .int x4), (5, .int x5)] → W p l e ({ frames := 2, cells := 0, slots := 0, locals := 50 } : Room) s m args below meth c H locs 0 0 (MQ below (va_Qi (fun (r : Int32) (u : HI × HL) => Q r u.1 u.2) (gB D cy ad s.heap.size) (gA ad s.heap.size)) args s 0 0 (gA ad s.heap.size)) (F0 m 0 ls []) := by
    intro H locs ls hG hl
    unfold w_X10_say at HW
    refine lv_aload_n hx hb dX10_say_0 rfl (lv_at hl 0 rfl) ?_
    refine g_getr hx hb hw inG10 hown hK hG gl_0 rfl gk_0 (by decide) 0 (by decide) (by rw [gm_0]; decide) (r := 1) gr_0_0 lk10 dX10_say_1 ?_
    refine g_getr hx hb hw inG6 hown hK hG gl_1 rfl gk_1 (by decide) 0 (by decide) (by rw [gm_1]; decide) (r := 2) gr_1_0 lk85 dX10_say_4 ?_
    refine lv_iload_n hx hb dX10_say_7 rfl (lv_at hl 1 rfl) ?_
    obtain ⟨P_8, HC_8, HW⟩ := HW
    refine g_callz (g_runV (As := [.int x1]) (rest := []) ⟨hx, hb, hml, hown, hts⟩ (m_X8_has l D cy ad h g H.size 2 (gs_2) x1 P_8 HC_8) (cwV 1 hts (gd_V (wm2 201 rfl rfl) (wm2 202 rfl rfl) (wm2 203 rfl rfl) (wm1 3 rfl rfl) (wm2 204 rfl rfl)) rfl rfl rfl (by decide +kernel) ⟨Nat.le_of_ble_eq_true rfl, Nat.le_of_ble_eq_true rfl⟩) hK hNw hG gl_2 rfl gk_2 (by decide) rfl rfl hl.1 rfl (lv_room (Nat.le_of_ble_eq_true rfl)) dX10_say_8 ⟨Nat.zero_le _, Nat.zero_le _⟩) hG (fun r_8 h_8 g_8 H locs hz hq hG => ?_)
    replace HW := HW r_8 h_8 g_8 hz hq
    refine lv_if_eq (tgt := 35) hx hb dX10_say_11 (by decide) (fun c_11 => ?_) (fun c_11 => ?_)
    · replace HW := HW.1 c_11
      refine lv_bipush (v := (-2)) hx hb dX10_say_35 (by decide) ?_
      exact W.iret (v := (-2 : Int32)) hx hb hr (fun t ht hW => ⟨⟨(-2 : Int32), (h_8, g_8), rfl, HW, g_B ht hG⟩, hG.2.2.F ht⟩) hG.2.2.2.2 dX10_say_37
    · replace HW := HW.2 c_11
      refine lv_iload_n hx hb dX10_say_14 rfl (lv_at hl 2 rfl) ?_
      refine lv_iconst (v := 0) hx hb dX10_say_15 (by decide) ?_
      refine lv_iconst (v := 3) hx hb dX10_say_16 (by decide) ?_
      obtain ⟨P_17, HC_17, HW⟩ := HW
      refine g_callz (g_runS (As := [.int x2, .int (0 : Int32), .int (3 : Int32)]) (rest := []) ⟨hx, hb, hml, hown, hts⟩ (m_X10_within l D cy ad h_8 g_8 H.size x2 (0 : Int32) (3 : Int32) P_17 HC_17) (va_cwS 3 hts (gd_S (wm2 193 rfl rfl) (wm2 194 rfl rfl) (wm1 1 rfl rfl) (wm2 195 rfl rfl)) rfl rfl rfl (by decide +kernel) ⟨Nat.le_of_ble_eq_true rfl, Nat.le_of_ble_eq_true rfl⟩) hK hNw hG rfl rfl hl.1 rfl (lv_room (Nat.le_of_ble_eq_true rfl)) dX10_say_17 ⟨Nat.zero_le _, Nat.zero_le _⟩) hG (fun r_17 h_17 g_17 H locs hz hq hG => ?_)
      replace HW := HW r_17 h_17 g_17 hz hq
      refine lv_if_eq (tgt := 35) hx hb dX10_say_20 (by decide) (fun c_20 => ?_) (fun c_20 => ?_)
      · replace HW := HW.1 c_20
        refine lv_bipush (v := (-2)) hx hb dX10_say_35 (by decide) ?_
        exact W.iret (v := (-2 : Int32)) hx hb hr (fun t ht hW => ⟨⟨(-2 : Int32), (h_17, g_17), rfl, HW, g_B ht hG⟩, hG.2.2.F ht⟩) hG.2.2.2.2 dX10_say_37
      · replace HW := HW.2 c_20
        refine lv_iload_n hx hb dX10_say_23 rfl (lv_at hl 3 rfl) ?_
        refine lv_sipush (v := (-10000)) hx hb dX10_say_24 (by decide) ?_
        refine lv_ldc (v := 100000) hx hb hown cn102 dX10_say_27 ?_
        obtain ⟨P_29, HC_29, HW⟩ := HW
        refine g_callz (g_runS (As := [.int x3, .int (-10000 : Int32), .int (100000 : Int32)]) (rest := []) ⟨hx, hb, hml, hown, hts⟩ (m_X10_within l D cy ad h_17 g_17 H.size x3 (-10000 : Int32) (100000 : Int32) P_29 HC_29) (va_cwS 3 hts (gd_S (wm2 193 rfl rfl) (wm2 194 rfl rfl) (wm1 1 rfl rfl) (wm2 195 rfl rfl)) rfl rfl rfl (by decide +kernel) ⟨Nat.le_of_ble_eq_true rfl, Nat.le_of_ble_eq_true rfl⟩) hK hNw hG rfl rfl hl.1 rfl (lv_room (Nat.le_of_ble_eq_true rfl)) dX10_say_29 ⟨Nat.zero_le _, Nat.zero_le _⟩) hG (fun r_29 h_29 g_29 H locs hz hq hG => ?_)
        replace HW := HW r_29 h_29 g_29 hz hq
        refine lv_if_ne (tgt := 38) hx hb dX10_say_32 (by decide) (fun c_32 => ?_) (fun c_32 => ?_)
        · replace HW := HW.1 c_32
          refine lv_iload_n hx hb dX10_say_38 rfl (lv_at hl 2 rfl) ?_
          refine lv_if_eq (tgt := 47) hx hb dX10_say_39 (by decide) (fun c_39 => ?_) (fun c_39 => ?_)
          · replace HW := HW.1 c_39
            exact B47 x1 x2 x3 x4 x5 h_29 g_29 _ _ _ HW hG (lv_sub hl [0, 1, 2, 3, 4, 5] rfl)
          · replace HW := HW.2 c_39
            refine lv_iload_n hx hb dX10_say_42 rfl (lv_at hl 2 rfl) ?_
            refine lv_iconst (v := 1) hx hb dX10_say_43 (by decide) ?_
            refine lv_icmp_ne (tgt := 52) hx hb dX10_say_44 (by decide) (fun c_44 => ?_) (fun c_44 => ?_)
            · replace HW := HW.1 c_44
              refine lv_iconst (v := 0) hx hb dX10_say_52 (by decide) ?_
              exact B53 x1 x2 x3 x5 (0 : Int32) h_29 g_29 _ _ _ HW hG (lv_sub hl [0, 1, 2, 3, 5] rfl)
            · replace HW := HW.2 c_44
              exact B47 x1 x2 x3 x4 x5 h_29 g_29 _ _ _ HW hG (lv_sub hl [0, 1, 2, 3, 4, 5] rfl)
        · replace HW := HW.2 c_32
          refine lv_bipush (v := (-2)) hx hb dX10_say_35 (by decide) ?_
          exact W.iret (v := (-2 : Int32)) hx hb hr (fun t ht hW => ⟨⟨(-2 : Int32), (h_29, g_29), rfl, HW, g_B ht hG⟩, hG.2.2.F ht⟩) hG.2.2.2.2 dX10_say_37
  exact E0 _ _ _ hG hl

def j_X10_deny_26 (Q : Int32 → HI → HL → Prop) (x1 : Int32) (s0 : Int32) (h : HI) (g : HL) : Prop :=
  (∃ P_36 : Int32 → HI → HL → Prop, w_X8_at 6 x1 (5 : Int32) h g P_36 ∧ ∀ (r_36 : Int32) (h_36 : HI) (g_36 : HL), P_36 r_36 h_36 g_36 → ((¬ r_36 = s0 → (∃ P_56 : HI → HL → Prop, w_X8_put 6 x1 (5 : Int32) s0 h_36 g_36 P_56 ∧ ∀ (h_56 : HI) (g_56 : HL), P_56 h_56 g_56 → Q (1 : Int32) h_56 g_56)) ∧ (r_36 = s0 → Q (-3 : Int32) h_36 g_36)))
def w_X10_deny (x1 : Int32) (x2 : Int32) (h : HI) (g : HL) (Q : Int32 → HI → HL → Prop) : Prop :=
  (∃ P_8 : Int32 → HI → HL → Prop, w_X8_has 6 x1 h g P_8 ∧ ∀ (r_8 : Int32) (h_8 : HI) (g_8 : HL), zb r_8 → P_8 r_8 h_8 g_8 → ((¬ r_8 = 0 → ((x2 = 0 → j_X10_deny_26 Q x1 (0 : Int32) h_8 g_8) ∧ (¬ x2 = 0 → j_X10_deny_26 Q x1 (1 : Int32) h_8 g_8))) ∧ (r_8 = 0 → Q (-2 : Int32) h_8 g_8)))
set_option maxHeartbeats 8000000 in
set_option maxRecDepth 100000 in
theorem m_X10_deny (l : Launch) (D : va_G) (cy : Nat → ClassId) (ad : Nat → Nat) (h : HI) (g : HL) (sz : Nat) (x1 : Int32) (x2 : Int32) (Q : Int32 → HI → HL → Prop) (HW : w_X10_deny x1 x2 h g Q) : Met l yX10_deny (wa yX10_deny cX10_deny 4 (some .int)) ({ frames := 1, cells := 0, slots := 0, locals := 24 }) (va_Pc [.ref (ad 0), .int x1, .int x2] (gI D cy ad h g sz)) (va_Qi (fun (r : Int32) (u : HI × HL) => Q r u.1 u.2) (gB D cy ad sz) (gA ad sz)) 0 0 (gA ad sz) := by
  refine Met.ofW (cc := cX10_deny) (maxL := 4) (ret := (some .int)) (by decide) rfl ?_
  intro p e s m args below meth c s₁ B hml hv
  obtain ⟨hav, hsz, hP, hK, hD0, hNw⟩ := hv
  have hx := B.exec
  have hb := B.bytes
  have hr := B.returns
  have hts := atoms_spec (ws := (wa yX10_deny cX10_deny 4 (some .int))) B.pre
  have hw := wa_hw hts
  have hown : s.vm.findClass RX10 = some m.cls := findClass_of_methodNamed B.named
  have hlocks := B.notSynchronized
  subst hsz
  have hG : gG D cy ad (gA ad s.heap.size) s.heap h g s.heap [] := ⟨hP, gA_self hD0, va_S.rf⟩
  clear hP hD0
  have lk10 := hw (.fieldLink RX10 10 "OldWorks" "shop" "LOldWorks$Shop;") (wm2 155 rfl rfl)
  have lk129 := hw (.fieldLink RX10 129 "OldWorks$Shop" "sayings" "LOldWorks$Table;") (wm1 70 rfl rfl)
  rw [show (headSpec (wa yX10_deny cX10_deny 4 (some .int)) ({ frames := 1, cells := 0, slots := 0, locals := 24 } : Room)).room = ({ frames := 1, cells := 0, slots := 0, locals := 24 } : Room) from rfl]
  have hl := lv_entry ([.ref (ad 0), .int x1, .int x2]) (n := 4) (Nat.le_of_ble_eq_true rfl)
  rw [show entryFrame m args 4 = entryFrame m ([.ref (ad 0), .int x1, .int x2] : List Value).toArray 4 from by rw [hav], lg_entry_eq]
  generalize (lg_sl ([.ref (ad 0), .int x1, .int x2]) ++ List.replicate (4 - (lg_sl ([.ref (ad 0), .int x1, .int x2])).length) Slot.unset).toArray = ls at hl ⊢
  have hl : lv_has ls 4 [(0, .ref (ad 0)), (1, .int x1), (2, .int x2)] := hl
  have B26 : ∀ (x1 : Int32) (s0 : Int32) (h : HI) (g : HL) (H : Heap) (locs : List Loc) (ls : Array Slot), j_X10_deny_26 Q x1 s0 h g → gG D cy ad (gA ad s.heap.size) s.heap h g H locs → lv_has ls 4 [(0, .ref (ad 0)), (1, .int x1)] → W p l e ({ frames := 1, cells := 0, slots := 0, locals := 24 } : Room) s m args below meth c H locs 0 0 (MQ below (va_Qi (fun (r : Int32) (u : HI × HL) => Q r u.1 u.2) (gB D cy ad s.heap.size) (gA ad s.heap.size)) args s 0 0 (gA ad s.heap.size)) (F0 m 26 ls [.int s0]) := by
    intro x1 s0 h g H locs ls HW hG hl
    unfold j_X10_deny_26 at HW
    refine lv_istore_n (lv' := [(3, .int s0), (0, .ref (ad 0)), (1, .int x1)]) hx hb dX10_deny_26 rfl hl (by decide) rfl (fun ls hl => ?_)
    refine lv_aload_n hx hb dX10_deny_27 rfl (lv_at hl 1 rfl) ?_
    refine g_getr hx hb hw inG10 hown hK hG gl_0 rfl gk_0 (by decide) 0 (by decide) (by rw [gm_0]; decide) (r := 1) gr_0_0 lk10 dX10_deny_28 ?_
    refine g_getr hx hb hw inG6 hown hK hG gl_1 rfl gk_1 (by decide) 2 (by decide) (by rw [gm_1]; decide) (r := 6) gr_1_2 lk129 dX10_deny_31 ?_
    refine lv_iload_n hx hb dX10_deny_34 rfl (lv_at hl 2 rfl) ?_
    refine lv_iconst (v := 5) hx hb dX10_deny_35 (by decide) ?_
    obtain ⟨P_36, HC_36, HW⟩ := HW
    refine g_calli (g_runV (As := [.int x1, .int (5 : Int32)]) (rest := []) ⟨hx, hb, hml, hown, hts⟩ (m_X8_at l D cy ad h g H.size 6 (gs_6) x1 (5 : Int32) P_36 HC_36) (cwV 2 hts (gd_V (wm3 69 rfl rfl) (wm2 221 rfl rfl) (wm2 222 rfl rfl) (wm1 3 rfl rfl) (wm2 223 rfl rfl)) rfl rfl rfl (by decide +kernel) ⟨Nat.le_of_ble_eq_true rfl, Nat.le_of_ble_eq_true rfl⟩) hK hNw hG gl_6 rfl gk_6 (by decide) rfl rfl hl.1 rfl (lv_room (Nat.le_of_ble_eq_true rfl)) dX10_deny_36 ⟨Nat.zero_le _, Nat.zero_le _⟩) hG (fun r_36 h_36 g_36 H locs hq hG => ?_)
    replace HW := HW r_36 h_36 g_36 hq
    refine lv_iload_n hx hb dX10_deny_39 rfl (lv_at hl 0 rfl) ?_
    refine lv_icmp_ne (tgt := 46) hx hb dX10_deny_40 (by decide) (fun c_40 => ?_) (fun c_40 => ?_)
    · replace HW := HW.1 c_40
      refine lv_aload_n hx hb dX10_deny_46 rfl (lv_at hl 1 rfl) ?_
      refine g_getr hx hb hw inG10 hown hK hG gl_0 rfl gk_0 (by decide) 0 (by decide) (by rw [gm_0]; decide) (r := 1) gr_0_0 lk10 dX10_deny_47 ?_
      refine g_getr hx hb hw inG6 hown hK hG gl_1 rfl gk_1 (by decide) 2 (by decide) (by rw [gm_1]; decide) (r := 6) gr_1_2 lk129 dX10_deny_50 ?_
      refine lv_iload_n hx hb dX10_deny_53 rfl (lv_at hl 2 rfl) ?_
      refine lv_iconst (v := 5) hx hb dX10_deny_54 (by decide) ?_
      refine lv_iload_n hx hb dX10_deny_55 rfl (lv_at hl 0 rfl) ?_
      obtain ⟨P_56, HC_56, HW⟩ := HW
      refine g_callv (g_runV (As := [.int x1, .int (5 : Int32), .int s0]) (rest := []) ⟨hx, hb, hml, hown, hts⟩ (m_X8_put l D cy ad h_36 g_36 H.size 6 (gs_6) x1 (5 : Int32) s0 P_56 HC_56) (cwV 3 hts (gd_V (wm2 207 rfl rfl) (wm1 57 rfl rfl) (wm1 58 rfl rfl) (wm1 3 rfl rfl) (wm1 59 rfl rfl)) rfl rfl rfl (by decide +kernel) ⟨Nat.le_of_ble_eq_true rfl, Nat.le_of_ble_eq_true rfl⟩) hK hNw hG gl_6 rfl gk_6 (by decide) rfl rfl hl.1 rfl (lv_room (Nat.le_of_ble_eq_true rfl)) dX10_deny_56 ⟨Nat.zero_le _, Nat.zero_le _⟩) hG (fun h_56 g_56 H locs hq hG => ?_)
      replace HW := HW h_56 g_56 hq
      refine lv_iconst (v := 1) hx hb dX10_deny_59 (by decide) ?_
      exact W.iret (v := (1 : Int32)) hx hb hr (fun t ht hW => ⟨⟨(1 : Int32), (h_56, g_56), rfl, HW, g_B ht hG⟩, hG.2.2.F ht⟩) hG.2.2.2.2 dX10_deny_60
    · replace HW := HW.2 c_40
      refine lv_bipush (v := (-3)) hx hb dX10_deny_43 (by decide) ?_
      exact W.iret (v := (-3 : Int32)) hx hb hr (fun t ht hW => ⟨⟨(-3 : Int32), (h_36, g_36), rfl, HW, g_B ht hG⟩, hG.2.2.F ht⟩) hG.2.2.2.2 dX10_deny_45
  have E0 : ∀ (H : Heap) (locs : List Loc) (ls : Array Slot), gG D cy ad (gA ad s.heap.size) s.heap h g H locs → lv_has ls 4 [(0, .ref (ad 0)), (1, .int x1), (2, .int x2)] → W p l e ({ frames := 1, cells := 0, slots := 0, locals := 24 } : Room) s m args below meth c H locs 0 0 (MQ below (va_Qi (fun (r : Int32) (u : HI × HL) => Q r u.1 u.2) (gB D cy ad s.heap.size) (gA ad s.heap.size)) args s 0 0 (gA ad s.heap.size)) (F0 m 0 ls []) := by
    intro H locs ls hG hl
    unfold w_X10_deny at HW
    refine lv_aload_n hx hb dX10_deny_0 rfl (lv_at hl 0 rfl) ?_
    refine g_getr hx hb hw inG10 hown hK hG gl_0 rfl gk_0 (by decide) 0 (by decide) (by rw [gm_0]; decide) (r := 1) gr_0_0 lk10 dX10_deny_1 ?_
    refine g_getr hx hb hw inG6 hown hK hG gl_1 rfl gk_1 (by decide) 2 (by decide) (by rw [gm_1]; decide) (r := 6) gr_1_2 lk129 dX10_deny_4 ?_
    refine lv_iload_n hx hb dX10_deny_7 rfl (lv_at hl 1 rfl) ?_
    obtain ⟨P_8, HC_8, HW⟩ := HW
    refine g_callz (g_runV (As := [.int x1]) (rest := []) ⟨hx, hb, hml, hown, hts⟩ (m_X8_has l D cy ad h g H.size 6 (gs_6) x1 P_8 HC_8) (cwV 1 hts (gd_V (wm2 201 rfl rfl) (wm2 202 rfl rfl) (wm2 203 rfl rfl) (wm1 3 rfl rfl) (wm2 204 rfl rfl)) rfl rfl rfl (by decide +kernel) ⟨Nat.le_of_ble_eq_true rfl, Nat.le_of_ble_eq_true rfl⟩) hK hNw hG gl_6 rfl gk_6 (by decide) rfl rfl hl.1 rfl (lv_room (Nat.le_of_ble_eq_true rfl)) dX10_deny_8 ⟨Nat.zero_le _, Nat.zero_le _⟩) hG (fun r_8 h_8 g_8 H locs hz hq hG => ?_)
    replace HW := HW r_8 h_8 g_8 hz hq
    refine lv_if_ne (tgt := 17) hx hb dX10_deny_11 (by decide) (fun c_11 => ?_) (fun c_11 => ?_)
    · replace HW := HW.1 c_11
      refine lv_iload_n hx hb dX10_deny_17 rfl (lv_at hl 2 rfl) ?_
      refine lv_if_eq (tgt := 25) hx hb dX10_deny_18 (by decide) (fun c_18 => ?_) (fun c_18 => ?_)
      · replace HW := HW.1 c_18
        refine lv_iconst (v := 0) hx hb dX10_deny_25 (by decide) ?_
        exact B26 x1 (0 : Int32) h_8 g_8 _ _ _ HW hG (lv_sub hl [0, 1] rfl)
      · replace HW := HW.2 c_18
        refine lv_iconst (v := 1) hx hb dX10_deny_21 (by decide) ?_
        refine lv_goto (tgt := 26) hx hb dX10_deny_22 (by decide) ?_
        exact B26 x1 (1 : Int32) h_8 g_8 _ _ _ HW hG (lv_sub hl [0, 1] rfl)
    · replace HW := HW.2 c_11
      refine lv_bipush (v := (-2)) hx hb dX10_deny_14 (by decide) ?_
      exact W.iret (v := (-2 : Int32)) hx hb hr (fun t ht hW => ⟨⟨(-2 : Int32), (h_8, g_8), rfl, HW, g_B ht hG⟩, hG.2.2.F ht⟩) hG.2.2.2.2 dX10_deny_16
  exact E0 _ _ _ hG hl

def w_X10_first (x1 : Int32) (x2 : Int32) (h : HI) (g : HL) (Q : Int32 → HI → HL → Prop) : Prop :=
  (∃ P_8 : Int32 → HI → HL → Prop, w_X8_has 2 x1 h g P_8 ∧ ∀ (r_8 : Int32) (h_8 : HI) (g_8 : HL), zb r_8 → P_8 r_8 h_8 g_8 → ((r_8 = 0 → Q (-2 : Int32) h_8 g_8) ∧ (¬ r_8 = 0 → (∃ P_17 : Int32 → HI → HL → Prop, w_X10_within x2 (0 : Int32) (2 : Int32) h_8 g_8 P_17 ∧ ∀ (r_17 : Int32) (h_17 : HI) (g_17 : HL), zb r_17 → P_17 r_17 h_17 g_17 → ((¬ r_17 = 0 → (∃ P_31 : HI → HL → Prop, w_X7_find x1 h_17 g_17 P_31 ∧ ∀ (h_31 : HI) (g_31 : HL), P_31 h_31 g_31 → (∃ P_39 : Int32 → HI → HL → Prop, w_X7_answer x2 h_31 g_31 P_39 ∧ ∀ (r_39 : Int32) (h_39 : HI) (g_39 : HL), P_39 r_39 h_39 g_39 → Q r_39 h_39 g_39))) ∧ (r_17 = 0 → Q (-2 : Int32) h_17 g_17))))))
set_option maxHeartbeats 8000000 in
set_option maxRecDepth 100000 in
theorem m_X10_first (l : Launch) (D : va_G) (cy : Nat → ClassId) (ad : Nat → Nat) (h : HI) (g : HL) (sz : Nat) (x1 : Int32) (x2 : Int32) (Q : Int32 → HI → HL → Prop) (HW : w_X10_first x1 x2 h g Q) : Met l yX10_first (wa yX10_first cX10_first 3 (some .int)) ({ frames := 5, cells := 0, slots := 0, locals := 124 }) (va_Pc [.ref (ad 0), .int x1, .int x2] (gI D cy ad h g sz)) (va_Qi (fun (r : Int32) (u : HI × HL) => Q r u.1 u.2) (gB D cy ad sz) (gA ad sz)) 0 0 (gA ad sz) := by
  refine Met.ofW (cc := cX10_first) (maxL := 3) (ret := (some .int)) (by decide) rfl ?_
  intro p e s m args below meth c s₁ B hml hv
  obtain ⟨hav, hsz, hP, hK, hD0, hNw⟩ := hv
  have hx := B.exec
  have hb := B.bytes
  have hr := B.returns
  have hts := atoms_spec (ws := (wa yX10_first cX10_first 3 (some .int))) B.pre
  have hw := wa_hw hts
  have hown : s.vm.findClass RX10 = some m.cls := findClass_of_methodNamed B.named
  have hlocks := B.notSynchronized
  subst hsz
  have hG : gG D cy ad (gA ad s.heap.size) s.heap h g s.heap [] := ⟨hP, gA_self hD0, va_S.rf⟩
  clear hP hD0
  have lk10 := hw (.fieldLink RX10 10 "OldWorks" "shop" "LOldWorks$Shop;") (wm2 155 rfl rfl)
  have lk85 := hw (.fieldLink RX10 85 "OldWorks$Shop" "parts" "LOldWorks$Table;") (wm1 62 rfl rfl)
  have lk40 := hw (.fieldLink RX10 40 "OldWorks" "sizes" "LOldWorks$Sizes;") (wm2 160 rfl rfl)
  rw [show (headSpec (wa yX10_first cX10_first 3 (some .int)) ({ frames := 5, cells := 0, slots := 0, locals := 124 } : Room)).room = ({ frames := 5, cells := 0, slots := 0, locals := 124 } : Room) from rfl]
  have hl := lv_entry ([.ref (ad 0), .int x1, .int x2]) (n := 3) (Nat.le_of_ble_eq_true rfl)
  rw [show entryFrame m args 3 = entryFrame m ([.ref (ad 0), .int x1, .int x2] : List Value).toArray 3 from by rw [hav], lg_entry_eq]
  generalize (lg_sl ([.ref (ad 0), .int x1, .int x2]) ++ List.replicate (3 - (lg_sl ([.ref (ad 0), .int x1, .int x2])).length) Slot.unset).toArray = ls at hl ⊢
  have hl : lv_has ls 3 [(0, .ref (ad 0)), (1, .int x1), (2, .int x2)] := hl
  have E0 : ∀ (H : Heap) (locs : List Loc) (ls : Array Slot), gG D cy ad (gA ad s.heap.size) s.heap h g H locs → lv_has ls 3 [(0, .ref (ad 0)), (1, .int x1), (2, .int x2)] → W p l e ({ frames := 5, cells := 0, slots := 0, locals := 124 } : Room) s m args below meth c H locs 0 0 (MQ below (va_Qi (fun (r : Int32) (u : HI × HL) => Q r u.1 u.2) (gB D cy ad s.heap.size) (gA ad s.heap.size)) args s 0 0 (gA ad s.heap.size)) (F0 m 0 ls []) := by
    intro H locs ls hG hl
    unfold w_X10_first at HW
    refine lv_aload_n hx hb dX10_first_0 rfl (lv_at hl 0 rfl) ?_
    refine g_getr hx hb hw inG10 hown hK hG gl_0 rfl gk_0 (by decide) 0 (by decide) (by rw [gm_0]; decide) (r := 1) gr_0_0 lk10 dX10_first_1 ?_
    refine g_getr hx hb hw inG6 hown hK hG gl_1 rfl gk_1 (by decide) 0 (by decide) (by rw [gm_1]; decide) (r := 2) gr_1_0 lk85 dX10_first_4 ?_
    refine lv_iload_n hx hb dX10_first_7 rfl (lv_at hl 1 rfl) ?_
    obtain ⟨P_8, HC_8, HW⟩ := HW
    refine g_callz (g_runV (As := [.int x1]) (rest := []) ⟨hx, hb, hml, hown, hts⟩ (m_X8_has l D cy ad h g H.size 2 (gs_2) x1 P_8 HC_8) (cwV 1 hts (gd_V (wm2 201 rfl rfl) (wm2 202 rfl rfl) (wm2 203 rfl rfl) (wm1 3 rfl rfl) (wm2 204 rfl rfl)) rfl rfl rfl (by decide +kernel) ⟨Nat.le_of_ble_eq_true rfl, Nat.le_of_ble_eq_true rfl⟩) hK hNw hG gl_2 rfl gk_2 (by decide) rfl rfl hl.1 rfl (lv_room (Nat.le_of_ble_eq_true rfl)) dX10_first_8 ⟨Nat.zero_le _, Nat.zero_le _⟩) hG (fun r_8 h_8 g_8 H locs hz hq hG => ?_)
    replace HW := HW r_8 h_8 g_8 hz hq
    refine lv_if_eq (tgt := 23) hx hb dX10_first_11 (by decide) (fun c_11 => ?_) (fun c_11 => ?_)
    · replace HW := HW.1 c_11
      refine lv_bipush (v := (-2)) hx hb dX10_first_23 (by decide) ?_
      exact W.iret (v := (-2 : Int32)) hx hb hr (fun t ht hW => ⟨⟨(-2 : Int32), (h_8, g_8), rfl, HW, g_B ht hG⟩, hG.2.2.F ht⟩) hG.2.2.2.2 dX10_first_25
    · replace HW := HW.2 c_11
      refine lv_iload_n hx hb dX10_first_14 rfl (lv_at hl 2 rfl) ?_
      refine lv_iconst (v := 0) hx hb dX10_first_15 (by decide) ?_
      refine lv_iconst (v := 2) hx hb dX10_first_16 (by decide) ?_
      obtain ⟨P_17, HC_17, HW⟩ := HW
      refine g_callz (g_runS (As := [.int x2, .int (0 : Int32), .int (2 : Int32)]) (rest := []) ⟨hx, hb, hml, hown, hts⟩ (m_X10_within l D cy ad h_8 g_8 H.size x2 (0 : Int32) (2 : Int32) P_17 HC_17) (va_cwS 3 hts (gd_S (wm2 193 rfl rfl) (wm2 194 rfl rfl) (wm1 1 rfl rfl) (wm2 195 rfl rfl)) rfl rfl rfl (by decide +kernel) ⟨Nat.le_of_ble_eq_true rfl, Nat.le_of_ble_eq_true rfl⟩) hK hNw hG rfl rfl hl.1 rfl (lv_room (Nat.le_of_ble_eq_true rfl)) dX10_first_17 ⟨Nat.zero_le _, Nat.zero_le _⟩) hG (fun r_17 h_17 g_17 H locs hz hq hG => ?_)
      replace HW := HW r_17 h_17 g_17 hz hq
      refine lv_if_ne (tgt := 26) hx hb dX10_first_20 (by decide) (fun c_20 => ?_) (fun c_20 => ?_)
      · replace HW := HW.1 c_20
        refine lv_aload_n hx hb dX10_first_26 rfl (lv_at hl 0 rfl) ?_
        refine g_getr hx hb hw inG10 hown hK hG gl_0 rfl gk_0 (by decide) 5 (by decide) (by rw [gm_0]; decide) (r := 81) gr_0_5 lk40 dX10_first_27 ?_
        refine lv_iload_n hx hb dX10_first_30 rfl (lv_at hl 1 rfl) ?_
        obtain ⟨P_31, HC_31, HW⟩ := HW
        refine g_callv (g_runV (As := [.int x1]) (rest := []) ⟨hx, hb, hml, hown, hts⟩ (m_X7_find l D cy ad h_17 g_17 H.size x1 P_31 HC_31) (cwV 1 hts (gd_V (wm3 74 rfl rfl) (wm3 75 rfl rfl) (wm3 76 rfl rfl) (wm1 5 rfl rfl) (wm3 77 rfl rfl)) rfl rfl rfl (by decide +kernel) ⟨Nat.le_of_ble_eq_true rfl, Nat.le_of_ble_eq_true rfl⟩) hK hNw hG gl_81 rfl gk_81 (by decide) rfl rfl hl.1 rfl (lv_room (Nat.le_of_ble_eq_true rfl)) dX10_first_31 ⟨Nat.zero_le _, Nat.zero_le _⟩) hG (fun h_31 g_31 H locs hq hG => ?_)
        replace HW := HW h_31 g_31 hq
        refine lv_aload_n hx hb dX10_first_34 rfl (lv_at hl 0 rfl) ?_
        refine g_getr hx hb hw inG10 hown hK hG gl_0 rfl gk_0 (by decide) 5 (by decide) (by rw [gm_0]; decide) (r := 81) gr_0_5 lk40 dX10_first_35 ?_
        refine lv_iload_n hx hb dX10_first_38 rfl (lv_at hl 2 rfl) ?_
        obtain ⟨P_39, HC_39, HW⟩ := HW
        refine g_calli (g_runV (As := [.int x2]) (rest := []) ⟨hx, hb, hml, hown, hts⟩ (m_X7_answer l D cy ad h_31 g_31 H.size x2 P_39 HC_39) (cwV 1 hts (gd_V (wm3 105 rfl rfl) (wm3 106 rfl rfl) (wm3 107 rfl rfl) (wm1 5 rfl rfl) (wm3 108 rfl rfl)) rfl rfl rfl (by decide +kernel) ⟨Nat.le_of_ble_eq_true rfl, Nat.le_of_ble_eq_true rfl⟩) hK hNw hG gl_81 rfl gk_81 (by decide) rfl rfl hl.1 rfl (lv_room (Nat.le_of_ble_eq_true rfl)) dX10_first_39 ⟨Nat.zero_le _, Nat.zero_le _⟩) hG (fun r_39 h_39 g_39 H locs hq hG => ?_)
        replace HW := HW r_39 h_39 g_39 hq
        exact W.iret (v := r_39) hx hb hr (fun t ht hW => ⟨⟨r_39, (h_39, g_39), rfl, HW, g_B ht hG⟩, hG.2.2.F ht⟩) hG.2.2.2.2 dX10_first_42
      · replace HW := HW.2 c_20
        refine lv_bipush (v := (-2)) hx hb dX10_first_23 (by decide) ?_
        exact W.iret (v := (-2 : Int32)) hx hb hr (fun t ht hW => ⟨⟨(-2 : Int32), (h_17, g_17), rfl, HW, g_B ht hG⟩, hG.2.2.F ht⟩) hG.2.2.2.2 dX10_first_25
  exact E0 _ _ _ hG hl

def w_X10_quarrel (x1 : Int32) (x2 : Int32) (h : HI) (g : HL) (Q : Int32 → HI → HL → Prop) : Prop :=
  (∃ P_8 : Int32 → HI → HL → Prop, w_X8_has 2 x1 h g P_8 ∧ ∀ (r_8 : Int32) (h_8 : HI) (g_8 : HL), zb r_8 → P_8 r_8 h_8 g_8 → ((r_8 = 0 → Q (-10 : Int32) h_8 g_8) ∧ (¬ r_8 = 0 → ((x2 < (-3 : Int32) → Q (-10 : Int32) h_8 g_8) ∧ (¬ x2 < (-3 : Int32) → ((¬ x2 = (-2 : Int32) → (∃ P_34 : HI → HL → Prop, w_X7_find x1 h_8 g_8 P_34 ∧ ∀ (h_34 : HI) (g_34 : HL), P_34 h_34 g_34 → (∃ P_41 : Int32 → HI → HL → Prop, w_X7_leastDisputed h_34 g_34 P_41 ∧ ∀ (r_41 : Int32) (h_41 : HI) (g_41 : HL), P_41 r_41 h_41 g_41 → ((¬ x2 = (-3 : Int32) → ((¬ x2 = (-1 : Int32) → (∃ P_73 : Int32 → HI → HL → Prop, w_X7_objector r_41 x2 h_41 g_41 P_73 ∧ ∀ (r_73 : Int32) (h_73 : HI) (g_73 : HL), P_73 r_73 h_73 g_73 → Q r_73 h_73 g_73)) ∧ (x2 = (-1 : Int32) → (∃ P_63 : Int32 → HI → HL → Prop, w_X7_against r_41 h_41 g_41 P_63 ∧ ∀ (r_63 : Int32) (h_63 : HI) (g_63 : HL), P_63 r_63 h_63 g_63 → Q r_63 h_63 g_63)))) ∧ (x2 = (-3 : Int32) → Q r_41 h_41 g_41))))) ∧ (x2 = (-2 : Int32) → Q (-10 : Int32) h_8 g_8)))))))
set_option maxHeartbeats 8000000 in
set_option maxRecDepth 100000 in
theorem m_X10_quarrel (l : Launch) (D : va_G) (cy : Nat → ClassId) (ad : Nat → Nat) (h : HI) (g : HL) (sz : Nat) (x1 : Int32) (x2 : Int32) (Q : Int32 → HI → HL → Prop) (HW : w_X10_quarrel x1 x2 h g Q) : Met l yX10_quarrel (wa yX10_quarrel cX10_quarrel 4 (some .int)) ({ frames := 5, cells := 0, slots := 0, locals := 124 }) (va_Pc [.ref (ad 0), .int x1, .int x2] (gI D cy ad h g sz)) (va_Qi (fun (r : Int32) (u : HI × HL) => Q r u.1 u.2) (gB D cy ad sz) (gA ad sz)) 0 0 (gA ad sz) := by
  refine Met.ofW (cc := cX10_quarrel) (maxL := 4) (ret := (some .int)) (by decide) rfl ?_
  intro p e s m args below meth c s₁ B hml hv
  obtain ⟨hav, hsz, hP, hK, hD0, hNw⟩ := hv
  have hx := B.exec
  have hb := B.bytes
  have hr := B.returns
  have hts := atoms_spec (ws := (wa yX10_quarrel cX10_quarrel 4 (some .int))) B.pre
  have hw := wa_hw hts
  have hown : s.vm.findClass RX10 = some m.cls := findClass_of_methodNamed B.named
  have hlocks := B.notSynchronized
  subst hsz
  have hG : gG D cy ad (gA ad s.heap.size) s.heap h g s.heap [] := ⟨hP, gA_self hD0, va_S.rf⟩
  clear hP hD0
  have lk10 := hw (.fieldLink RX10 10 "OldWorks" "shop" "LOldWorks$Shop;") (wm2 155 rfl rfl)
  have lk85 := hw (.fieldLink RX10 85 "OldWorks$Shop" "parts" "LOldWorks$Table;") (wm1 62 rfl rfl)
  have lk40 := hw (.fieldLink RX10 40 "OldWorks" "sizes" "LOldWorks$Sizes;") (wm2 160 rfl rfl)
  rw [show (headSpec (wa yX10_quarrel cX10_quarrel 4 (some .int)) ({ frames := 5, cells := 0, slots := 0, locals := 124 } : Room)).room = ({ frames := 5, cells := 0, slots := 0, locals := 124 } : Room) from rfl]
  have hl := lv_entry ([.ref (ad 0), .int x1, .int x2]) (n := 4) (Nat.le_of_ble_eq_true rfl)
  rw [show entryFrame m args 4 = entryFrame m ([.ref (ad 0), .int x1, .int x2] : List Value).toArray 4 from by rw [hav], lg_entry_eq]
  generalize (lg_sl ([.ref (ad 0), .int x1, .int x2]) ++ List.replicate (4 - (lg_sl ([.ref (ad 0), .int x1, .int x2])).length) Slot.unset).toArray = ls at hl ⊢
  have hl : lv_has ls 4 [(0, .ref (ad 0)), (1, .int x1), (2, .int x2)] := hl
  have E0 : ∀ (H : Heap) (locs : List Loc) (ls : Array Slot), gG D cy ad (gA ad s.heap.size) s.heap h g H locs → lv_has ls 4 [(0, .ref (ad 0)), (1, .int x1), (2, .int x2)] → W p l e ({ frames := 5, cells := 0, slots := 0, locals := 124 } : Room) s m args below meth c H locs 0 0 (MQ below (va_Qi (fun (r : Int32) (u : HI × HL) => Q r u.1 u.2) (gB D cy ad s.heap.size) (gA ad s.heap.size)) args s 0 0 (gA ad s.heap.size)) (F0 m 0 ls []) := by
    intro H locs ls hG hl
    unfold w_X10_quarrel at HW
    refine lv_aload_n hx hb dX10_quarrel_0 rfl (lv_at hl 0 rfl) ?_
    refine g_getr hx hb hw inG10 hown hK hG gl_0 rfl gk_0 (by decide) 0 (by decide) (by rw [gm_0]; decide) (r := 1) gr_0_0 lk10 dX10_quarrel_1 ?_
    refine g_getr hx hb hw inG6 hown hK hG gl_1 rfl gk_1 (by decide) 0 (by decide) (by rw [gm_1]; decide) (r := 2) gr_1_0 lk85 dX10_quarrel_4 ?_
    refine lv_iload_n hx hb dX10_quarrel_7 rfl (lv_at hl 1 rfl) ?_
    obtain ⟨P_8, HC_8, HW⟩ := HW
    refine g_callz (g_runV (As := [.int x1]) (rest := []) ⟨hx, hb, hml, hown, hts⟩ (m_X8_has l D cy ad h g H.size 2 (gs_2) x1 P_8 HC_8) (cwV 1 hts (gd_V (wm2 201 rfl rfl) (wm2 202 rfl rfl) (wm2 203 rfl rfl) (wm1 3 rfl rfl) (wm2 204 rfl rfl)) rfl rfl rfl (by decide +kernel) ⟨Nat.le_of_ble_eq_true rfl, Nat.le_of_ble_eq_true rfl⟩) hK hNw hG gl_2 rfl gk_2 (by decide) rfl rfl hl.1 rfl (lv_room (Nat.le_of_ble_eq_true rfl)) dX10_quarrel_8 ⟨Nat.zero_le _, Nat.zero_le _⟩) hG (fun r_8 h_8 g_8 H locs hz hq hG => ?_)
    replace HW := HW r_8 h_8 g_8 hz hq
    refine lv_if_eq (tgt := 26) hx hb dX10_quarrel_11 (by decide) (fun c_11 => ?_) (fun c_11 => ?_)
    · replace HW := HW.1 c_11
      refine lv_bipush (v := (-10)) hx hb dX10_quarrel_26 (by decide) ?_
      exact W.iret (v := (-10 : Int32)) hx hb hr (fun t ht hW => ⟨⟨(-10 : Int32), (h_8, g_8), rfl, HW, g_B ht hG⟩, hG.2.2.F ht⟩) hG.2.2.2.2 dX10_quarrel_28
    · replace HW := HW.2 c_11
      refine lv_iload_n hx hb dX10_quarrel_14 rfl (lv_at hl 2 rfl) ?_
      refine lv_bipush (v := (-3)) hx hb dX10_quarrel_15 (by decide) ?_
      refine lv_icmp_lt (tgt := 26) hx hb dX10_quarrel_17 (by decide) (fun c_17 => ?_) (fun c_17 => ?_)
      · replace HW := HW.1 c_17
        refine lv_bipush (v := (-10)) hx hb dX10_quarrel_26 (by decide) ?_
        exact W.iret (v := (-10 : Int32)) hx hb hr (fun t ht hW => ⟨⟨(-10 : Int32), (h_8, g_8), rfl, HW, g_B ht hG⟩, hG.2.2.F ht⟩) hG.2.2.2.2 dX10_quarrel_28
      · replace HW := HW.2 c_17
        refine lv_iload_n hx hb dX10_quarrel_20 rfl (lv_at hl 2 rfl) ?_
        refine lv_bipush (v := (-2)) hx hb dX10_quarrel_21 (by decide) ?_
        refine lv_icmp_ne (tgt := 29) hx hb dX10_quarrel_23 (by decide) (fun c_23 => ?_) (fun c_23 => ?_)
        · replace HW := HW.1 c_23
          refine lv_aload_n hx hb dX10_quarrel_29 rfl (lv_at hl 0 rfl) ?_
          refine g_getr hx hb hw inG10 hown hK hG gl_0 rfl gk_0 (by decide) 5 (by decide) (by rw [gm_0]; decide) (r := 81) gr_0_5 lk40 dX10_quarrel_30 ?_
          refine lv_iload_n hx hb dX10_quarrel_33 rfl (lv_at hl 1 rfl) ?_
          obtain ⟨P_34, HC_34, HW⟩ := HW
          refine g_callv (g_runV (As := [.int x1]) (rest := []) ⟨hx, hb, hml, hown, hts⟩ (m_X7_find l D cy ad h_8 g_8 H.size x1 P_34 HC_34) (cwV 1 hts (gd_V (wm3 74 rfl rfl) (wm3 75 rfl rfl) (wm3 76 rfl rfl) (wm1 5 rfl rfl) (wm3 77 rfl rfl)) rfl rfl rfl (by decide +kernel) ⟨Nat.le_of_ble_eq_true rfl, Nat.le_of_ble_eq_true rfl⟩) hK hNw hG gl_81 rfl gk_81 (by decide) rfl rfl hl.1 rfl (lv_room (Nat.le_of_ble_eq_true rfl)) dX10_quarrel_34 ⟨Nat.zero_le _, Nat.zero_le _⟩) hG (fun h_34 g_34 H locs hq hG => ?_)
          replace HW := HW h_34 g_34 hq
          refine lv_aload_n hx hb dX10_quarrel_37 rfl (lv_at hl 0 rfl) ?_
          refine g_getr hx hb hw inG10 hown hK hG gl_0 rfl gk_0 (by decide) 5 (by decide) (by rw [gm_0]; decide) (r := 81) gr_0_5 lk40 dX10_quarrel_38 ?_
          obtain ⟨P_41, HC_41, HW⟩ := HW
          refine g_calli (g_runV (As := []) (rest := []) ⟨hx, hb, hml, hown, hts⟩ (m_X7_leastDisputed l D cy ad h_34 g_34 H.size  P_41 HC_41) (cwV 0 hts (gd_V (wm3 113 rfl rfl) (wm3 114 rfl rfl) (wm3 115 rfl rfl) (wm1 5 rfl rfl) (wm3 116 rfl rfl)) rfl rfl rfl (by decide +kernel) ⟨Nat.le_of_ble_eq_true rfl, Nat.le_of_ble_eq_true rfl⟩) hK hNw hG gl_81 rfl gk_81 (by decide) rfl rfl hl.1 rfl (lv_room (Nat.le_of_ble_eq_true rfl)) dX10_quarrel_41 ⟨Nat.zero_le _, Nat.zero_le _⟩) hG (fun r_41 h_41 g_41 H locs hq hG => ?_)
          replace HW := HW r_41 h_41 g_41 hq
          refine lv_istore_n (lv' := [(3, .int r_41), (0, .ref (ad 0)), (1, .int x1), (2, .int x2)]) hx hb dX10_quarrel_44 rfl hl (by decide) rfl (fun ls hl => ?_)
          refine lv_iload_n hx hb dX10_quarrel_45 rfl (lv_at hl 3 rfl) ?_
          refine lv_bipush (v := (-3)) hx hb dX10_quarrel_46 (by decide) ?_
          refine lv_icmp_ne (tgt := 53) hx hb dX10_quarrel_48 (by decide) (fun c_48 => ?_) (fun c_48 => ?_)
          · replace HW := HW.1 c_48
            refine lv_iload_n hx hb dX10_quarrel_53 rfl (lv_at hl 3 rfl) ?_
            refine lv_iconst (v := (-1)) hx hb dX10_quarrel_54 (by decide) ?_
            refine lv_icmp_ne (tgt := 67) hx hb dX10_quarrel_55 (by decide) (fun c_55 => ?_) (fun c_55 => ?_)
            · replace HW := HW.1 c_55
              refine lv_aload_n hx hb dX10_quarrel_67 rfl (lv_at hl 1 rfl) ?_
              refine g_getr hx hb hw inG10 hown hK hG gl_0 rfl gk_0 (by decide) 5 (by decide) (by rw [gm_0]; decide) (r := 81) gr_0_5 lk40 dX10_quarrel_68 ?_
              refine lv_iload_n hx hb dX10_quarrel_71 rfl (lv_at hl 0 rfl) ?_
              refine lv_iload_n hx hb dX10_quarrel_72 rfl (lv_at hl 3 rfl) ?_
              obtain ⟨P_73, HC_73, HW⟩ := HW
              refine g_calli (g_runV (As := [.int r_41, .int x2]) (rest := []) ⟨hx, hb, hml, hown, hts⟩ (m_X7_objector l D cy ad h_41 g_41 H.size r_41 x2 P_73 HC_73) (cwV 2 hts (gd_V (wm3 126 rfl rfl) (wm3 127 rfl rfl) (wm3 128 rfl rfl) (wm1 5 rfl rfl) (wm3 129 rfl rfl)) rfl rfl rfl (by decide +kernel) ⟨Nat.le_of_ble_eq_true rfl, Nat.le_of_ble_eq_true rfl⟩) hK hNw hG gl_81 rfl gk_81 (by decide) rfl rfl hl.1 rfl (lv_room (Nat.le_of_ble_eq_true rfl)) dX10_quarrel_73 ⟨Nat.zero_le _, Nat.zero_le _⟩) hG (fun r_73 h_73 g_73 H locs hq hG => ?_)
              replace HW := HW r_73 h_73 g_73 hq
              exact W.iret (v := r_73) hx hb hr (fun t ht hW => ⟨⟨r_73, (h_73, g_73), rfl, HW, g_B ht hG⟩, hG.2.2.F ht⟩) hG.2.2.2.2 dX10_quarrel_76
            · replace HW := HW.2 c_55
              refine lv_aload_n hx hb dX10_quarrel_58 rfl (lv_at hl 1 rfl) ?_
              refine g_getr hx hb hw inG10 hown hK hG gl_0 rfl gk_0 (by decide) 5 (by decide) (by rw [gm_0]; decide) (r := 81) gr_0_5 lk40 dX10_quarrel_59 ?_
              refine lv_iload_n hx hb dX10_quarrel_62 rfl (lv_at hl 0 rfl) ?_
              obtain ⟨P_63, HC_63, HW⟩ := HW
              refine g_calli (g_runV (As := [.int r_41]) (rest := []) ⟨hx, hb, hml, hown, hts⟩ (m_X7_against l D cy ad h_41 g_41 H.size r_41 P_63 HC_63) (cwV 1 hts (gd_V (wm3 125 rfl rfl) (wm3 118 rfl rfl) (wm3 119 rfl rfl) (wm1 5 rfl rfl) (wm3 120 rfl rfl)) rfl rfl rfl (by decide +kernel) ⟨Nat.le_of_ble_eq_true rfl, Nat.le_of_ble_eq_true rfl⟩) hK hNw hG gl_81 rfl gk_81 (by decide) rfl rfl hl.1 rfl (lv_room (Nat.le_of_ble_eq_true rfl)) dX10_quarrel_63 ⟨Nat.zero_le _, Nat.zero_le _⟩) hG (fun r_63 h_63 g_63 H locs hq hG => ?_)
              replace HW := HW r_63 h_63 g_63 hq
              exact W.iret (v := r_63) hx hb hr (fun t ht hW => ⟨⟨r_63, (h_63, g_63), rfl, HW, g_B ht hG⟩, hG.2.2.F ht⟩) hG.2.2.2.2 dX10_quarrel_66
          · replace HW := HW.2 c_48
            refine lv_iload_n hx hb dX10_quarrel_51 rfl (lv_at hl 0 rfl) ?_
            exact W.iret (v := r_41) hx hb hr (fun t ht hW => ⟨⟨r_41, (h_41, g_41), rfl, HW, g_B ht hG⟩, hG.2.2.F ht⟩) hG.2.2.2.2 dX10_quarrel_52
        · replace HW := HW.2 c_23
          refine lv_bipush (v := (-10)) hx hb dX10_quarrel_26 (by decide) ?_
          exact W.iret (v := (-10 : Int32)) hx hb hr (fun t ht hW => ⟨⟨(-10 : Int32), (h_8, g_8), rfl, HW, g_B ht hG⟩, hG.2.2.F ht⟩) hG.2.2.2.2 dX10_quarrel_28
  exact E0 _ _ _ hG hl

def w_X10_chain (x1 : Int32) (x2 : Int32) (h : HI) (g : HL) (Q : Int32 → HI → HL → Prop) : Prop :=
  (∃ P_5 : Int32 → HI → HL → Prop, w_X10_within x1 (-100000 : Int32) (100000 : Int32) h g P_5 ∧ ∀ (r_5 : Int32) (h_5 : HI) (g_5 : HL), zb r_5 → P_5 r_5 h_5 g_5 → ((r_5 = 0 → Q (-2 : Int32) h_5 g_5) ∧ (¬ r_5 = 0 → (∃ P_15 : Int32 → HI → HL → Prop, w_X10_within x2 x1 (100000 : Int32) h_5 g_5 P_15 ∧ ∀ (r_15 : Int32) (h_15 : HI) (g_15 : HL), zb r_15 → P_15 r_15 h_15 g_15 → ((¬ r_15 = 0 → (∃ P_35 : Int32 → HI → HL → Prop, w_X8_add 8 x1 x2 (0 : Int32) (0 : Int32) h_15 g_15 P_35 ∧ ∀ (r_35 : Int32) (h_35 : HI) (g_35 : HL), P_35 r_35 h_35 g_35 → Q r_35 h_35 g_35)) ∧ (r_15 = 0 → Q (-2 : Int32) h_15 g_15))))))
set_option maxHeartbeats 8000000 in
set_option maxRecDepth 100000 in
theorem m_X10_chain (l : Launch) (D : va_G) (cy : Nat → ClassId) (ad : Nat → Nat) (h : HI) (g : HL) (sz : Nat) (x1 : Int32) (x2 : Int32) (Q : Int32 → HI → HL → Prop) (HW : w_X10_chain x1 x2 h g Q) : Met l yX10_chain (wa yX10_chain cX10_chain 3 (some .int)) ({ frames := 2, cells := 0, slots := 0, locals := 50 }) (va_Pc [.ref (ad 0), .int x1, .int x2] (gI D cy ad h g sz)) (va_Qi (fun (r : Int32) (u : HI × HL) => Q r u.1 u.2) (gB D cy ad sz) (gA ad sz)) 0 0 (gA ad sz) := by
  refine Met.ofW (cc := cX10_chain) (maxL := 3) (ret := (some .int)) (by decide) rfl ?_
  intro p e s m args below meth c s₁ B hml hv
  obtain ⟨hav, hsz, hP, hK, hD0, hNw⟩ := hv
  have hx := B.exec
  have hb := B.bytes
  have hr := B.returns
  have hts := atoms_spec (ws := (wa yX10_chain cX10_chain 3 (some .int))) B.pre
  have hw := wa_hw hts
  have hown : s.vm.findClass RX10 = some m.cls := findClass_of_methodNamed B.named
  have hlocks := B.notSynchronized
  subst hsz
  have hG : gG D cy ad (gA ad s.heap.size) s.heap h g s.heap [] := ⟨hP, gA_self hD0, va_S.rf⟩
  clear hP hD0
  have cn152 := hw (.constant RX10 152 (-100000)) (wm3 134 rfl rfl)
  have cn102 := hw (.constant RX10 102 (100000)) (wm2 205 rfl rfl)
  have lk10 := hw (.fieldLink RX10 10 "OldWorks" "shop" "LOldWorks$Shop;") (wm2 155 rfl rfl)
  have lk153 := hw (.fieldLink RX10 153 "OldWorks$Shop" "chains" "LOldWorks$Table;") (wm1 73 rfl rfl)
  rw [show (headSpec (wa yX10_chain cX10_chain 3 (some .int)) ({ frames := 2, cells := 0, slots := 0, locals := 50 } : Room)).room = ({ frames := 2, cells := 0, slots := 0, locals := 50 } : Room) from rfl]
  have hl := lv_entry ([.ref (ad 0), .int x1, .int x2]) (n := 3) (Nat.le_of_ble_eq_true rfl)
  rw [show entryFrame m args 3 = entryFrame m ([.ref (ad 0), .int x1, .int x2] : List Value).toArray 3 from by rw [hav], lg_entry_eq]
  generalize (lg_sl ([.ref (ad 0), .int x1, .int x2]) ++ List.replicate (3 - (lg_sl ([.ref (ad 0), .int x1, .int x2])).length) Slot.unset).toArray = ls at hl ⊢
  have hl : lv_has ls 3 [(0, .ref (ad 0)), (1, .int x1), (2, .int x2)] := hl
  have E0 : ∀ (H : Heap) (locs : List Loc) (ls : Array Slot), gG D cy ad (gA ad s.heap.size) s.heap h g H locs → lv_has ls 3 [(0, .ref (ad 0)), (1, .int x1), (2, .int x2)] → W p l e ({ frames := 2, cells := 0, slots := 0, locals := 50 } : Room) s m args below meth c H locs 0 0 (MQ below (va_Qi (fun (r : Int32) (u : HI × HL) => Q r u.1 u.2) (gB D cy ad s.heap.size) (gA ad s.heap.size)) args s 0 0 (gA ad s.heap.size)) (F0 m 0 ls []) := by
    intro H locs ls hG hl
    unfold w_X10_chain at HW
    refine lv_iload_n hx hb dX10_chain_0 rfl (lv_at hl 1 rfl) ?_
    refine lv_ldc (v := (-100000)) hx hb hown cn152 dX10_chain_1 ?_
    refine lv_ldc (v := 100000) hx hb hown cn102 dX10_chain_3 ?_
    obtain ⟨P_5, HC_5, HW⟩ := HW
    refine g_callz (g_runS (As := [.int x1, .int (-100000 : Int32), .int (100000 : Int32)]) (rest := []) ⟨hx, hb, hml, hown, hts⟩ (m_X10_within l D cy ad h g H.size x1 (-100000 : Int32) (100000 : Int32) P_5 HC_5) (va_cwS 3 hts (gd_S (wm2 193 rfl rfl) (wm2 194 rfl rfl) (wm1 1 rfl rfl) (wm2 195 rfl rfl)) rfl rfl rfl (by decide +kernel) ⟨Nat.le_of_ble_eq_true rfl, Nat.le_of_ble_eq_true rfl⟩) hK hNw hG rfl rfl hl.1 rfl (lv_room (Nat.le_of_ble_eq_true rfl)) dX10_chain_5 ⟨Nat.zero_le _, Nat.zero_le _⟩) hG (fun r_5 h_5 g_5 H locs hz hq hG => ?_)
    replace HW := HW r_5 h_5 g_5 hz hq
    refine lv_if_eq (tgt := 21) hx hb dX10_chain_8 (by decide) (fun c_8 => ?_) (fun c_8 => ?_)
    · replace HW := HW.1 c_8
      refine lv_bipush (v := (-2)) hx hb dX10_chain_21 (by decide) ?_
      exact W.iret (v := (-2 : Int32)) hx hb hr (fun t ht hW => ⟨⟨(-2 : Int32), (h_5, g_5), rfl, HW, g_B ht hG⟩, hG.2.2.F ht⟩) hG.2.2.2.2 dX10_chain_23
    · replace HW := HW.2 c_8
      refine lv_iload_n hx hb dX10_chain_11 rfl (lv_at hl 2 rfl) ?_
      refine lv_iload_n hx hb dX10_chain_12 rfl (lv_at hl 1 rfl) ?_
      refine lv_ldc (v := 100000) hx hb hown cn102 dX10_chain_13 ?_
      obtain ⟨P_15, HC_15, HW⟩ := HW
      refine g_callz (g_runS (As := [.int x2, .int x1, .int (100000 : Int32)]) (rest := []) ⟨hx, hb, hml, hown, hts⟩ (m_X10_within l D cy ad h_5 g_5 H.size x2 x1 (100000 : Int32) P_15 HC_15) (va_cwS 3 hts (gd_S (wm2 193 rfl rfl) (wm2 194 rfl rfl) (wm1 1 rfl rfl) (wm2 195 rfl rfl)) rfl rfl rfl (by decide +kernel) ⟨Nat.le_of_ble_eq_true rfl, Nat.le_of_ble_eq_true rfl⟩) hK hNw hG rfl rfl hl.1 rfl (lv_room (Nat.le_of_ble_eq_true rfl)) dX10_chain_15 ⟨Nat.zero_le _, Nat.zero_le _⟩) hG (fun r_15 h_15 g_15 H locs hz hq hG => ?_)
      replace HW := HW r_15 h_15 g_15 hz hq
      refine lv_if_ne (tgt := 24) hx hb dX10_chain_18 (by decide) (fun c_18 => ?_) (fun c_18 => ?_)
      · replace HW := HW.1 c_18
        refine lv_aload_n hx hb dX10_chain_24 rfl (lv_at hl 0 rfl) ?_
        refine g_getr hx hb hw inG10 hown hK hG gl_0 rfl gk_0 (by decide) 0 (by decide) (by rw [gm_0]; decide) (r := 1) gr_0_0 lk10 dX10_chain_25 ?_
        refine g_getr hx hb hw inG6 hown hK hG gl_1 rfl gk_1 (by decide) 3 (by decide) (by rw [gm_1]; decide) (r := 8) gr_1_3 lk153 dX10_chain_28 ?_
        refine lv_iload_n hx hb dX10_chain_31 rfl (lv_at hl 1 rfl) ?_
        refine lv_iload_n hx hb dX10_chain_32 rfl (lv_at hl 2 rfl) ?_
        refine lv_iconst (v := 0) hx hb dX10_chain_33 (by decide) ?_
        refine lv_iconst (v := 0) hx hb dX10_chain_34 (by decide) ?_
        obtain ⟨P_35, HC_35, HW⟩ := HW
        refine g_calli (g_runV (As := [.int x1, .int x2, .int (0 : Int32), .int (0 : Int32)]) (rest := []) ⟨hx, hb, hml, hown, hts⟩ (m_X8_add l D cy ad h_15 g_15 H.size 8 (gs_8) x1 x2 (0 : Int32) (0 : Int32) P_35 HC_35) (cwV 4 hts (gd_V (wm2 196 rfl rfl) (wm1 53 rfl rfl) (wm1 54 rfl rfl) (wm1 3 rfl rfl) (wm1 55 rfl rfl)) rfl rfl rfl (by decide +kernel) ⟨Nat.le_of_ble_eq_true rfl, Nat.le_of_ble_eq_true rfl⟩) hK hNw hG gl_8 rfl gk_8 (by decide) rfl rfl hl.1 rfl (lv_room (Nat.le_of_ble_eq_true rfl)) dX10_chain_35 ⟨Nat.zero_le _, Nat.zero_le _⟩) hG (fun r_35 h_35 g_35 H locs hq hG => ?_)
        replace HW := HW r_35 h_35 g_35 hq
        exact W.iret (v := r_35) hx hb hr (fun t ht hW => ⟨⟨r_35, (h_35, g_35), rfl, HW, g_B ht hG⟩, hG.2.2.F ht⟩) hG.2.2.2.2 dX10_chain_38
      · replace HW := HW.2 c_18
        refine lv_bipush (v := (-2)) hx hb dX10_chain_21 (by decide) ?_
        exact W.iret (v := (-2 : Int32)) hx hb hr (fun t ht hW => ⟨⟨(-2 : Int32), (h_15, g_15), rfl, HW, g_B ht hG⟩, hG.2.2.F ht⟩) hG.2.2.2.2 dX10_chain_23
  exact E0 _ _ _ hG hl

def j_X10_link_110 (Q : Int32 → HI → HL → Prop) (x1 : Int32) (x4 : Int32) (s1 : Int32) (s2 : Int32) (s3 : Int32) (h : HI) (g : HL) : Prop :=
  (∃ P_110 : HI → HL → Prop, w_X8_put 8 s1 s2 s3 h g P_110 ∧ ∀ (h_110 : HI) (g_110 : HL), P_110 h_110 g_110 → (∃ P_126 : HI → HL → Prop, w_X8_put 8 x1 (2 : Int32) (x4 + (1 : Int32)) h_110 g_110 P_126 ∧ ∀ (h_126 : HI) (g_126 : HL), P_126 h_126 g_126 → Q (x4 + (1 : Int32)) h_126 g_126))
def w_X10_link (x1 : Int32) (x2 : Int32) (x3 : Int32) (h : HI) (g : HL) (Q : Int32 → HI → HL → Prop) : Prop :=
  (∃ P_8 : Int32 → HI → HL → Prop, w_X8_has 8 x1 h g P_8 ∧ ∀ (r_8 : Int32) (h_8 : HI) (g_8 : HL), zb r_8 → P_8 r_8 h_8 g_8 → ((r_8 = 0 → Q (-2 : Int32) h_8 g_8) ∧ (¬ r_8 = 0 → (∃ P_22 : Int32 → HI → HL → Prop, w_X8_has 2 x2 h_8 g_8 P_22 ∧ ∀ (r_22 : Int32) (h_22 : HI) (g_22 : HL), zb r_22 → P_22 r_22 h_22 g_22 → ((r_22 = 0 → Q (-2 : Int32) h_22 g_22) ∧ (¬ r_22 = 0 → (∃ P_34 : Int32 → HI → HL → Prop, w_X6_isIn 1 x1 x2 h_22 g_22 P_34 ∧ ∀ (r_34 : Int32) (h_34 : HI) (g_34 : HL), zb r_34 → P_34 r_34 h_34 g_34 → ((r_34 = 0 → (∃ P_52 : Int32 → HI → HL → Prop, w_X8_at 8 x1 (2 : Int32) h_34 g_34 P_52 ∧ ∀ (r_52 : Int32) (h_52 : HI) (g_52 : HL), P_52 r_52 h_52 g_52 → ((r_52 < (6 : Int32) → (∃ P_82 : HI → HL → Prop, w_X8_put 8 x1 ((3 : Int32) + ((2 : Int32) * r_52)) x2 h_52 g_52 P_82 ∧ ∀ (h_82 : HI) (g_82 : HL), P_82 h_82 g_82 → ((x3 = 0 → j_X10_link_110 Q x1 r_52 x1 (((3 : Int32) + ((2 : Int32) * r_52)) + (1 : Int32)) (0 : Int32) h_82 g_82) ∧ (¬ x3 = 0 → j_X10_link_110 Q x1 r_52 x1 (((3 : Int32) + ((2 : Int32) * r_52)) + (1 : Int32)) (1 : Int32) h_82 g_82)))) ∧ (¬ r_52 < (6 : Int32) → Q (-4 : Int32) h_52 g_52)))) ∧ (¬ r_34 = 0 → Q (-2 : Int32) h_34 g_34)))))))))
set_option maxHeartbeats 8000000 in
set_option maxRecDepth 100000 in
theorem m_X10_link (l : Launch) (D : va_G) (cy : Nat → ClassId) (ad : Nat → Nat) (h : HI) (g : HL) (sz : Nat) (x1 : Int32) (x2 : Int32) (x3 : Int32) (Q : Int32 → HI → HL → Prop) (HW : w_X10_link x1 x2 x3 h g Q) : Met l yX10_link (wa yX10_link cX10_link 5 (some .int)) ({ frames := 2, cells := 0, slots := 0, locals := 47 }) (va_Pc [.ref (ad 0), .int x1, .int x2, .int x3] (gI D cy ad h g sz)) (va_Qi (fun (r : Int32) (u : HI × HL) => Q r u.1 u.2) (gB D cy ad sz) (gA ad sz)) 0 0 (gA ad sz) := by
  refine Met.ofW (cc := cX10_link) (maxL := 5) (ret := (some .int)) (by decide) rfl ?_
  intro p e s m args below meth c s₁ B hml hv
  obtain ⟨hav, hsz, hP, hK, hD0, hNw⟩ := hv
  have hx := B.exec
  have hb := B.bytes
  have hr := B.returns
  have hts := atoms_spec (ws := (wa yX10_link cX10_link 5 (some .int))) B.pre
  have hw := wa_hw hts
  have hown : s.vm.findClass RX10 = some m.cls := findClass_of_methodNamed B.named
  have hlocks := B.notSynchronized
  subst hsz
  have hG : gG D cy ad (gA ad s.heap.size) s.heap h g s.heap [] := ⟨hP, gA_self hD0, va_S.rf⟩
  clear hP hD0
  have lk10 := hw (.fieldLink RX10 10 "OldWorks" "shop" "LOldWorks$Shop;") (wm2 155 rfl rfl)
  have lk153 := hw (.fieldLink RX10 153 "OldWorks$Shop" "chains" "LOldWorks$Table;") (wm1 73 rfl rfl)
  have lk85 := hw (.fieldLink RX10 85 "OldWorks$Shop" "parts" "LOldWorks$Table;") (wm1 62 rfl rfl)
  rw [show (headSpec (wa yX10_link cX10_link 5 (some .int)) ({ frames := 2, cells := 0, slots := 0, locals := 47 } : Room)).room = ({ frames := 2, cells := 0, slots := 0, locals := 47 } : Room) from rfl]
  have hl := lv_entry ([.ref (ad 0), .int x1, .int x2, .int x3]) (n := 5) (Nat.le_of_ble_eq_true rfl)
  rw [show entryFrame m args 5 = entryFrame m ([.ref (ad 0), .int x1, .int x2, .int x3] : List Value).toArray 5 from by rw [hav], lg_entry_eq]
  generalize (lg_sl ([.ref (ad 0), .int x1, .int x2, .int x3]) ++ List.replicate (5 - (lg_sl ([.ref (ad 0), .int x1, .int x2, .int x3])).length) Slot.unset).toArray = ls at hl ⊢
  have hl : lv_has ls 5 [(0, .ref (ad 0)), (1, .int x1), (2, .int x2), (3, .int x3)] := hl
  have B110 : ∀ (x1 : Int32) (x4 : Int32) (s1 : Int32) (s2 : Int32) (s3 : Int32) (h : HI) (g : HL) (H : Heap) (locs : List Loc) (ls : Array Slot), j_X10_link_110 Q x1 x4 s1 s2 s3 h g → gG D cy ad (gA ad s.heap.size) s.heap h g H locs → lv_has ls 5 [(0, .ref (ad 0)), (1, .int x1), (4, .int x4)] → W p l e ({ frames := 2, cells := 0, slots := 0, locals := 47 } : Room) s m args below meth c H locs 0 0 (MQ below (va_Qi (fun (r : Int32) (u : HI × HL) => Q r u.1 u.2) (gB D cy ad s.heap.size) (gA ad s.heap.size)) args s 0 0 (gA ad s.heap.size)) (F0 m 110 ls [.int s3, .int s2, .int s1, .ref (ad 8)]) := by
    intro x1 x4 s1 s2 s3 h g H locs ls HW hG hl
    unfold j_X10_link_110 at HW
    obtain ⟨P_110, HC_110, HW⟩ := HW
    refine g_callv (g_runV (As := [.int s1, .int s2, .int s3]) (rest := []) ⟨hx, hb, hml, hown, hts⟩ (m_X8_put l D cy ad h g H.size 8 (gs_8) s1 s2 s3 P_110 HC_110) (cwV 3 hts (gd_V (wm2 207 rfl rfl) (wm1 57 rfl rfl) (wm1 58 rfl rfl) (wm1 3 rfl rfl) (wm1 59 rfl rfl)) rfl rfl rfl (by decide +kernel) ⟨Nat.le_of_ble_eq_true rfl, Nat.le_of_ble_eq_true rfl⟩) hK hNw hG gl_8 rfl gk_8 (by decide) rfl rfl hl.1 rfl (lv_room (Nat.le_of_ble_eq_true rfl)) dX10_link_110 ⟨Nat.zero_le _, Nat.zero_le _⟩) hG (fun h_110 g_110 H locs hq hG => ?_)
    replace HW := HW h_110 g_110 hq
    refine lv_aload_n hx hb dX10_link_113 rfl (lv_at hl 0 rfl) ?_
    refine g_getr hx hb hw inG10 hown hK hG gl_0 rfl gk_0 (by decide) 0 (by decide) (by rw [gm_0]; decide) (r := 1) gr_0_0 lk10 dX10_link_114 ?_
    refine g_getr hx hb hw inG6 hown hK hG gl_1 rfl gk_1 (by decide) 3 (by decide) (by rw [gm_1]; decide) (r := 8) gr_1_3 lk153 dX10_link_117 ?_
    refine lv_iload_n hx hb dX10_link_120 rfl (lv_at hl 1 rfl) ?_
    refine lv_iconst (v := 2) hx hb dX10_link_121 (by decide) ?_
    refine lv_iload hx hb dX10_link_122 (lv_at hl 2 rfl) ?_
    refine lv_iconst (v := 1) hx hb dX10_link_124 (by decide) ?_
    refine lv_iadd hx hb dX10_link_125 ?_
    obtain ⟨P_126, HC_126, HW⟩ := HW
    refine g_callv (g_runV (As := [.int x1, .int (2 : Int32), .int (x4 + (1 : Int32))]) (rest := []) ⟨hx, hb, hml, hown, hts⟩ (m_X8_put l D cy ad h_110 g_110 H.size 8 (gs_8) x1 (2 : Int32) (x4 + (1 : Int32)) P_126 HC_126) (cwV 3 hts (gd_V (wm2 207 rfl rfl) (wm1 57 rfl rfl) (wm1 58 rfl rfl) (wm1 3 rfl rfl) (wm1 59 rfl rfl)) rfl rfl rfl (by decide +kernel) ⟨Nat.le_of_ble_eq_true rfl, Nat.le_of_ble_eq_true rfl⟩) hK hNw hG gl_8 rfl gk_8 (by decide) rfl rfl hl.1 rfl (lv_room (Nat.le_of_ble_eq_true rfl)) dX10_link_126 ⟨Nat.zero_le _, Nat.zero_le _⟩) hG (fun h_126 g_126 H locs hq hG => ?_)
    replace HW := HW h_126 g_126 hq
    refine lv_iload hx hb dX10_link_129 (lv_at hl 2 rfl) ?_
    refine lv_iconst (v := 1) hx hb dX10_link_131 (by decide) ?_
    refine lv_iadd hx hb dX10_link_132 ?_
    exact W.iret (v := (x4 + (1 : Int32))) hx hb hr (fun t ht hW => ⟨⟨(x4 + (1 : Int32)), (h_126, g_126), rfl, HW, g_B ht hG⟩, hG.2.2.F ht⟩) hG.2.2.2.2 dX10_link_133
  have E0 : ∀ (H : Heap) (locs : List Loc) (ls : Array Slot), gG D cy ad (gA ad s.heap.size) s.heap h g H locs → lv_has ls 5 [(0, .ref (ad 0)), (1, .int x1), (2, .int x2), (3, .int x3)] → W p l e ({ frames := 2, cells := 0, slots := 0, locals := 47 } : Room) s m args below meth c H locs 0 0 (MQ below (va_Qi (fun (r : Int32) (u : HI × HL) => Q r u.1 u.2) (gB D cy ad s.heap.size) (gA ad s.heap.size)) args s 0 0 (gA ad s.heap.size)) (F0 m 0 ls []) := by
    intro H locs ls hG hl
    unfold w_X10_link at HW
    refine lv_aload_n hx hb dX10_link_0 rfl (lv_at hl 0 rfl) ?_
    refine g_getr hx hb hw inG10 hown hK hG gl_0 rfl gk_0 (by decide) 0 (by decide) (by rw [gm_0]; decide) (r := 1) gr_0_0 lk10 dX10_link_1 ?_
    refine g_getr hx hb hw inG6 hown hK hG gl_1 rfl gk_1 (by decide) 3 (by decide) (by rw [gm_1]; decide) (r := 8) gr_1_3 lk153 dX10_link_4 ?_
    refine lv_iload_n hx hb dX10_link_7 rfl (lv_at hl 1 rfl) ?_
    obtain ⟨P_8, HC_8, HW⟩ := HW
    refine g_callz (g_runV (As := [.int x1]) (rest := []) ⟨hx, hb, hml, hown, hts⟩ (m_X8_has l D cy ad h g H.size 8 (gs_8) x1 P_8 HC_8) (cwV 1 hts (gd_V (wm2 201 rfl rfl) (wm2 202 rfl rfl) (wm2 203 rfl rfl) (wm1 3 rfl rfl) (wm2 204 rfl rfl)) rfl rfl rfl (by decide +kernel) ⟨Nat.le_of_ble_eq_true rfl, Nat.le_of_ble_eq_true rfl⟩) hK hNw hG gl_8 rfl gk_8 (by decide) rfl rfl hl.1 rfl (lv_room (Nat.le_of_ble_eq_true rfl)) dX10_link_8 ⟨Nat.zero_le _, Nat.zero_le _⟩) hG (fun r_8 h_8 g_8 H locs hz hq hG => ?_)
    replace HW := HW r_8 h_8 g_8 hz hq
    refine lv_if_eq (tgt := 40) hx hb dX10_link_11 (by decide) (fun c_11 => ?_) (fun c_11 => ?_)
    · replace HW := HW.1 c_11
      refine lv_bipush (v := (-2)) hx hb dX10_link_40 (by decide) ?_
      exact W.iret (v := (-2 : Int32)) hx hb hr (fun t ht hW => ⟨⟨(-2 : Int32), (h_8, g_8), rfl, HW, g_B ht hG⟩, hG.2.2.F ht⟩) hG.2.2.2.2 dX10_link_42
    · replace HW := HW.2 c_11
      refine lv_aload_n hx hb dX10_link_14 rfl (lv_at hl 0 rfl) ?_
      refine g_getr hx hb hw inG10 hown hK hG gl_0 rfl gk_0 (by decide) 0 (by decide) (by rw [gm_0]; decide) (r := 1) gr_0_0 lk10 dX10_link_15 ?_
      refine g_getr hx hb hw inG6 hown hK hG gl_1 rfl gk_1 (by decide) 0 (by decide) (by rw [gm_1]; decide) (r := 2) gr_1_0 lk85 dX10_link_18 ?_
      refine lv_iload_n hx hb dX10_link_21 rfl (lv_at hl 2 rfl) ?_
      obtain ⟨P_22, HC_22, HW⟩ := HW
      refine g_callz (g_runV (As := [.int x2]) (rest := []) ⟨hx, hb, hml, hown, hts⟩ (m_X8_has l D cy ad h_8 g_8 H.size 2 (gs_2) x2 P_22 HC_22) (cwV 1 hts (gd_V (wm2 201 rfl rfl) (wm2 202 rfl rfl) (wm2 203 rfl rfl) (wm1 3 rfl rfl) (wm2 204 rfl rfl)) rfl rfl rfl (by decide +kernel) ⟨Nat.le_of_ble_eq_true rfl, Nat.le_of_ble_eq_true rfl⟩) hK hNw hG gl_2 rfl gk_2 (by decide) rfl rfl hl.1 rfl (lv_room (Nat.le_of_ble_eq_true rfl)) dX10_link_22 ⟨Nat.zero_le _, Nat.zero_le _⟩) hG (fun r_22 h_22 g_22 H locs hz hq hG => ?_)
      replace HW := HW r_22 h_22 g_22 hz hq
      refine lv_if_eq (tgt := 40) hx hb dX10_link_25 (by decide) (fun c_25 => ?_) (fun c_25 => ?_)
      · replace HW := HW.1 c_25
        refine lv_bipush (v := (-2)) hx hb dX10_link_40 (by decide) ?_
        exact W.iret (v := (-2 : Int32)) hx hb hr (fun t ht hW => ⟨⟨(-2 : Int32), (h_22, g_22), rfl, HW, g_B ht hG⟩, hG.2.2.F ht⟩) hG.2.2.2.2 dX10_link_42
      · replace HW := HW.2 c_25
        refine lv_aload_n hx hb dX10_link_28 rfl (lv_at hl 0 rfl) ?_
        refine g_getr hx hb hw inG10 hown hK hG gl_0 rfl gk_0 (by decide) 0 (by decide) (by rw [gm_0]; decide) (r := 1) gr_0_0 lk10 dX10_link_29 ?_
        refine lv_iload_n hx hb dX10_link_32 rfl (lv_at hl 1 rfl) ?_
        refine lv_iload_n hx hb dX10_link_33 rfl (lv_at hl 2 rfl) ?_
        obtain ⟨P_34, HC_34, HW⟩ := HW
        refine g_callz (g_runV (As := [.int x1, .int x2]) (rest := []) ⟨hx, hb, hml, hown, hts⟩ (m_X6_isIn l D cy ad h_22 g_22 H.size 1 (gs_1) x1 x2 P_34 HC_34) (cwV 2 hts (gd_V (wm3 139 rfl rfl) (wm3 140 rfl rfl) (wm3 141 rfl rfl) (wm1 2 rfl rfl) (wm3 142 rfl rfl)) rfl rfl rfl (by decide +kernel) ⟨Nat.le_of_ble_eq_true rfl, Nat.le_of_ble_eq_true rfl⟩) hK hNw hG gl_1 rfl gk_1 (by decide) rfl rfl hl.1 rfl (lv_room (Nat.le_of_ble_eq_true rfl)) dX10_link_34 ⟨Nat.zero_le _, Nat.zero_le _⟩) hG (fun r_34 h_34 g_34 H locs hz hq hG => ?_)
        replace HW := HW r_34 h_34 g_34 hz hq
        refine lv_if_eq (tgt := 43) hx hb dX10_link_37 (by decide) (fun c_37 => ?_) (fun c_37 => ?_)
        · replace HW := HW.1 c_37
          refine lv_aload_n hx hb dX10_link_43 rfl (lv_at hl 0 rfl) ?_
          refine g_getr hx hb hw inG10 hown hK hG gl_0 rfl gk_0 (by decide) 0 (by decide) (by rw [gm_0]; decide) (r := 1) gr_0_0 lk10 dX10_link_44 ?_
          refine g_getr hx hb hw inG6 hown hK hG gl_1 rfl gk_1 (by decide) 3 (by decide) (by rw [gm_1]; decide) (r := 8) gr_1_3 lk153 dX10_link_47 ?_
          refine lv_iload_n hx hb dX10_link_50 rfl (lv_at hl 1 rfl) ?_
          refine lv_iconst (v := 2) hx hb dX10_link_51 (by decide) ?_
          obtain ⟨P_52, HC_52, HW⟩ := HW
          refine g_calli (g_runV (As := [.int x1, .int (2 : Int32)]) (rest := []) ⟨hx, hb, hml, hown, hts⟩ (m_X8_at l D cy ad h_34 g_34 H.size 8 (gs_8) x1 (2 : Int32) P_52 HC_52) (cwV 2 hts (gd_V (wm3 69 rfl rfl) (wm2 221 rfl rfl) (wm2 222 rfl rfl) (wm1 3 rfl rfl) (wm2 223 rfl rfl)) rfl rfl rfl (by decide +kernel) ⟨Nat.le_of_ble_eq_true rfl, Nat.le_of_ble_eq_true rfl⟩) hK hNw hG gl_8 rfl gk_8 (by decide) rfl rfl hl.1 rfl (lv_room (Nat.le_of_ble_eq_true rfl)) dX10_link_52 ⟨Nat.zero_le _, Nat.zero_le _⟩) hG (fun r_52 h_52 g_52 H locs hq hG => ?_)
          replace HW := HW r_52 h_52 g_52 hq
          refine lv_istore (lv' := [(4, .int r_52), (0, .ref (ad 0)), (1, .int x1), (2, .int x2), (3, .int x3)]) hx hb dX10_link_55 hl (by decide) rfl (fun ls hl => ?_)
          refine lv_iload hx hb dX10_link_57 (lv_at hl 0 rfl) ?_
          refine lv_bipush (v := 6) hx hb dX10_link_59 (by decide) ?_
          refine lv_icmp_lt (tgt := 67) hx hb dX10_link_61 (by decide) (fun c_61 => ?_) (fun c_61 => ?_)
          · replace HW := HW.1 c_61
            refine lv_aload_n hx hb dX10_link_67 rfl (lv_at hl 1 rfl) ?_
            refine g_getr hx hb hw inG10 hown hK hG gl_0 rfl gk_0 (by decide) 0 (by decide) (by rw [gm_0]; decide) (r := 1) gr_0_0 lk10 dX10_link_68 ?_
            refine g_getr hx hb hw inG6 hown hK hG gl_1 rfl gk_1 (by decide) 3 (by decide) (by rw [gm_1]; decide) (r := 8) gr_1_3 lk153 dX10_link_71 ?_
            refine lv_iload_n hx hb dX10_link_74 rfl (lv_at hl 2 rfl) ?_
            refine lv_iconst (v := 3) hx hb dX10_link_75 (by decide) ?_
            refine lv_iconst (v := 2) hx hb dX10_link_76 (by decide) ?_
            refine lv_iload hx hb dX10_link_77 (lv_at hl 0 rfl) ?_
            refine lv_imul hx hb dX10_link_79 ?_
            refine lv_iadd hx hb dX10_link_80 ?_
            refine lv_iload_n hx hb dX10_link_81 rfl (lv_at hl 3 rfl) ?_
            obtain ⟨P_82, HC_82, HW⟩ := HW
            refine g_callv (g_runV (As := [.int x1, .int ((3 : Int32) + ((2 : Int32) * r_52)), .int x2]) (rest := []) ⟨hx, hb, hml, hown, hts⟩ (m_X8_put l D cy ad h_52 g_52 H.size 8 (gs_8) x1 ((3 : Int32) + ((2 : Int32) * r_52)) x2 P_82 HC_82) (cwV 3 hts (gd_V (wm2 207 rfl rfl) (wm1 57 rfl rfl) (wm1 58 rfl rfl) (wm1 3 rfl rfl) (wm1 59 rfl rfl)) rfl rfl rfl (by decide +kernel) ⟨Nat.le_of_ble_eq_true rfl, Nat.le_of_ble_eq_true rfl⟩) hK hNw hG gl_8 rfl gk_8 (by decide) rfl rfl hl.1 rfl (lv_room (Nat.le_of_ble_eq_true rfl)) dX10_link_82 ⟨Nat.zero_le _, Nat.zero_le _⟩) hG (fun h_82 g_82 H locs hq hG => ?_)
            replace HW := HW h_82 g_82 hq
            refine lv_aload_n hx hb dX10_link_85 rfl (lv_at hl 1 rfl) ?_
            refine g_getr hx hb hw inG10 hown hK hG gl_0 rfl gk_0 (by decide) 0 (by decide) (by rw [gm_0]; decide) (r := 1) gr_0_0 lk10 dX10_link_86 ?_
            refine g_getr hx hb hw inG6 hown hK hG gl_1 rfl gk_1 (by decide) 3 (by decide) (by rw [gm_1]; decide) (r := 8) gr_1_3 lk153 dX10_link_89 ?_
            refine lv_iload_n hx hb dX10_link_92 rfl (lv_at hl 2 rfl) ?_
            refine lv_iconst (v := 3) hx hb dX10_link_93 (by decide) ?_
            refine lv_iconst (v := 2) hx hb dX10_link_94 (by decide) ?_
            refine lv_iload hx hb dX10_link_95 (lv_at hl 0 rfl) ?_
            refine lv_imul hx hb dX10_link_97 ?_
            refine lv_iadd hx hb dX10_link_98 ?_
            refine lv_iconst (v := 1) hx hb dX10_link_99 (by decide) ?_
            refine lv_iadd hx hb dX10_link_100 ?_
            refine lv_iload_n hx hb dX10_link_101 rfl (lv_at hl 4 rfl) ?_
            refine lv_if_eq (tgt := 109) hx hb dX10_link_102 (by decide) (fun c_102 => ?_) (fun c_102 => ?_)
            · replace HW := HW.1 c_102
              refine lv_iconst (v := 0) hx hb dX10_link_109 (by decide) ?_
              exact B110 x1 r_52 x1 (((3 : Int32) + ((2 : Int32) * r_52)) + (1 : Int32)) (0 : Int32) h_82 g_82 _ _ _ HW hG (lv_sub hl [1, 2, 0] rfl)
            · replace HW := HW.2 c_102
              refine lv_iconst (v := 1) hx hb dX10_link_105 (by decide) ?_
              refine lv_goto (tgt := 110) hx hb dX10_link_106 (by decide) ?_
              exact B110 x1 r_52 x1 (((3 : Int32) + ((2 : Int32) * r_52)) + (1 : Int32)) (1 : Int32) h_82 g_82 _ _ _ HW hG (lv_sub hl [1, 2, 0] rfl)
          · replace HW := HW.2 c_61
            refine lv_bipush (v := (-4)) hx hb dX10_link_64 (by decide) ?_
            exact W.iret (v := (-4 : Int32)) hx hb hr (fun t ht hW => ⟨⟨(-4 : Int32), (h_52, g_52), rfl, HW, g_B ht hG⟩, hG.2.2.F ht⟩) hG.2.2.2.2 dX10_link_66
        · replace HW := HW.2 c_37
          refine lv_bipush (v := (-2)) hx hb dX10_link_40 (by decide) ?_
          exact W.iret (v := (-2 : Int32)) hx hb hr (fun t ht hW => ⟨⟨(-2 : Int32), (h_34, g_34), rfl, HW, g_B ht hG⟩, hG.2.2.F ht⟩) hG.2.2.2.2 dX10_link_42
  exact E0 _ _ _ hG hl

def w_X10_sum (x1 : Int32) (x2 : Int32) (x3 : Int32) (h : HI) (g : HL) (Q : Int32 → HI → HL → Prop) : Prop :=
  (∃ P_8 : Int32 → HI → HL → Prop, w_X8_has 8 x1 h g P_8 ∧ ∀ (r_8 : Int32) (h_8 : HI) (g_8 : HL), zb r_8 → P_8 r_8 h_8 g_8 → ((r_8 = 0 → Q (-2100000000 : Int32) h_8 g_8) ∧ (¬ r_8 = 0 → (∃ P_18 : Int32 → HI → HL → Prop, w_X10_within x2 (0 : Int32) (99 : Int32) h_8 g_8 P_18 ∧ ∀ (r_18 : Int32) (h_18 : HI) (g_18 : HL), zb r_18 → P_18 r_18 h_18 g_18 → ((r_18 = 0 → Q (-2100000000 : Int32) h_18 g_18) ∧ (¬ r_18 = 0 → (∃ P_27 : Int32 → HI → HL → Prop, w_X10_within x3 (0 : Int32) (2 : Int32) h_18 g_18 P_27 ∧ ∀ (r_27 : Int32) (h_27 : HI) (g_27 : HL), zb r_27 → P_27 r_27 h_27 g_27 → ((¬ r_27 = 0 → (∃ P_43 : HI → HL → Prop, w_X2_take x1 (-1 : Int32) (-1 : Int32) h_27 g_27 P_43 ∧ ∀ (h_43 : HI) (g_43 : HL), P_43 h_43 g_43 → ((¬ x3 = (2 : Int32) → ((¬ (h_43 85 7) = 0 → (∃ P_86 : HI → HL → Prop, w_X2_addUp x2 h_43 g_43 P_86 ∧ ∀ (h_86 : HI) (g_86 : HL), P_86 h_86 g_86 → ((¬ x3 = 0 → Q (h_86 85 9) h_86 g_86) ∧ (x3 = 0 → Q (h_86 85 8) h_86 g_86)))) ∧ ((h_43 85 7) = 0 → Q (-2000000000 : Int32) h_43 g_43))) ∧ (x3 = (2 : Int32) → (∃ P_56 : Int32 → HI → HL → Prop, w_X2_holdIn x2 h_43 g_43 P_56 ∧ ∀ (r_56 : Int32) (h_56 : HI) (g_56 : HL), zb r_56 → P_56 r_56 h_56 g_56 → ((r_56 = 0 → Q (0 : Int32) h_56 g_56) ∧ (¬ r_56 = 0 → Q (1 : Int32) h_56 g_56))))))) ∧ (r_27 = 0 → Q (-2100000000 : Int32) h_27 g_27)))))))))
set_option maxHeartbeats 8000000 in
set_option maxRecDepth 100000 in
theorem m_X10_sum (l : Launch) (D : va_G) (cy : Nat → ClassId) (ad : Nat → Nat) (h : HI) (g : HL) (sz : Nat) (x1 : Int32) (x2 : Int32) (x3 : Int32) (Q : Int32 → HI → HL → Prop) (HW : w_X10_sum x1 x2 x3 h g Q) : Met l yX10_sum (wa yX10_sum cX10_sum 4 (some .int)) ({ frames := 6, cells := 0, slots := 0, locals := 150 }) (va_Pc [.ref (ad 0), .int x1, .int x2, .int x3] (gI D cy ad h g sz)) (va_Qi (fun (r : Int32) (u : HI × HL) => Q r u.1 u.2) (gB D cy ad sz) (gA ad sz)) 0 0 (gA ad sz) := by
  refine Met.ofW (cc := cX10_sum) (maxL := 4) (ret := (some .int)) (by decide) rfl ?_
  intro p e s m args below meth c s₁ B hml hv
  obtain ⟨hav, hsz, hP, hK, hD0, hNw⟩ := hv
  have hx := B.exec
  have hb := B.bytes
  have hr := B.returns
  have hts := atoms_spec (ws := (wa yX10_sum cX10_sum 4 (some .int))) B.pre
  have hw := wa_hw hts
  have hown : s.vm.findClass RX10 = some m.cls := findClass_of_methodNamed B.named
  have hlocks := B.notSynchronized
  subst hsz
  have hG : gG D cy ad (gA ad s.heap.size) s.heap h g s.heap [] := ⟨hP, gA_self hD0, va_S.rf⟩
  clear hP hD0
  have lk10 := hw (.fieldLink RX10 10 "OldWorks" "shop" "LOldWorks$Shop;") (wm2 155 rfl rfl)
  have lk153 := hw (.fieldLink RX10 153 "OldWorks$Shop" "chains" "LOldWorks$Table;") (wm1 73 rfl rfl)
  have cn160 := hw (.constant RX10 160 (-2100000000)) (wm3 148 rfl rfl)
  have lk49 := hw (.fieldLink RX10 49 "OldWorks" "fits" "LOldWorks$Fits;") (wm2 161 rfl rfl)
  have lk167 := hw (.fieldLink RX10 167 "OldWorks$Fits" "sized" "Z") (wm1 222 rfl rfl)
  have lk179 := hw (.fieldLink RX10 179 "OldWorks$Fits" "greatest" "I") (wm1 226 rfl rfl)
  have lk175 := hw (.fieldLink RX10 175 "OldWorks$Fits" "least" "I") (wm1 224 rfl rfl)
  have cn171 := hw (.constant RX10 171 (-2000000000)) (wm3 164 rfl rfl)
  rw [show (headSpec (wa yX10_sum cX10_sum 4 (some .int)) ({ frames := 6, cells := 0, slots := 0, locals := 150 } : Room)).room = ({ frames := 6, cells := 0, slots := 0, locals := 150 } : Room) from rfl]
  have hl := lv_entry ([.ref (ad 0), .int x1, .int x2, .int x3]) (n := 4) (Nat.le_of_ble_eq_true rfl)
  rw [show entryFrame m args 4 = entryFrame m ([.ref (ad 0), .int x1, .int x2, .int x3] : List Value).toArray 4 from by rw [hav], lg_entry_eq]
  generalize (lg_sl ([.ref (ad 0), .int x1, .int x2, .int x3]) ++ List.replicate (4 - (lg_sl ([.ref (ad 0), .int x1, .int x2, .int x3])).length) Slot.unset).toArray = ls at hl ⊢
  have hl : lv_has ls 4 [(0, .ref (ad 0)), (1, .int x1), (2, .int x2), (3, .int x3)] := hl
  have E0 : ∀ (H : Heap) (locs : List Loc) (ls : Array Slot), gG D cy ad (gA ad s.heap.size) s.heap h g H locs → lv_has ls 4 [(0, .ref (ad 0)), (1, .int x1), (2, .int x2), (3, .int x3)] → W p l e ({ frames := 6, cells := 0, slots := 0, locals := 150 } : Room) s m args below meth c H locs 0 0 (MQ below (va_Qi (fun (r : Int32) (u : HI × HL) => Q r u.1 u.2) (gB D cy ad s.heap.size) (gA ad s.heap.size)) args s 0 0 (gA ad s.heap.size)) (F0 m 0 ls []) := by
    intro H locs ls hG hl
    unfold w_X10_sum at HW
    refine lv_aload_n hx hb dX10_sum_0 rfl (lv_at hl 0 rfl) ?_
    refine g_getr hx hb hw inG10 hown hK hG gl_0 rfl gk_0 (by decide) 0 (by decide) (by rw [gm_0]; decide) (r := 1) gr_0_0 lk10 dX10_sum_1 ?_
    refine g_getr hx hb hw inG6 hown hK hG gl_1 rfl gk_1 (by decide) 3 (by decide) (by rw [gm_1]; decide) (r := 8) gr_1_3 lk153 dX10_sum_4 ?_
    refine lv_iload_n hx hb dX10_sum_7 rfl (lv_at hl 1 rfl) ?_
    obtain ⟨P_8, HC_8, HW⟩ := HW
    refine g_callz (g_runV (As := [.int x1]) (rest := []) ⟨hx, hb, hml, hown, hts⟩ (m_X8_has l D cy ad h g H.size 8 (gs_8) x1 P_8 HC_8) (cwV 1 hts (gd_V (wm2 201 rfl rfl) (wm2 202 rfl rfl) (wm2 203 rfl rfl) (wm1 3 rfl rfl) (wm2 204 rfl rfl)) rfl rfl rfl (by decide +kernel) ⟨Nat.le_of_ble_eq_true rfl, Nat.le_of_ble_eq_true rfl⟩) hK hNw hG gl_8 rfl gk_8 (by decide) rfl rfl hl.1 rfl (lv_room (Nat.le_of_ble_eq_true rfl)) dX10_sum_8 ⟨Nat.zero_le _, Nat.zero_le _⟩) hG (fun r_8 h_8 g_8 H locs hz hq hG => ?_)
    replace HW := HW r_8 h_8 g_8 hz hq
    refine lv_if_eq (tgt := 33) hx hb dX10_sum_11 (by decide) (fun c_11 => ?_) (fun c_11 => ?_)
    · replace HW := HW.1 c_11
      refine lv_ldc (v := (-2100000000)) hx hb hown cn160 dX10_sum_33 ?_
      exact W.iret (v := (-2100000000 : Int32)) hx hb hr (fun t ht hW => ⟨⟨(-2100000000 : Int32), (h_8, g_8), rfl, HW, g_B ht hG⟩, hG.2.2.F ht⟩) hG.2.2.2.2 dX10_sum_35
    · replace HW := HW.2 c_11
      refine lv_iload_n hx hb dX10_sum_14 rfl (lv_at hl 2 rfl) ?_
      refine lv_iconst (v := 0) hx hb dX10_sum_15 (by decide) ?_
      refine lv_bipush (v := 99) hx hb dX10_sum_16 (by decide) ?_
      obtain ⟨P_18, HC_18, HW⟩ := HW
      refine g_callz (g_runS (As := [.int x2, .int (0 : Int32), .int (99 : Int32)]) (rest := []) ⟨hx, hb, hml, hown, hts⟩ (m_X10_within l D cy ad h_8 g_8 H.size x2 (0 : Int32) (99 : Int32) P_18 HC_18) (va_cwS 3 hts (gd_S (wm2 193 rfl rfl) (wm2 194 rfl rfl) (wm1 1 rfl rfl) (wm2 195 rfl rfl)) rfl rfl rfl (by decide +kernel) ⟨Nat.le_of_ble_eq_true rfl, Nat.le_of_ble_eq_true rfl⟩) hK hNw hG rfl rfl hl.1 rfl (lv_room (Nat.le_of_ble_eq_true rfl)) dX10_sum_18 ⟨Nat.zero_le _, Nat.zero_le _⟩) hG (fun r_18 h_18 g_18 H locs hz hq hG => ?_)
      replace HW := HW r_18 h_18 g_18 hz hq
      refine lv_if_eq (tgt := 33) hx hb dX10_sum_21 (by decide) (fun c_21 => ?_) (fun c_21 => ?_)
      · replace HW := HW.1 c_21
        refine lv_ldc (v := (-2100000000)) hx hb hown cn160 dX10_sum_33 ?_
        exact W.iret (v := (-2100000000 : Int32)) hx hb hr (fun t ht hW => ⟨⟨(-2100000000 : Int32), (h_18, g_18), rfl, HW, g_B ht hG⟩, hG.2.2.F ht⟩) hG.2.2.2.2 dX10_sum_35
      · replace HW := HW.2 c_21
        refine lv_iload_n hx hb dX10_sum_24 rfl (lv_at hl 3 rfl) ?_
        refine lv_iconst (v := 0) hx hb dX10_sum_25 (by decide) ?_
        refine lv_iconst (v := 2) hx hb dX10_sum_26 (by decide) ?_
        obtain ⟨P_27, HC_27, HW⟩ := HW
        refine g_callz (g_runS (As := [.int x3, .int (0 : Int32), .int (2 : Int32)]) (rest := []) ⟨hx, hb, hml, hown, hts⟩ (m_X10_within l D cy ad h_18 g_18 H.size x3 (0 : Int32) (2 : Int32) P_27 HC_27) (va_cwS 3 hts (gd_S (wm2 193 rfl rfl) (wm2 194 rfl rfl) (wm1 1 rfl rfl) (wm2 195 rfl rfl)) rfl rfl rfl (by decide +kernel) ⟨Nat.le_of_ble_eq_true rfl, Nat.le_of_ble_eq_true rfl⟩) hK hNw hG rfl rfl hl.1 rfl (lv_room (Nat.le_of_ble_eq_true rfl)) dX10_sum_27 ⟨Nat.zero_le _, Nat.zero_le _⟩) hG (fun r_27 h_27 g_27 H locs hz hq hG => ?_)
        replace HW := HW r_27 h_27 g_27 hz hq
        refine lv_if_ne (tgt := 36) hx hb dX10_sum_30 (by decide) (fun c_30 => ?_) (fun c_30 => ?_)
        · replace HW := HW.1 c_30
          refine lv_aload_n hx hb dX10_sum_36 rfl (lv_at hl 0 rfl) ?_
          refine g_getr hx hb hw inG10 hown hK hG gl_0 rfl gk_0 (by decide) 6 (by decide) (by rw [gm_0]; decide) (r := 85) gr_0_6 lk49 dX10_sum_37 ?_
          refine lv_iload_n hx hb dX10_sum_40 rfl (lv_at hl 1 rfl) ?_
          refine lv_iconst (v := (-1)) hx hb dX10_sum_41 (by decide) ?_
          refine lv_iconst (v := (-1)) hx hb dX10_sum_42 (by decide) ?_
          obtain ⟨P_43, HC_43, HW⟩ := HW
          refine g_callv (g_runV (As := [.int x1, .int (-1 : Int32), .int (-1 : Int32)]) (rest := []) ⟨hx, hb, hml, hown, hts⟩ (m_X2_take l D cy ad h_27 g_27 H.size x1 (-1 : Int32) (-1 : Int32) P_43 HC_43) (cwV 3 hts (gd_V (wm3 149 rfl rfl) (wm3 150 rfl rfl) (wm3 151 rfl rfl) (wm1 6 rfl rfl) (wm3 152 rfl rfl)) rfl rfl rfl (by decide +kernel) ⟨Nat.le_of_ble_eq_true rfl, Nat.le_of_ble_eq_true rfl⟩) hK hNw hG gl_85 rfl gk_85 (by decide) rfl rfl hl.1 rfl (lv_room (Nat.le_of_ble_eq_true rfl)) dX10_sum_43 ⟨Nat.zero_le _, Nat.zero_le _⟩) hG (fun h_43 g_43 H locs hq hG => ?_)
          replace HW := HW h_43 g_43 hq
          refine lv_iload_n hx hb dX10_sum_46 rfl (lv_at hl 3 rfl) ?_
          refine lv_iconst (v := 2) hx hb dX10_sum_47 (by decide) ?_
          refine lv_icmp_ne (tgt := 68) hx hb dX10_sum_48 (by decide) (fun c_48 => ?_) (fun c_48 => ?_)
          · replace HW := HW.1 c_48
            refine lv_aload_n hx hb dX10_sum_68 rfl (lv_at hl 0 rfl) ?_
            refine g_getr hx hb hw inG10 hown hK hG gl_0 rfl gk_0 (by decide) 6 (by decide) (by rw [gm_0]; decide) (r := 85) gr_0_6 lk49 dX10_sum_69 ?_
            refine g_geti hx hb hw inG2 hown hK hG gl_85 rfl gk_85 (by decide) 7 (by decide) (by rw [gm_85]; decide) gr_85_7 lk167 dX10_sum_72 ?_
            refine lv_if_ne (tgt := 81) hx hb dX10_sum_75 (by decide) (fun c_75 => ?_) (fun c_75 => ?_)
            · replace HW := HW.1 c_75
              refine lv_aload_n hx hb dX10_sum_81 rfl (lv_at hl 0 rfl) ?_
              refine g_getr hx hb hw inG10 hown hK hG gl_0 rfl gk_0 (by decide) 6 (by decide) (by rw [gm_0]; decide) (r := 85) gr_0_6 lk49 dX10_sum_82 ?_
              refine lv_iload_n hx hb dX10_sum_85 rfl (lv_at hl 2 rfl) ?_
              obtain ⟨P_86, HC_86, HW⟩ := HW
              refine g_callv (g_runV (As := [.int x2]) (rest := []) ⟨hx, hb, hml, hown, hts⟩ (m_X2_addUp l D cy ad h_43 g_43 H.size x2 P_86 HC_86) (cwV 1 hts (gd_V (wm3 165 rfl rfl) (wm3 160 rfl rfl) (wm3 161 rfl rfl) (wm1 6 rfl rfl) (wm3 162 rfl rfl)) rfl rfl rfl (by decide +kernel) ⟨Nat.le_of_ble_eq_true rfl, Nat.le_of_ble_eq_true rfl⟩) hK hNw hG gl_85 rfl gk_85 (by decide) rfl rfl hl.1 rfl (lv_room (Nat.le_of_ble_eq_true rfl)) dX10_sum_86 ⟨Nat.zero_le _, Nat.zero_le _⟩) hG (fun h_86 g_86 H locs hq hG => ?_)
              replace HW := HW h_86 g_86 hq
              refine lv_iload_n hx hb dX10_sum_89 rfl (lv_at hl 3 rfl) ?_
              refine lv_if_ne (tgt := 103) hx hb dX10_sum_90 (by decide) (fun c_90 => ?_) (fun c_90 => ?_)
              · replace HW := HW.1 c_90
                refine lv_aload_n hx hb dX10_sum_103 rfl (lv_at hl 0 rfl) ?_
                refine g_getr hx hb hw inG10 hown hK hG gl_0 rfl gk_0 (by decide) 6 (by decide) (by rw [gm_0]; decide) (r := 85) gr_0_6 lk49 dX10_sum_104 ?_
                refine g_geti hx hb hw inG2 hown hK hG gl_85 rfl gk_85 (by decide) 9 (by decide) (by rw [gm_85]; decide) gr_85_9 lk179 dX10_sum_107 ?_
                exact W.iret (v := (h_86 85 9)) hx hb hr (fun t ht hW => ⟨⟨(h_86 85 9), (h_86, g_86), rfl, HW, g_B ht hG⟩, hG.2.2.F ht⟩) hG.2.2.2.2 dX10_sum_110
              · replace HW := HW.2 c_90
                refine lv_aload_n hx hb dX10_sum_93 rfl (lv_at hl 0 rfl) ?_
                refine g_getr hx hb hw inG10 hown hK hG gl_0 rfl gk_0 (by decide) 6 (by decide) (by rw [gm_0]; decide) (r := 85) gr_0_6 lk49 dX10_sum_94 ?_
                refine g_geti hx hb hw inG2 hown hK hG gl_85 rfl gk_85 (by decide) 8 (by decide) (by rw [gm_85]; decide) gr_85_8 lk175 dX10_sum_97 ?_
                refine lv_goto (tgt := 110) hx hb dX10_sum_100 (by decide) ?_
                exact W.iret (v := (h_86 85 8)) hx hb hr (fun t ht hW => ⟨⟨(h_86 85 8), (h_86, g_86), rfl, HW, g_B ht hG⟩, hG.2.2.F ht⟩) hG.2.2.2.2 dX10_sum_110
            · replace HW := HW.2 c_75
              refine lv_ldc (v := (-2000000000)) hx hb hown cn171 dX10_sum_78 ?_
              exact W.iret (v := (-2000000000 : Int32)) hx hb hr (fun t ht hW => ⟨⟨(-2000000000 : Int32), (h_43, g_43), rfl, HW, g_B ht hG⟩, hG.2.2.F ht⟩) hG.2.2.2.2 dX10_sum_80
          · replace HW := HW.2 c_48
            refine lv_aload_n hx hb dX10_sum_51 rfl (lv_at hl 0 rfl) ?_
            refine g_getr hx hb hw inG10 hown hK hG gl_0 rfl gk_0 (by decide) 6 (by decide) (by rw [gm_0]; decide) (r := 85) gr_0_6 lk49 dX10_sum_52 ?_
            refine lv_iload_n hx hb dX10_sum_55 rfl (lv_at hl 2 rfl) ?_
            obtain ⟨P_56, HC_56, HW⟩ := HW
            refine g_callz (g_runV (As := [.int x2]) (rest := []) ⟨hx, hb, hml, hown, hts⟩ (m_X2_holdIn l D cy ad h_43 g_43 H.size x2 P_56 HC_56) (cwV 1 hts (gd_V (wm3 155 rfl rfl) (wm3 156 rfl rfl) (wm3 157 rfl rfl) (wm1 6 rfl rfl) (wm3 158 rfl rfl)) rfl rfl rfl (by decide +kernel) ⟨Nat.le_of_ble_eq_true rfl, Nat.le_of_ble_eq_true rfl⟩) hK hNw hG gl_85 rfl gk_85 (by decide) rfl rfl hl.1 rfl (lv_room (Nat.le_of_ble_eq_true rfl)) dX10_sum_56 ⟨Nat.zero_le _, Nat.zero_le _⟩) hG (fun r_56 h_56 g_56 H locs hz hq hG => ?_)
            replace HW := HW r_56 h_56 g_56 hz hq
            refine lv_if_eq (tgt := 66) hx hb dX10_sum_59 (by decide) (fun c_59 => ?_) (fun c_59 => ?_)
            · replace HW := HW.1 c_59
              refine lv_iconst (v := 0) hx hb dX10_sum_66 (by decide) ?_
              exact W.iret (v := (0 : Int32)) hx hb hr (fun t ht hW => ⟨⟨(0 : Int32), (h_56, g_56), rfl, HW, g_B ht hG⟩, hG.2.2.F ht⟩) hG.2.2.2.2 dX10_sum_67
            · replace HW := HW.2 c_59
              refine lv_iconst (v := 1) hx hb dX10_sum_62 (by decide) ?_
              refine lv_goto (tgt := 67) hx hb dX10_sum_63 (by decide) ?_
              exact W.iret (v := (1 : Int32)) hx hb hr (fun t ht hW => ⟨⟨(1 : Int32), (h_56, g_56), rfl, HW, g_B ht hG⟩, hG.2.2.F ht⟩) hG.2.2.2.2 dX10_sum_67
        · replace HW := HW.2 c_30
          refine lv_ldc (v := (-2100000000)) hx hb hown cn160 dX10_sum_33 ?_
          exact W.iret (v := (-2100000000 : Int32)) hx hb hr (fun t ht hW => ⟨⟨(-2100000000 : Int32), (h_27, g_27), rfl, HW, g_B ht hG⟩, hG.2.2.F ht⟩) hG.2.2.2.2 dX10_sum_35
  exact E0 _ _ _ hG hl
