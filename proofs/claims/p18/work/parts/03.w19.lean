def w_X11_machine (x1 : Int32) (h : HI) (g : HL) (Q : Int32 → HI → HL → Prop) : Prop :=
  (∃ P_6 : Int32 → HI → HL → Prop, w_X11_in ((x1).toInt64) (0 : Int64) (3 : Int64) h g P_6 ∧ ∀ (r_6 : Int32) (h_6 : HI) (g_6 : HL), zb r_6 → P_6 r_6 h_6 g_6 → ((¬ r_6 = 0 → (vp_in (4 : Int32) 887 ∧ ((¬ (h_6 136 (4 : Int32).toNatClampNeg) = (6 : Int32) → (vp_in (4 : Int32) 887 ∧ (vp_in ((704 : Int32) + (h_6 136 (4 : Int32).toNatClampNeg)) 887 ∧ ∀ h_44 : HI, h_44 = hu h_6 136 ((704 : Int32) + (h_6 136 (4 : Int32).toNatClampNeg)).toNatClampNeg x1 → (∃ P_47 : Int32 → HI → HL → Prop, w_X11_one (4 : Int32) h_44 g_6 P_47 ∧ ∀ (r_47 : Int32) (h_47 : HI) (g_47 : HL), P_47 r_47 h_47 g_47 → Q r_47 h_47 g_47)))) ∧ ((h_6 136 (4 : Int32).toNatClampNeg) = (6 : Int32) → Q (-4 : Int32) h_6 g_6)))) ∧ (r_6 = 0 → Q (-2 : Int32) h_6 g_6)))
set_option maxHeartbeats 8000000 in
set_option maxRecDepth 100000 in
theorem m_X11_machine (l : Launch) (D : va_G) (cy : Nat → ClassId) (ad : Nat → Nat) (h : HI) (g : HL) (sz : Nat) (x1 : Int32) (Q : Int32 → HI → HL → Prop) (HW : w_X11_machine x1 h g Q) : Met l yX11_machine (wa yX11_machine cX11_machine 2 (some .int)) ({ frames := 1, cells := 0, slots := 0, locals := 25 }) (va_Pc [.ref (ad 135), .int x1] (gI D cy ad h g sz)) (va_Qi (fun (r : Int32) (u : HI × HL) => Q r u.1 u.2) (gB D cy ad sz) (gA ad sz)) 0 0 (gA ad sz) := by
  refine Met.ofW (cc := cX11_machine) (maxL := 2) (ret := (some .int)) (by decide) rfl ?_
  intro p e s m args below meth c s₁ B hml hv
  obtain ⟨hav, hsz, hP, hK, hD0, hNw⟩ := hv
  have hx := B.exec
  have hb := B.bytes
  have hr := B.returns
  have hts := atoms_spec (ws := (wa yX11_machine cX11_machine 2 (some .int))) B.pre
  have hw := wa_hw hts
  have hown : s.vm.findClass RX11 = some m.cls := findClass_of_methodNamed B.named
  have hlocks := B.notSynchronized
  subst hsz
  have hG : gG D cy ad (gA ad s.heap.size) s.heap h g s.heap [] := ⟨hP, gA_self hD0, va_S.rf⟩
  clear hP hD0
  have cn67 := hw (.constantLong RX11 67 (3)) (wm5 119 rfl rfl)
  have lk7 := hw (.fieldLink RX11 7 "OldWorksModel" "st" "[I") (wm5 27 rfl rfl)
  rw [show (headSpec (wa yX11_machine cX11_machine 2 (some .int)) ({ frames := 1, cells := 0, slots := 0, locals := 25 } : Room)).room = ({ frames := 1, cells := 0, slots := 0, locals := 25 } : Room) from rfl]
  have hl := lv_entry ([.ref (ad 135), .int x1]) (n := 2) (Nat.le_of_ble_eq_true rfl)
  rw [show entryFrame m args 2 = entryFrame m ([.ref (ad 135), .int x1] : List Value).toArray 2 from by rw [hav], lg_entry_eq]
  generalize (lg_sl ([.ref (ad 135), .int x1]) ++ List.replicate (2 - (lg_sl ([.ref (ad 135), .int x1])).length) Slot.unset).toArray = ls at hl ⊢
  have hl : lv_has ls 2 [(0, .ref (ad 135)), (1, .int x1)] := hl
  have E0 : ∀ (H : Heap) (locs : List Loc) (ls : Array Slot), gG D cy ad (gA ad s.heap.size) s.heap h g H locs → lv_has ls 2 [(0, .ref (ad 135)), (1, .int x1)] → W p l e ({ frames := 1, cells := 0, slots := 0, locals := 25 } : Room) s m args below meth c H locs 0 0 (MQ below (va_Qi (fun (r : Int32) (u : HI × HL) => Q r u.1 u.2) (gB D cy ad s.heap.size) (gA ad s.heap.size)) args s 0 0 (gA ad s.heap.size)) (F0 m 0 ls []) := by
    intro H locs ls hG hl
    unfold w_X11_machine at HW
    refine lv_iload_n hx hb dX11_machine_0 rfl (lv_at hl 1 rfl) ?_
    refine lv_i2l hx hb dX11_machine_1 rfl ?_
    refine lv_lconst (v := 0) hx hb dX11_machine_2 (by decide) ?_
    refine lv_ldc2 (v := 3) hx hb hown cn67 dX11_machine_3 ?_
    obtain ⟨P_6, HC_6, HW⟩ := HW
    refine g_callz (g_runS (As := [.long ((x1).toInt64), .long (0 : Int64), .long (3 : Int64)]) (rest := []) ⟨hx, hb, hml, hown, hts⟩ (m_X11_in l D cy ad h g H.size ((x1).toInt64) (0 : Int64) (3 : Int64) P_6 HC_6) (va_cwS 3 hts (gd_S (wm5 111 rfl rfl) (wm5 112 rfl rfl) (wm1 13 rfl rfl) (wm5 113 rfl rfl)) rfl rfl rfl (by decide +kernel) ⟨Nat.le_of_ble_eq_true rfl, Nat.le_of_ble_eq_true rfl⟩) hK hNw hG rfl rfl hl.1 rfl (lv_room (Nat.le_of_ble_eq_true rfl)) dX11_machine_6 ⟨Nat.zero_le _, Nat.zero_le _⟩) hG (fun r_6 h_6 g_6 H locs hz hq hG => ?_)
    replace HW := HW r_6 h_6 g_6 hz hq
    refine lv_if_ne (tgt := 15) hx hb dX11_machine_9 (by decide) (fun c_9 => ?_) (fun c_9 => ?_)
    · replace HW := HW.1 c_9
      refine lv_aload_n hx hb dX11_machine_15 rfl (lv_at hl 0 rfl) ?_
      refine g_getr hx hb hw inG11 hown hK hG gl_135 rfl gk_135 (by decide) 0 (by decide) (by rw [gm_135]; decide) (r := 136) gr_135_0 lk7 dX11_machine_16 ?_
      refine lv_iconst (v := 4) hx hb dX11_machine_19 (by decide) ?_
      refine g_iald hx hb hK hG gl_136 gk_136 gn_136 HW.1 dX11_machine_20 ?_
      replace HW := HW.2
      refine lv_bipush (v := 6) hx hb dX11_machine_21 (by decide) ?_
      refine lv_icmp_ne (tgt := 29) hx hb dX11_machine_23 (by decide) (fun c_23 => ?_) (fun c_23 => ?_)
      · replace HW := HW.1 c_23
        refine lv_aload_n hx hb dX11_machine_29 rfl (lv_at hl 0 rfl) ?_
        refine g_getr hx hb hw inG11 hown hK hG gl_135 rfl gk_135 (by decide) 0 (by decide) (by rw [gm_135]; decide) (r := 136) gr_135_0 lk7 dX11_machine_30 ?_
        refine lv_sipush (v := 704) hx hb dX11_machine_33 (by decide) ?_
        refine lv_aload_n hx hb dX11_machine_36 rfl (lv_at hl 0 rfl) ?_
        refine g_getr hx hb hw inG11 hown hK hG gl_135 rfl gk_135 (by decide) 0 (by decide) (by rw [gm_135]; decide) (r := 136) gr_135_0 lk7 dX11_machine_37 ?_
        refine lv_iconst (v := 4) hx hb dX11_machine_40 (by decide) ?_
        refine g_iald hx hb hK hG gl_136 gk_136 gn_136 HW.1 dX11_machine_41 ?_
        replace HW := HW.2
        refine lv_iadd hx hb dX11_machine_42 ?_
        refine lv_iload_n hx hb dX11_machine_43 rfl (lv_at hl 1 rfl) ?_
        refine g_iast hx hb hK hG gl_136 gk_136 gn_136 HW.1 dX11_machine_44 (fun H locs hG => ?_)
        replace HW := HW.2
        obtain ⟨h_44, eh_44⟩ : ∃ y : HI, y = hu h_6 136 ((704 : Int32) + (h_6 136 (4 : Int32).toNatClampNeg)).toNatClampNeg x1 := ⟨_, rfl⟩
        rw [← eh_44] at hG
        replace HW := HW h_44 eh_44
        refine lv_aload_n hx hb dX11_machine_45 rfl (lv_at hl 0 rfl) ?_
        refine lv_iconst (v := 4) hx hb dX11_machine_46 (by decide) ?_
        obtain ⟨P_47, HC_47, HW⟩ := HW
        refine g_calli (g_runV (As := [.int (4 : Int32)]) (rest := []) ⟨hx, hb, hml, hown, hts⟩ (m_X11_one l D cy ad h_44 g_6 H.size (4 : Int32) P_47 HC_47) (cwV 1 hts (gd_V (wm5 120 rfl rfl) (wm5 122 rfl rfl) (wmp3 (q := (yX11_one, 26)) 7 rfl) (wm1 13 rfl rfl) (wm5 123 rfl rfl)) rfl rfl rfl (by decide +kernel) ⟨Nat.le_of_ble_eq_true rfl, Nat.le_of_ble_eq_true rfl⟩) hK hNw hG gl_135 rfl gk_135 (by decide) rfl rfl hl.1 rfl (lv_room (Nat.le_of_ble_eq_true rfl)) dX11_machine_47 ⟨Nat.zero_le _, Nat.zero_le _⟩) hG (fun r_47 h_47 g_47 H locs hq hG => ?_)
        replace HW := HW r_47 h_47 g_47 hq
        exact W.iret (v := r_47) hx hb hr (fun t ht hW => ⟨⟨r_47, (h_47, g_47), rfl, HW, g_B ht hG⟩, hG.2.2.F ht⟩) hG.2.2.2.2 dX11_machine_50
      · replace HW := HW.2 c_23
        refine lv_bipush (v := (-4)) hx hb dX11_machine_26 (by decide) ?_
        exact W.iret (v := (-4 : Int32)) hx hb hr (fun t ht hW => ⟨⟨(-4 : Int32), (h_6, g_6), rfl, HW, g_B ht hG⟩, hG.2.2.F ht⟩) hG.2.2.2.2 dX11_machine_28
    · replace HW := HW.2 c_9
      refine lv_bipush (v := (-2)) hx hb dX11_machine_12 (by decide) ?_
      exact W.iret (v := (-2 : Int32)) hx hb hr (fun t ht hW => ⟨⟨(-2 : Int32), (h_6, g_6), rfl, HW, g_B ht hG⟩, hG.2.2.F ht⟩) hG.2.2.2.2 dX11_machine_14
  exact E0 _ _ _ hG hl

def w_X11_spare (x1 : Int32) (x2 : Int32) (x3 : Int32) (h : HI) (g : HL) (Q : Int32 → HI → HL → Prop) : Prop :=
  (∃ P_6 : Int32 → HI → HL → Prop, w_X11_in ((x1).toInt64) (0 : Int64) (3 : Int64) h g P_6 ∧ ∀ (r_6 : Int32) (h_6 : HI) (g_6 : HL), zb r_6 → P_6 r_6 h_6 g_6 → ((r_6 = 0 → Q (-2 : Int32) h_6 g_6) ∧ (¬ r_6 = 0 → (∃ P_18 : Int32 → HI → HL → Prop, w_X11_in ((x2).toInt64) (1 : Int64) (50 : Int64) h_6 g_6 P_18 ∧ ∀ (r_18 : Int32) (h_18 : HI) (g_18 : HL), zb r_18 → P_18 r_18 h_18 g_18 → ((r_18 = 0 → Q (-2 : Int32) h_18 g_18) ∧ (¬ r_18 = 0 → (∃ P_32 : Int32 → HI → HL → Prop, w_X11_in ((x3).toInt64) (-1 : Int64) (3 : Int64) h_18 g_18 P_32 ∧ ∀ (r_32 : Int32) (h_32 : HI) (g_32 : HL), zb r_32 → P_32 r_32 h_32 g_32 → ((¬ r_32 = 0 → (vp_in (5 : Int32) 887 ∧ ((¬ (h_32 136 (5 : Int32).toNatClampNeg) = (9 : Int32) → (vp_in (5 : Int32) 887 ∧ (∀ x4_67 : Int32, x4_67 = ((710 : Int32) + ((3 : Int32) * (h_32 136 (5 : Int32).toNatClampNeg))) → (vp_in x4_67 887 ∧ ∀ h_76 : HI, h_76 = hu h_32 136 x4_67.toNatClampNeg x1 → (vp_in (x4_67 + (1 : Int32)) 887 ∧ ∀ h_86 : HI, h_86 = hu h_76 136 (x4_67 + (1 : Int32)).toNatClampNeg x2 → (vp_in (x4_67 + (2 : Int32)) 887 ∧ ∀ h_96 : HI, h_96 = hu h_86 136 (x4_67 + (2 : Int32)).toNatClampNeg x3 → (∃ P_99 : Int32 → HI → HL → Prop, w_X11_one (5 : Int32) h_96 g_32 P_99 ∧ ∀ (r_99 : Int32) (h_99 : HI) (g_99 : HL), P_99 r_99 h_99 g_99 → Q r_99 h_99 g_99))))))) ∧ ((h_32 136 (5 : Int32).toNatClampNeg) = (9 : Int32) → Q (-4 : Int32) h_32 g_32)))) ∧ (r_32 = 0 → Q (-2 : Int32) h_32 g_32)))))))))
set_option maxHeartbeats 8000000 in
set_option maxRecDepth 100000 in
theorem m_X11_spare (l : Launch) (D : va_G) (cy : Nat → ClassId) (ad : Nat → Nat) (h : HI) (g : HL) (sz : Nat) (x1 : Int32) (x2 : Int32) (x3 : Int32) (Q : Int32 → HI → HL → Prop) (HW : w_X11_spare x1 x2 x3 h g Q) : Met l yX11_spare (wa yX11_spare cX11_spare 5 (some .int)) ({ frames := 1, cells := 0, slots := 0, locals := 25 }) (va_Pc [.ref (ad 135), .int x1, .int x2, .int x3] (gI D cy ad h g sz)) (va_Qi (fun (r : Int32) (u : HI × HL) => Q r u.1 u.2) (gB D cy ad sz) (gA ad sz)) 0 0 (gA ad sz) := by
  refine Met.ofW (cc := cX11_spare) (maxL := 5) (ret := (some .int)) (by decide) rfl ?_
  intro p e s m args below meth c s₁ B hml hv
  obtain ⟨hav, hsz, hP, hK, hD0, hNw⟩ := hv
  have hx := B.exec
  have hb := B.bytes
  have hr := B.returns
  have hts := atoms_spec (ws := (wa yX11_spare cX11_spare 5 (some .int))) B.pre
  have hw := wa_hw hts
  have hown : s.vm.findClass RX11 = some m.cls := findClass_of_methodNamed B.named
  have hlocks := B.notSynchronized
  subst hsz
  have hG : gG D cy ad (gA ad s.heap.size) s.heap h g s.heap [] := ⟨hP, gA_self hD0, va_S.rf⟩
  clear hP hD0
  have cn67 := hw (.constantLong RX11 67 (3)) (wm5 119 rfl rfl)
  have cn242 := hw (.constantLong RX11 242 (50)) (wm6 88 rfl rfl)
  have cn65 := hw (.constantLong RX11 65 (-1)) (wm5 118 rfl rfl)
  have lk7 := hw (.fieldLink RX11 7 "OldWorksModel" "st" "[I") (wm5 27 rfl rfl)
  rw [show (headSpec (wa yX11_spare cX11_spare 5 (some .int)) ({ frames := 1, cells := 0, slots := 0, locals := 25 } : Room)).room = ({ frames := 1, cells := 0, slots := 0, locals := 25 } : Room) from rfl]
  have hl := lv_entry ([.ref (ad 135), .int x1, .int x2, .int x3]) (n := 5) (Nat.le_of_ble_eq_true rfl)
  rw [show entryFrame m args 5 = entryFrame m ([.ref (ad 135), .int x1, .int x2, .int x3] : List Value).toArray 5 from by rw [hav], lg_entry_eq]
  generalize (lg_sl ([.ref (ad 135), .int x1, .int x2, .int x3]) ++ List.replicate (5 - (lg_sl ([.ref (ad 135), .int x1, .int x2, .int x3])).length) Slot.unset).toArray = ls at hl ⊢
  have hl : lv_has ls 5 [(0, .ref (ad 135)), (1, .int x1), (2, .int x2), (3, .int x3)] := hl
  have E0 : ∀ (H : Heap) (locs : List Loc) (ls : Array Slot), gG D cy ad (gA ad s.heap.size) s.heap h g H locs → lv_has ls 5 [(0, .ref (ad 135)), (1, .int x1), (2, .int x2), (3, .int x3)] → W p l e ({ frames := 1, cells := 0, slots := 0, locals := 25 } : Room) s m args below meth c H locs 0 0 (MQ below (va_Qi (fun (r : Int32) (u : HI × HL) => Q r u.1 u.2) (gB D cy ad s.heap.size) (gA ad s.heap.size)) args s 0 0 (gA ad s.heap.size)) (F0 m 0 ls []) := by
    intro H locs ls hG hl
    unfold w_X11_spare at HW
    refine lv_iload_n hx hb dX11_spare_0 rfl (lv_at hl 1 rfl) ?_
    refine lv_i2l hx hb dX11_spare_1 rfl ?_
    refine lv_lconst (v := 0) hx hb dX11_spare_2 (by decide) ?_
    refine lv_ldc2 (v := 3) hx hb hown cn67 dX11_spare_3 ?_
    obtain ⟨P_6, HC_6, HW⟩ := HW
    refine g_callz (g_runS (As := [.long ((x1).toInt64), .long (0 : Int64), .long (3 : Int64)]) (rest := []) ⟨hx, hb, hml, hown, hts⟩ (m_X11_in l D cy ad h g H.size ((x1).toInt64) (0 : Int64) (3 : Int64) P_6 HC_6) (va_cwS 3 hts (gd_S (wm5 111 rfl rfl) (wm5 112 rfl rfl) (wm1 13 rfl rfl) (wm5 113 rfl rfl)) rfl rfl rfl (by decide +kernel) ⟨Nat.le_of_ble_eq_true rfl, Nat.le_of_ble_eq_true rfl⟩) hK hNw hG rfl rfl hl.1 rfl (lv_room (Nat.le_of_ble_eq_true rfl)) dX11_spare_6 ⟨Nat.zero_le _, Nat.zero_le _⟩) hG (fun r_6 h_6 g_6 H locs hz hq hG => ?_)
    replace HW := HW r_6 h_6 g_6 hz hq
    refine lv_if_eq (tgt := 38) hx hb dX11_spare_9 (by decide) (fun c_9 => ?_) (fun c_9 => ?_)
    · replace HW := HW.1 c_9
      refine lv_bipush (v := (-2)) hx hb dX11_spare_38 (by decide) ?_
      exact W.iret (v := (-2 : Int32)) hx hb hr (fun t ht hW => ⟨⟨(-2 : Int32), (h_6, g_6), rfl, HW, g_B ht hG⟩, hG.2.2.F ht⟩) hG.2.2.2.2 dX11_spare_40
    · replace HW := HW.2 c_9
      refine lv_iload_n hx hb dX11_spare_12 rfl (lv_at hl 2 rfl) ?_
      refine lv_i2l hx hb dX11_spare_13 rfl ?_
      refine lv_lconst (v := 1) hx hb dX11_spare_14 (by decide) ?_
      refine lv_ldc2 (v := 50) hx hb hown cn242 dX11_spare_15 ?_
      obtain ⟨P_18, HC_18, HW⟩ := HW
      refine g_callz (g_runS (As := [.long ((x2).toInt64), .long (1 : Int64), .long (50 : Int64)]) (rest := []) ⟨hx, hb, hml, hown, hts⟩ (m_X11_in l D cy ad h_6 g_6 H.size ((x2).toInt64) (1 : Int64) (50 : Int64) P_18 HC_18) (va_cwS 3 hts (gd_S (wm5 111 rfl rfl) (wm5 112 rfl rfl) (wm1 13 rfl rfl) (wm5 113 rfl rfl)) rfl rfl rfl (by decide +kernel) ⟨Nat.le_of_ble_eq_true rfl, Nat.le_of_ble_eq_true rfl⟩) hK hNw hG rfl rfl hl.1 rfl (lv_room (Nat.le_of_ble_eq_true rfl)) dX11_spare_18 ⟨Nat.zero_le _, Nat.zero_le _⟩) hG (fun r_18 h_18 g_18 H locs hz hq hG => ?_)
      replace HW := HW r_18 h_18 g_18 hz hq
      refine lv_if_eq (tgt := 38) hx hb dX11_spare_21 (by decide) (fun c_21 => ?_) (fun c_21 => ?_)
      · replace HW := HW.1 c_21
        refine lv_bipush (v := (-2)) hx hb dX11_spare_38 (by decide) ?_
        exact W.iret (v := (-2 : Int32)) hx hb hr (fun t ht hW => ⟨⟨(-2 : Int32), (h_18, g_18), rfl, HW, g_B ht hG⟩, hG.2.2.F ht⟩) hG.2.2.2.2 dX11_spare_40
      · replace HW := HW.2 c_21
        refine lv_iload_n hx hb dX11_spare_24 rfl (lv_at hl 3 rfl) ?_
        refine lv_i2l hx hb dX11_spare_25 rfl ?_
        refine lv_ldc2 (v := (-1)) hx hb hown cn65 dX11_spare_26 ?_
        refine lv_ldc2 (v := 3) hx hb hown cn67 dX11_spare_29 ?_
        obtain ⟨P_32, HC_32, HW⟩ := HW
        refine g_callz (g_runS (As := [.long ((x3).toInt64), .long (-1 : Int64), .long (3 : Int64)]) (rest := []) ⟨hx, hb, hml, hown, hts⟩ (m_X11_in l D cy ad h_18 g_18 H.size ((x3).toInt64) (-1 : Int64) (3 : Int64) P_32 HC_32) (va_cwS 3 hts (gd_S (wm5 111 rfl rfl) (wm5 112 rfl rfl) (wm1 13 rfl rfl) (wm5 113 rfl rfl)) rfl rfl rfl (by decide +kernel) ⟨Nat.le_of_ble_eq_true rfl, Nat.le_of_ble_eq_true rfl⟩) hK hNw hG rfl rfl hl.1 rfl (lv_room (Nat.le_of_ble_eq_true rfl)) dX11_spare_32 ⟨Nat.zero_le _, Nat.zero_le _⟩) hG (fun r_32 h_32 g_32 H locs hz hq hG => ?_)
        replace HW := HW r_32 h_32 g_32 hz hq
        refine lv_if_ne (tgt := 41) hx hb dX11_spare_35 (by decide) (fun c_35 => ?_) (fun c_35 => ?_)
        · replace HW := HW.1 c_35
          refine lv_aload_n hx hb dX11_spare_41 rfl (lv_at hl 0 rfl) ?_
          refine g_getr hx hb hw inG11 hown hK hG gl_135 rfl gk_135 (by decide) 0 (by decide) (by rw [gm_135]; decide) (r := 136) gr_135_0 lk7 dX11_spare_42 ?_
          refine lv_iconst (v := 5) hx hb dX11_spare_45 (by decide) ?_
          refine g_iald hx hb hK hG gl_136 gk_136 gn_136 HW.1 dX11_spare_46 ?_
          replace HW := HW.2
          refine lv_bipush (v := 9) hx hb dX11_spare_47 (by decide) ?_
          refine lv_icmp_ne (tgt := 55) hx hb dX11_spare_49 (by decide) (fun c_49 => ?_) (fun c_49 => ?_)
          · replace HW := HW.1 c_49
            refine lv_sipush (v := 710) hx hb dX11_spare_55 (by decide) ?_
            refine lv_iconst (v := 3) hx hb dX11_spare_58 (by decide) ?_
            refine lv_aload_n hx hb dX11_spare_59 rfl (lv_at hl 0 rfl) ?_
            refine g_getr hx hb hw inG11 hown hK hG gl_135 rfl gk_135 (by decide) 0 (by decide) (by rw [gm_135]; decide) (r := 136) gr_135_0 lk7 dX11_spare_60 ?_
            refine lv_iconst (v := 5) hx hb dX11_spare_63 (by decide) ?_
            refine g_iald hx hb hK hG gl_136 gk_136 gn_136 HW.1 dX11_spare_64 ?_
            replace HW := HW.2
            refine lv_imul hx hb dX11_spare_65 ?_
            refine lv_iadd hx hb dX11_spare_66 ?_
            refine lv_topi (fun x4_67 ex4_67 => ?_)
            replace HW := HW x4_67 ex4_67
            refine lv_istore (lv' := [(4, .int x4_67), (0, .ref (ad 135)), (1, .int x1), (2, .int x2), (3, .int x3)]) hx hb dX11_spare_67 hl (by decide) rfl (fun ls hl => ?_)
            refine lv_aload_n hx hb dX11_spare_69 rfl (lv_at hl 1 rfl) ?_
            refine g_getr hx hb hw inG11 hown hK hG gl_135 rfl gk_135 (by decide) 0 (by decide) (by rw [gm_135]; decide) (r := 136) gr_135_0 lk7 dX11_spare_70 ?_
            refine lv_iload hx hb dX11_spare_73 (lv_at hl 0 rfl) ?_
            refine lv_iload_n hx hb dX11_spare_75 rfl (lv_at hl 2 rfl) ?_
            refine g_iast hx hb hK hG gl_136 gk_136 gn_136 HW.1 dX11_spare_76 (fun H locs hG => ?_)
            replace HW := HW.2
            obtain ⟨h_76, eh_76⟩ : ∃ y : HI, y = hu h_32 136 x4_67.toNatClampNeg x1 := ⟨_, rfl⟩
            rw [← eh_76] at hG
            replace HW := HW h_76 eh_76
            refine lv_aload_n hx hb dX11_spare_77 rfl (lv_at hl 1 rfl) ?_
            refine g_getr hx hb hw inG11 hown hK hG gl_135 rfl gk_135 (by decide) 0 (by decide) (by rw [gm_135]; decide) (r := 136) gr_135_0 lk7 dX11_spare_78 ?_
            refine lv_iload hx hb dX11_spare_81 (lv_at hl 0 rfl) ?_
            refine lv_iconst (v := 1) hx hb dX11_spare_83 (by decide) ?_
            refine lv_iadd hx hb dX11_spare_84 ?_
            refine lv_iload_n hx hb dX11_spare_85 rfl (lv_at hl 3 rfl) ?_
            refine g_iast hx hb hK hG gl_136 gk_136 gn_136 HW.1 dX11_spare_86 (fun H locs hG => ?_)
            replace HW := HW.2
            obtain ⟨h_86, eh_86⟩ : ∃ y : HI, y = hu h_76 136 (x4_67 + (1 : Int32)).toNatClampNeg x2 := ⟨_, rfl⟩
            rw [← eh_86] at hG
            replace HW := HW h_86 eh_86
            refine lv_aload_n hx hb dX11_spare_87 rfl (lv_at hl 1 rfl) ?_
            refine g_getr hx hb hw inG11 hown hK hG gl_135 rfl gk_135 (by decide) 0 (by decide) (by rw [gm_135]; decide) (r := 136) gr_135_0 lk7 dX11_spare_88 ?_
            refine lv_iload hx hb dX11_spare_91 (lv_at hl 0 rfl) ?_
            refine lv_iconst (v := 2) hx hb dX11_spare_93 (by decide) ?_
            refine lv_iadd hx hb dX11_spare_94 ?_
            refine lv_iload_n hx hb dX11_spare_95 rfl (lv_at hl 4 rfl) ?_
            refine g_iast hx hb hK hG gl_136 gk_136 gn_136 HW.1 dX11_spare_96 (fun H locs hG => ?_)
            replace HW := HW.2
            obtain ⟨h_96, eh_96⟩ : ∃ y : HI, y = hu h_86 136 (x4_67 + (2 : Int32)).toNatClampNeg x3 := ⟨_, rfl⟩
            rw [← eh_96] at hG
            replace HW := HW h_96 eh_96
            refine lv_aload_n hx hb dX11_spare_97 rfl (lv_at hl 1 rfl) ?_
            refine lv_iconst (v := 5) hx hb dX11_spare_98 (by decide) ?_
            obtain ⟨P_99, HC_99, HW⟩ := HW
            refine g_calli (g_runV (As := [.int (5 : Int32)]) (rest := []) ⟨hx, hb, hml, hown, hts⟩ (m_X11_one l D cy ad h_96 g_32 H.size (5 : Int32) P_99 HC_99) (cwV 1 hts (gd_V (wm5 120 rfl rfl) (wm5 122 rfl rfl) (wmp3 (q := (yX11_one, 26)) 7 rfl) (wm1 13 rfl rfl) (wm5 123 rfl rfl)) rfl rfl rfl (by decide +kernel) ⟨Nat.le_of_ble_eq_true rfl, Nat.le_of_ble_eq_true rfl⟩) hK hNw hG gl_135 rfl gk_135 (by decide) rfl rfl hl.1 rfl (lv_room (Nat.le_of_ble_eq_true rfl)) dX11_spare_99 ⟨Nat.zero_le _, Nat.zero_le _⟩) hG (fun r_99 h_99 g_99 H locs hq hG => ?_)
            replace HW := HW r_99 h_99 g_99 hq
            exact W.iret (v := r_99) hx hb hr (fun t ht hW => ⟨⟨r_99, (h_99, g_99), rfl, HW, g_B ht hG⟩, hG.2.2.F ht⟩) hG.2.2.2.2 dX11_spare_102
          · replace HW := HW.2 c_49
            refine lv_bipush (v := (-4)) hx hb dX11_spare_52 (by decide) ?_
            exact W.iret (v := (-4 : Int32)) hx hb hr (fun t ht hW => ⟨⟨(-4 : Int32), (h_32, g_32), rfl, HW, g_B ht hG⟩, hG.2.2.F ht⟩) hG.2.2.2.2 dX11_spare_54
        · replace HW := HW.2 c_35
          refine lv_bipush (v := (-2)) hx hb dX11_spare_38 (by decide) ?_
          exact W.iret (v := (-2 : Int32)) hx hb hr (fun t ht hW => ⟨⟨(-2 : Int32), (h_32, g_32), rfl, HW, g_B ht hG⟩, hG.2.2.F ht⟩) hG.2.2.2.2 dX11_spare_40
  exact E0 _ _ _ hG hl

def w_X11_scrap  (h : HI) (g : HL) (Q : Int32 → HI → HL → Prop) : Prop :=
  (vp_in (4 : Int32) 887 ∧ (vp_in (5 : Int32) 887 ∧ (∀ x1_13 : Int32, x1_13 = ((h 136 (4 : Int32).toNatClampNeg) + (h 136 (5 : Int32).toNatClampNeg)) → (vp_in (4 : Int32) 887 ∧ ∀ h_20 : HI, h_20 = hu h 136 (4 : Int32).toNatClampNeg (0 : Int32) → (vp_in (5 : Int32) 887 ∧ ∀ h_27 : HI, h_27 = hu h_20 136 (5 : Int32).toNatClampNeg (0 : Int32) → Q x1_13 h_27 g)))))
set_option maxHeartbeats 8000000 in
set_option maxRecDepth 100000 in
theorem m_X11_scrap (l : Launch) (D : va_G) (cy : Nat → ClassId) (ad : Nat → Nat) (h : HI) (g : HL) (sz : Nat)  (Q : Int32 → HI → HL → Prop) (HW : w_X11_scrap h g Q) : Met l yX11_scrap (wa yX11_scrap cX11_scrap 2 (some .int)) ({ frames := 0, cells := 0, slots := 0, locals := 0 }) (va_Pc [.ref (ad 135)] (gI D cy ad h g sz)) (va_Qi (fun (r : Int32) (u : HI × HL) => Q r u.1 u.2) (gB D cy ad sz) (gA ad sz)) 0 0 (gA ad sz) := by
  refine Met.ofW (cc := cX11_scrap) (maxL := 2) (ret := (some .int)) (by decide) rfl ?_
  intro p e s m args below meth c s₁ B hml hv
  obtain ⟨hav, hsz, hP, hK, hD0, hNw⟩ := hv
  have hx := B.exec
  have hb := B.bytes
  have hr := B.returns
  have hts := atoms_spec (ws := (wa yX11_scrap cX11_scrap 2 (some .int))) B.pre
  have hw := wa_hw hts
  have hown : s.vm.findClass RX11 = some m.cls := findClass_of_methodNamed B.named
  have hlocks := B.notSynchronized
  subst hsz
  have hG : gG D cy ad (gA ad s.heap.size) s.heap h g s.heap [] := ⟨hP, gA_self hD0, va_S.rf⟩
  clear hP hD0
  have lk7 := hw (.fieldLink RX11 7 "OldWorksModel" "st" "[I") (wm5 27 rfl rfl)
  rw [show (headSpec (wa yX11_scrap cX11_scrap 2 (some .int)) ({ frames := 0, cells := 0, slots := 0, locals := 0 } : Room)).room = ({ frames := 0, cells := 0, slots := 0, locals := 0 } : Room) from rfl]
  have hl := lv_entry ([.ref (ad 135)]) (n := 2) (Nat.le_of_ble_eq_true rfl)
  rw [show entryFrame m args 2 = entryFrame m ([.ref (ad 135)] : List Value).toArray 2 from by rw [hav], lg_entry_eq]
  generalize (lg_sl ([.ref (ad 135)]) ++ List.replicate (2 - (lg_sl ([.ref (ad 135)])).length) Slot.unset).toArray = ls at hl ⊢
  have hl : lv_has ls 2 [(0, .ref (ad 135))] := hl
  have E0 : ∀ (H : Heap) (locs : List Loc) (ls : Array Slot), gG D cy ad (gA ad s.heap.size) s.heap h g H locs → lv_has ls 2 [(0, .ref (ad 135))] → W p l e ({ frames := 0, cells := 0, slots := 0, locals := 0 } : Room) s m args below meth c H locs 0 0 (MQ below (va_Qi (fun (r : Int32) (u : HI × HL) => Q r u.1 u.2) (gB D cy ad s.heap.size) (gA ad s.heap.size)) args s 0 0 (gA ad s.heap.size)) (F0 m 0 ls []) := by
    intro H locs ls hG hl
    unfold w_X11_scrap at HW
    refine lv_aload_n hx hb dX11_scrap_0 rfl (lv_at hl 0 rfl) ?_
    refine g_getr hx hb hw inG11 hown hK hG gl_135 rfl gk_135 (by decide) 0 (by decide) (by rw [gm_135]; decide) (r := 136) gr_135_0 lk7 dX11_scrap_1 ?_
    refine lv_iconst (v := 4) hx hb dX11_scrap_4 (by decide) ?_
    refine g_iald hx hb hK hG gl_136 gk_136 gn_136 HW.1 dX11_scrap_5 ?_
    replace HW := HW.2
    refine lv_aload_n hx hb dX11_scrap_6 rfl (lv_at hl 0 rfl) ?_
    refine g_getr hx hb hw inG11 hown hK hG gl_135 rfl gk_135 (by decide) 0 (by decide) (by rw [gm_135]; decide) (r := 136) gr_135_0 lk7 dX11_scrap_7 ?_
    refine lv_iconst (v := 5) hx hb dX11_scrap_10 (by decide) ?_
    refine g_iald hx hb hK hG gl_136 gk_136 gn_136 HW.1 dX11_scrap_11 ?_
    replace HW := HW.2
    refine lv_iadd hx hb dX11_scrap_12 ?_
    refine lv_topi (fun x1_13 ex1_13 => ?_)
    replace HW := HW x1_13 ex1_13
    refine lv_istore_n (lv' := [(1, .int x1_13), (0, .ref (ad 135))]) hx hb dX11_scrap_13 rfl hl (by decide) rfl (fun ls hl => ?_)
    refine lv_aload_n hx hb dX11_scrap_14 rfl (lv_at hl 1 rfl) ?_
    refine g_getr hx hb hw inG11 hown hK hG gl_135 rfl gk_135 (by decide) 0 (by decide) (by rw [gm_135]; decide) (r := 136) gr_135_0 lk7 dX11_scrap_15 ?_
    refine lv_iconst (v := 4) hx hb dX11_scrap_18 (by decide) ?_
    refine lv_iconst (v := 0) hx hb dX11_scrap_19 (by decide) ?_
    refine g_iast hx hb hK hG gl_136 gk_136 gn_136 HW.1 dX11_scrap_20 (fun H locs hG => ?_)
    replace HW := HW.2
    obtain ⟨h_20, eh_20⟩ : ∃ y : HI, y = hu h 136 (4 : Int32).toNatClampNeg (0 : Int32) := ⟨_, rfl⟩
    rw [← eh_20] at hG
    replace HW := HW h_20 eh_20
    refine lv_aload_n hx hb dX11_scrap_21 rfl (lv_at hl 1 rfl) ?_
    refine g_getr hx hb hw inG11 hown hK hG gl_135 rfl gk_135 (by decide) 0 (by decide) (by rw [gm_135]; decide) (r := 136) gr_135_0 lk7 dX11_scrap_22 ?_
    refine lv_iconst (v := 5) hx hb dX11_scrap_25 (by decide) ?_
    refine lv_iconst (v := 0) hx hb dX11_scrap_26 (by decide) ?_
    refine g_iast hx hb hK hG gl_136 gk_136 gn_136 HW.1 dX11_scrap_27 (fun H locs hG => ?_)
    replace HW := HW.2
    obtain ⟨h_27, eh_27⟩ : ∃ y : HI, y = hu h_20 136 (5 : Int32).toNatClampNeg (0 : Int32) := ⟨_, rfl⟩
    rw [← eh_27] at hG
    replace HW := HW h_27 eh_27
    refine lv_iload_n hx hb dX11_scrap_28 rfl (lv_at hl 0 rfl) ?_
    exact W.iret (v := x1_13) hx hb hr (fun t ht hW => ⟨⟨x1_13, (h_27, g), rfl, HW, g_B ht hG⟩, hG.2.2.F ht⟩) hG.2.2.2.2 dX11_scrap_29
  exact E0 _ _ _ hG hl

def j_X11_mayGet_45 (Q : Int32 → HI → HL → Prop) (h : HI) (g : HL) : Prop :=
  Q (1 : Int32) h g
def w_X11_mayGet (x1 : Int32) (x2 : Int32) (h : HI) (g : HL) (Q : Int32 → HI → HL → Prop) : Prop :=
  (vp_in x1 6 ∧ (∀ x3_6 : Int32, x3_6 = (h 144 x1.toNatClampNeg) → ((x3_6 = (-1 : Int32) → j_X11_mayGet_45 Q h g) ∧ (¬ x3_6 = (-1 : Int32) → (vp_in ((710 : Int32) + ((3 : Int32) * x3_6)) 887 ∧ (vp_in ((704 : Int32) + x1) 887 ∧ ((¬ (h 136 ((710 : Int32) + ((3 : Int32) * x3_6)).toNatClampNeg) = (h 136 ((704 : Int32) + x1).toNatClampNeg) → Q (0 : Int32) h g) ∧ ((h 136 ((710 : Int32) + ((3 : Int32) * x3_6)).toNatClampNeg) = (h 136 ((704 : Int32) + x1).toNatClampNeg) → ((¬ ((x2 >>> (x3_6 &&& 31)) &&& (1 : Int32)) = 0 → Q (0 : Int32) h g) ∧ (((x2 >>> (x3_6 &&& 31)) &&& (1 : Int32)) = 0 → j_X11_mayGet_45 Q h g))))))))))
set_option maxHeartbeats 8000000 in
set_option maxRecDepth 100000 in
theorem m_X11_mayGet (l : Launch) (D : va_G) (cy : Nat → ClassId) (ad : Nat → Nat) (h : HI) (g : HL) (sz : Nat) (x1 : Int32) (x2 : Int32) (Q : Int32 → HI → HL → Prop) (HW : w_X11_mayGet x1 x2 h g Q) : Met l yX11_mayGet (wa yX11_mayGet cX11_mayGet 4 (some .boolean)) ({ frames := 0, cells := 0, slots := 0, locals := 0 }) (va_Pc [.ref (ad 135), .int x1, .int x2] (gI D cy ad h g sz)) (va_Qi (fun (r : Int32) (u : HI × HL) => zb r ∧ Q r u.1 u.2) (gB D cy ad sz) (gA ad sz)) 0 0 (gA ad sz) := by
  refine Met.ofW (cc := cX11_mayGet) (maxL := 4) (ret := (some .boolean)) (by decide) rfl ?_
  intro p e s m args below meth c s₁ B hml hv
  obtain ⟨hav, hsz, hP, hK, hD0, hNw⟩ := hv
  have hx := B.exec
  have hb := B.bytes
  have hr := B.returns
  have hts := atoms_spec (ws := (wa yX11_mayGet cX11_mayGet 4 (some .boolean))) B.pre
  have hw := wa_hw hts
  have hown : s.vm.findClass RX11 = some m.cls := findClass_of_methodNamed B.named
  have hlocks := B.notSynchronized
  subst hsz
  have hG : gG D cy ad (gA ad s.heap.size) s.heap h g s.heap [] := ⟨hP, gA_self hD0, va_S.rf⟩
  clear hP hD0
  have lk36 := hw (.fieldLink RX11 36 "OldWorksModel" "gets" "[I") (wm5 48 rfl rfl)
  have lk7 := hw (.fieldLink RX11 7 "OldWorksModel" "st" "[I") (wm5 27 rfl rfl)
  rw [show (headSpec (wa yX11_mayGet cX11_mayGet 4 (some .boolean)) ({ frames := 0, cells := 0, slots := 0, locals := 0 } : Room)).room = ({ frames := 0, cells := 0, slots := 0, locals := 0 } : Room) from rfl]
  have hl := lv_entry ([.ref (ad 135), .int x1, .int x2]) (n := 4) (Nat.le_of_ble_eq_true rfl)
  rw [show entryFrame m args 4 = entryFrame m ([.ref (ad 135), .int x1, .int x2] : List Value).toArray 4 from by rw [hav], lg_entry_eq]
  generalize (lg_sl ([.ref (ad 135), .int x1, .int x2]) ++ List.replicate (4 - (lg_sl ([.ref (ad 135), .int x1, .int x2])).length) Slot.unset).toArray = ls at hl ⊢
  have hl : lv_has ls 4 [(0, .ref (ad 135)), (1, .int x1), (2, .int x2)] := hl
  have B45 : ∀ (h : HI) (g : HL) (H : Heap) (locs : List Loc) (ls : Array Slot), j_X11_mayGet_45 Q h g → gG D cy ad (gA ad s.heap.size) s.heap h g H locs → lv_has ls 4 [] → W p l e ({ frames := 0, cells := 0, slots := 0, locals := 0 } : Room) s m args below meth c H locs 0 0 (MQ below (va_Qi (fun (r : Int32) (u : HI × HL) => zb r ∧ Q r u.1 u.2) (gB D cy ad s.heap.size) (gA ad s.heap.size)) args s 0 0 (gA ad s.heap.size)) (F0 m 45 ls []) := by
    intro  h g H locs ls HW hG hl
    unfold j_X11_mayGet_45 at HW
    refine lv_iconst (v := 1) hx hb dX11_mayGet_45 (by decide) ?_
    refine lv_goto (tgt := 50) hx hb dX11_mayGet_46 (by decide) ?_
    exact W.zret (v := (1 : Int32)) hx hb hr rfl (fun t ht hW => ⟨⟨(1 : Int32), (h, g), rfl, ⟨Or.inr rfl, HW⟩, g_B ht hG⟩, hG.2.2.F ht⟩) hG.2.2.2.2 dX11_mayGet_50
  have E0 : ∀ (H : Heap) (locs : List Loc) (ls : Array Slot), gG D cy ad (gA ad s.heap.size) s.heap h g H locs → lv_has ls 4 [(0, .ref (ad 135)), (1, .int x1), (2, .int x2)] → W p l e ({ frames := 0, cells := 0, slots := 0, locals := 0 } : Room) s m args below meth c H locs 0 0 (MQ below (va_Qi (fun (r : Int32) (u : HI × HL) => zb r ∧ Q r u.1 u.2) (gB D cy ad s.heap.size) (gA ad s.heap.size)) args s 0 0 (gA ad s.heap.size)) (F0 m 0 ls []) := by
    intro H locs ls hG hl
    unfold w_X11_mayGet at HW
    refine lv_aload_n hx hb dX11_mayGet_0 rfl (lv_at hl 0 rfl) ?_
    refine g_getr hx hb hw inG11 hown hK hG gl_135 rfl gk_135 (by decide) 21 (by decide) (by rw [gm_135]; decide) (r := 144) gr_135_21 lk36 dX11_mayGet_1 ?_
    refine lv_iload_n hx hb dX11_mayGet_4 rfl (lv_at hl 1 rfl) ?_
    refine g_iald hx hb hK hG gl_144 gk_144 gn_144 HW.1 dX11_mayGet_5 ?_
    replace HW := HW.2
    refine lv_topi (fun x3_6 ex3_6 => ?_)
    replace HW := HW x3_6 ex3_6
    refine lv_istore_n (lv' := [(3, .int x3_6), (0, .ref (ad 135)), (1, .int x1), (2, .int x2)]) hx hb dX11_mayGet_6 rfl hl (by decide) rfl (fun ls hl => ?_)
    refine lv_iload_n hx hb dX11_mayGet_7 rfl (lv_at hl 0 rfl) ?_
    refine lv_iconst (v := (-1)) hx hb dX11_mayGet_8 (by decide) ?_
    refine lv_icmp_eq (tgt := 45) hx hb dX11_mayGet_9 (by decide) (fun c_9 => ?_) (fun c_9 => ?_)
    · replace HW := HW.1 c_9
      exact B45 h g _ _ _ HW hG (lv_sub hl [] rfl)
    · replace HW := HW.2 c_9
      refine lv_aload_n hx hb dX11_mayGet_12 rfl (lv_at hl 1 rfl) ?_
      refine g_getr hx hb hw inG11 hown hK hG gl_135 rfl gk_135 (by decide) 0 (by decide) (by rw [gm_135]; decide) (r := 136) gr_135_0 lk7 dX11_mayGet_13 ?_
      refine lv_sipush (v := 710) hx hb dX11_mayGet_16 (by decide) ?_
      refine lv_iconst (v := 3) hx hb dX11_mayGet_19 (by decide) ?_
      refine lv_iload_n hx hb dX11_mayGet_20 rfl (lv_at hl 0 rfl) ?_
      refine lv_imul hx hb dX11_mayGet_21 ?_
      refine lv_iadd hx hb dX11_mayGet_22 ?_
      refine g_iald hx hb hK hG gl_136 gk_136 gn_136 HW.1 dX11_mayGet_23 ?_
      replace HW := HW.2
      refine lv_aload_n hx hb dX11_mayGet_24 rfl (lv_at hl 1 rfl) ?_
      refine g_getr hx hb hw inG11 hown hK hG gl_135 rfl gk_135 (by decide) 0 (by decide) (by rw [gm_135]; decide) (r := 136) gr_135_0 lk7 dX11_mayGet_25 ?_
      refine lv_sipush (v := 704) hx hb dX11_mayGet_28 (by decide) ?_
      refine lv_iload_n hx hb dX11_mayGet_31 rfl (lv_at hl 2 rfl) ?_
      refine lv_iadd hx hb dX11_mayGet_32 ?_
      refine g_iald hx hb hK hG gl_136 gk_136 gn_136 HW.1 dX11_mayGet_33 ?_
      replace HW := HW.2
      refine lv_icmp_ne (tgt := 49) hx hb dX11_mayGet_34 (by decide) (fun c_34 => ?_) (fun c_34 => ?_)
      · replace HW := HW.1 c_34
        refine lv_iconst (v := 0) hx hb dX11_mayGet_49 (by decide) ?_
        exact W.zret (v := (0 : Int32)) hx hb hr rfl (fun t ht hW => ⟨⟨(0 : Int32), (h, g), rfl, ⟨Or.inl rfl, HW⟩, g_B ht hG⟩, hG.2.2.F ht⟩) hG.2.2.2.2 dX11_mayGet_50
      · replace HW := HW.2 c_34
        refine lv_iload_n hx hb dX11_mayGet_37 rfl (lv_at hl 3 rfl) ?_
        refine lv_iload_n hx hb dX11_mayGet_38 rfl (lv_at hl 0 rfl) ?_
        refine lv_ishr hx hb dX11_mayGet_39 ?_
        refine lv_iconst (v := 1) hx hb dX11_mayGet_40 (by decide) ?_
        refine lv_iand hx hb dX11_mayGet_41 ?_
        refine lv_if_ne (tgt := 49) hx hb dX11_mayGet_42 (by decide) (fun c_42 => ?_) (fun c_42 => ?_)
        · replace HW := HW.1 c_42
          refine lv_iconst (v := 0) hx hb dX11_mayGet_49 (by decide) ?_
          exact W.zret (v := (0 : Int32)) hx hb hr rfl (fun t ht hW => ⟨⟨(0 : Int32), (h, g), rfl, ⟨Or.inl rfl, HW⟩, g_B ht hG⟩, hG.2.2.F ht⟩) hG.2.2.2.2 dX11_mayGet_50
        · replace HW := HW.2 c_42
          exact B45 h g _ _ _ HW hG (lv_sub hl [] rfl)
  exact E0 _ _ _ hG hl

def j_X11_givenTo_32 (Q : Int32 → HI → HL → Prop) (K4 : Int32 → Int32 → Int32 → HI → HL → Prop) (x1 : Int32) (x3 : Int32) (s0 : Int32) (s1 : Int32) (h : HI) (g : HL) : Prop :=
  (∀ x2_33 : Int32, x2_33 = (s0 ||| s1) → (∀ x3_34 : Int32, x3_34 = (x3 + 1) → K4 x1 x2_33 x3_34 h g))
def b_X11_givenTo_4 (Q : Int32 → HI → HL → Prop) (K4 : Int32 → Int32 → Int32 → HI → HL → Prop) (x1 : Int32) (x2 : Int32) (x3 : Int32) (h : HI) (g : HL) : Prop :=
  ((x1 ≤ x3 → Q x2 h g) ∧ (¬ x1 ≤ x3 → (vp_in x3 6 ∧ ((¬ (h 144 x3.toNatClampNeg) = (-1 : Int32) → (vp_in x3 6 ∧ j_X11_givenTo_32 Q K4 x1 x3 x2 ((1 : Int32) <<< ((h 144 x3.toNatClampNeg) &&& 31)) h g)) ∧ ((h 144 x3.toNatClampNeg) = (-1 : Int32) → j_X11_givenTo_32 Q K4 x1 x3 x2 (0 : Int32) h g)))))
def F_X11_givenTo_4 (Q : Int32 → HI → HL → Prop) (K : Int32 × Int32 × Int32 × HI × HL → Prop) (q : Int32 × Int32 × Int32 × HI × HL) : Prop := b_X11_givenTo_4 Q (fun x1 x2 x3 h g => K (x1, x2, x3, h, g)) q.1 q.2.1 q.2.2.1 q.2.2.2.1 q.2.2.2.2
def w_X11_givenTo (x1 : Int32) (h : HI) (g : HL) (Q : Int32 → HI → HL → Prop) : Prop :=
  lpE (F_X11_givenTo_4 Q) (x1, (0 : Int32), (0 : Int32), h, g)
set_option maxHeartbeats 8000000 in
set_option maxRecDepth 100000 in
theorem m_X11_givenTo (l : Launch) (D : va_G) (cy : Nat → ClassId) (ad : Nat → Nat) (h : HI) (g : HL) (sz : Nat) (x1 : Int32) (Q : Int32 → HI → HL → Prop) (HW : w_X11_givenTo x1 h g Q) : Met l yX11_givenTo (wa yX11_givenTo cX11_givenTo 4 (some .int)) ({ frames := 0, cells := 0, slots := 0, locals := 0 }) (va_Pc [.ref (ad 135), .int x1] (gI D cy ad h g sz)) (va_Qi (fun (r : Int32) (u : HI × HL) => Q r u.1 u.2) (gB D cy ad sz) (gA ad sz)) 0 0 (gA ad sz) := by
  refine Met.ofW (cc := cX11_givenTo) (maxL := 4) (ret := (some .int)) (by decide) rfl ?_
  intro p e s m args below meth c s₁ B hml hv
  obtain ⟨hav, hsz, hP, hK, hD0, hNw⟩ := hv
  have hx := B.exec
  have hb := B.bytes
  have hr := B.returns
  have hts := atoms_spec (ws := (wa yX11_givenTo cX11_givenTo 4 (some .int))) B.pre
  have hw := wa_hw hts
  have hown : s.vm.findClass RX11 = some m.cls := findClass_of_methodNamed B.named
  have hlocks := B.notSynchronized
  subst hsz
  have hG : gG D cy ad (gA ad s.heap.size) s.heap h g s.heap [] := ⟨hP, gA_self hD0, va_S.rf⟩
  clear hP hD0
  have lk36 := hw (.fieldLink RX11 36 "OldWorksModel" "gets" "[I") (wm5 48 rfl rfl)
  rw [show (headSpec (wa yX11_givenTo cX11_givenTo 4 (some .int)) ({ frames := 0, cells := 0, slots := 0, locals := 0 } : Room)).room = ({ frames := 0, cells := 0, slots := 0, locals := 0 } : Room) from rfl]
  have hl := lv_entry ([.ref (ad 135), .int x1]) (n := 4) (Nat.le_of_ble_eq_true rfl)
  rw [show entryFrame m args 4 = entryFrame m ([.ref (ad 135), .int x1] : List Value).toArray 4 from by rw [hav], lg_entry_eq]
  generalize (lg_sl ([.ref (ad 135), .int x1]) ++ List.replicate (4 - (lg_sl ([.ref (ad 135), .int x1])).length) Slot.unset).toArray = ls at hl ⊢
  have hl : lv_has ls 4 [(0, .ref (ad 135)), (1, .int x1)] := hl
  have B32 : ∀ (K4 : Int32 → Int32 → Int32 → HI → HL → Prop) (hK4 : ∀ (x1 : Int32) (x2 : Int32) (x3 : Int32) (h : HI) (g : HL) (H : Heap) (locs : List Loc) (ls : Array Slot), K4 x1 x2 x3 h g → gG D cy ad (gA ad s.heap.size) s.heap h g H locs → lv_has ls 4 [(0, .ref (ad 135)), (1, .int x1), (2, .int x2), (3, .int x3)] → W p l e ({ frames := 0, cells := 0, slots := 0, locals := 0 } : Room) s m args below meth c H locs 0 0 (MQ below (va_Qi (fun (r : Int32) (u : HI × HL) => Q r u.1 u.2) (gB D cy ad s.heap.size) (gA ad s.heap.size)) args s 0 0 (gA ad s.heap.size)) (F0 m 4 ls [])) (x1 : Int32) (x3 : Int32) (s0 : Int32) (s1 : Int32) (h : HI) (g : HL) (H : Heap) (locs : List Loc) (ls : Array Slot), j_X11_givenTo_32 Q K4 x1 x3 s0 s1 h g → gG D cy ad (gA ad s.heap.size) s.heap h g H locs → lv_has ls 4 [(0, .ref (ad 135)), (1, .int x1), (3, .int x3)] → W p l e ({ frames := 0, cells := 0, slots := 0, locals := 0 } : Room) s m args below meth c H locs 0 0 (MQ below (va_Qi (fun (r : Int32) (u : HI × HL) => Q r u.1 u.2) (gB D cy ad s.heap.size) (gA ad s.heap.size)) args s 0 0 (gA ad s.heap.size)) (F0 m 32 ls [.int s1, .int s0]) := by
    intro K4 hK4 x1 x3 s0 s1 h g H locs ls HW hG hl
    unfold j_X11_givenTo_32 at HW
    refine lv_ior hx hb dX11_givenTo_32 ?_
    refine lv_topi (fun x2_33 ex2_33 => ?_)
    replace HW := HW x2_33 ex2_33
    refine lv_istore_n (lv' := [(2, .int x2_33), (0, .ref (ad 135)), (1, .int x1), (3, .int x3)]) hx hb dX11_givenTo_33 rfl hl (by decide) rfl (fun ls hl => ?_)
    obtain ⟨x3_34, ex3_34⟩ : ∃ y : Int32, y = (x3 + 1) := ⟨_, rfl⟩
    replace HW := HW x3_34 ex3_34
    refine lv_iinc (v := x3_34) (lv' := [(3, .int x3_34), (2, .int x2_33), (0, .ref (ad 135)), (1, .int x1)]) hx hb dX11_givenTo_34 hl (k := 3) rfl (by rw [ex3_34]; rfl) (by decide) rfl (fun ls hl => ?_)
    refine lv_goto (tgt := 4) hx hb dX11_givenTo_37 (by decide) ?_
    exact hK4 x1 x2_33 x3_34 h g _ _ _ HW hG (lv_sub hl [2, 3, 1, 0] rfl)
  have L4 : ∀ (n : Nat) (x1 : Int32) (x2 : Int32) (x3 : Int32) (h : HI) (g : HL) (H : Heap) (locs : List Loc) (ls : Array Slot), lpN (F_X11_givenTo_4 Q) n (x1, x2, x3, h, g) → gG D cy ad (gA ad s.heap.size) s.heap h g H locs → lv_has ls 4 [(0, .ref (ad 135)), (1, .int x1), (2, .int x2), (3, .int x3)] → W p l e ({ frames := 0, cells := 0, slots := 0, locals := 0 } : Room) s m args below meth c H locs 0 0 (MQ below (va_Qi (fun (r : Int32) (u : HI × HL) => Q r u.1 u.2) (gB D cy ad s.heap.size) (gA ad s.heap.size)) args s 0 0 (gA ad s.heap.size)) (F0 m 4 ls []) := by
    intro n
    induction n with
    | zero => intro x1 x2 x3 h g H locs ls HW; exact HW.elim
    | succ n ih =>
      intro x1 x2 x3 h g H locs ls HW hG hl
      have HW : b_X11_givenTo_4 Q (fun x1 x2 x3 h g => lpN (F_X11_givenTo_4 Q) n (x1, x2, x3, h, g)) x1 x2 x3 h g := HW
      generalize hKe : (fun (x1 : Int32) (x2 : Int32) (x3 : Int32) (h : HI) (g : HL) => lpN (F_X11_givenTo_4 Q) n (x1, x2, x3, h, g)) = K4 at HW
      have hK4 : ∀ (x1 : Int32) (x2 : Int32) (x3 : Int32) (h : HI) (g : HL) (H : Heap) (locs : List Loc) (ls : Array Slot), K4 x1 x2 x3 h g → gG D cy ad (gA ad s.heap.size) s.heap h g H locs → lv_has ls 4 [(0, .ref (ad 135)), (1, .int x1), (2, .int x2), (3, .int x3)] → W p l e ({ frames := 0, cells := 0, slots := 0, locals := 0 } : Room) s m args below meth c H locs 0 0 (MQ below (va_Qi (fun (r : Int32) (u : HI × HL) => Q r u.1 u.2) (gB D cy ad s.heap.size) (gA ad s.heap.size)) args s 0 0 (gA ad s.heap.size)) (F0 m 4 ls []) := by subst hKe; exact ih
      clear ih
      clear hKe
      unfold b_X11_givenTo_4 at HW
      refine lv_iload_n hx hb dX11_givenTo_4 rfl (lv_at hl 3 rfl) ?_
      refine lv_iload_n hx hb dX11_givenTo_5 rfl (lv_at hl 1 rfl) ?_
      refine lv_icmp_ge (tgt := 40) hx hb dX11_givenTo_6 (by decide) (fun c_6 => ?_) (fun c_6 => ?_)
      · replace HW := HW.1 c_6
        refine lv_iload_n hx hb dX11_givenTo_40 rfl (lv_at hl 2 rfl) ?_
        exact W.iret (v := x2) hx hb hr (fun t ht hW => ⟨⟨x2, (h, g), rfl, HW, g_B ht hG⟩, hG.2.2.F ht⟩) hG.2.2.2.2 dX11_givenTo_41
      · replace HW := HW.2 c_6
        refine lv_iload_n hx hb dX11_givenTo_9 rfl (lv_at hl 2 rfl) ?_
        refine lv_aload_n hx hb dX11_givenTo_10 rfl (lv_at hl 0 rfl) ?_
        refine g_getr hx hb hw inG11 hown hK hG gl_135 rfl gk_135 (by decide) 21 (by decide) (by rw [gm_135]; decide) (r := 144) gr_135_21 lk36 dX11_givenTo_11 ?_
        refine lv_iload_n hx hb dX11_givenTo_14 rfl (lv_at hl 3 rfl) ?_
        refine g_iald hx hb hK hG gl_144 gk_144 gn_144 HW.1 dX11_givenTo_15 ?_
        replace HW := HW.2
        refine lv_iconst (v := (-1)) hx hb dX11_givenTo_16 (by decide) ?_
        refine lv_icmp_ne (tgt := 24) hx hb dX11_givenTo_17 (by decide) (fun c_17 => ?_) (fun c_17 => ?_)
        · replace HW := HW.1 c_17
          refine lv_iconst (v := 1) hx hb dX11_givenTo_24 (by decide) ?_
          refine lv_aload_n hx hb dX11_givenTo_25 rfl (lv_at hl 0 rfl) ?_
          refine g_getr hx hb hw inG11 hown hK hG gl_135 rfl gk_135 (by decide) 21 (by decide) (by rw [gm_135]; decide) (r := 144) gr_135_21 lk36 dX11_givenTo_26 ?_
          refine lv_iload_n hx hb dX11_givenTo_29 rfl (lv_at hl 3 rfl) ?_
          refine g_iald hx hb hK hG gl_144 gk_144 gn_144 HW.1 dX11_givenTo_30 ?_
          replace HW := HW.2
          refine lv_ishl hx hb dX11_givenTo_31 ?_
          exact B32 K4 hK4 x1 x3 x2 ((1 : Int32) <<< ((h 144 x3.toNatClampNeg) &&& 31)) h g _ _ _ HW hG (lv_sub hl [0, 1, 3] rfl)
        · replace HW := HW.2 c_17
          refine lv_iconst (v := 0) hx hb dX11_givenTo_20 (by decide) ?_
          refine lv_goto (tgt := 32) hx hb dX11_givenTo_21 (by decide) ?_
          exact B32 K4 hK4 x1 x3 x2 (0 : Int32) h g _ _ _ HW hG (lv_sub hl [0, 1, 3] rfl)
  have E0 : ∀ (H : Heap) (locs : List Loc) (ls : Array Slot), gG D cy ad (gA ad s.heap.size) s.heap h g H locs → lv_has ls 4 [(0, .ref (ad 135)), (1, .int x1)] → W p l e ({ frames := 0, cells := 0, slots := 0, locals := 0 } : Room) s m args below meth c H locs 0 0 (MQ below (va_Qi (fun (r : Int32) (u : HI × HL) => Q r u.1 u.2) (gB D cy ad s.heap.size) (gA ad s.heap.size)) args s 0 0 (gA ad s.heap.size)) (F0 m 0 ls []) := by
    intro H locs ls hG hl
    unfold w_X11_givenTo at HW
    refine lv_iconst (v := 0) hx hb dX11_givenTo_0 (by decide) ?_
    refine lv_istore_n (lv' := [(2, .int (0 : Int32)), (0, .ref (ad 135)), (1, .int x1)]) hx hb dX11_givenTo_1 rfl hl (by decide) rfl (fun ls hl => ?_)
    refine lv_iconst (v := 0) hx hb dX11_givenTo_2 (by decide) ?_
    refine lv_istore_n (lv' := [(3, .int (0 : Int32)), (2, .int (0 : Int32)), (0, .ref (ad 135)), (1, .int x1)]) hx hb dX11_givenTo_3 rfl hl (by decide) rfl (fun ls hl => ?_)
    obtain ⟨n_4, HW⟩ := HW
    exact L4 n_4 x1 (0 : Int32) (0 : Int32) h g _ _ _ HW hG (lv_sub hl [2, 3, 1, 0] rfl)
  exact E0 _ _ _ hG hl

def j_X11_yearsOf_125 (Q : Int32 → HI → HL → Prop) (K10 : Int32 → Int32 → Int32 → Int32 → Int32 → HI → HL → Prop) (x1 : Int32) (x2 : Int32) (x3 : Int32) (x5 : Int32) (s0 : Int32) (s1 : Int32) (h : HI) (g : HL) : Prop :=
  (∀ x4_126 : Int32, x4_126 = (s0 ||| s1) → (∀ x5_128 : Int32, x5_128 = (x5 + 1) → K10 x1 x2 x3 x4_126 x5_128 h g))
def j_X11_yearsOf_124 (Q : Int32 → HI → HL → Prop) (K10 : Int32 → Int32 → Int32 → Int32 → Int32 → HI → HL → Prop) (x1 : Int32) (x2 : Int32) (x3 : Int32) (x5 : Int32) (s0 : Int32) (h : HI) (g : HL) : Prop :=
  j_X11_yearsOf_125 Q K10 x1 x2 x3 x5 s0 (0 : Int32) h g
def j_X11_yearsOf_102 (Q : Int32 → HI → HL → Prop) (K10 : Int32 → Int32 → Int32 → Int32 → Int32 → HI → HL → Prop) (x1 : Int32) (x2 : Int32) (x4 : Int32) (x5 : Int32) (x6 : Int32) (x7 : Int32) (s0 : Int32) (s1 : Int32) (h : HI) (g : HL) : Prop :=
  (∀ x3_103 : Int32, x3_103 = (s0 ||| s1) → ((¬ x7 = 0 → j_X11_yearsOf_124 Q K10 x1 x2 x3_103 x5 x4 h g) ∧ (x7 = 0 → ((x6 = (-1 : Int32) → j_X11_yearsOf_124 Q K10 x1 x2 x3_103 x5 x4 h g) ∧ (¬ x6 = (-1 : Int32) → j_X11_yearsOf_125 Q K10 x1 x2 x3_103 x5 x4 ((1 : Int32) <<< (x6 &&& 31)) h g)))))
def j_X11_yearsOf_101 (Q : Int32 → HI → HL → Prop) (K10 : Int32 → Int32 → Int32 → Int32 → Int32 → HI → HL → Prop) (x1 : Int32) (x2 : Int32) (x4 : Int32) (x5 : Int32) (x6 : Int32) (x7 : Int32) (s0 : Int32) (h : HI) (g : HL) : Prop :=
  j_X11_yearsOf_102 Q K10 x1 x2 x4 x5 x6 x7 s0 (0 : Int32) h g
def j_X11_yearsOf_80 (Q : Int32 → HI → HL → Prop) (K10 : Int32 → Int32 → Int32 → Int32 → Int32 → HI → HL → Prop) (x1 : Int32) (x3 : Int32) (x4 : Int32) (x5 : Int32) (x6 : Int32) (x7 : Int32) (s0 : Int32) (s1 : Int32) (h : HI) (g : HL) : Prop :=
  (∀ x2_81 : Int32, x2_81 = (s0 + s1) → ((x7 = 0 → j_X11_yearsOf_101 Q K10 x1 x2_81 x4 x5 x6 x7 x3 h g) ∧ (¬ x7 = 0 → ((x6 = (-1 : Int32) → j_X11_yearsOf_101 Q K10 x1 x2_81 x4 x5 x6 x7 x3 h g) ∧ (¬ x6 = (-1 : Int32) → j_X11_yearsOf_102 Q K10 x1 x2_81 x4 x5 x6 x7 x3 ((1 : Int32) <<< (x6 &&& 31)) h g)))))
def j_X11_yearsOf_53 (Q : Int32 → HI → HL → Prop) (K10 : Int32 → Int32 → Int32 → Int32 → Int32 → HI → HL → Prop) (x1 : Int32) (x2 : Int32) (x3 : Int32) (x4 : Int32) (x5 : Int32) (x6 : Int32) (s0 : Int32) (h : HI) (g : HL) : Prop :=
  ((s0 = 0 → j_X11_yearsOf_80 Q K10 x1 x3 x4 x5 x6 s0 x2 (0 : Int32) h g) ∧ (¬ s0 = 0 → (vp_in (((710 : Int32) + ((3 : Int32) * x5)) + (1 : Int32)) 887 ∧ j_X11_yearsOf_80 Q K10 x1 x3 x4 x5 x6 s0 x2 (h 136 (((710 : Int32) + ((3 : Int32) * x5)) + (1 : Int32)).toNatClampNeg) h g)))
def b_X11_yearsOf_10 (Q : Int32 → HI → HL → Prop) (K10 : Int32 → Int32 → Int32 → Int32 → Int32 → HI → HL → Prop) (x1 : Int32) (x2 : Int32) (x3 : Int32) (x4 : Int32) (x5 : Int32) (h : HI) (g : HL) : Prop :=
  (vp_in (5 : Int32) 887 ∧ (((h 136 (5 : Int32).toNatClampNeg) ≤ x5 → (((x3 &&& x4) = 0 → Q x2 h g) ∧ (¬ (x3 &&& x4) = 0 → Q (-1 : Int32) h g))) ∧ (¬ (h 136 (5 : Int32).toNatClampNeg) ≤ x5 → (vp_in (((710 : Int32) + ((3 : Int32) * x5)) + (2 : Int32)) 887 ∧ (∀ x6_36 : Int32, x6_36 = (h 136 (((710 : Int32) + ((3 : Int32) * x5)) + (2 : Int32)).toNatClampNeg) → ((¬ ((x1 >>> (x5 &&& 31)) &&& (1 : Int32)) = (1 : Int32) → j_X11_yearsOf_53 Q K10 x1 x2 x3 x4 x5 x6_36 (0 : Int32) h g) ∧ (((x1 >>> (x5 &&& 31)) &&& (1 : Int32)) = (1 : Int32) → j_X11_yearsOf_53 Q K10 x1 x2 x3 x4 x5 x6_36 (1 : Int32) h g)))))))
def F_X11_yearsOf_10 (Q : Int32 → HI → HL → Prop) (K : Int32 × Int32 × Int32 × Int32 × Int32 × HI × HL → Prop) (q : Int32 × Int32 × Int32 × Int32 × Int32 × HI × HL) : Prop := b_X11_yearsOf_10 Q (fun x1 x2 x3 x4 x5 h g => K (x1, x2, x3, x4, x5, h, g)) q.1 q.2.1 q.2.2.1 q.2.2.2.1 q.2.2.2.2.1 q.2.2.2.2.2.1 q.2.2.2.2.2.2
def w_X11_yearsOf (x1 : Int32) (h : HI) (g : HL) (Q : Int32 → HI → HL → Prop) : Prop :=
  lpE (F_X11_yearsOf_10 Q) (x1, (0 : Int32), (0 : Int32), (0 : Int32), (0 : Int32), h, g)
set_option maxHeartbeats 8000000 in
set_option maxRecDepth 100000 in
theorem m_X11_yearsOf (l : Launch) (D : va_G) (cy : Nat → ClassId) (ad : Nat → Nat) (h : HI) (g : HL) (sz : Nat) (x1 : Int32) (Q : Int32 → HI → HL → Prop) (HW : w_X11_yearsOf x1 h g Q) : Met l yX11_yearsOf (wa yX11_yearsOf cX11_yearsOf 8 (some .int)) ({ frames := 0, cells := 0, slots := 0, locals := 0 }) (va_Pc [.ref (ad 135), .int x1] (gI D cy ad h g sz)) (va_Qi (fun (r : Int32) (u : HI × HL) => Q r u.1 u.2) (gB D cy ad sz) (gA ad sz)) 0 0 (gA ad sz) := by
  refine Met.ofW (cc := cX11_yearsOf) (maxL := 8) (ret := (some .int)) (by decide) rfl ?_
  intro p e s m args below meth c s₁ B hml hv
  obtain ⟨hav, hsz, hP, hK, hD0, hNw⟩ := hv
  have hx := B.exec
  have hb := B.bytes
  have hr := B.returns
  have hts := atoms_spec (ws := (wa yX11_yearsOf cX11_yearsOf 8 (some .int))) B.pre
  have hw := wa_hw hts
  have hown : s.vm.findClass RX11 = some m.cls := findClass_of_methodNamed B.named
  have hlocks := B.notSynchronized
  subst hsz
  have hG : gG D cy ad (gA ad s.heap.size) s.heap h g s.heap [] := ⟨hP, gA_self hD0, va_S.rf⟩
  clear hP hD0
  have lk7 := hw (.fieldLink RX11 7 "OldWorksModel" "st" "[I") (wm5 27 rfl rfl)
  rw [show (headSpec (wa yX11_yearsOf cX11_yearsOf 8 (some .int)) ({ frames := 0, cells := 0, slots := 0, locals := 0 } : Room)).room = ({ frames := 0, cells := 0, slots := 0, locals := 0 } : Room) from rfl]
  have hl := lv_entry ([.ref (ad 135), .int x1]) (n := 8) (Nat.le_of_ble_eq_true rfl)
  rw [show entryFrame m args 8 = entryFrame m ([.ref (ad 135), .int x1] : List Value).toArray 8 from by rw [hav], lg_entry_eq]
  generalize (lg_sl ([.ref (ad 135), .int x1]) ++ List.replicate (8 - (lg_sl ([.ref (ad 135), .int x1])).length) Slot.unset).toArray = ls at hl ⊢
  have hl : lv_has ls 8 [(0, .ref (ad 135)), (1, .int x1)] := hl
  have B125 : ∀ (K10 : Int32 → Int32 → Int32 → Int32 → Int32 → HI → HL → Prop) (hK10 : ∀ (x1 : Int32) (x2 : Int32) (x3 : Int32) (x4 : Int32) (x5 : Int32) (h : HI) (g : HL) (H : Heap) (locs : List Loc) (ls : Array Slot), K10 x1 x2 x3 x4 x5 h g → gG D cy ad (gA ad s.heap.size) s.heap h g H locs → lv_has ls 8 [(0, .ref (ad 135)), (1, .int x1), (2, .int x2), (3, .int x3), (4, .int x4), (5, .int x5)] → W p l e ({ frames := 0, cells := 0, slots := 0, locals := 0 } : Room) s m args below meth c H locs 0 0 (MQ below (va_Qi (fun (r : Int32) (u : HI × HL) => Q r u.1 u.2) (gB D cy ad s.heap.size) (gA ad s.heap.size)) args s 0 0 (gA ad s.heap.size)) (F0 m 10 ls [])) (x1 : Int32) (x2 : Int32) (x3 : Int32) (x5 : Int32) (s0 : Int32) (s1 : Int32) (h : HI) (g : HL) (H : Heap) (locs : List Loc) (ls : Array Slot), j_X11_yearsOf_125 Q K10 x1 x2 x3 x5 s0 s1 h g → gG D cy ad (gA ad s.heap.size) s.heap h g H locs → lv_has ls 8 [(0, .ref (ad 135)), (1, .int x1), (2, .int x2), (3, .int x3), (5, .int x5)] → W p l e ({ frames := 0, cells := 0, slots := 0, locals := 0 } : Room) s m args below meth c H locs 0 0 (MQ below (va_Qi (fun (r : Int32) (u : HI × HL) => Q r u.1 u.2) (gB D cy ad s.heap.size) (gA ad s.heap.size)) args s 0 0 (gA ad s.heap.size)) (F0 m 125 ls [.int s1, .int s0]) := by
    intro K10 hK10 x1 x2 x3 x5 s0 s1 h g H locs ls HW hG hl
    unfold j_X11_yearsOf_125 at HW
    refine lv_ior hx hb dX11_yearsOf_125 ?_
    refine lv_topi (fun x4_126 ex4_126 => ?_)
    replace HW := HW x4_126 ex4_126
    refine lv_istore (lv' := [(4, .int x4_126), (0, .ref (ad 135)), (1, .int x1), (2, .int x2), (3, .int x3), (5, .int x5)]) hx hb dX11_yearsOf_126 hl (by decide) rfl (fun ls hl => ?_)
    obtain ⟨x5_128, ex5_128⟩ : ∃ y : Int32, y = (x5 + 1) := ⟨_, rfl⟩
    replace HW := HW x5_128 ex5_128
    refine lv_iinc (v := x5_128) (lv' := [(5, .int x5_128), (4, .int x4_126), (0, .ref (ad 135)), (1, .int x1), (2, .int x2), (3, .int x3)]) hx hb dX11_yearsOf_128 hl (k := 5) rfl (by rw [ex5_128]; rfl) (by decide) rfl (fun ls hl => ?_)
    refine lv_goto (tgt := 10) hx hb dX11_yearsOf_131 (by decide) ?_
    exact hK10 x1 x2 x3 x4_126 x5_128 h g _ _ _ HW hG (lv_sub hl [2, 3, 4, 5, 1, 0] rfl)
  have B124 : ∀ (K10 : Int32 → Int32 → Int32 → Int32 → Int32 → HI → HL → Prop) (hK10 : ∀ (x1 : Int32) (x2 : Int32) (x3 : Int32) (x4 : Int32) (x5 : Int32) (h : HI) (g : HL) (H : Heap) (locs : List Loc) (ls : Array Slot), K10 x1 x2 x3 x4 x5 h g → gG D cy ad (gA ad s.heap.size) s.heap h g H locs → lv_has ls 8 [(0, .ref (ad 135)), (1, .int x1), (2, .int x2), (3, .int x3), (4, .int x4), (5, .int x5)] → W p l e ({ frames := 0, cells := 0, slots := 0, locals := 0 } : Room) s m args below meth c H locs 0 0 (MQ below (va_Qi (fun (r : Int32) (u : HI × HL) => Q r u.1 u.2) (gB D cy ad s.heap.size) (gA ad s.heap.size)) args s 0 0 (gA ad s.heap.size)) (F0 m 10 ls [])) (x1 : Int32) (x2 : Int32) (x3 : Int32) (x5 : Int32) (s0 : Int32) (h : HI) (g : HL) (H : Heap) (locs : List Loc) (ls : Array Slot), j_X11_yearsOf_124 Q K10 x1 x2 x3 x5 s0 h g → gG D cy ad (gA ad s.heap.size) s.heap h g H locs → lv_has ls 8 [(0, .ref (ad 135)), (1, .int x1), (2, .int x2), (3, .int x3), (5, .int x5)] → W p l e ({ frames := 0, cells := 0, slots := 0, locals := 0 } : Room) s m args below meth c H locs 0 0 (MQ below (va_Qi (fun (r : Int32) (u : HI × HL) => Q r u.1 u.2) (gB D cy ad s.heap.size) (gA ad s.heap.size)) args s 0 0 (gA ad s.heap.size)) (F0 m 124 ls [.int s0]) := by
    intro K10 hK10 x1 x2 x3 x5 s0 h g H locs ls HW hG hl
    unfold j_X11_yearsOf_124 at HW
    refine lv_iconst (v := 0) hx hb dX11_yearsOf_124 (by decide) ?_
    exact B125 K10 hK10 x1 x2 x3 x5 s0 (0 : Int32) h g _ _ _ HW hG (lv_sub hl [0, 1, 2, 3, 4] rfl)
  have B102 : ∀ (K10 : Int32 → Int32 → Int32 → Int32 → Int32 → HI → HL → Prop) (hK10 : ∀ (x1 : Int32) (x2 : Int32) (x3 : Int32) (x4 : Int32) (x5 : Int32) (h : HI) (g : HL) (H : Heap) (locs : List Loc) (ls : Array Slot), K10 x1 x2 x3 x4 x5 h g → gG D cy ad (gA ad s.heap.size) s.heap h g H locs → lv_has ls 8 [(0, .ref (ad 135)), (1, .int x1), (2, .int x2), (3, .int x3), (4, .int x4), (5, .int x5)] → W p l e ({ frames := 0, cells := 0, slots := 0, locals := 0 } : Room) s m args below meth c H locs 0 0 (MQ below (va_Qi (fun (r : Int32) (u : HI × HL) => Q r u.1 u.2) (gB D cy ad s.heap.size) (gA ad s.heap.size)) args s 0 0 (gA ad s.heap.size)) (F0 m 10 ls [])) (x1 : Int32) (x2 : Int32) (x4 : Int32) (x5 : Int32) (x6 : Int32) (x7 : Int32) (s0 : Int32) (s1 : Int32) (h : HI) (g : HL) (H : Heap) (locs : List Loc) (ls : Array Slot), j_X11_yearsOf_102 Q K10 x1 x2 x4 x5 x6 x7 s0 s1 h g → gG D cy ad (gA ad s.heap.size) s.heap h g H locs → lv_has ls 8 [(0, .ref (ad 135)), (1, .int x1), (2, .int x2), (4, .int x4), (5, .int x5), (6, .int x6), (7, .int x7)] → W p l e ({ frames := 0, cells := 0, slots := 0, locals := 0 } : Room) s m args below meth c H locs 0 0 (MQ below (va_Qi (fun (r : Int32) (u : HI × HL) => Q r u.1 u.2) (gB D cy ad s.heap.size) (gA ad s.heap.size)) args s 0 0 (gA ad s.heap.size)) (F0 m 102 ls [.int s1, .int s0]) := by
    intro K10 hK10 x1 x2 x4 x5 x6 x7 s0 s1 h g H locs ls HW hG hl
    unfold j_X11_yearsOf_102 at HW
    refine lv_ior hx hb dX11_yearsOf_102 ?_
    refine lv_topi (fun x3_103 ex3_103 => ?_)
    replace HW := HW x3_103 ex3_103
    refine lv_istore_n (lv' := [(3, .int x3_103), (0, .ref (ad 135)), (1, .int x1), (2, .int x2), (4, .int x4), (5, .int x5), (6, .int x6), (7, .int x7)]) hx hb dX11_yearsOf_103 rfl hl (by decide) rfl (fun ls hl => ?_)
    refine lv_iload hx hb dX11_yearsOf_104 (lv_at hl 4 rfl) ?_
    refine lv_iload hx hb dX11_yearsOf_106 (lv_at hl 7 rfl) ?_
    refine lv_if_ne (tgt := 124) hx hb dX11_yearsOf_108 (by decide) (fun c_108 => ?_) (fun c_108 => ?_)
    · replace HW := HW.1 c_108
      exact B124 K10 hK10 x1 x2 x3_103 x5 x4 h g _ _ _ HW hG (lv_sub hl [1, 2, 3, 0, 5] rfl)
    · replace HW := HW.2 c_108
      refine lv_iload hx hb dX11_yearsOf_111 (lv_at hl 6 rfl) ?_
      refine lv_iconst (v := (-1)) hx hb dX11_yearsOf_113 (by decide) ?_
      refine lv_icmp_eq (tgt := 124) hx hb dX11_yearsOf_114 (by decide) (fun c_114 => ?_) (fun c_114 => ?_)
      · replace HW := HW.1 c_114
        exact B124 K10 hK10 x1 x2 x3_103 x5 x4 h g _ _ _ HW hG (lv_sub hl [1, 2, 3, 0, 5] rfl)
      · replace HW := HW.2 c_114
        refine lv_iconst (v := 1) hx hb dX11_yearsOf_117 (by decide) ?_
        refine lv_iload hx hb dX11_yearsOf_118 (lv_at hl 6 rfl) ?_
        refine lv_ishl hx hb dX11_yearsOf_120 ?_
        refine lv_goto (tgt := 125) hx hb dX11_yearsOf_121 (by decide) ?_
        exact B125 K10 hK10 x1 x2 x3_103 x5 x4 ((1 : Int32) <<< (x6 &&& 31)) h g _ _ _ HW hG (lv_sub hl [1, 2, 3, 0, 5] rfl)
  have B101 : ∀ (K10 : Int32 → Int32 → Int32 → Int32 → Int32 → HI → HL → Prop) (hK10 : ∀ (x1 : Int32) (x2 : Int32) (x3 : Int32) (x4 : Int32) (x5 : Int32) (h : HI) (g : HL) (H : Heap) (locs : List Loc) (ls : Array Slot), K10 x1 x2 x3 x4 x5 h g → gG D cy ad (gA ad s.heap.size) s.heap h g H locs → lv_has ls 8 [(0, .ref (ad 135)), (1, .int x1), (2, .int x2), (3, .int x3), (4, .int x4), (5, .int x5)] → W p l e ({ frames := 0, cells := 0, slots := 0, locals := 0 } : Room) s m args below meth c H locs 0 0 (MQ below (va_Qi (fun (r : Int32) (u : HI × HL) => Q r u.1 u.2) (gB D cy ad s.heap.size) (gA ad s.heap.size)) args s 0 0 (gA ad s.heap.size)) (F0 m 10 ls [])) (x1 : Int32) (x2 : Int32) (x4 : Int32) (x5 : Int32) (x6 : Int32) (x7 : Int32) (s0 : Int32) (h : HI) (g : HL) (H : Heap) (locs : List Loc) (ls : Array Slot), j_X11_yearsOf_101 Q K10 x1 x2 x4 x5 x6 x7 s0 h g → gG D cy ad (gA ad s.heap.size) s.heap h g H locs → lv_has ls 8 [(0, .ref (ad 135)), (1, .int x1), (2, .int x2), (4, .int x4), (5, .int x5), (6, .int x6), (7, .int x7)] → W p l e ({ frames := 0, cells := 0, slots := 0, locals := 0 } : Room) s m args below meth c H locs 0 0 (MQ below (va_Qi (fun (r : Int32) (u : HI × HL) => Q r u.1 u.2) (gB D cy ad s.heap.size) (gA ad s.heap.size)) args s 0 0 (gA ad s.heap.size)) (F0 m 101 ls [.int s0]) := by
    intro K10 hK10 x1 x2 x4 x5 x6 x7 s0 h g H locs ls HW hG hl
    unfold j_X11_yearsOf_101 at HW
    refine lv_iconst (v := 0) hx hb dX11_yearsOf_101 (by decide) ?_
    exact B102 K10 hK10 x1 x2 x4 x5 x6 x7 s0 (0 : Int32) h g _ _ _ HW hG (lv_sub hl [0, 1, 2, 3, 4, 5, 6] rfl)
  have B80 : ∀ (K10 : Int32 → Int32 → Int32 → Int32 → Int32 → HI → HL → Prop) (hK10 : ∀ (x1 : Int32) (x2 : Int32) (x3 : Int32) (x4 : Int32) (x5 : Int32) (h : HI) (g : HL) (H : Heap) (locs : List Loc) (ls : Array Slot), K10 x1 x2 x3 x4 x5 h g → gG D cy ad (gA ad s.heap.size) s.heap h g H locs → lv_has ls 8 [(0, .ref (ad 135)), (1, .int x1), (2, .int x2), (3, .int x3), (4, .int x4), (5, .int x5)] → W p l e ({ frames := 0, cells := 0, slots := 0, locals := 0 } : Room) s m args below meth c H locs 0 0 (MQ below (va_Qi (fun (r : Int32) (u : HI × HL) => Q r u.1 u.2) (gB D cy ad s.heap.size) (gA ad s.heap.size)) args s 0 0 (gA ad s.heap.size)) (F0 m 10 ls [])) (x1 : Int32) (x3 : Int32) (x4 : Int32) (x5 : Int32) (x6 : Int32) (x7 : Int32) (s0 : Int32) (s1 : Int32) (h : HI) (g : HL) (H : Heap) (locs : List Loc) (ls : Array Slot), j_X11_yearsOf_80 Q K10 x1 x3 x4 x5 x6 x7 s0 s1 h g → gG D cy ad (gA ad s.heap.size) s.heap h g H locs → lv_has ls 8 [(0, .ref (ad 135)), (1, .int x1), (3, .int x3), (4, .int x4), (5, .int x5), (6, .int x6), (7, .int x7)] → W p l e ({ frames := 0, cells := 0, slots := 0, locals := 0 } : Room) s m args below meth c H locs 0 0 (MQ below (va_Qi (fun (r : Int32) (u : HI × HL) => Q r u.1 u.2) (gB D cy ad s.heap.size) (gA ad s.heap.size)) args s 0 0 (gA ad s.heap.size)) (F0 m 80 ls [.int s1, .int s0]) := by
    intro K10 hK10 x1 x3 x4 x5 x6 x7 s0 s1 h g H locs ls HW hG hl
    unfold j_X11_yearsOf_80 at HW
    refine lv_iadd hx hb dX11_yearsOf_80 ?_
    refine lv_topi (fun x2_81 ex2_81 => ?_)
    replace HW := HW x2_81 ex2_81
    refine lv_istore_n (lv' := [(2, .int x2_81), (0, .ref (ad 135)), (1, .int x1), (3, .int x3), (4, .int x4), (5, .int x5), (6, .int x6), (7, .int x7)]) hx hb dX11_yearsOf_81 rfl hl (by decide) rfl (fun ls hl => ?_)
    refine lv_iload_n hx hb dX11_yearsOf_82 rfl (lv_at hl 3 rfl) ?_
    refine lv_iload hx hb dX11_yearsOf_83 (lv_at hl 7 rfl) ?_
    refine lv_if_eq (tgt := 101) hx hb dX11_yearsOf_85 (by decide) (fun c_85 => ?_) (fun c_85 => ?_)
    · replace HW := HW.1 c_85
      exact B101 K10 hK10 x1 x2_81 x4 x5 x6 x7 x3 h g _ _ _ HW hG (lv_sub hl [1, 2, 0, 4, 5, 6, 7] rfl)
    · replace HW := HW.2 c_85
      refine lv_iload hx hb dX11_yearsOf_88 (lv_at hl 6 rfl) ?_
      refine lv_iconst (v := (-1)) hx hb dX11_yearsOf_90 (by decide) ?_
      refine lv_icmp_eq (tgt := 101) hx hb dX11_yearsOf_91 (by decide) (fun c_91 => ?_) (fun c_91 => ?_)
      · replace HW := HW.1 c_91
        exact B101 K10 hK10 x1 x2_81 x4 x5 x6 x7 x3 h g _ _ _ HW hG (lv_sub hl [1, 2, 0, 4, 5, 6, 7] rfl)
      · replace HW := HW.2 c_91
        refine lv_iconst (v := 1) hx hb dX11_yearsOf_94 (by decide) ?_
        refine lv_iload hx hb dX11_yearsOf_95 (lv_at hl 6 rfl) ?_
        refine lv_ishl hx hb dX11_yearsOf_97 ?_
        refine lv_goto (tgt := 102) hx hb dX11_yearsOf_98 (by decide) ?_
        exact B102 K10 hK10 x1 x2_81 x4 x5 x6 x7 x3 ((1 : Int32) <<< (x6 &&& 31)) h g _ _ _ HW hG (lv_sub hl [1, 2, 0, 4, 5, 6, 7] rfl)
  have B53 : ∀ (K10 : Int32 → Int32 → Int32 → Int32 → Int32 → HI → HL → Prop) (hK10 : ∀ (x1 : Int32) (x2 : Int32) (x3 : Int32) (x4 : Int32) (x5 : Int32) (h : HI) (g : HL) (H : Heap) (locs : List Loc) (ls : Array Slot), K10 x1 x2 x3 x4 x5 h g → gG D cy ad (gA ad s.heap.size) s.heap h g H locs → lv_has ls 8 [(0, .ref (ad 135)), (1, .int x1), (2, .int x2), (3, .int x3), (4, .int x4), (5, .int x5)] → W p l e ({ frames := 0, cells := 0, slots := 0, locals := 0 } : Room) s m args below meth c H locs 0 0 (MQ below (va_Qi (fun (r : Int32) (u : HI × HL) => Q r u.1 u.2) (gB D cy ad s.heap.size) (gA ad s.heap.size)) args s 0 0 (gA ad s.heap.size)) (F0 m 10 ls [])) (x1 : Int32) (x2 : Int32) (x3 : Int32) (x4 : Int32) (x5 : Int32) (x6 : Int32) (s0 : Int32) (h : HI) (g : HL) (H : Heap) (locs : List Loc) (ls : Array Slot), j_X11_yearsOf_53 Q K10 x1 x2 x3 x4 x5 x6 s0 h g → gG D cy ad (gA ad s.heap.size) s.heap h g H locs → lv_has ls 8 [(0, .ref (ad 135)), (1, .int x1), (2, .int x2), (3, .int x3), (4, .int x4), (5, .int x5), (6, .int x6)] → W p l e ({ frames := 0, cells := 0, slots := 0, locals := 0 } : Room) s m args below meth c H locs 0 0 (MQ below (va_Qi (fun (r : Int32) (u : HI × HL) => Q r u.1 u.2) (gB D cy ad s.heap.size) (gA ad s.heap.size)) args s 0 0 (gA ad s.heap.size)) (F0 m 53 ls [.int s0]) := by
    intro K10 hK10 x1 x2 x3 x4 x5 x6 s0 h g H locs ls HW hG hl
    unfold j_X11_yearsOf_53 at HW
    refine lv_istore (lv' := [(7, .int s0), (0, .ref (ad 135)), (1, .int x1), (2, .int x2), (3, .int x3), (4, .int x4), (5, .int x5), (6, .int x6)]) hx hb dX11_yearsOf_53 hl (by decide) rfl (fun ls hl => ?_)
    refine lv_iload_n hx hb dX11_yearsOf_55 rfl (lv_at hl 3 rfl) ?_
    refine lv_iload hx hb dX11_yearsOf_56 (lv_at hl 0 rfl) ?_
    refine lv_if_eq (tgt := 79) hx hb dX11_yearsOf_58 (by decide) (fun c_58 => ?_) (fun c_58 => ?_)
    · replace HW := HW.1 c_58
      refine lv_iconst (v := 0) hx hb dX11_yearsOf_79 (by decide) ?_
      exact B80 K10 hK10 x1 x3 x4 x5 x6 s0 x2 (0 : Int32) h g _ _ _ HW hG (lv_sub hl [1, 2, 4, 5, 6, 7, 0] rfl)
    · replace HW := HW.2 c_58
      refine lv_aload_n hx hb dX11_yearsOf_61 rfl (lv_at hl 1 rfl) ?_
      refine g_getr hx hb hw inG11 hown hK hG gl_135 rfl gk_135 (by decide) 0 (by decide) (by rw [gm_135]; decide) (r := 136) gr_135_0 lk7 dX11_yearsOf_62 ?_
      refine lv_sipush (v := 710) hx hb dX11_yearsOf_65 (by decide) ?_
      refine lv_iconst (v := 3) hx hb dX11_yearsOf_68 (by decide) ?_
      refine lv_iload hx hb dX11_yearsOf_69 (lv_at hl 6 rfl) ?_
      refine lv_imul hx hb dX11_yearsOf_71 ?_
      refine lv_iadd hx hb dX11_yearsOf_72 ?_
      refine lv_iconst (v := 1) hx hb dX11_yearsOf_73 (by decide) ?_
      refine lv_iadd hx hb dX11_yearsOf_74 ?_
      refine g_iald hx hb hK hG gl_136 gk_136 gn_136 HW.1 dX11_yearsOf_75 ?_
      replace HW := HW.2
      refine lv_goto (tgt := 80) hx hb dX11_yearsOf_76 (by decide) ?_
      exact B80 K10 hK10 x1 x3 x4 x5 x6 s0 x2 (h 136 (((710 : Int32) + ((3 : Int32) * x5)) + (1 : Int32)).toNatClampNeg) h g _ _ _ HW hG (lv_sub hl [1, 2, 4, 5, 6, 7, 0] rfl)
  have L10 : ∀ (n : Nat) (x1 : Int32) (x2 : Int32) (x3 : Int32) (x4 : Int32) (x5 : Int32) (h : HI) (g : HL) (H : Heap) (locs : List Loc) (ls : Array Slot), lpN (F_X11_yearsOf_10 Q) n (x1, x2, x3, x4, x5, h, g) → gG D cy ad (gA ad s.heap.size) s.heap h g H locs → lv_has ls 8 [(0, .ref (ad 135)), (1, .int x1), (2, .int x2), (3, .int x3), (4, .int x4), (5, .int x5)] → W p l e ({ frames := 0, cells := 0, slots := 0, locals := 0 } : Room) s m args below meth c H locs 0 0 (MQ below (va_Qi (fun (r : Int32) (u : HI × HL) => Q r u.1 u.2) (gB D cy ad s.heap.size) (gA ad s.heap.size)) args s 0 0 (gA ad s.heap.size)) (F0 m 10 ls []) := by
    intro n
    induction n with
    | zero => intro x1 x2 x3 x4 x5 h g H locs ls HW; exact HW.elim
    | succ n ih =>
      intro x1 x2 x3 x4 x5 h g H locs ls HW hG hl
      have HW : b_X11_yearsOf_10 Q (fun x1 x2 x3 x4 x5 h g => lpN (F_X11_yearsOf_10 Q) n (x1, x2, x3, x4, x5, h, g)) x1 x2 x3 x4 x5 h g := HW
      generalize hKe : (fun (x1 : Int32) (x2 : Int32) (x3 : Int32) (x4 : Int32) (x5 : Int32) (h : HI) (g : HL) => lpN (F_X11_yearsOf_10 Q) n (x1, x2, x3, x4, x5, h, g)) = K10 at HW
      have hK10 : ∀ (x1 : Int32) (x2 : Int32) (x3 : Int32) (x4 : Int32) (x5 : Int32) (h : HI) (g : HL) (H : Heap) (locs : List Loc) (ls : Array Slot), K10 x1 x2 x3 x4 x5 h g → gG D cy ad (gA ad s.heap.size) s.heap h g H locs → lv_has ls 8 [(0, .ref (ad 135)), (1, .int x1), (2, .int x2), (3, .int x3), (4, .int x4), (5, .int x5)] → W p l e ({ frames := 0, cells := 0, slots := 0, locals := 0 } : Room) s m args below meth c H locs 0 0 (MQ below (va_Qi (fun (r : Int32) (u : HI × HL) => Q r u.1 u.2) (gB D cy ad s.heap.size) (gA ad s.heap.size)) args s 0 0 (gA ad s.heap.size)) (F0 m 10 ls []) := by subst hKe; exact ih
      clear ih
      clear hKe
      unfold b_X11_yearsOf_10 at HW
      refine lv_iload hx hb dX11_yearsOf_10 (lv_at hl 5 rfl) ?_
      refine lv_aload_n hx hb dX11_yearsOf_12 rfl (lv_at hl 0 rfl) ?_
      refine g_getr hx hb hw inG11 hown hK hG gl_135 rfl gk_135 (by decide) 0 (by decide) (by rw [gm_135]; decide) (r := 136) gr_135_0 lk7 dX11_yearsOf_13 ?_
      refine lv_iconst (v := 5) hx hb dX11_yearsOf_16 (by decide) ?_
      refine g_iald hx hb hK hG gl_136 gk_136 gn_136 HW.1 dX11_yearsOf_17 ?_
      replace HW := HW.2
      refine lv_icmp_ge (tgt := 134) hx hb dX11_yearsOf_18 (by decide) (fun c_18 => ?_) (fun c_18 => ?_)
      · replace HW := HW.1 c_18
        refine lv_iload_n hx hb dX11_yearsOf_134 rfl (lv_at hl 3 rfl) ?_
        refine lv_iload hx hb dX11_yearsOf_135 (lv_at hl 4 rfl) ?_
        refine lv_iand hx hb dX11_yearsOf_137 ?_
        refine lv_if_eq (tgt := 145) hx hb dX11_yearsOf_138 (by decide) (fun c_138 => ?_) (fun c_138 => ?_)
        · replace HW := HW.1 c_138
          refine lv_iload_n hx hb dX11_yearsOf_145 rfl (lv_at hl 2 rfl) ?_
          exact W.iret (v := x2) hx hb hr (fun t ht hW => ⟨⟨x2, (h, g), rfl, HW, g_B ht hG⟩, hG.2.2.F ht⟩) hG.2.2.2.2 dX11_yearsOf_146
        · replace HW := HW.2 c_138
          refine lv_iconst (v := (-1)) hx hb dX11_yearsOf_141 (by decide) ?_
          refine lv_goto (tgt := 146) hx hb dX11_yearsOf_142 (by decide) ?_
          exact W.iret (v := (-1 : Int32)) hx hb hr (fun t ht hW => ⟨⟨(-1 : Int32), (h, g), rfl, HW, g_B ht hG⟩, hG.2.2.F ht⟩) hG.2.2.2.2 dX11_yearsOf_146
      · replace HW := HW.2 c_18
        refine lv_aload_n hx hb dX11_yearsOf_21 rfl (lv_at hl 0 rfl) ?_
        refine g_getr hx hb hw inG11 hown hK hG gl_135 rfl gk_135 (by decide) 0 (by decide) (by rw [gm_135]; decide) (r := 136) gr_135_0 lk7 dX11_yearsOf_22 ?_
        refine lv_sipush (v := 710) hx hb dX11_yearsOf_25 (by decide) ?_
        refine lv_iconst (v := 3) hx hb dX11_yearsOf_28 (by decide) ?_
        refine lv_iload hx hb dX11_yearsOf_29 (lv_at hl 5 rfl) ?_
        refine lv_imul hx hb dX11_yearsOf_31 ?_
        refine lv_iadd hx hb dX11_yearsOf_32 ?_
        refine lv_iconst (v := 2) hx hb dX11_yearsOf_33 (by decide) ?_
        refine lv_iadd hx hb dX11_yearsOf_34 ?_
        refine g_iald hx hb hK hG gl_136 gk_136 gn_136 HW.1 dX11_yearsOf_35 ?_
        replace HW := HW.2
        refine lv_topi (fun x6_36 ex6_36 => ?_)
        replace HW := HW x6_36 ex6_36
        refine lv_istore (lv' := [(6, .int x6_36), (0, .ref (ad 135)), (1, .int x1), (2, .int x2), (3, .int x3), (4, .int x4), (5, .int x5)]) hx hb dX11_yearsOf_36 hl (by decide) rfl (fun ls hl => ?_)
        refine lv_iload_n hx hb dX11_yearsOf_38 rfl (lv_at hl 2 rfl) ?_
        refine lv_iload hx hb dX11_yearsOf_39 (lv_at hl 6 rfl) ?_
        refine lv_ishr hx hb dX11_yearsOf_41 ?_
        refine lv_iconst (v := 1) hx hb dX11_yearsOf_42 (by decide) ?_
        refine lv_iand hx hb dX11_yearsOf_43 ?_
        refine lv_iconst (v := 1) hx hb dX11_yearsOf_44 (by decide) ?_
        refine lv_icmp_ne (tgt := 52) hx hb dX11_yearsOf_45 (by decide) (fun c_45 => ?_) (fun c_45 => ?_)
        · replace HW := HW.1 c_45
          refine lv_iconst (v := 0) hx hb dX11_yearsOf_52 (by decide) ?_
          exact B53 K10 hK10 x1 x2 x3 x4 x5 x6_36 (0 : Int32) h g _ _ _ HW hG (lv_sub hl [1, 2, 3, 4, 5, 6, 0] rfl)
        · replace HW := HW.2 c_45
          refine lv_iconst (v := 1) hx hb dX11_yearsOf_48 (by decide) ?_
          refine lv_goto (tgt := 53) hx hb dX11_yearsOf_49 (by decide) ?_
          exact B53 K10 hK10 x1 x2 x3 x4 x5 x6_36 (1 : Int32) h g _ _ _ HW hG (lv_sub hl [1, 2, 3, 4, 5, 6, 0] rfl)
  have E0 : ∀ (H : Heap) (locs : List Loc) (ls : Array Slot), gG D cy ad (gA ad s.heap.size) s.heap h g H locs → lv_has ls 8 [(0, .ref (ad 135)), (1, .int x1)] → W p l e ({ frames := 0, cells := 0, slots := 0, locals := 0 } : Room) s m args below meth c H locs 0 0 (MQ below (va_Qi (fun (r : Int32) (u : HI × HL) => Q r u.1 u.2) (gB D cy ad s.heap.size) (gA ad s.heap.size)) args s 0 0 (gA ad s.heap.size)) (F0 m 0 ls []) := by
    intro H locs ls hG hl
    unfold w_X11_yearsOf at HW
    refine lv_iconst (v := 0) hx hb dX11_yearsOf_0 (by decide) ?_
    refine lv_istore_n (lv' := [(2, .int (0 : Int32)), (0, .ref (ad 135)), (1, .int x1)]) hx hb dX11_yearsOf_1 rfl hl (by decide) rfl (fun ls hl => ?_)
    refine lv_iconst (v := 0) hx hb dX11_yearsOf_2 (by decide) ?_
    refine lv_istore_n (lv' := [(3, .int (0 : Int32)), (2, .int (0 : Int32)), (0, .ref (ad 135)), (1, .int x1)]) hx hb dX11_yearsOf_3 rfl hl (by decide) rfl (fun ls hl => ?_)
    refine lv_iconst (v := 0) hx hb dX11_yearsOf_4 (by decide) ?_
    refine lv_istore (lv' := [(4, .int (0 : Int32)), (3, .int (0 : Int32)), (2, .int (0 : Int32)), (0, .ref (ad 135)), (1, .int x1)]) hx hb dX11_yearsOf_5 hl (by decide) rfl (fun ls hl => ?_)
    refine lv_iconst (v := 0) hx hb dX11_yearsOf_7 (by decide) ?_
    refine lv_istore (lv' := [(5, .int (0 : Int32)), (4, .int (0 : Int32)), (3, .int (0 : Int32)), (2, .int (0 : Int32)), (0, .ref (ad 135)), (1, .int x1)]) hx hb dX11_yearsOf_8 hl (by decide) rfl (fun ls hl => ?_)
    obtain ⟨n_10, HW⟩ := HW
    exact L10 n_10 x1 (0 : Int32) (0 : Int32) (0 : Int32) (0 : Int32) h g _ _ _ HW hG (lv_sub hl [4, 5, 3, 2, 1, 0] rfl)
  exact E0 _ _ _ hG hl

def j_X11_findTaking_153 (Q : Int32 → HI → HL → Prop) (K35 : Int32 → Int32 → Int32 → HI → HL → Prop) (x1 : Int32) (x2 : Int32) (x3 : Int32) (h : HI) (g : HL) : Prop :=
  K35 x1 x2 x3 h g
def b_X11_findTaking_127 (Q : Int32 → HI → HL → Prop) (K35 : Int32 → Int32 → Int32 → HI → HL → Prop) (K127 : Int32 → Int32 → Int32 → Int32 → HI → HL → Prop) (x1 : Int32) (x2 : Int32) (x3 : Int32) (x5 : Int32) (h : HI) (g : HL) : Prop :=
  ((x1 ≤ x5 → j_X11_findTaking_153 Q K35 x1 x2 x3 h g) ∧ (¬ x1 ≤ x5 → (vp_in x5 6 ∧ (vp_in x5 6 ∧ ∀ h_146 : HI, h_146 = hu h 145 x5.toNatClampNeg (h 144 x5.toNatClampNeg) → (∀ x5_147 : Int32, x5_147 = (x5 + 1) → K127 x1 x2 x3 x5_147 h_146 g)))))
def F_X11_findTaking_127 (Q : Int32 → HI → HL → Prop) (K35 : Int32 → Int32 → Int32 → HI → HL → Prop) (K : Int32 × Int32 × Int32 × Int32 × HI × HL → Prop) (q : Int32 × Int32 × Int32 × Int32 × HI × HL) : Prop := b_X11_findTaking_127 Q K35 (fun x1 x2 x3 x5 h g => K (x1, x2, x3, x5, h, g)) q.1 q.2.1 q.2.2.1 q.2.2.2.1 q.2.2.2.2.1 q.2.2.2.2.2
def b_X11_findTaking_35 (Q : Int32 → HI → HL → Prop) (K35 : Int32 → Int32 → Int32 → HI → HL → Prop) (x1 : Int32) (x2 : Int32) (x3 : Int32) (h : HI) (g : HL) : Prop :=
  ((x3 < 0 → Q x2 h g) ∧ (¬ x3 < 0 → (vp_in x3 6 ∧ (vp_in x3 6 ∧ ∀ h_48 : HI, h_48 = hu h 144 x3.toNatClampNeg ((h 144 x3.toNatClampNeg) + (1 : Int32)) → (vp_in x3 6 ∧ (vp_in (5 : Int32) 887 ∧ (((h_48 144 x3.toNatClampNeg) < (h_48 136 (5 : Int32).toNatClampNeg) → (∃ P_74 : Int32 → HI → HL → Prop, w_X11_givenTo x3 h_48 g P_74 ∧ ∀ (r_74 : Int32) (h_74 : HI) (g_74 : HL), P_74 r_74 h_74 g_74 → (∃ P_77 : Int32 → HI → HL → Prop, w_X11_mayGet x3 r_74 h_74 g_74 P_77 ∧ ∀ (r_77 : Int32) (h_77 : HI) (g_77 : HL), zb r_77 → P_77 r_77 h_77 g_77 → ((r_77 = 0 → K35 x1 x2 x3 h_77 g_77) ∧ (¬ r_77 = 0 → ((x1 ≤ (x3 + (1 : Int32)) → (∃ P_107 : Int32 → HI → HL → Prop, w_X11_givenTo x1 h_77 g_77 P_107 ∧ ∀ (r_107 : Int32) (h_107 : HI) (g_107 : HL), P_107 r_107 h_107 g_107 → (∃ P_110 : Int32 → HI → HL → Prop, w_X11_yearsOf r_107 h_107 g_107 P_110 ∧ ∀ (r_110 : Int32) (h_110 : HI) (g_110 : HL), P_110 r_110 h_110 g_110 → ((r_110 ≤ x2 → j_X11_findTaking_153 Q K35 x1 x2 x3 h_110 g_110) ∧ (¬ r_110 ≤ x2 → lpE (F_X11_findTaking_127 Q K35) (x1, r_110, x3, (0 : Int32), h_110, g_110)))))) ∧ (¬ x1 ≤ (x3 + (1 : Int32)) → (∀ x3_90 : Int32, x3_90 = (x3 + 1) → (vp_in x3_90 6 ∧ ∀ h_100 : HI, h_100 = hu h_77 144 x3_90.toNatClampNeg (-2 : Int32) → K35 x1 x2 x3_90 h_100 g_77))))))))) ∧ (¬ (h_48 144 x3.toNatClampNeg) < (h_48 136 (5 : Int32).toNatClampNeg) → (∀ x3_64 : Int32, x3_64 = (x3 + (-1)) → K35 x1 x2 x3_64 h_48 g)))))))))
def F_X11_findTaking_35 (Q : Int32 → HI → HL → Prop) (K : Int32 × Int32 × Int32 × HI × HL → Prop) (q : Int32 × Int32 × Int32 × HI × HL) : Prop := b_X11_findTaking_35 Q (fun x1 x2 x3 h g => K (x1, x2, x3, h, g)) q.1 q.2.1 q.2.2.1 q.2.2.2.1 q.2.2.2.2
def j_X11_findTaking_26 (Q : Int32 → HI → HL → Prop) (x1 : Int32) (x2 : Int32) (s0 : Int32) (h : HI) (g : HL) : Prop :=
  (vp_in (0 : Int32) 6 ∧ ∀ h_34 : HI, h_34 = hu h 144 (0 : Int32).toNatClampNeg (-2 : Int32) → lpE (F_X11_findTaking_35 Q) (x1, x2, s0, h_34, g))
def j_X11_findTaking_16 (Q : Int32 → HI → HL → Prop) (x1 : Int32) (s0 : Int32) (h : HI) (g : HL) : Prop :=
  ((¬ x1 = 0 → j_X11_findTaking_26 Q x1 s0 (0 : Int32) h g) ∧ (x1 = 0 → j_X11_findTaking_26 Q x1 s0 (-1 : Int32) h g))
def w_X11_findTaking  (h : HI) (g : HL) (Q : Int32 → HI → HL → Prop) : Prop :=
  (vp_in (4 : Int32) 887 ∧ (∀ x1_6 : Int32, x1_6 = (h 136 (4 : Int32).toNatClampNeg) → ((¬ x1_6 = 0 → j_X11_findTaking_16 Q x1_6 (-1 : Int32) h g) ∧ (x1_6 = 0 → j_X11_findTaking_16 Q x1_6 (0 : Int32) h g))))
set_option maxHeartbeats 8000000 in
set_option maxRecDepth 100000 in
theorem m_X11_findTaking (l : Launch) (D : va_G) (cy : Nat → ClassId) (ad : Nat → Nat) (h : HI) (g : HL) (sz : Nat)  (Q : Int32 → HI → HL → Prop) (HW : w_X11_findTaking h g Q) : Met l yX11_findTaking (wa yX11_findTaking cX11_findTaking 6 (some .int)) ({ frames := 1, cells := 0, slots := 0, locals := 27 }) (va_Pc [.ref (ad 135)] (gI D cy ad h g sz)) (va_Qi (fun (r : Int32) (u : HI × HL) => Q r u.1 u.2) (gB D cy ad sz) (gA ad sz)) 0 0 (gA ad sz) := by
  refine Met.ofW (cc := cX11_findTaking) (maxL := 6) (ret := (some .int)) (by decide) rfl ?_
  intro p e s m args below meth c s₁ B hml hv
  obtain ⟨hav, hsz, hP, hK, hD0, hNw⟩ := hv
  have hx := B.exec
  have hb := B.bytes
  have hr := B.returns
  have hts := atoms_spec (ws := (wa yX11_findTaking cX11_findTaking 6 (some .int))) B.pre
  have hw := wa_hw hts
  have hown : s.vm.findClass RX11 = some m.cls := findClass_of_methodNamed B.named
  have hlocks := B.notSynchronized
  subst hsz
  have hG : gG D cy ad (gA ad s.heap.size) s.heap h g s.heap [] := ⟨hP, gA_self hD0, va_S.rf⟩
  clear hP hD0
  have lk7 := hw (.fieldLink RX11 7 "OldWorksModel" "st" "[I") (wm5 27 rfl rfl)
  have lk36 := hw (.fieldLink RX11 36 "OldWorksModel" "gets" "[I") (wm5 48 rfl rfl)
  have lk39 := hw (.fieldLink RX11 39 "OldWorksModel" "bestGets" "[I") (wm5 49 rfl rfl)
  rw [show (headSpec (wa yX11_findTaking cX11_findTaking 6 (some .int)) ({ frames := 1, cells := 0, slots := 0, locals := 27 } : Room)).room = ({ frames := 1, cells := 0, slots := 0, locals := 27 } : Room) from rfl]
  have hl := lv_entry ([.ref (ad 135)]) (n := 6) (Nat.le_of_ble_eq_true rfl)
  rw [show entryFrame m args 6 = entryFrame m ([.ref (ad 135)] : List Value).toArray 6 from by rw [hav], lg_entry_eq]
  generalize (lg_sl ([.ref (ad 135)]) ++ List.replicate (6 - (lg_sl ([.ref (ad 135)])).length) Slot.unset).toArray = ls at hl ⊢
  have hl : lv_has ls 6 [(0, .ref (ad 135))] := hl
  have B153 : ∀ (K35 : Int32 → Int32 → Int32 → HI → HL → Prop) (hK35 : ∀ (x1 : Int32) (x2 : Int32) (x3 : Int32) (h : HI) (g : HL) (H : Heap) (locs : List Loc) (ls : Array Slot), K35 x1 x2 x3 h g → gG D cy ad (gA ad s.heap.size) s.heap h g H locs → lv_has ls 6 [(0, .ref (ad 135)), (1, .int x1), (2, .int x2), (3, .int x3)] → W p l e ({ frames := 1, cells := 0, slots := 0, locals := 27 } : Room) s m args below meth c H locs 0 0 (MQ below (va_Qi (fun (r : Int32) (u : HI × HL) => Q r u.1 u.2) (gB D cy ad s.heap.size) (gA ad s.heap.size)) args s 0 0 (gA ad s.heap.size)) (F0 m 35 ls [])) (x1 : Int32) (x2 : Int32) (x3 : Int32) (h : HI) (g : HL) (H : Heap) (locs : List Loc) (ls : Array Slot), j_X11_findTaking_153 Q K35 x1 x2 x3 h g → gG D cy ad (gA ad s.heap.size) s.heap h g H locs → lv_has ls 6 [(0, .ref (ad 135)), (1, .int x1), (2, .int x2), (3, .int x3)] → W p l e ({ frames := 1, cells := 0, slots := 0, locals := 27 } : Room) s m args below meth c H locs 0 0 (MQ below (va_Qi (fun (r : Int32) (u : HI × HL) => Q r u.1 u.2) (gB D cy ad s.heap.size) (gA ad s.heap.size)) args s 0 0 (gA ad s.heap.size)) (F0 m 153 ls []) := by
    intro K35 hK35 x1 x2 x3 h g H locs ls HW hG hl
    unfold j_X11_findTaking_153 at HW
    refine lv_goto (tgt := 35) hx hb dX11_findTaking_153 (by decide) ?_
    exact hK35 x1 x2 x3 h g _ _ _ HW hG (lv_sub hl [0, 1, 2, 3] rfl)
  have L127 : ∀ (K35 : Int32 → Int32 → Int32 → HI → HL → Prop) (hK35 : ∀ (x1 : Int32) (x2 : Int32) (x3 : Int32) (h : HI) (g : HL) (H : Heap) (locs : List Loc) (ls : Array Slot), K35 x1 x2 x3 h g → gG D cy ad (gA ad s.heap.size) s.heap h g H locs → lv_has ls 6 [(0, .ref (ad 135)), (1, .int x1), (2, .int x2), (3, .int x3)] → W p l e ({ frames := 1, cells := 0, slots := 0, locals := 27 } : Room) s m args below meth c H locs 0 0 (MQ below (va_Qi (fun (r : Int32) (u : HI × HL) => Q r u.1 u.2) (gB D cy ad s.heap.size) (gA ad s.heap.size)) args s 0 0 (gA ad s.heap.size)) (F0 m 35 ls [])) (n : Nat) (x1 : Int32) (x2 : Int32) (x3 : Int32) (x5 : Int32) (h : HI) (g : HL) (H : Heap) (locs : List Loc) (ls : Array Slot), lpN (F_X11_findTaking_127 Q K35) n (x1, x2, x3, x5, h, g) → gG D cy ad (gA ad s.heap.size) s.heap h g H locs → lv_has ls 6 [(0, .ref (ad 135)), (1, .int x1), (2, .int x2), (3, .int x3), (5, .int x5)] → W p l e ({ frames := 1, cells := 0, slots := 0, locals := 27 } : Room) s m args below meth c H locs 0 0 (MQ below (va_Qi (fun (r : Int32) (u : HI × HL) => Q r u.1 u.2) (gB D cy ad s.heap.size) (gA ad s.heap.size)) args s 0 0 (gA ad s.heap.size)) (F0 m 127 ls []) := by
    intro K35 hK35 n
    induction n with
    | zero => intro x1 x2 x3 x5 h g H locs ls HW; exact HW.elim
    | succ n ih =>
      intro x1 x2 x3 x5 h g H locs ls HW hG hl
      have HW : b_X11_findTaking_127 Q K35 (fun x1 x2 x3 x5 h g => lpN (F_X11_findTaking_127 Q K35) n (x1, x2, x3, x5, h, g)) x1 x2 x3 x5 h g := HW
      generalize hKe : (fun (x1 : Int32) (x2 : Int32) (x3 : Int32) (x5 : Int32) (h : HI) (g : HL) => lpN (F_X11_findTaking_127 Q K35) n (x1, x2, x3, x5, h, g)) = K127 at HW
      have hK127 : ∀ (x1 : Int32) (x2 : Int32) (x3 : Int32) (x5 : Int32) (h : HI) (g : HL) (H : Heap) (locs : List Loc) (ls : Array Slot), K127 x1 x2 x3 x5 h g → gG D cy ad (gA ad s.heap.size) s.heap h g H locs → lv_has ls 6 [(0, .ref (ad 135)), (1, .int x1), (2, .int x2), (3, .int x3), (5, .int x5)] → W p l e ({ frames := 1, cells := 0, slots := 0, locals := 27 } : Room) s m args below meth c H locs 0 0 (MQ below (va_Qi (fun (r : Int32) (u : HI × HL) => Q r u.1 u.2) (gB D cy ad s.heap.size) (gA ad s.heap.size)) args s 0 0 (gA ad s.heap.size)) (F0 m 127 ls []) := by subst hKe; exact ih
      clear ih
      clear hKe
      unfold b_X11_findTaking_127 at HW
      refine lv_iload hx hb dX11_findTaking_127 (lv_at hl 4 rfl) ?_
      refine lv_iload_n hx hb dX11_findTaking_129 rfl (lv_at hl 1 rfl) ?_
      refine lv_icmp_ge (tgt := 153) hx hb dX11_findTaking_130 (by decide) (fun c_130 => ?_) (fun c_130 => ?_)
      · replace HW := HW.1 c_130
        exact B153 K35 hK35 x1 x2 x3 h g _ _ _ HW hG (lv_sub hl [0, 1, 2, 3] rfl)
      · replace HW := HW.2 c_130
        refine lv_aload_n hx hb dX11_findTaking_133 rfl (lv_at hl 0 rfl) ?_
        refine g_getr hx hb hw inG11 hown hK hG gl_135 rfl gk_135 (by decide) 22 (by decide) (by rw [gm_135]; decide) (r := 145) gr_135_22 lk39 dX11_findTaking_134 ?_
        refine lv_iload hx hb dX11_findTaking_137 (lv_at hl 4 rfl) ?_
        refine lv_aload_n hx hb dX11_findTaking_139 rfl (lv_at hl 0 rfl) ?_
        refine g_getr hx hb hw inG11 hown hK hG gl_135 rfl gk_135 (by decide) 21 (by decide) (by rw [gm_135]; decide) (r := 144) gr_135_21 lk36 dX11_findTaking_140 ?_
        refine lv_iload hx hb dX11_findTaking_143 (lv_at hl 4 rfl) ?_
        refine g_iald hx hb hK hG gl_144 gk_144 gn_144 HW.1 dX11_findTaking_145 ?_
        replace HW := HW.2
        refine g_iast hx hb hK hG gl_145 gk_145 gn_145 HW.1 dX11_findTaking_146 (fun H locs hG => ?_)
        replace HW := HW.2
        obtain ⟨h_146, eh_146⟩ : ∃ y : HI, y = hu h 145 x5.toNatClampNeg (h 144 x5.toNatClampNeg) := ⟨_, rfl⟩
        rw [← eh_146] at hG
        replace HW := HW h_146 eh_146
        obtain ⟨x5_147, ex5_147⟩ : ∃ y : Int32, y = (x5 + 1) := ⟨_, rfl⟩
        replace HW := HW x5_147 ex5_147
        refine lv_iinc (v := x5_147) (lv' := [(5, .int x5_147), (0, .ref (ad 135)), (1, .int x1), (2, .int x2), (3, .int x3)]) hx hb dX11_findTaking_147 hl (k := 4) rfl (by rw [ex5_147]; rfl) (by decide) rfl (fun ls hl => ?_)
        refine lv_goto (tgt := 127) hx hb dX11_findTaking_150 (by decide) ?_
        exact hK127 x1 x2 x3 x5_147 h_146 g _ _ _ HW hG (lv_sub hl [1, 2, 3, 4, 0] rfl)
  have L35 : ∀ (n : Nat) (x1 : Int32) (x2 : Int32) (x3 : Int32) (h : HI) (g : HL) (H : Heap) (locs : List Loc) (ls : Array Slot), lpN (F_X11_findTaking_35 Q) n (x1, x2, x3, h, g) → gG D cy ad (gA ad s.heap.size) s.heap h g H locs → lv_has ls 6 [(0, .ref (ad 135)), (1, .int x1), (2, .int x2), (3, .int x3)] → W p l e ({ frames := 1, cells := 0, slots := 0, locals := 27 } : Room) s m args below meth c H locs 0 0 (MQ below (va_Qi (fun (r : Int32) (u : HI × HL) => Q r u.1 u.2) (gB D cy ad s.heap.size) (gA ad s.heap.size)) args s 0 0 (gA ad s.heap.size)) (F0 m 35 ls []) := by
    intro n
    induction n with
    | zero => intro x1 x2 x3 h g H locs ls HW; exact HW.elim
    | succ n ih =>
      intro x1 x2 x3 h g H locs ls HW hG hl
      have HW : b_X11_findTaking_35 Q (fun x1 x2 x3 h g => lpN (F_X11_findTaking_35 Q) n (x1, x2, x3, h, g)) x1 x2 x3 h g := HW
      generalize hKe : (fun (x1 : Int32) (x2 : Int32) (x3 : Int32) (h : HI) (g : HL) => lpN (F_X11_findTaking_35 Q) n (x1, x2, x3, h, g)) = K35 at HW
      have hK35 : ∀ (x1 : Int32) (x2 : Int32) (x3 : Int32) (h : HI) (g : HL) (H : Heap) (locs : List Loc) (ls : Array Slot), K35 x1 x2 x3 h g → gG D cy ad (gA ad s.heap.size) s.heap h g H locs → lv_has ls 6 [(0, .ref (ad 135)), (1, .int x1), (2, .int x2), (3, .int x3)] → W p l e ({ frames := 1, cells := 0, slots := 0, locals := 27 } : Room) s m args below meth c H locs 0 0 (MQ below (va_Qi (fun (r : Int32) (u : HI × HL) => Q r u.1 u.2) (gB D cy ad s.heap.size) (gA ad s.heap.size)) args s 0 0 (gA ad s.heap.size)) (F0 m 35 ls []) := by subst hKe; exact ih
      clear ih
      clear hKe
      unfold b_X11_findTaking_35 at HW
      refine lv_iload_n hx hb dX11_findTaking_35 rfl (lv_at hl 3 rfl) ?_
      refine lv_if_lt (tgt := 156) hx hb dX11_findTaking_36 (by decide) (fun c_36 => ?_) (fun c_36 => ?_)
      · replace HW := HW.1 c_36
        refine lv_iload_n hx hb dX11_findTaking_156 rfl (lv_at hl 2 rfl) ?_
        exact W.iret (v := x2) hx hb hr (fun t ht hW => ⟨⟨x2, (h, g), rfl, HW, g_B ht hG⟩, hG.2.2.F ht⟩) hG.2.2.2.2 dX11_findTaking_157
      · replace HW := HW.2 c_36
        refine lv_aload_n hx hb dX11_findTaking_39 rfl (lv_at hl 0 rfl) ?_
        refine g_getr hx hb hw inG11 hown hK hG gl_135 rfl gk_135 (by decide) 21 (by decide) (by rw [gm_135]; decide) (r := 144) gr_135_21 lk36 dX11_findTaking_40 ?_
        refine lv_iload_n hx hb dX11_findTaking_43 rfl (lv_at hl 3 rfl) ?_
        refine lv_dup2_11 hx hb dX11_findTaking_44 rfl rfl ?_
        refine g_iald hx hb hK hG gl_144 gk_144 gn_144 HW.1 dX11_findTaking_45 ?_
        replace HW := HW.2
        refine lv_iconst (v := 1) hx hb dX11_findTaking_46 (by decide) ?_
        refine lv_iadd hx hb dX11_findTaking_47 ?_
        refine g_iast hx hb hK hG gl_144 gk_144 gn_144 HW.1 dX11_findTaking_48 (fun H locs hG => ?_)
        replace HW := HW.2
        obtain ⟨h_48, eh_48⟩ : ∃ y : HI, y = hu h 144 x3.toNatClampNeg ((h 144 x3.toNatClampNeg) + (1 : Int32)) := ⟨_, rfl⟩
        rw [← eh_48] at hG
        replace HW := HW h_48 eh_48
        refine lv_aload_n hx hb dX11_findTaking_49 rfl (lv_at hl 0 rfl) ?_
        refine g_getr hx hb hw inG11 hown hK hG gl_135 rfl gk_135 (by decide) 21 (by decide) (by rw [gm_135]; decide) (r := 144) gr_135_21 lk36 dX11_findTaking_50 ?_
        refine lv_iload_n hx hb dX11_findTaking_53 rfl (lv_at hl 3 rfl) ?_
        refine g_iald hx hb hK hG gl_144 gk_144 gn_144 HW.1 dX11_findTaking_54 ?_
        replace HW := HW.2
        refine lv_aload_n hx hb dX11_findTaking_55 rfl (lv_at hl 0 rfl) ?_
        refine g_getr hx hb hw inG11 hown hK hG gl_135 rfl gk_135 (by decide) 0 (by decide) (by rw [gm_135]; decide) (r := 136) gr_135_0 lk7 dX11_findTaking_56 ?_
        refine lv_iconst (v := 5) hx hb dX11_findTaking_59 (by decide) ?_
        refine g_iald hx hb hK hG gl_136 gk_136 gn_136 HW.1 dX11_findTaking_60 ?_
        replace HW := HW.2
        refine lv_icmp_lt (tgt := 70) hx hb dX11_findTaking_61 (by decide) (fun c_61 => ?_) (fun c_61 => ?_)
        · replace HW := HW.1 c_61
          refine lv_aload_n hx hb dX11_findTaking_70 rfl (lv_at hl 0 rfl) ?_
          refine lv_iload_n hx hb dX11_findTaking_71 rfl (lv_at hl 3 rfl) ?_
          refine lv_aload_n hx hb dX11_findTaking_72 rfl (lv_at hl 0 rfl) ?_
          refine lv_iload_n hx hb dX11_findTaking_73 rfl (lv_at hl 3 rfl) ?_
          obtain ⟨P_74, HC_74, HW⟩ := HW
          refine g_calli (g_runV (As := [.int x3]) (rest := [.int x3, .ref (ad 135)]) ⟨hx, hb, hml, hown, hts⟩ (m_X11_givenTo l D cy ad h_48 g H.size x3 P_74 HC_74) (cwV 1 hts (gd_V (wm6 101 rfl rfl) (wm6 103 rfl rfl) (wmp5 (q := (yX11_givenTo, 26)) 2 rfl) (wm1 13 rfl rfl) (wm6 104 rfl rfl)) rfl rfl rfl (by decide +kernel) ⟨Nat.le_of_ble_eq_true rfl, Nat.le_of_ble_eq_true rfl⟩) hK hNw hG gl_135 rfl gk_135 (by decide) rfl rfl hl.1 rfl (lv_room (Nat.le_of_ble_eq_true rfl)) dX11_findTaking_74 ⟨Nat.zero_le _, Nat.zero_le _⟩) hG (fun r_74 h_74 g_74 H locs hq hG => ?_)
          replace HW := HW r_74 h_74 g_74 hq
          obtain ⟨P_77, HC_77, HW⟩ := HW
          refine g_callz (g_runV (As := [.int x3, .int r_74]) (rest := []) ⟨hx, hb, hml, hown, hts⟩ (m_X11_mayGet l D cy ad h_74 g_74 H.size x3 r_74 P_77 HC_77) (cwV 2 hts (gd_V (wm6 105 rfl rfl) (wm6 107 rfl rfl) (wmp5 (q := (yX11_mayGet, 26)) 3 rfl) (wm1 13 rfl rfl) (wm6 108 rfl rfl)) rfl rfl rfl (by decide +kernel) ⟨Nat.le_of_ble_eq_true rfl, Nat.le_of_ble_eq_true rfl⟩) hK hNw hG gl_135 rfl gk_135 (by decide) rfl rfl hl.1 rfl (lv_room (Nat.le_of_ble_eq_true rfl)) dX11_findTaking_77 ⟨Nat.zero_le _, Nat.zero_le _⟩) hG (fun r_77 h_77 g_77 H locs hz hq hG => ?_)
          replace HW := HW r_77 h_77 g_77 hz hq
          refine lv_if_eq (tgt := 35) hx hb dX11_findTaking_80 (by decide) (fun c_80 => ?_) (fun c_80 => ?_)
          · replace HW := HW.1 c_80
            exact hK35 x1 x2 x3 h_77 g_77 _ _ _ HW hG (lv_sub hl [0, 1, 2, 3] rfl)
          · replace HW := HW.2 c_80
            refine lv_iload_n hx hb dX11_findTaking_83 rfl (lv_at hl 3 rfl) ?_
            refine lv_iconst (v := 1) hx hb dX11_findTaking_84 (by decide) ?_
            refine lv_iadd hx hb dX11_findTaking_85 ?_
            refine lv_iload_n hx hb dX11_findTaking_86 rfl (lv_at hl 1 rfl) ?_
            refine lv_icmp_ge (tgt := 104) hx hb dX11_findTaking_87 (by decide) (fun c_87 => ?_) (fun c_87 => ?_)
            · replace HW := HW.1 c_87
              refine lv_aload_n hx hb dX11_findTaking_104 rfl (lv_at hl 0 rfl) ?_
              refine lv_aload_n hx hb dX11_findTaking_105 rfl (lv_at hl 0 rfl) ?_
              refine lv_iload_n hx hb dX11_findTaking_106 rfl (lv_at hl 1 rfl) ?_
              obtain ⟨P_107, HC_107, HW⟩ := HW
              refine g_calli (g_runV (As := [.int x1]) (rest := [.ref (ad 135)]) ⟨hx, hb, hml, hown, hts⟩ (m_X11_givenTo l D cy ad h_77 g_77 H.size x1 P_107 HC_107) (cwV 1 hts (gd_V (wm6 101 rfl rfl) (wm6 103 rfl rfl) (wmp5 (q := (yX11_givenTo, 26)) 2 rfl) (wm1 13 rfl rfl) (wm6 104 rfl rfl)) rfl rfl rfl (by decide +kernel) ⟨Nat.le_of_ble_eq_true rfl, Nat.le_of_ble_eq_true rfl⟩) hK hNw hG gl_135 rfl gk_135 (by decide) rfl rfl hl.1 rfl (lv_room (Nat.le_of_ble_eq_true rfl)) dX11_findTaking_107 ⟨Nat.zero_le _, Nat.zero_le _⟩) hG (fun r_107 h_107 g_107 H locs hq hG => ?_)
              replace HW := HW r_107 h_107 g_107 hq
              obtain ⟨P_110, HC_110, HW⟩ := HW
              refine g_calli (g_runV (As := [.int r_107]) (rest := []) ⟨hx, hb, hml, hown, hts⟩ (m_X11_yearsOf l D cy ad h_107 g_107 H.size r_107 P_110 HC_110) (cwV 1 hts (gd_V (wm6 109 rfl rfl) (wm6 111 rfl rfl) (wmp5 (q := (yX11_yearsOf, 26)) 4 rfl) (wm1 13 rfl rfl) (wm6 112 rfl rfl)) rfl rfl rfl (by decide +kernel) ⟨Nat.le_of_ble_eq_true rfl, Nat.le_of_ble_eq_true rfl⟩) hK hNw hG gl_135 rfl gk_135 (by decide) rfl rfl hl.1 rfl (lv_room (Nat.le_of_ble_eq_true rfl)) dX11_findTaking_110 ⟨Nat.zero_le _, Nat.zero_le _⟩) hG (fun r_110 h_110 g_110 H locs hq hG => ?_)
              replace HW := HW r_110 h_110 g_110 hq
              refine lv_istore (lv' := [(4, .int r_110), (0, .ref (ad 135)), (1, .int x1), (2, .int x2), (3, .int x3)]) hx hb dX11_findTaking_113 hl (by decide) rfl (fun ls hl => ?_)
              refine lv_iload hx hb dX11_findTaking_115 (lv_at hl 0 rfl) ?_
              refine lv_iload_n hx hb dX11_findTaking_117 rfl (lv_at hl 3 rfl) ?_
              refine lv_icmp_le (tgt := 153) hx hb dX11_findTaking_118 (by decide) (fun c_118 => ?_) (fun c_118 => ?_)
              · replace HW := HW.1 c_118
                exact B153 K35 hK35 x1 x2 x3 h_110 g_110 _ _ _ HW hG (lv_sub hl [1, 2, 3, 4] rfl)
              · replace HW := HW.2 c_118
                refine lv_iload hx hb dX11_findTaking_121 (lv_at hl 0 rfl) ?_
                refine lv_istore_n (lv' := [(2, .int r_110), (4, .int r_110), (0, .ref (ad 135)), (1, .int x1), (3, .int x3)]) hx hb dX11_findTaking_123 rfl hl (by decide) rfl (fun ls hl => ?_)
                refine lv_iconst (v := 0) hx hb dX11_findTaking_124 (by decide) ?_
                refine lv_istore (lv' := [(5, .int (0 : Int32)), (2, .int r_110), (4, .int r_110), (0, .ref (ad 135)), (1, .int x1), (3, .int x3)]) hx hb dX11_findTaking_125 hl (by decide) rfl (fun ls hl => ?_)
                obtain ⟨n_127, HW⟩ := HW
                exact L127 K35 hK35 n_127 x1 r_110 x3 (0 : Int32) h_110 g_110 _ _ _ HW hG (lv_sub hl [3, 4, 1, 5, 0] rfl)
            · replace HW := HW.2 c_87
              obtain ⟨x3_90, ex3_90⟩ : ∃ y : Int32, y = (x3 + 1) := ⟨_, rfl⟩
              replace HW := HW x3_90 ex3_90
              refine lv_iinc (v := x3_90) (lv' := [(3, .int x3_90), (0, .ref (ad 135)), (1, .int x1), (2, .int x2)]) hx hb dX11_findTaking_90 hl (k := 3) rfl (by rw [ex3_90]; rfl) (by decide) rfl (fun ls hl => ?_)
              refine lv_aload_n hx hb dX11_findTaking_93 rfl (lv_at hl 1 rfl) ?_
              refine g_getr hx hb hw inG11 hown hK hG gl_135 rfl gk_135 (by decide) 21 (by decide) (by rw [gm_135]; decide) (r := 144) gr_135_21 lk36 dX11_findTaking_94 ?_
              refine lv_iload_n hx hb dX11_findTaking_97 rfl (lv_at hl 0 rfl) ?_
              refine lv_bipush (v := (-2)) hx hb dX11_findTaking_98 (by decide) ?_
              refine g_iast hx hb hK hG gl_144 gk_144 gn_144 HW.1 dX11_findTaking_100 (fun H locs hG => ?_)
              replace HW := HW.2
              obtain ⟨h_100, eh_100⟩ : ∃ y : HI, y = hu h_77 144 x3_90.toNatClampNeg (-2 : Int32) := ⟨_, rfl⟩
              rw [← eh_100] at hG
              replace HW := HW h_100 eh_100
              refine lv_goto (tgt := 35) hx hb dX11_findTaking_101 (by decide) ?_
              exact hK35 x1 x2 x3_90 h_100 g_77 _ _ _ HW hG (lv_sub hl [1, 2, 3, 0] rfl)
        · replace HW := HW.2 c_61
          obtain ⟨x3_64, ex3_64⟩ : ∃ y : Int32, y = (x3 + (-1)) := ⟨_, rfl⟩
          replace HW := HW x3_64 ex3_64
          refine lv_iinc (v := x3_64) (lv' := [(3, .int x3_64), (0, .ref (ad 135)), (1, .int x1), (2, .int x2)]) hx hb dX11_findTaking_64 hl (k := 3) rfl (by rw [ex3_64]; rfl) (by decide) rfl (fun ls hl => ?_)
          refine lv_goto (tgt := 35) hx hb dX11_findTaking_67 (by decide) ?_
          exact hK35 x1 x2 x3_64 h_48 g _ _ _ HW hG (lv_sub hl [1, 2, 3, 0] rfl)
  have B26 : ∀ (x1 : Int32) (x2 : Int32) (s0 : Int32) (h : HI) (g : HL) (H : Heap) (locs : List Loc) (ls : Array Slot), j_X11_findTaking_26 Q x1 x2 s0 h g → gG D cy ad (gA ad s.heap.size) s.heap h g H locs → lv_has ls 6 [(0, .ref (ad 135)), (1, .int x1), (2, .int x2)] → W p l e ({ frames := 1, cells := 0, slots := 0, locals := 27 } : Room) s m args below meth c H locs 0 0 (MQ below (va_Qi (fun (r : Int32) (u : HI × HL) => Q r u.1 u.2) (gB D cy ad s.heap.size) (gA ad s.heap.size)) args s 0 0 (gA ad s.heap.size)) (F0 m 26 ls [.int s0]) := by
    intro x1 x2 s0 h g H locs ls HW hG hl
    unfold j_X11_findTaking_26 at HW
    refine lv_istore_n (lv' := [(3, .int s0), (0, .ref (ad 135)), (1, .int x1), (2, .int x2)]) hx hb dX11_findTaking_26 rfl hl (by decide) rfl (fun ls hl => ?_)
    refine lv_aload_n hx hb dX11_findTaking_27 rfl (lv_at hl 1 rfl) ?_
    refine g_getr hx hb hw inG11 hown hK hG gl_135 rfl gk_135 (by decide) 21 (by decide) (by rw [gm_135]; decide) (r := 144) gr_135_21 lk36 dX11_findTaking_28 ?_
    refine lv_iconst (v := 0) hx hb dX11_findTaking_31 (by decide) ?_
    refine lv_bipush (v := (-2)) hx hb dX11_findTaking_32 (by decide) ?_
    refine g_iast hx hb hK hG gl_144 gk_144 gn_144 HW.1 dX11_findTaking_34 (fun H locs hG => ?_)
    replace HW := HW.2
    obtain ⟨h_34, eh_34⟩ : ∃ y : HI, y = hu h 144 (0 : Int32).toNatClampNeg (-2 : Int32) := ⟨_, rfl⟩
    rw [← eh_34] at hG
    replace HW := HW h_34 eh_34
    obtain ⟨n_35, HW⟩ := HW
    exact L35 n_35 x1 x2 s0 h_34 g _ _ _ HW hG (lv_sub hl [1, 2, 3, 0] rfl)
  have B16 : ∀ (x1 : Int32) (s0 : Int32) (h : HI) (g : HL) (H : Heap) (locs : List Loc) (ls : Array Slot), j_X11_findTaking_16 Q x1 s0 h g → gG D cy ad (gA ad s.heap.size) s.heap h g H locs → lv_has ls 6 [(0, .ref (ad 135)), (1, .int x1)] → W p l e ({ frames := 1, cells := 0, slots := 0, locals := 27 } : Room) s m args below meth c H locs 0 0 (MQ below (va_Qi (fun (r : Int32) (u : HI × HL) => Q r u.1 u.2) (gB D cy ad s.heap.size) (gA ad s.heap.size)) args s 0 0 (gA ad s.heap.size)) (F0 m 16 ls [.int s0]) := by
    intro x1 s0 h g H locs ls HW hG hl
    unfold j_X11_findTaking_16 at HW
    refine lv_istore_n (lv' := [(2, .int s0), (0, .ref (ad 135)), (1, .int x1)]) hx hb dX11_findTaking_16 rfl hl (by decide) rfl (fun ls hl => ?_)
    refine lv_iload_n hx hb dX11_findTaking_17 rfl (lv_at hl 2 rfl) ?_
    refine lv_if_ne (tgt := 25) hx hb dX11_findTaking_18 (by decide) (fun c_18 => ?_) (fun c_18 => ?_)
    · replace HW := HW.1 c_18
      refine lv_iconst (v := 0) hx hb dX11_findTaking_25 (by decide) ?_
      exact B26 x1 s0 (0 : Int32) h g _ _ _ HW hG (lv_sub hl [1, 2, 0] rfl)
    · replace HW := HW.2 c_18
      refine lv_iconst (v := (-1)) hx hb dX11_findTaking_21 (by decide) ?_
      refine lv_goto (tgt := 26) hx hb dX11_findTaking_22 (by decide) ?_
      exact B26 x1 s0 (-1 : Int32) h g _ _ _ HW hG (lv_sub hl [1, 2, 0] rfl)
  have E0 : ∀ (H : Heap) (locs : List Loc) (ls : Array Slot), gG D cy ad (gA ad s.heap.size) s.heap h g H locs → lv_has ls 6 [(0, .ref (ad 135))] → W p l e ({ frames := 1, cells := 0, slots := 0, locals := 27 } : Room) s m args below meth c H locs 0 0 (MQ below (va_Qi (fun (r : Int32) (u : HI × HL) => Q r u.1 u.2) (gB D cy ad s.heap.size) (gA ad s.heap.size)) args s 0 0 (gA ad s.heap.size)) (F0 m 0 ls []) := by
    intro H locs ls hG hl
    unfold w_X11_findTaking at HW
    refine lv_aload_n hx hb dX11_findTaking_0 rfl (lv_at hl 0 rfl) ?_
    refine g_getr hx hb hw inG11 hown hK hG gl_135 rfl gk_135 (by decide) 0 (by decide) (by rw [gm_135]; decide) (r := 136) gr_135_0 lk7 dX11_findTaking_1 ?_
    refine lv_iconst (v := 4) hx hb dX11_findTaking_4 (by decide) ?_
    refine g_iald hx hb hK hG gl_136 gk_136 gn_136 HW.1 dX11_findTaking_5 ?_
    replace HW := HW.2
    refine lv_topi (fun x1_6 ex1_6 => ?_)
    replace HW := HW x1_6 ex1_6
    refine lv_istore_n (lv' := [(1, .int x1_6), (0, .ref (ad 135))]) hx hb dX11_findTaking_6 rfl hl (by decide) rfl (fun ls hl => ?_)
    refine lv_iload_n hx hb dX11_findTaking_7 rfl (lv_at hl 0 rfl) ?_
    refine lv_if_ne (tgt := 15) hx hb dX11_findTaking_8 (by decide) (fun c_8 => ?_) (fun c_8 => ?_)
    · replace HW := HW.1 c_8
      refine lv_iconst (v := (-1)) hx hb dX11_findTaking_15 (by decide) ?_
      exact B16 x1_6 (-1 : Int32) h g _ _ _ HW hG (lv_sub hl [1, 0] rfl)
    · replace HW := HW.2 c_8
      refine lv_iconst (v := 0) hx hb dX11_findTaking_11 (by decide) ?_
      refine lv_goto (tgt := 16) hx hb dX11_findTaking_12 (by decide) ?_
      exact B16 x1_6 (0 : Int32) h g _ _ _ HW hG (lv_sub hl [1, 0] rfl)
  exact E0 _ _ _ hG hl

def j_X11_taking_17 (Q : Int32 → HI → HL → Prop) (x1 : Int32) (h : HI) (g : HL) : Prop :=
  (∃ P_18 : Int32 → HI → HL → Prop, w_X11_findTaking h g P_18 ∧ ∀ (r_18 : Int32) (h_18 : HI) (g_18 : HL), P_18 r_18 h_18 g_18 → ((¬ x1 = (-1 : Int32) → (vp_in x1 6 ∧ Q (h_18 145 x1.toNatClampNeg) h_18 g_18)) ∧ (x1 = (-1 : Int32) → Q r_18 h_18 g_18)))
def w_X11_taking (x1 : Int32) (h : HI) (g : HL) (Q : Int32 → HI → HL → Prop) : Prop :=
  ((x1 = (-1 : Int32) → j_X11_taking_17 Q x1 h g) ∧ (¬ x1 = (-1 : Int32) → (∃ P_8 : Int32 → HI → HL → Prop, w_X11_is (4 : Int32) x1 h g P_8 ∧ ∀ (r_8 : Int32) (h_8 : HI) (g_8 : HL), zb r_8 → P_8 r_8 h_8 g_8 → ((¬ r_8 = 0 → j_X11_taking_17 Q x1 h_8 g_8) ∧ (r_8 = 0 → Q (-10 : Int32) h_8 g_8)))))
set_option maxHeartbeats 8000000 in
set_option maxRecDepth 100000 in
theorem m_X11_taking (l : Launch) (D : va_G) (cy : Nat → ClassId) (ad : Nat → Nat) (h : HI) (g : HL) (sz : Nat) (x1 : Int32) (Q : Int32 → HI → HL → Prop) (HW : w_X11_taking x1 h g Q) : Met l yX11_taking (wa yX11_taking cX11_taking 3 (some .int)) ({ frames := 2, cells := 0, slots := 0, locals := 52 }) (va_Pc [.ref (ad 135), .int x1] (gI D cy ad h g sz)) (va_Qi (fun (r : Int32) (u : HI × HL) => Q r u.1 u.2) (gB D cy ad sz) (gA ad sz)) 0 0 (gA ad sz) := by
  refine Met.ofW (cc := cX11_taking) (maxL := 3) (ret := (some .int)) (by decide) rfl ?_
  intro p e s m args below meth c s₁ B hml hv
  obtain ⟨hav, hsz, hP, hK, hD0, hNw⟩ := hv
  have hx := B.exec
  have hb := B.bytes
  have hr := B.returns
  have hts := atoms_spec (ws := (wa yX11_taking cX11_taking 3 (some .int))) B.pre
  have hw := wa_hw hts
  have hown : s.vm.findClass RX11 = some m.cls := findClass_of_methodNamed B.named
  have hlocks := B.notSynchronized
  subst hsz
  have hG : gG D cy ad (gA ad s.heap.size) s.heap h g s.heap [] := ⟨hP, gA_self hD0, va_S.rf⟩
  clear hP hD0
  have lk39 := hw (.fieldLink RX11 39 "OldWorksModel" "bestGets" "[I") (wm5 49 rfl rfl)
  rw [show (headSpec (wa yX11_taking cX11_taking 3 (some .int)) ({ frames := 2, cells := 0, slots := 0, locals := 52 } : Room)).room = ({ frames := 2, cells := 0, slots := 0, locals := 52 } : Room) from rfl]
  have hl := lv_entry ([.ref (ad 135), .int x1]) (n := 3) (Nat.le_of_ble_eq_true rfl)
  rw [show entryFrame m args 3 = entryFrame m ([.ref (ad 135), .int x1] : List Value).toArray 3 from by rw [hav], lg_entry_eq]
  generalize (lg_sl ([.ref (ad 135), .int x1]) ++ List.replicate (3 - (lg_sl ([.ref (ad 135), .int x1])).length) Slot.unset).toArray = ls at hl ⊢
  have hl : lv_has ls 3 [(0, .ref (ad 135)), (1, .int x1)] := hl
  have B17 : ∀ (x1 : Int32) (h : HI) (g : HL) (H : Heap) (locs : List Loc) (ls : Array Slot), j_X11_taking_17 Q x1 h g → gG D cy ad (gA ad s.heap.size) s.heap h g H locs → lv_has ls 3 [(0, .ref (ad 135)), (1, .int x1)] → W p l e ({ frames := 2, cells := 0, slots := 0, locals := 52 } : Room) s m args below meth c H locs 0 0 (MQ below (va_Qi (fun (r : Int32) (u : HI × HL) => Q r u.1 u.2) (gB D cy ad s.heap.size) (gA ad s.heap.size)) args s 0 0 (gA ad s.heap.size)) (F0 m 17 ls []) := by
    intro x1 h g H locs ls HW hG hl
    unfold j_X11_taking_17 at HW
    refine lv_aload_n hx hb dX11_taking_17 rfl (lv_at hl 0 rfl) ?_
    obtain ⟨P_18, HC_18, HW⟩ := HW
    refine g_calli (g_runV (As := []) (rest := []) ⟨hx, hb, hml, hown, hts⟩ (m_X11_findTaking l D cy ad h g H.size  P_18 HC_18) (cwV 0 hts (gd_V (wm6 97 rfl rfl) (wm6 99 rfl rfl) (wmp5 (q := (yX11_findTaking, 26)) 1 rfl) (wm1 13 rfl rfl) (wm6 100 rfl rfl)) rfl rfl rfl (by decide +kernel) ⟨Nat.le_of_ble_eq_true rfl, Nat.le_of_ble_eq_true rfl⟩) hK hNw hG gl_135 rfl gk_135 (by decide) rfl rfl hl.1 rfl (lv_room (Nat.le_of_ble_eq_true rfl)) dX11_taking_18 ⟨Nat.zero_le _, Nat.zero_le _⟩) hG (fun r_18 h_18 g_18 H locs hq hG => ?_)
    replace HW := HW r_18 h_18 g_18 hq
    refine lv_istore_n (lv' := [(2, .int r_18), (0, .ref (ad 135)), (1, .int x1)]) hx hb dX11_taking_21 rfl hl (by decide) rfl (fun ls hl => ?_)
    refine lv_iload_n hx hb dX11_taking_22 rfl (lv_at hl 2 rfl) ?_
    refine lv_iconst (v := (-1)) hx hb dX11_taking_23 (by decide) ?_
    refine lv_icmp_ne (tgt := 31) hx hb dX11_taking_24 (by decide) (fun c_24 => ?_) (fun c_24 => ?_)
    · replace HW := HW.1 c_24
      refine lv_aload_n hx hb dX11_taking_31 rfl (lv_at hl 1 rfl) ?_
      refine g_getr hx hb hw inG11 hown hK hG gl_135 rfl gk_135 (by decide) 22 (by decide) (by rw [gm_135]; decide) (r := 145) gr_135_22 lk39 dX11_taking_32 ?_
      refine lv_iload_n hx hb dX11_taking_35 rfl (lv_at hl 2 rfl) ?_
      refine g_iald hx hb hK hG gl_145 gk_145 gn_145 HW.1 dX11_taking_36 ?_
      replace HW := HW.2
      exact W.iret (v := (h_18 145 x1.toNatClampNeg)) hx hb hr (fun t ht hW => ⟨⟨(h_18 145 x1.toNatClampNeg), (h_18, g_18), rfl, HW, g_B ht hG⟩, hG.2.2.F ht⟩) hG.2.2.2.2 dX11_taking_37
    · replace HW := HW.2 c_24
      refine lv_iload_n hx hb dX11_taking_27 rfl (lv_at hl 0 rfl) ?_
      refine lv_goto (tgt := 37) hx hb dX11_taking_28 (by decide) ?_
      exact W.iret (v := r_18) hx hb hr (fun t ht hW => ⟨⟨r_18, (h_18, g_18), rfl, HW, g_B ht hG⟩, hG.2.2.F ht⟩) hG.2.2.2.2 dX11_taking_37
  have E0 : ∀ (H : Heap) (locs : List Loc) (ls : Array Slot), gG D cy ad (gA ad s.heap.size) s.heap h g H locs → lv_has ls 3 [(0, .ref (ad 135)), (1, .int x1)] → W p l e ({ frames := 2, cells := 0, slots := 0, locals := 52 } : Room) s m args below meth c H locs 0 0 (MQ below (va_Qi (fun (r : Int32) (u : HI × HL) => Q r u.1 u.2) (gB D cy ad s.heap.size) (gA ad s.heap.size)) args s 0 0 (gA ad s.heap.size)) (F0 m 0 ls []) := by
    intro H locs ls hG hl
    unfold w_X11_taking at HW
    refine lv_iload_n hx hb dX11_taking_0 rfl (lv_at hl 1 rfl) ?_
    refine lv_iconst (v := (-1)) hx hb dX11_taking_1 (by decide) ?_
    refine lv_icmp_eq (tgt := 17) hx hb dX11_taking_2 (by decide) (fun c_2 => ?_) (fun c_2 => ?_)
    · replace HW := HW.1 c_2
      exact B17 x1 h g _ _ _ HW hG (lv_sub hl [0, 1] rfl)
    · replace HW := HW.2 c_2
      refine lv_aload_n hx hb dX11_taking_5 rfl (lv_at hl 0 rfl) ?_
      refine lv_iconst (v := 4) hx hb dX11_taking_6 (by decide) ?_
      refine lv_iload_n hx hb dX11_taking_7 rfl (lv_at hl 1 rfl) ?_
      obtain ⟨P_8, HC_8, HW⟩ := HW
      refine g_callz (g_runV (As := [.int (4 : Int32), .int x1]) (rest := []) ⟨hx, hb, hml, hown, hts⟩ (m_X11_is l D cy ad h g H.size (4 : Int32) x1 P_8 HC_8) (cwV 2 hts (gd_V (wm5 184 rfl rfl) (wm5 186 rfl rfl) (wmp3 (q := (yX11_is, 26)) 14 rfl) (wm1 13 rfl rfl) (wm5 187 rfl rfl)) rfl rfl rfl (by decide +kernel) ⟨Nat.le_of_ble_eq_true rfl, Nat.le_of_ble_eq_true rfl⟩) hK hNw hG gl_135 rfl gk_135 (by decide) rfl rfl hl.1 rfl (lv_room (Nat.le_of_ble_eq_true rfl)) dX11_taking_8 ⟨Nat.zero_le _, Nat.zero_le _⟩) hG (fun r_8 h_8 g_8 H locs hz hq hG => ?_)
      replace HW := HW r_8 h_8 g_8 hz hq
      refine lv_if_ne (tgt := 17) hx hb dX11_taking_11 (by decide) (fun c_11 => ?_) (fun c_11 => ?_)
      · replace HW := HW.1 c_11
        exact B17 x1 h_8 g_8 _ _ _ HW hG (lv_sub hl [0, 1] rfl)
      · replace HW := HW.2 c_11
        refine lv_bipush (v := (-10)) hx hb dX11_taking_14 (by decide) ?_
        exact W.iret (v := (-10 : Int32)) hx hb hr (fun t ht hW => ⟨⟨(-10 : Int32), (h_8, g_8), rfl, HW, g_B ht hG⟩, hG.2.2.F ht⟩) hG.2.2.2.2 dX11_taking_16
  exact E0 _ _ _ hG hl
