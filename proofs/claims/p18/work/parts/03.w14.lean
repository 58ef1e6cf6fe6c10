def w_X11_isSize (x0 : Int32) (h : HI) (g : HL) (Q : Int32 → HI → HL → Prop) : Prop :=
  (∃ P_6 : Int32 → HI → HL → Prop, w_X11_in ((x0).toInt64) (1 : Int64) (100000 : Int64) h g P_6 ∧ ∀ (r_6 : Int32) (h_6 : HI) (g_6 : HL), zb r_6 → P_6 r_6 h_6 g_6 → (zb r_6 ∧ Q r_6 h_6 g_6))
set_option maxHeartbeats 8000000 in
set_option maxRecDepth 100000 in
theorem m_X11_isSize (l : Launch) (D : va_G) (cy : Nat → ClassId) (ad : Nat → Nat) (h : HI) (g : HL) (sz : Nat) (x0 : Int32) (Q : Int32 → HI → HL → Prop) (HW : w_X11_isSize x0 h g Q) : Met l yX11_isSize (wa yX11_isSize cX11_isSize 1 (some .boolean)) ({ frames := 1, cells := 0, slots := 0, locals := 25 }) (va_Pc [.int x0] (gI D cy ad h g sz)) (va_Qi (fun (r : Int32) (u : HI × HL) => zb r ∧ Q r u.1 u.2) (gB D cy ad sz) (gA ad sz)) 0 0 (gA ad sz) := by
  refine Met.ofW (cc := cX11_isSize) (maxL := 1) (ret := (some .boolean)) (by decide) rfl ?_
  intro p e s m args below meth c s₁ B hml hv
  obtain ⟨hav, hsz, hP, hK, hD0, hNw⟩ := hv
  have hx := B.exec
  have hb := B.bytes
  have hr := B.returns
  have hts := atoms_spec (ws := (wa yX11_isSize cX11_isSize 1 (some .boolean))) B.pre
  have hw := wa_hw hts
  have hown : s.vm.findClass RX11 = some m.cls := findClass_of_methodNamed B.named
  have hlocks := B.notSynchronized
  subst hsz
  have hG : gG D cy ad (gA ad s.heap.size) s.heap h g s.heap [] := ⟨hP, gA_self hD0, va_S.rf⟩
  clear hP hD0
  have cn73 := hw (.constantLong RX11 73 (100000)) (wm5 131 rfl rfl)
  rw [show (headSpec (wa yX11_isSize cX11_isSize 1 (some .boolean)) ({ frames := 1, cells := 0, slots := 0, locals := 25 } : Room)).room = ({ frames := 1, cells := 0, slots := 0, locals := 25 } : Room) from rfl]
  have hl := lv_entry ([.int x0]) (n := 1) (Nat.le_of_ble_eq_true rfl)
  rw [show entryFrame m args 1 = entryFrame m ([.int x0] : List Value).toArray 1 from by rw [hav], lg_entry_eq]
  generalize (lg_sl ([.int x0]) ++ List.replicate (1 - (lg_sl ([.int x0])).length) Slot.unset).toArray = ls at hl ⊢
  have hl : lv_has ls 1 [(0, .int x0)] := hl
  have E0 : ∀ (H : Heap) (locs : List Loc) (ls : Array Slot), gG D cy ad (gA ad s.heap.size) s.heap h g H locs → lv_has ls 1 [(0, .int x0)] → W p l e ({ frames := 1, cells := 0, slots := 0, locals := 25 } : Room) s m args below meth c H locs 0 0 (MQ below (va_Qi (fun (r : Int32) (u : HI × HL) => zb r ∧ Q r u.1 u.2) (gB D cy ad s.heap.size) (gA ad s.heap.size)) args s 0 0 (gA ad s.heap.size)) (F0 m 0 ls []) := by
    intro H locs ls hG hl
    unfold w_X11_isSize at HW
    refine lv_iload_n hx hb dX11_isSize_0 rfl (lv_at hl 0 rfl) ?_
    refine lv_i2l hx hb dX11_isSize_1 rfl ?_
    refine lv_lconst (v := 1) hx hb dX11_isSize_2 (by decide) ?_
    refine lv_ldc2 (v := 100000) hx hb hown cn73 dX11_isSize_3 ?_
    obtain ⟨P_6, HC_6, HW⟩ := HW
    refine g_callz (g_runS (As := [.long ((x0).toInt64), .long (1 : Int64), .long (100000 : Int64)]) (rest := []) ⟨hx, hb, hml, hown, hts⟩ (m_X11_in l D cy ad h g H.size ((x0).toInt64) (1 : Int64) (100000 : Int64) P_6 HC_6) (va_cwS 3 hts (gd_S (wm5 111 rfl rfl) (wm5 112 rfl rfl) (wm1 13 rfl rfl) (wm5 113 rfl rfl)) rfl rfl rfl (by decide +kernel) ⟨Nat.le_of_ble_eq_true rfl, Nat.le_of_ble_eq_true rfl⟩) hK hNw hG rfl rfl hl.1 rfl (lv_room (Nat.le_of_ble_eq_true rfl)) dX11_isSize_6 ⟨Nat.zero_le _, Nat.zero_le _⟩) hG (fun r_6 h_6 g_6 H locs hz hq hG => ?_)
    replace HW := HW r_6 h_6 g_6 hz hq
    exact W.zret (v := r_6) hx hb hr (zb_n HW.1) (fun t ht hW => ⟨⟨r_6, (h_6, g_6), rfl, HW, g_B ht hG⟩, hG.2.2.F ht⟩) hG.2.2.2.2 dX11_isSize_9
  exact E0 _ _ _ hG hl

def w_X11_family (x1 : Int32) (x2 : Int32) (x3 : Int32) (x4 : Int32) (h : HI) (g : HL) (Q : Int32 → HI → HL → Prop) : Prop :=
  (∃ P_6 : Int32 → HI → HL → Prop, w_X11_in ((x1).toInt64) (0 : Int64) (3 : Int64) h g P_6 ∧ ∀ (r_6 : Int32) (h_6 : HI) (g_6 : HL), zb r_6 → P_6 r_6 h_6 g_6 → ((r_6 = 0 → Q (-2 : Int32) h_6 g_6) ∧ (¬ r_6 = 0 → (∃ P_13 : Int32 → HI → HL → Prop, w_X11_isSize x2 h_6 g_6 P_13 ∧ ∀ (r_13 : Int32) (h_13 : HI) (g_13 : HL), zb r_13 → P_13 r_13 h_13 g_13 → ((r_13 = 0 → Q (-2 : Int32) h_13 g_13) ∧ (¬ r_13 = 0 → (∃ P_20 : Int32 → HI → HL → Prop, w_X11_isSize x3 h_13 g_13 P_20 ∧ ∀ (r_20 : Int32) (h_20 : HI) (g_20 : HL), zb r_20 → P_20 r_20 h_20 g_20 → ((r_20 = 0 → Q (-2 : Int32) h_20 g_20) ∧ (¬ r_20 = 0 → (∃ P_28 : Int32 → HI → HL → Prop, w_X11_isSize x4 h_20 g_20 P_28 ∧ ∀ (r_28 : Int32) (h_28 : HI) (g_28 : HL), zb r_28 → P_28 r_28 h_28 g_28 → ((r_28 = 0 → Q (-2 : Int32) h_28 g_28) ∧ (¬ r_28 = 0 → (((lg_cmp (((x2).toInt64) + ((((x4).toInt64) - (1 : Int64)) * ((x3).toInt64))) (100000 : Int64)) ≤ 0 → (vp_in ((140 : Int32) + ((3 : Int32) * x1)) 887 ∧ ∀ h_67 : HI, h_67 = hu h_28 136 ((140 : Int32) + ((3 : Int32) * x1)).toNatClampNeg x2 → (vp_in (((140 : Int32) + ((3 : Int32) * x1)) + (1 : Int32)) 887 ∧ ∀ h_82 : HI, h_82 = hu h_67 136 (((140 : Int32) + ((3 : Int32) * x1)) + (1 : Int32)).toNatClampNeg x3 → (vp_in (((140 : Int32) + ((3 : Int32) * x1)) + (2 : Int32)) 887 ∧ ∀ h_98 : HI, h_98 = hu h_82 136 (((140 : Int32) + ((3 : Int32) * x1)) + (2 : Int32)).toNatClampNeg x4 → Q (1 : Int32) h_98 g_28)))) ∧ (¬ (lg_cmp (((x2).toInt64) + ((((x4).toInt64) - (1 : Int64)) * ((x3).toInt64))) (100000 : Int64)) ≤ 0 → Q (-2 : Int32) h_28 g_28))))))))))))))
set_option maxHeartbeats 8000000 in
set_option maxRecDepth 100000 in
theorem m_X11_family (l : Launch) (D : va_G) (cy : Nat → ClassId) (ad : Nat → Nat) (h : HI) (g : HL) (sz : Nat) (x1 : Int32) (x2 : Int32) (x3 : Int32) (x4 : Int32) (Q : Int32 → HI → HL → Prop) (HW : w_X11_family x1 x2 x3 x4 h g Q) : Met l yX11_family (wa yX11_family cX11_family 5 (some .int)) ({ frames := 2, cells := 0, slots := 0, locals := 45 }) (va_Pc [.ref (ad 135), .int x1, .int x2, .int x3, .int x4] (gI D cy ad h g sz)) (va_Qi (fun (r : Int32) (u : HI × HL) => Q r u.1 u.2) (gB D cy ad sz) (gA ad sz)) 0 0 (gA ad sz) := by
  refine Met.ofW (cc := cX11_family) (maxL := 5) (ret := (some .int)) (by decide) rfl ?_
  intro p e s m args below meth c s₁ B hml hv
  obtain ⟨hav, hsz, hP, hK, hD0, hNw⟩ := hv
  have hx := B.exec
  have hb := B.bytes
  have hr := B.returns
  have hts := atoms_spec (ws := (wa yX11_family cX11_family 5 (some .int))) B.pre
  have hw := wa_hw hts
  have hown : s.vm.findClass RX11 = some m.cls := findClass_of_methodNamed B.named
  have hlocks := B.notSynchronized
  subst hsz
  have hG : gG D cy ad (gA ad s.heap.size) s.heap h g s.heap [] := ⟨hP, gA_self hD0, va_S.rf⟩
  clear hP hD0
  have cn67 := hw (.constantLong RX11 67 (3)) (wm5 119 rfl rfl)
  have cn73 := hw (.constantLong RX11 73 (100000)) (wm5 131 rfl rfl)
  have lk7 := hw (.fieldLink RX11 7 "OldWorksModel" "st" "[I") (wm5 27 rfl rfl)
  rw [show (headSpec (wa yX11_family cX11_family 5 (some .int)) ({ frames := 2, cells := 0, slots := 0, locals := 45 } : Room)).room = ({ frames := 2, cells := 0, slots := 0, locals := 45 } : Room) from rfl]
  have hl := lv_entry ([.ref (ad 135), .int x1, .int x2, .int x3, .int x4]) (n := 5) (Nat.le_of_ble_eq_true rfl)
  rw [show entryFrame m args 5 = entryFrame m ([.ref (ad 135), .int x1, .int x2, .int x3, .int x4] : List Value).toArray 5 from by rw [hav], lg_entry_eq]
  generalize (lg_sl ([.ref (ad 135), .int x1, .int x2, .int x3, .int x4]) ++ List.replicate (5 - (lg_sl ([.ref (ad 135), .int x1, .int x2, .int x3, .int x4])).length) Slot.unset).toArray = ls at hl ⊢
  have hl : lv_has ls 5 [(0, .ref (ad 135)), (1, .int x1), (2, .int x2), (3, .int x3), (4, .int x4)] := hl
  have E0 : ∀ (H : Heap) (locs : List Loc) (ls : Array Slot), gG D cy ad (gA ad s.heap.size) s.heap h g H locs → lv_has ls 5 [(0, .ref (ad 135)), (1, .int x1), (2, .int x2), (3, .int x3), (4, .int x4)] → W p l e ({ frames := 2, cells := 0, slots := 0, locals := 45 } : Room) s m args below meth c H locs 0 0 (MQ below (va_Qi (fun (r : Int32) (u : HI × HL) => Q r u.1 u.2) (gB D cy ad s.heap.size) (gA ad s.heap.size)) args s 0 0 (gA ad s.heap.size)) (F0 m 0 ls []) := by
    intro H locs ls hG hl
    unfold w_X11_family at HW
    refine lv_iload_n hx hb dX11_family_0 rfl (lv_at hl 1 rfl) ?_
    refine lv_i2l hx hb dX11_family_1 rfl ?_
    refine lv_lconst (v := 0) hx hb dX11_family_2 (by decide) ?_
    refine lv_ldc2 (v := 3) hx hb hown cn67 dX11_family_3 ?_
    obtain ⟨P_6, HC_6, HW⟩ := HW
    refine g_callz (g_runS (As := [.long ((x1).toInt64), .long (0 : Int64), .long (3 : Int64)]) (rest := []) ⟨hx, hb, hml, hown, hts⟩ (m_X11_in l D cy ad h g H.size ((x1).toInt64) (0 : Int64) (3 : Int64) P_6 HC_6) (va_cwS 3 hts (gd_S (wm5 111 rfl rfl) (wm5 112 rfl rfl) (wm1 13 rfl rfl) (wm5 113 rfl rfl)) rfl rfl rfl (by decide +kernel) ⟨Nat.le_of_ble_eq_true rfl, Nat.le_of_ble_eq_true rfl⟩) hK hNw hG rfl rfl hl.1 rfl (lv_room (Nat.le_of_ble_eq_true rfl)) dX11_family_6 ⟨Nat.zero_le _, Nat.zero_le _⟩) hG (fun r_6 h_6 g_6 H locs hz hq hG => ?_)
    replace HW := HW r_6 h_6 g_6 hz hq
    refine lv_if_eq (tgt := 52) hx hb dX11_family_9 (by decide) (fun c_9 => ?_) (fun c_9 => ?_)
    · replace HW := HW.1 c_9
      refine lv_bipush (v := (-2)) hx hb dX11_family_52 (by decide) ?_
      exact W.iret (v := (-2 : Int32)) hx hb hr (fun t ht hW => ⟨⟨(-2 : Int32), (h_6, g_6), rfl, HW, g_B ht hG⟩, hG.2.2.F ht⟩) hG.2.2.2.2 dX11_family_54
    · replace HW := HW.2 c_9
      refine lv_iload_n hx hb dX11_family_12 rfl (lv_at hl 2 rfl) ?_
      obtain ⟨P_13, HC_13, HW⟩ := HW
      refine g_callz (g_runS (As := [.int x2]) (rest := []) ⟨hx, hb, hml, hown, hts⟩ (m_X11_isSize l D cy ad h_6 g_6 H.size x2 P_13 HC_13) (va_cwS 1 hts (gd_S (wm5 128 rfl rfl) (wm5 129 rfl rfl) (wm1 13 rfl rfl) (wm5 130 rfl rfl)) rfl rfl rfl (by decide +kernel) ⟨Nat.le_of_ble_eq_true rfl, Nat.le_of_ble_eq_true rfl⟩) hK hNw hG rfl rfl hl.1 rfl (lv_room (Nat.le_of_ble_eq_true rfl)) dX11_family_13 ⟨Nat.zero_le _, Nat.zero_le _⟩) hG (fun r_13 h_13 g_13 H locs hz hq hG => ?_)
      replace HW := HW r_13 h_13 g_13 hz hq
      refine lv_if_eq (tgt := 52) hx hb dX11_family_16 (by decide) (fun c_16 => ?_) (fun c_16 => ?_)
      · replace HW := HW.1 c_16
        refine lv_bipush (v := (-2)) hx hb dX11_family_52 (by decide) ?_
        exact W.iret (v := (-2 : Int32)) hx hb hr (fun t ht hW => ⟨⟨(-2 : Int32), (h_13, g_13), rfl, HW, g_B ht hG⟩, hG.2.2.F ht⟩) hG.2.2.2.2 dX11_family_54
      · replace HW := HW.2 c_16
        refine lv_iload_n hx hb dX11_family_19 rfl (lv_at hl 3 rfl) ?_
        obtain ⟨P_20, HC_20, HW⟩ := HW
        refine g_callz (g_runS (As := [.int x3]) (rest := []) ⟨hx, hb, hml, hown, hts⟩ (m_X11_isSize l D cy ad h_13 g_13 H.size x3 P_20 HC_20) (va_cwS 1 hts (gd_S (wm5 128 rfl rfl) (wm5 129 rfl rfl) (wm1 13 rfl rfl) (wm5 130 rfl rfl)) rfl rfl rfl (by decide +kernel) ⟨Nat.le_of_ble_eq_true rfl, Nat.le_of_ble_eq_true rfl⟩) hK hNw hG rfl rfl hl.1 rfl (lv_room (Nat.le_of_ble_eq_true rfl)) dX11_family_20 ⟨Nat.zero_le _, Nat.zero_le _⟩) hG (fun r_20 h_20 g_20 H locs hz hq hG => ?_)
        replace HW := HW r_20 h_20 g_20 hz hq
        refine lv_if_eq (tgt := 52) hx hb dX11_family_23 (by decide) (fun c_23 => ?_) (fun c_23 => ?_)
        · replace HW := HW.1 c_23
          refine lv_bipush (v := (-2)) hx hb dX11_family_52 (by decide) ?_
          exact W.iret (v := (-2 : Int32)) hx hb hr (fun t ht hW => ⟨⟨(-2 : Int32), (h_20, g_20), rfl, HW, g_B ht hG⟩, hG.2.2.F ht⟩) hG.2.2.2.2 dX11_family_54
        · replace HW := HW.2 c_23
          refine lv_iload hx hb dX11_family_26 (lv_at hl 4 rfl) ?_
          obtain ⟨P_28, HC_28, HW⟩ := HW
          refine g_callz (g_runS (As := [.int x4]) (rest := []) ⟨hx, hb, hml, hown, hts⟩ (m_X11_isSize l D cy ad h_20 g_20 H.size x4 P_28 HC_28) (va_cwS 1 hts (gd_S (wm5 128 rfl rfl) (wm5 129 rfl rfl) (wm1 13 rfl rfl) (wm5 130 rfl rfl)) rfl rfl rfl (by decide +kernel) ⟨Nat.le_of_ble_eq_true rfl, Nat.le_of_ble_eq_true rfl⟩) hK hNw hG rfl rfl hl.1 rfl (lv_room (Nat.le_of_ble_eq_true rfl)) dX11_family_28 ⟨Nat.zero_le _, Nat.zero_le _⟩) hG (fun r_28 h_28 g_28 H locs hz hq hG => ?_)
          replace HW := HW r_28 h_28 g_28 hz hq
          refine lv_if_eq (tgt := 52) hx hb dX11_family_31 (by decide) (fun c_31 => ?_) (fun c_31 => ?_)
          · replace HW := HW.1 c_31
            refine lv_bipush (v := (-2)) hx hb dX11_family_52 (by decide) ?_
            exact W.iret (v := (-2 : Int32)) hx hb hr (fun t ht hW => ⟨⟨(-2 : Int32), (h_28, g_28), rfl, HW, g_B ht hG⟩, hG.2.2.F ht⟩) hG.2.2.2.2 dX11_family_54
          · replace HW := HW.2 c_31
            refine lv_iload_n hx hb dX11_family_34 rfl (lv_at hl 2 rfl) ?_
            refine lv_i2l hx hb dX11_family_35 rfl ?_
            refine lv_iload hx hb dX11_family_36 (lv_at hl 4 rfl) ?_
            refine lv_i2l hx hb dX11_family_38 rfl ?_
            refine lv_lconst (v := 1) hx hb dX11_family_39 (by decide) ?_
            refine lv_lsub hx hb dX11_family_40 ?_
            refine lv_iload_n hx hb dX11_family_41 rfl (lv_at hl 3 rfl) ?_
            refine lv_i2l hx hb dX11_family_42 rfl ?_
            refine lv_lmul hx hb dX11_family_43 ?_
            refine lv_ladd hx hb dX11_family_44 ?_
            refine lv_ldc2 (v := 100000) hx hb hown cn73 dX11_family_45 ?_
            refine W.lcmp hx hb dX11_family_48 ?_
            refine lv_if_le (tgt := 55) hx hb dX11_family_49 (by decide) (fun c_49 => ?_) (fun c_49 => ?_)
            · replace HW := HW.1 c_49
              refine lv_aload_n hx hb dX11_family_55 rfl (lv_at hl 0 rfl) ?_
              refine g_getr hx hb hw inG11 hown hK hG gl_135 rfl gk_135 (by decide) 0 (by decide) (by rw [gm_135]; decide) (r := 136) gr_135_0 lk7 dX11_family_56 ?_
              refine lv_sipush (v := 140) hx hb dX11_family_59 (by decide) ?_
              refine lv_iconst (v := 3) hx hb dX11_family_62 (by decide) ?_
              refine lv_iload_n hx hb dX11_family_63 rfl (lv_at hl 1 rfl) ?_
              refine lv_imul hx hb dX11_family_64 ?_
              refine lv_iadd hx hb dX11_family_65 ?_
              refine lv_iload_n hx hb dX11_family_66 rfl (lv_at hl 2 rfl) ?_
              refine g_iast hx hb hK hG gl_136 gk_136 gn_136 HW.1 dX11_family_67 (fun H locs hG => ?_)
              replace HW := HW.2
              obtain ⟨h_67, eh_67⟩ : ∃ y : HI, y = hu h_28 136 ((140 : Int32) + ((3 : Int32) * x1)).toNatClampNeg x2 := ⟨_, rfl⟩
              rw [← eh_67] at hG
              replace HW := HW h_67 eh_67
              refine lv_aload_n hx hb dX11_family_68 rfl (lv_at hl 0 rfl) ?_
              refine g_getr hx hb hw inG11 hown hK hG gl_135 rfl gk_135 (by decide) 0 (by decide) (by rw [gm_135]; decide) (r := 136) gr_135_0 lk7 dX11_family_69 ?_
              refine lv_sipush (v := 140) hx hb dX11_family_72 (by decide) ?_
              refine lv_iconst (v := 3) hx hb dX11_family_75 (by decide) ?_
              refine lv_iload_n hx hb dX11_family_76 rfl (lv_at hl 1 rfl) ?_
              refine lv_imul hx hb dX11_family_77 ?_
              refine lv_iadd hx hb dX11_family_78 ?_
              refine lv_iconst (v := 1) hx hb dX11_family_79 (by decide) ?_
              refine lv_iadd hx hb dX11_family_80 ?_
              refine lv_iload_n hx hb dX11_family_81 rfl (lv_at hl 3 rfl) ?_
              refine g_iast hx hb hK hG gl_136 gk_136 gn_136 HW.1 dX11_family_82 (fun H locs hG => ?_)
              replace HW := HW.2
              obtain ⟨h_82, eh_82⟩ : ∃ y : HI, y = hu h_67 136 (((140 : Int32) + ((3 : Int32) * x1)) + (1 : Int32)).toNatClampNeg x3 := ⟨_, rfl⟩
              rw [← eh_82] at hG
              replace HW := HW h_82 eh_82
              refine lv_aload_n hx hb dX11_family_83 rfl (lv_at hl 0 rfl) ?_
              refine g_getr hx hb hw inG11 hown hK hG gl_135 rfl gk_135 (by decide) 0 (by decide) (by rw [gm_135]; decide) (r := 136) gr_135_0 lk7 dX11_family_84 ?_
              refine lv_sipush (v := 140) hx hb dX11_family_87 (by decide) ?_
              refine lv_iconst (v := 3) hx hb dX11_family_90 (by decide) ?_
              refine lv_iload_n hx hb dX11_family_91 rfl (lv_at hl 1 rfl) ?_
              refine lv_imul hx hb dX11_family_92 ?_
              refine lv_iadd hx hb dX11_family_93 ?_
              refine lv_iconst (v := 2) hx hb dX11_family_94 (by decide) ?_
              refine lv_iadd hx hb dX11_family_95 ?_
              refine lv_iload hx hb dX11_family_96 (lv_at hl 4 rfl) ?_
              refine g_iast hx hb hK hG gl_136 gk_136 gn_136 HW.1 dX11_family_98 (fun H locs hG => ?_)
              replace HW := HW.2
              obtain ⟨h_98, eh_98⟩ : ∃ y : HI, y = hu h_82 136 (((140 : Int32) + ((3 : Int32) * x1)) + (2 : Int32)).toNatClampNeg x4 := ⟨_, rfl⟩
              rw [← eh_98] at hG
              replace HW := HW h_98 eh_98
              refine lv_iconst (v := 1) hx hb dX11_family_99 (by decide) ?_
              exact W.iret (v := (1 : Int32)) hx hb hr (fun t ht hW => ⟨⟨(1 : Int32), (h_98, g_28), rfl, HW, g_B ht hG⟩, hG.2.2.F ht⟩) hG.2.2.2.2 dX11_family_100
            · replace HW := HW.2 c_49
              refine lv_bipush (v := (-2)) hx hb dX11_family_52 (by decide) ?_
              exact W.iret (v := (-2 : Int32)) hx hb hr (fun t ht hW => ⟨⟨(-2 : Int32), (h_28, g_28), rfl, HW, g_B ht hG⟩, hG.2.2.F ht⟩) hG.2.2.2.2 dX11_family_54
  exact E0 _ _ _ hG hl

def w_X11_emits (x1 : Int32) (x2 : Int32) (h : HI) (g : HL) (Q : HI → HL → Prop) : Prop :=
  (vp_in (h 135 3) 70 ∧ ∀ h_9 : HI, h_9 = hu h 139 (h 135 3).toNatClampNeg x1 → (vp_in (h_9 135 3) 70 ∧ ∀ h_19 : HI, h_19 = hu h_9 140 (h_9 135 3).toNatClampNeg x2 → (∀ h_27 : HI, h_27 = hu h_19 135 3 ((h_19 135 3) + (1 : Int32)) → Q h_27 g)))
set_option maxHeartbeats 8000000 in
set_option maxRecDepth 100000 in
theorem m_X11_emits (l : Launch) (D : va_G) (cy : Nat → ClassId) (ad : Nat → Nat) (h : HI) (g : HL) (sz : Nat) (x1 : Int32) (x2 : Int32) (Q : HI → HL → Prop) (HW : w_X11_emits x1 x2 h g Q) : Met l yX11_emits (wa yX11_emits cX11_emits 3 none) ({ frames := 0, cells := 0, slots := 0, locals := 0 }) (va_Pc [.ref (ad 135), .int x1, .int x2] (gI D cy ad h g sz)) (va_Qv (fun (u : HI × HL) => Q u.1 u.2) (gB D cy ad sz) (gA ad sz)) 0 0 (gA ad sz) := by
  refine Met.ofW (cc := cX11_emits) (maxL := 3) (ret := none) (by decide) rfl ?_
  intro p e s m args below meth c s₁ B hml hv
  obtain ⟨hav, hsz, hP, hK, hD0, hNw⟩ := hv
  have hx := B.exec
  have hb := B.bytes
  have hr := B.returns
  have hts := atoms_spec (ws := (wa yX11_emits cX11_emits 3 none)) B.pre
  have hw := wa_hw hts
  have hown : s.vm.findClass RX11 = some m.cls := findClass_of_methodNamed B.named
  have hlocks := B.notSynchronized
  subst hsz
  have hG : gG D cy ad (gA ad s.heap.size) s.heap h g s.heap [] := ⟨hP, gA_self hD0, va_S.rf⟩
  clear hP hD0
  have lk20 := hw (.fieldLink RX11 20 "OldWorksModel" "step" "[I") (wm5 31 rfl rfl)
  have lk78 := hw (.fieldLink RX11 78 "OldWorksModel" "steps" "I") (wm5 30 rfl rfl)
  have lk23 := hw (.fieldLink RX11 23 "OldWorksModel" "with" "[I") (wm5 32 rfl rfl)
  rw [show (headSpec (wa yX11_emits cX11_emits 3 none) ({ frames := 0, cells := 0, slots := 0, locals := 0 } : Room)).room = ({ frames := 0, cells := 0, slots := 0, locals := 0 } : Room) from rfl]
  have hl := lv_entry ([.ref (ad 135), .int x1, .int x2]) (n := 3) (Nat.le_of_ble_eq_true rfl)
  rw [show entryFrame m args 3 = entryFrame m ([.ref (ad 135), .int x1, .int x2] : List Value).toArray 3 from by rw [hav], lg_entry_eq]
  generalize (lg_sl ([.ref (ad 135), .int x1, .int x2]) ++ List.replicate (3 - (lg_sl ([.ref (ad 135), .int x1, .int x2])).length) Slot.unset).toArray = ls at hl ⊢
  have hl : lv_has ls 3 [(0, .ref (ad 135)), (1, .int x1), (2, .int x2)] := hl
  have E0 : ∀ (H : Heap) (locs : List Loc) (ls : Array Slot), gG D cy ad (gA ad s.heap.size) s.heap h g H locs → lv_has ls 3 [(0, .ref (ad 135)), (1, .int x1), (2, .int x2)] → W p l e ({ frames := 0, cells := 0, slots := 0, locals := 0 } : Room) s m args below meth c H locs 0 0 (MQ below (va_Qv (fun (u : HI × HL) => Q u.1 u.2) (gB D cy ad s.heap.size) (gA ad s.heap.size)) args s 0 0 (gA ad s.heap.size)) (F0 m 0 ls []) := by
    intro H locs ls hG hl
    unfold w_X11_emits at HW
    refine lv_aload_n hx hb dX11_emits_0 rfl (lv_at hl 0 rfl) ?_
    refine g_getr hx hb hw inG11 hown hK hG gl_135 rfl gk_135 (by decide) 4 (by decide) (by rw [gm_135]; decide) (r := 139) gr_135_4 lk20 dX11_emits_1 ?_
    refine lv_aload_n hx hb dX11_emits_4 rfl (lv_at hl 0 rfl) ?_
    refine g_geti hx hb hw inG11 hown hK hG gl_135 rfl gk_135 (by decide) 3 (by decide) (by rw [gm_135]; decide) gr_135_3 lk78 dX11_emits_5 ?_
    refine lv_iload_n hx hb dX11_emits_8 rfl (lv_at hl 1 rfl) ?_
    refine g_iast hx hb hK hG gl_139 gk_139 gn_139 HW.1 dX11_emits_9 (fun H locs hG => ?_)
    replace HW := HW.2
    obtain ⟨h_9, eh_9⟩ : ∃ y : HI, y = hu h 139 (h 135 3).toNatClampNeg x1 := ⟨_, rfl⟩
    rw [← eh_9] at hG
    replace HW := HW h_9 eh_9
    refine lv_aload_n hx hb dX11_emits_10 rfl (lv_at hl 0 rfl) ?_
    refine g_getr hx hb hw inG11 hown hK hG gl_135 rfl gk_135 (by decide) 5 (by decide) (by rw [gm_135]; decide) (r := 140) gr_135_5 lk23 dX11_emits_11 ?_
    refine lv_aload_n hx hb dX11_emits_14 rfl (lv_at hl 0 rfl) ?_
    refine g_geti hx hb hw inG11 hown hK hG gl_135 rfl gk_135 (by decide) 3 (by decide) (by rw [gm_135]; decide) gr_135_3 lk78 dX11_emits_15 ?_
    refine lv_iload_n hx hb dX11_emits_18 rfl (lv_at hl 2 rfl) ?_
    refine g_iast hx hb hK hG gl_140 gk_140 gn_140 HW.1 dX11_emits_19 (fun H locs hG => ?_)
    replace HW := HW.2
    obtain ⟨h_19, eh_19⟩ : ∃ y : HI, y = hu h_9 140 (h_9 135 3).toNatClampNeg x2 := ⟨_, rfl⟩
    rw [← eh_19] at hG
    replace HW := HW h_19 eh_19
    refine lv_aload_n hx hb dX11_emits_20 rfl (lv_at hl 0 rfl) ?_
    refine lv_dup hx hb dX11_emits_21 rfl ?_
    refine g_geti hx hb hw inG11 hown hK hG gl_135 rfl gk_135 (by decide) 3 (by decide) (by rw [gm_135]; decide) gr_135_3 lk78 dX11_emits_22 ?_
    refine lv_iconst (v := 1) hx hb dX11_emits_25 (by decide) ?_
    refine lv_iadd hx hb dX11_emits_26 ?_
    refine g_put hx hb hw inG11 tyX11 tyX11_ok nmX11 hown hK hG gl_135 rfl gk_135 (by decide) 3 (by decide) (by rw [gm_135]; decide) gr_135_3 rfl (ty := .int) (by decide +kernel) rfl rfl lk78 dX11_emits_27 (fun H locs hG => ?_)
    obtain ⟨h_27, eh_27⟩ : ∃ y : HI, y = hu h_19 135 3 ((h_19 135 3) + (1 : Int32)) := ⟨_, rfl⟩
    rw [← eh_27] at hG
    replace HW := HW h_27 eh_27
    exact W.vret hx hb hr (fun t ht hW => ⟨⟨(h_27, g), rfl, HW, g_B ht hG⟩, hG.2.2.F ht⟩) hG.2.2.2.2 dX11_emits_30
  exact E0 _ _ _ hG hl

def w_X11_holds (x0 : Int32) (h : HI) (g : HL) (Q : Int32 → HI → HL → Prop) : Prop :=
  ((x0 = 2 → Q (6 : Int32) h g) ∧ (x0 = 3 → Q (6 : Int32) h g) ∧ (x0 = 4 → Q (5 : Int32) h g) ∧ (x0 = 5 → Q (5 : Int32) h g) ∧ (x0 = 6 → Q (4 : Int32) h g) ∧ (x0 = 7 → Q (4 : Int32) h g) ∧ (x0 = 8 → Q (3 : Int32) h g) ∧ (x0 = 9 → Q (3 : Int32) h g) ∧ (x0 = 10 → Q (3 : Int32) h g) ∧ (x0 = 11 → Q (2 : Int32) h g) ∧ (x0 = 12 → Q (1 : Int32) h g) ∧ (¬ x0 = 2 → ¬ x0 = 3 → ¬ x0 = 4 → ¬ x0 = 5 → ¬ x0 = 6 → ¬ x0 = 7 → ¬ x0 = 8 → ¬ x0 = 9 → ¬ x0 = 10 → ¬ x0 = 11 → ¬ x0 = 12 → Q (0 : Int32) h g))
set_option maxHeartbeats 8000000 in
set_option maxRecDepth 100000 in
theorem m_X11_holds (l : Launch) (D : va_G) (cy : Nat → ClassId) (ad : Nat → Nat) (h : HI) (g : HL) (sz : Nat) (x0 : Int32) (Q : Int32 → HI → HL → Prop) (HW : w_X11_holds x0 h g Q) : Met l yX11_holds (wa yX11_holds cX11_holds 1 (some .int)) ({ frames := 0, cells := 0, slots := 0, locals := 0 }) (va_Pc [.int x0] (gI D cy ad h g sz)) (va_Qi (fun (r : Int32) (u : HI × HL) => Q r u.1 u.2) (gB D cy ad sz) (gA ad sz)) 0 0 (gA ad sz) := by
  refine Met.ofW (cc := cX11_holds) (maxL := 1) (ret := (some .int)) (by decide) rfl ?_
  intro p e s m args below meth c s₁ B hml hv
  obtain ⟨hav, hsz, hP, hK, hD0, hNw⟩ := hv
  have hx := B.exec
  have hb := B.bytes
  have hr := B.returns
  have hts := atoms_spec (ws := (wa yX11_holds cX11_holds 1 (some .int))) B.pre
  have hw := wa_hw hts
  have hown : s.vm.findClass RX11 = some m.cls := findClass_of_methodNamed B.named
  have hlocks := B.notSynchronized
  subst hsz
  have hG : gG D cy ad (gA ad s.heap.size) s.heap h g s.heap [] := ⟨hP, gA_self hD0, va_S.rf⟩
  clear hP hD0
  rw [show (headSpec (wa yX11_holds cX11_holds 1 (some .int)) ({ frames := 0, cells := 0, slots := 0, locals := 0 } : Room)).room = ({ frames := 0, cells := 0, slots := 0, locals := 0 } : Room) from rfl]
  have hl := lv_entry ([.int x0]) (n := 1) (Nat.le_of_ble_eq_true rfl)
  rw [show entryFrame m args 1 = entryFrame m ([.int x0] : List Value).toArray 1 from by rw [hav], lg_entry_eq]
  generalize (lg_sl ([.int x0]) ++ List.replicate (1 - (lg_sl ([.int x0])).length) Slot.unset).toArray = ls at hl ⊢
  have hl : lv_has ls 1 [(0, .int x0)] := hl
  have E0 : ∀ (H : Heap) (locs : List Loc) (ls : Array Slot), gG D cy ad (gA ad s.heap.size) s.heap h g H locs → lv_has ls 1 [(0, .int x0)] → W p l e ({ frames := 0, cells := 0, slots := 0, locals := 0 } : Room) s m args below meth c H locs 0 0 (MQ below (va_Qi (fun (r : Int32) (u : HI × HL) => Q r u.1 u.2) (gB D cy ad s.heap.size) (gA ad s.heap.size)) args s 0 0 (gA ad s.heap.size)) (F0 m 0 ls []) := by
    intro H locs ls hG hl
    unfold w_X11_holds at HW
    refine lv_iload_n hx hb dX11_holds_0 rfl (lv_at hl 0 rfl) ?_
    by_cases c_1_0 : x0 = 2
    · replace HW := HW.1 c_1_0
      refine lv_tableIn (tgt := 60) (off := 59) hx hb dX11_holds_1 (by rw [c_1_0]; first | done | decide) (by rw [c_1_0]; first | done | decide) (by rw [c_1_0]; first | done | rfl) (by decide) ?_
      refine lv_bipush (v := 6) hx hb dX11_holds_60 (by decide) ?_
      exact W.iret (v := (6 : Int32)) hx hb hr (fun t ht hW => ⟨⟨(6 : Int32), (h, g), rfl, HW, g_B ht hG⟩, hG.2.2.F ht⟩) hG.2.2.2.2 dX11_holds_62
    · by_cases c_1_1 : x0 = 3
      · replace HW := HW.2.1 c_1_1
        refine lv_tableIn (tgt := 63) (off := 62) hx hb dX11_holds_1 (by rw [c_1_1]; first | done | decide) (by rw [c_1_1]; first | done | decide) (by rw [c_1_1]; first | done | rfl) (by decide) ?_
        refine lv_bipush (v := 6) hx hb dX11_holds_63 (by decide) ?_
        exact W.iret (v := (6 : Int32)) hx hb hr (fun t ht hW => ⟨⟨(6 : Int32), (h, g), rfl, HW, g_B ht hG⟩, hG.2.2.F ht⟩) hG.2.2.2.2 dX11_holds_65
      · by_cases c_1_2 : x0 = 4
        · replace HW := HW.2.2.1 c_1_2
          refine lv_tableIn (tgt := 66) (off := 65) hx hb dX11_holds_1 (by rw [c_1_2]; first | done | decide) (by rw [c_1_2]; first | done | decide) (by rw [c_1_2]; first | done | rfl) (by decide) ?_
          refine lv_iconst (v := 5) hx hb dX11_holds_66 (by decide) ?_
          exact W.iret (v := (5 : Int32)) hx hb hr (fun t ht hW => ⟨⟨(5 : Int32), (h, g), rfl, HW, g_B ht hG⟩, hG.2.2.F ht⟩) hG.2.2.2.2 dX11_holds_67
        · by_cases c_1_3 : x0 = 5
          · replace HW := HW.2.2.2.1 c_1_3
            refine lv_tableIn (tgt := 68) (off := 67) hx hb dX11_holds_1 (by rw [c_1_3]; first | done | decide) (by rw [c_1_3]; first | done | decide) (by rw [c_1_3]; first | done | rfl) (by decide) ?_
            refine lv_iconst (v := 5) hx hb dX11_holds_68 (by decide) ?_
            exact W.iret (v := (5 : Int32)) hx hb hr (fun t ht hW => ⟨⟨(5 : Int32), (h, g), rfl, HW, g_B ht hG⟩, hG.2.2.F ht⟩) hG.2.2.2.2 dX11_holds_69
          · by_cases c_1_4 : x0 = 6
            · replace HW := HW.2.2.2.2.1 c_1_4
              refine lv_tableIn (tgt := 70) (off := 69) hx hb dX11_holds_1 (by rw [c_1_4]; first | done | decide) (by rw [c_1_4]; first | done | decide) (by rw [c_1_4]; first | done | rfl) (by decide) ?_
              refine lv_iconst (v := 4) hx hb dX11_holds_70 (by decide) ?_
              exact W.iret (v := (4 : Int32)) hx hb hr (fun t ht hW => ⟨⟨(4 : Int32), (h, g), rfl, HW, g_B ht hG⟩, hG.2.2.F ht⟩) hG.2.2.2.2 dX11_holds_71
            · by_cases c_1_5 : x0 = 7
              · replace HW := HW.2.2.2.2.2.1 c_1_5
                refine lv_tableIn (tgt := 72) (off := 71) hx hb dX11_holds_1 (by rw [c_1_5]; first | done | decide) (by rw [c_1_5]; first | done | decide) (by rw [c_1_5]; first | done | rfl) (by decide) ?_
                refine lv_iconst (v := 4) hx hb dX11_holds_72 (by decide) ?_
                exact W.iret (v := (4 : Int32)) hx hb hr (fun t ht hW => ⟨⟨(4 : Int32), (h, g), rfl, HW, g_B ht hG⟩, hG.2.2.F ht⟩) hG.2.2.2.2 dX11_holds_73
              · by_cases c_1_6 : x0 = 8
                · replace HW := HW.2.2.2.2.2.2.1 c_1_6
                  refine lv_tableIn (tgt := 74) (off := 73) hx hb dX11_holds_1 (by rw [c_1_6]; first | done | decide) (by rw [c_1_6]; first | done | decide) (by rw [c_1_6]; first | done | rfl) (by decide) ?_
                  refine lv_iconst (v := 3) hx hb dX11_holds_74 (by decide) ?_
                  exact W.iret (v := (3 : Int32)) hx hb hr (fun t ht hW => ⟨⟨(3 : Int32), (h, g), rfl, HW, g_B ht hG⟩, hG.2.2.F ht⟩) hG.2.2.2.2 dX11_holds_75
                · by_cases c_1_7 : x0 = 9
                  · replace HW := HW.2.2.2.2.2.2.2.1 c_1_7
                    refine lv_tableIn (tgt := 76) (off := 75) hx hb dX11_holds_1 (by rw [c_1_7]; first | done | decide) (by rw [c_1_7]; first | done | decide) (by rw [c_1_7]; first | done | rfl) (by decide) ?_
                    refine lv_iconst (v := 3) hx hb dX11_holds_76 (by decide) ?_
                    exact W.iret (v := (3 : Int32)) hx hb hr (fun t ht hW => ⟨⟨(3 : Int32), (h, g), rfl, HW, g_B ht hG⟩, hG.2.2.F ht⟩) hG.2.2.2.2 dX11_holds_77
                  · by_cases c_1_8 : x0 = 10
                    · replace HW := HW.2.2.2.2.2.2.2.2.1 c_1_8
                      refine lv_tableIn (tgt := 78) (off := 77) hx hb dX11_holds_1 (by rw [c_1_8]; first | done | decide) (by rw [c_1_8]; first | done | decide) (by rw [c_1_8]; first | done | rfl) (by decide) ?_
                      refine lv_iconst (v := 3) hx hb dX11_holds_78 (by decide) ?_
                      exact W.iret (v := (3 : Int32)) hx hb hr (fun t ht hW => ⟨⟨(3 : Int32), (h, g), rfl, HW, g_B ht hG⟩, hG.2.2.F ht⟩) hG.2.2.2.2 dX11_holds_79
                    · by_cases c_1_9 : x0 = 11
                      · replace HW := HW.2.2.2.2.2.2.2.2.2.1 c_1_9
                        refine lv_tableIn (tgt := 80) (off := 79) hx hb dX11_holds_1 (by rw [c_1_9]; first | done | decide) (by rw [c_1_9]; first | done | decide) (by rw [c_1_9]; first | done | rfl) (by decide) ?_
                        refine lv_iconst (v := 2) hx hb dX11_holds_80 (by decide) ?_
                        exact W.iret (v := (2 : Int32)) hx hb hr (fun t ht hW => ⟨⟨(2 : Int32), (h, g), rfl, HW, g_B ht hG⟩, hG.2.2.F ht⟩) hG.2.2.2.2 dX11_holds_81
                      · by_cases c_1_10 : x0 = 12
                        · replace HW := HW.2.2.2.2.2.2.2.2.2.2.1 c_1_10
                          refine lv_tableIn (tgt := 82) (off := 81) hx hb dX11_holds_1 (by rw [c_1_10]; first | done | decide) (by rw [c_1_10]; first | done | decide) (by rw [c_1_10]; first | done | rfl) (by decide) ?_
                          refine lv_iconst (v := 1) hx hb dX11_holds_82 (by decide) ?_
                          exact W.iret (v := (1 : Int32)) hx hb hr (fun t ht hW => ⟨⟨(1 : Int32), (h, g), rfl, HW, g_B ht hG⟩, hG.2.2.F ht⟩) hG.2.2.2.2 dX11_holds_83
                        · replace HW := HW.2.2.2.2.2.2.2.2.2.2.2 c_1_0 c_1_1 c_1_2 c_1_3 c_1_4 c_1_5 c_1_6 c_1_7 c_1_8 c_1_9 c_1_10
                          have z_1_0 := g_ne c_1_0 (n := 2) (by decide)
                          have z_1_1 := g_ne c_1_1 (n := 3) (by decide)
                          have z_1_2 := g_ne c_1_2 (n := 4) (by decide)
                          have z_1_3 := g_ne c_1_3 (n := 5) (by decide)
                          have z_1_4 := g_ne c_1_4 (n := 6) (by decide)
                          have z_1_5 := g_ne c_1_5 (n := 7) (by decide)
                          have z_1_6 := g_ne c_1_6 (n := 8) (by decide)
                          have z_1_7 := g_ne c_1_7 (n := 9) (by decide)
                          have z_1_8 := g_ne c_1_8 (n := 10) (by decide)
                          have z_1_9 := g_ne c_1_9 (n := 11) (by decide)
                          have z_1_10 := g_ne c_1_10 (n := 12) (by decide)
                          refine lv_tableOut (tgt := 84) hx hb dX11_holds_1 (by omega) (by decide) ?_
                          refine lv_iconst (v := 0) hx hb dX11_holds_84 (by decide) ?_
                          exact W.iret (v := (0 : Int32)) hx hb hr (fun t ht hW => ⟨⟨(0 : Int32), (h, g), rfl, HW, g_B ht hG⟩, hG.2.2.F ht⟩) hG.2.2.2.2 dX11_holds_85
  exact E0 _ _ _ hG hl

def b_X11_settles_0 (Q : HI → HL → Prop) (K0 : Int32 → HI → HL → Prop) (x1 : Int32) (h : HI) (g : HL) : Prop :=
  (((h 135 6) ≤ 0 → Q h g) ∧ (¬ (h 135 6) ≤ 0 → (vp_in ((h 135 6) - (1 : Int32)) 70 ∧ (∃ P_18 : Int32 → HI → HL → Prop, w_X11_holds (h 141 ((h 135 6) - (1 : Int32)).toNatClampNeg) h g P_18 ∧ ∀ (r_18 : Int32) (h_18 : HI) (g_18 : HL), P_18 r_18 h_18 g_18 → ((r_18 < x1 → Q h_18 g_18) ∧ (¬ r_18 < x1 → (∀ h_32 : HI, h_32 = hu h_18 135 6 ((h_18 135 6) - (1 : Int32)) → (vp_in (h_32 135 6) 70 ∧ (∃ P_46 : HI → HL → Prop, w_X11_emits (h_32 141 (h_32 135 6).toNatClampNeg) (0 : Int32) h_32 g_18 P_46 ∧ ∀ (h_46 : HI) (g_46 : HL), P_46 h_46 g_46 → K0 x1 h_46 g_46)))))))))
def F_X11_settles_0 (Q : HI → HL → Prop) (K : Int32 × HI × HL → Prop) (q : Int32 × HI × HL) : Prop := b_X11_settles_0 Q (fun x1 h g => K (x1, h, g)) q.1 q.2.1 q.2.2
def w_X11_settles (x1 : Int32) (h : HI) (g : HL) (Q : HI → HL → Prop) : Prop :=
  lpE (F_X11_settles_0 Q) (x1, h, g)
set_option maxHeartbeats 8000000 in
set_option maxRecDepth 100000 in
theorem m_X11_settles (l : Launch) (D : va_G) (cy : Nat → ClassId) (ad : Nat → Nat) (h : HI) (g : HL) (sz : Nat) (x1 : Int32) (Q : HI → HL → Prop) (HW : w_X11_settles x1 h g Q) : Met l yX11_settles (wa yX11_settles cX11_settles 2 none) ({ frames := 1, cells := 0, slots := 0, locals := 22 }) (va_Pc [.ref (ad 135), .int x1] (gI D cy ad h g sz)) (va_Qv (fun (u : HI × HL) => Q u.1 u.2) (gB D cy ad sz) (gA ad sz)) 0 0 (gA ad sz) := by
  refine Met.ofW (cc := cX11_settles) (maxL := 2) (ret := none) (by decide) rfl ?_
  intro p e s m args below meth c s₁ B hml hv
  obtain ⟨hav, hsz, hP, hK, hD0, hNw⟩ := hv
  have hx := B.exec
  have hb := B.bytes
  have hr := B.returns
  have hts := atoms_spec (ws := (wa yX11_settles cX11_settles 2 none)) B.pre
  have hw := wa_hw hts
  have hown : s.vm.findClass RX11 = some m.cls := findClass_of_methodNamed B.named
  have hlocks := B.notSynchronized
  subst hsz
  have hG : gG D cy ad (gA ad s.heap.size) s.heap h g s.heap [] := ⟨hP, gA_self hD0, va_S.rf⟩
  clear hP hD0
  have lk82 := hw (.fieldLink RX11 82 "OldWorksModel" "waiting" "I") (wm5 33 rfl rfl)
  have lk26 := hw (.fieldLink RX11 26 "OldWorksModel" "waits" "[I") (wm5 34 rfl rfl)
  rw [show (headSpec (wa yX11_settles cX11_settles 2 none) ({ frames := 1, cells := 0, slots := 0, locals := 22 } : Room)).room = ({ frames := 1, cells := 0, slots := 0, locals := 22 } : Room) from rfl]
  have hl := lv_entry ([.ref (ad 135), .int x1]) (n := 2) (Nat.le_of_ble_eq_true rfl)
  rw [show entryFrame m args 2 = entryFrame m ([.ref (ad 135), .int x1] : List Value).toArray 2 from by rw [hav], lg_entry_eq]
  generalize (lg_sl ([.ref (ad 135), .int x1]) ++ List.replicate (2 - (lg_sl ([.ref (ad 135), .int x1])).length) Slot.unset).toArray = ls at hl ⊢
  have hl : lv_has ls 2 [(0, .ref (ad 135)), (1, .int x1)] := hl
  have L0 : ∀ (n : Nat) (x1 : Int32) (h : HI) (g : HL) (H : Heap) (locs : List Loc) (ls : Array Slot), lpN (F_X11_settles_0 Q) n (x1, h, g) → gG D cy ad (gA ad s.heap.size) s.heap h g H locs → lv_has ls 2 [(0, .ref (ad 135)), (1, .int x1)] → W p l e ({ frames := 1, cells := 0, slots := 0, locals := 22 } : Room) s m args below meth c H locs 0 0 (MQ below (va_Qv (fun (u : HI × HL) => Q u.1 u.2) (gB D cy ad s.heap.size) (gA ad s.heap.size)) args s 0 0 (gA ad s.heap.size)) (F0 m 0 ls []) := by
    intro n
    induction n with
    | zero => intro x1 h g H locs ls HW; exact HW.elim
    | succ n ih =>
      intro x1 h g H locs ls HW hG hl
      have HW : b_X11_settles_0 Q (fun x1 h g => lpN (F_X11_settles_0 Q) n (x1, h, g)) x1 h g := HW
      generalize hKe : (fun (x1 : Int32) (h : HI) (g : HL) => lpN (F_X11_settles_0 Q) n (x1, h, g)) = K0 at HW
      have hK0 : ∀ (x1 : Int32) (h : HI) (g : HL) (H : Heap) (locs : List Loc) (ls : Array Slot), K0 x1 h g → gG D cy ad (gA ad s.heap.size) s.heap h g H locs → lv_has ls 2 [(0, .ref (ad 135)), (1, .int x1)] → W p l e ({ frames := 1, cells := 0, slots := 0, locals := 22 } : Room) s m args below meth c H locs 0 0 (MQ below (va_Qv (fun (u : HI × HL) => Q u.1 u.2) (gB D cy ad s.heap.size) (gA ad s.heap.size)) args s 0 0 (gA ad s.heap.size)) (F0 m 0 ls []) := by subst hKe; exact ih
      clear ih
      clear hKe
      unfold b_X11_settles_0 at HW
      refine lv_aload_n hx hb dX11_settles_0 rfl (lv_at hl 0 rfl) ?_
      refine g_geti hx hb hw inG11 hown hK hG gl_135 rfl gk_135 (by decide) 6 (by decide) (by rw [gm_135]; decide) gr_135_6 lk82 dX11_settles_1 ?_
      refine lv_if_le (tgt := 52) hx hb dX11_settles_4 (by decide) (fun c_4 => ?_) (fun c_4 => ?_)
      · replace HW := HW.1 c_4
        exact W.vret hx hb hr (fun t ht hW => ⟨⟨(h, g), rfl, HW, g_B ht hG⟩, hG.2.2.F ht⟩) hG.2.2.2.2 dX11_settles_52
      · replace HW := HW.2 c_4
        refine lv_aload_n hx hb dX11_settles_7 rfl (lv_at hl 0 rfl) ?_
        refine g_getr hx hb hw inG11 hown hK hG gl_135 rfl gk_135 (by decide) 7 (by decide) (by rw [gm_135]; decide) (r := 141) gr_135_7 lk26 dX11_settles_8 ?_
        refine lv_aload_n hx hb dX11_settles_11 rfl (lv_at hl 0 rfl) ?_
        refine g_geti hx hb hw inG11 hown hK hG gl_135 rfl gk_135 (by decide) 6 (by decide) (by rw [gm_135]; decide) gr_135_6 lk82 dX11_settles_12 ?_
        refine lv_iconst (v := 1) hx hb dX11_settles_15 (by decide) ?_
        refine lv_isub hx hb dX11_settles_16 ?_
        refine g_iald hx hb hK hG gl_141 gk_141 gn_141 HW.1 dX11_settles_17 ?_
        replace HW := HW.2
        obtain ⟨P_18, HC_18, HW⟩ := HW
        refine g_calli (g_runS (As := [.int (h 141 ((h 135 6) - (1 : Int32)).toNatClampNeg)]) (rest := []) ⟨hx, hb, hml, hown, hts⟩ (m_X11_holds l D cy ad h g H.size (h 141 ((h 135 6) - (1 : Int32)).toNatClampNeg) P_18 HC_18) (va_cwS 1 hts (gd_S (wm5 157 rfl rfl) (wm5 158 rfl rfl) (wm1 13 rfl rfl) (wm5 159 rfl rfl)) rfl rfl rfl (by decide +kernel) ⟨Nat.le_of_ble_eq_true rfl, Nat.le_of_ble_eq_true rfl⟩) hK hNw hG rfl rfl hl.1 rfl (lv_room (Nat.le_of_ble_eq_true rfl)) dX11_settles_18 ⟨Nat.zero_le _, Nat.zero_le _⟩) hG (fun r_18 h_18 g_18 H locs hq hG => ?_)
        replace HW := HW r_18 h_18 g_18 hq
        refine lv_iload_n hx hb dX11_settles_21 rfl (lv_at hl 1 rfl) ?_
        refine lv_icmp_lt (tgt := 52) hx hb dX11_settles_22 (by decide) (fun c_22 => ?_) (fun c_22 => ?_)
        · replace HW := HW.1 c_22
          exact W.vret hx hb hr (fun t ht hW => ⟨⟨(h_18, g_18), rfl, HW, g_B ht hG⟩, hG.2.2.F ht⟩) hG.2.2.2.2 dX11_settles_52
        · replace HW := HW.2 c_22
          refine lv_aload_n hx hb dX11_settles_25 rfl (lv_at hl 0 rfl) ?_
          refine lv_dup hx hb dX11_settles_26 rfl ?_
          refine g_geti hx hb hw inG11 hown hK hG gl_135 rfl gk_135 (by decide) 6 (by decide) (by rw [gm_135]; decide) gr_135_6 lk82 dX11_settles_27 ?_
          refine lv_iconst (v := 1) hx hb dX11_settles_30 (by decide) ?_
          refine lv_isub hx hb dX11_settles_31 ?_
          refine g_put hx hb hw inG11 tyX11 tyX11_ok nmX11 hown hK hG gl_135 rfl gk_135 (by decide) 6 (by decide) (by rw [gm_135]; decide) gr_135_6 rfl (ty := .int) (by decide +kernel) rfl rfl lk82 dX11_settles_32 (fun H locs hG => ?_)
          obtain ⟨h_32, eh_32⟩ : ∃ y : HI, y = hu h_18 135 6 ((h_18 135 6) - (1 : Int32)) := ⟨_, rfl⟩
          rw [← eh_32] at hG
          replace HW := HW h_32 eh_32
          refine lv_aload_n hx hb dX11_settles_35 rfl (lv_at hl 0 rfl) ?_
          refine lv_aload_n hx hb dX11_settles_36 rfl (lv_at hl 0 rfl) ?_
          refine g_getr hx hb hw inG11 hown hK hG gl_135 rfl gk_135 (by decide) 7 (by decide) (by rw [gm_135]; decide) (r := 141) gr_135_7 lk26 dX11_settles_37 ?_
          refine lv_aload_n hx hb dX11_settles_40 rfl (lv_at hl 0 rfl) ?_
          refine g_geti hx hb hw inG11 hown hK hG gl_135 rfl gk_135 (by decide) 6 (by decide) (by rw [gm_135]; decide) gr_135_6 lk82 dX11_settles_41 ?_
          refine g_iald hx hb hK hG gl_141 gk_141 gn_141 HW.1 dX11_settles_44 ?_
          replace HW := HW.2
          refine lv_iconst (v := 0) hx hb dX11_settles_45 (by decide) ?_
          obtain ⟨P_46, HC_46, HW⟩ := HW
          refine g_callv (g_runV (As := [.int (h_32 141 (h_32 135 6).toNatClampNeg), .int (0 : Int32)]) (rest := []) ⟨hx, hb, hml, hown, hts⟩ (m_X11_emits l D cy ad h_32 g_18 H.size (h_32 141 (h_32 135 6).toNatClampNeg) (0 : Int32) P_46 HC_46) (cwV 2 hts (gd_V (wm5 160 rfl rfl) (wm5 162 rfl rfl) (wmp3 (q := (yX11_emits, 26)) 11 rfl) (wm1 13 rfl rfl) (wm5 163 rfl rfl)) rfl rfl rfl (by decide +kernel) ⟨Nat.le_of_ble_eq_true rfl, Nat.le_of_ble_eq_true rfl⟩) hK hNw hG gl_135 rfl gk_135 (by decide) rfl rfl hl.1 rfl (lv_room (Nat.le_of_ble_eq_true rfl)) dX11_settles_46 ⟨Nat.zero_le _, Nat.zero_le _⟩) hG (fun h_46 g_46 H locs hq hG => ?_)
          replace HW := HW h_46 g_46 hq
          refine lv_goto (tgt := 0) hx hb dX11_settles_49 (by decide) ?_
          exact hK0 x1 h_46 g_46 _ _ _ HW hG (lv_sub hl [0, 1] rfl)
  have E0 : ∀ (H : Heap) (locs : List Loc) (ls : Array Slot), gG D cy ad (gA ad s.heap.size) s.heap h g H locs → lv_has ls 2 [(0, .ref (ad 135)), (1, .int x1)] → W p l e ({ frames := 1, cells := 0, slots := 0, locals := 22 } : Room) s m args below meth c H locs 0 0 (MQ below (va_Qv (fun (u : HI × HL) => Q u.1 u.2) (gB D cy ad s.heap.size) (gA ad s.heap.size)) args s 0 0 (gA ad s.heap.size)) (F0 m 0 ls []) := by
    intro H locs ls hG hl
    unfold w_X11_settles at HW
    obtain ⟨n_0, HW⟩ := HW
    exact L0 n_0 x1 h g _ _ _ HW hG (lv_sub hl [0, 1] rfl)
  exact E0 _ _ _ hG hl

def w_X11_waitsWith (x1 : Int32) (h : HI) (g : HL) (Q : HI → HL → Prop) : Prop :=
  (vp_in (h 135 6) 70 ∧ ∀ h_9 : HI, h_9 = hu h 141 (h 135 6).toNatClampNeg x1 → (∀ h_17 : HI, h_17 = hu h_9 135 6 ((h_9 135 6) + (1 : Int32)) → Q h_17 g))
set_option maxHeartbeats 8000000 in
set_option maxRecDepth 100000 in
theorem m_X11_waitsWith (l : Launch) (D : va_G) (cy : Nat → ClassId) (ad : Nat → Nat) (h : HI) (g : HL) (sz : Nat) (x1 : Int32) (Q : HI → HL → Prop) (HW : w_X11_waitsWith x1 h g Q) : Met l yX11_waitsWith (wa yX11_waitsWith cX11_waitsWith 2 none) ({ frames := 0, cells := 0, slots := 0, locals := 0 }) (va_Pc [.ref (ad 135), .int x1] (gI D cy ad h g sz)) (va_Qv (fun (u : HI × HL) => Q u.1 u.2) (gB D cy ad sz) (gA ad sz)) 0 0 (gA ad sz) := by
  refine Met.ofW (cc := cX11_waitsWith) (maxL := 2) (ret := none) (by decide) rfl ?_
  intro p e s m args below meth c s₁ B hml hv
  obtain ⟨hav, hsz, hP, hK, hD0, hNw⟩ := hv
  have hx := B.exec
  have hb := B.bytes
  have hr := B.returns
  have hts := atoms_spec (ws := (wa yX11_waitsWith cX11_waitsWith 2 none)) B.pre
  have hw := wa_hw hts
  have hown : s.vm.findClass RX11 = some m.cls := findClass_of_methodNamed B.named
  have hlocks := B.notSynchronized
  subst hsz
  have hG : gG D cy ad (gA ad s.heap.size) s.heap h g s.heap [] := ⟨hP, gA_self hD0, va_S.rf⟩
  clear hP hD0
  have lk26 := hw (.fieldLink RX11 26 "OldWorksModel" "waits" "[I") (wm5 34 rfl rfl)
  have lk82 := hw (.fieldLink RX11 82 "OldWorksModel" "waiting" "I") (wm5 33 rfl rfl)
  rw [show (headSpec (wa yX11_waitsWith cX11_waitsWith 2 none) ({ frames := 0, cells := 0, slots := 0, locals := 0 } : Room)).room = ({ frames := 0, cells := 0, slots := 0, locals := 0 } : Room) from rfl]
  have hl := lv_entry ([.ref (ad 135), .int x1]) (n := 2) (Nat.le_of_ble_eq_true rfl)
  rw [show entryFrame m args 2 = entryFrame m ([.ref (ad 135), .int x1] : List Value).toArray 2 from by rw [hav], lg_entry_eq]
  generalize (lg_sl ([.ref (ad 135), .int x1]) ++ List.replicate (2 - (lg_sl ([.ref (ad 135), .int x1])).length) Slot.unset).toArray = ls at hl ⊢
  have hl : lv_has ls 2 [(0, .ref (ad 135)), (1, .int x1)] := hl
  have E0 : ∀ (H : Heap) (locs : List Loc) (ls : Array Slot), gG D cy ad (gA ad s.heap.size) s.heap h g H locs → lv_has ls 2 [(0, .ref (ad 135)), (1, .int x1)] → W p l e ({ frames := 0, cells := 0, slots := 0, locals := 0 } : Room) s m args below meth c H locs 0 0 (MQ below (va_Qv (fun (u : HI × HL) => Q u.1 u.2) (gB D cy ad s.heap.size) (gA ad s.heap.size)) args s 0 0 (gA ad s.heap.size)) (F0 m 0 ls []) := by
    intro H locs ls hG hl
    unfold w_X11_waitsWith at HW
    refine lv_aload_n hx hb dX11_waitsWith_0 rfl (lv_at hl 0 rfl) ?_
    refine g_getr hx hb hw inG11 hown hK hG gl_135 rfl gk_135 (by decide) 7 (by decide) (by rw [gm_135]; decide) (r := 141) gr_135_7 lk26 dX11_waitsWith_1 ?_
    refine lv_aload_n hx hb dX11_waitsWith_4 rfl (lv_at hl 0 rfl) ?_
    refine g_geti hx hb hw inG11 hown hK hG gl_135 rfl gk_135 (by decide) 6 (by decide) (by rw [gm_135]; decide) gr_135_6 lk82 dX11_waitsWith_5 ?_
    refine lv_iload_n hx hb dX11_waitsWith_8 rfl (lv_at hl 1 rfl) ?_
    refine g_iast hx hb hK hG gl_141 gk_141 gn_141 HW.1 dX11_waitsWith_9 (fun H locs hG => ?_)
    replace HW := HW.2
    obtain ⟨h_9, eh_9⟩ : ∃ y : HI, y = hu h 141 (h 135 6).toNatClampNeg x1 := ⟨_, rfl⟩
    rw [← eh_9] at hG
    replace HW := HW h_9 eh_9
    refine lv_aload_n hx hb dX11_waitsWith_10 rfl (lv_at hl 0 rfl) ?_
    refine lv_dup hx hb dX11_waitsWith_11 rfl ?_
    refine g_geti hx hb hw inG11 hown hK hG gl_135 rfl gk_135 (by decide) 6 (by decide) (by rw [gm_135]; decide) gr_135_6 lk82 dX11_waitsWith_12 ?_
    refine lv_iconst (v := 1) hx hb dX11_waitsWith_15 (by decide) ?_
    refine lv_iadd hx hb dX11_waitsWith_16 ?_
    refine g_put hx hb hw inG11 tyX11 tyX11_ok nmX11 hown hK hG gl_135 rfl gk_135 (by decide) 6 (by decide) (by rw [gm_135]; decide) gr_135_6 rfl (ty := .int) (by decide +kernel) rfl rfl lk82 dX11_waitsWith_17 (fun H locs hG => ?_)
    obtain ⟨h_17, eh_17⟩ : ∃ y : HI, y = hu h_9 135 6 ((h_9 135 6) + (1 : Int32)) := ⟨_, rfl⟩
    rw [← eh_17] at hG
    replace HW := HW h_17 eh_17
    exact W.vret hx hb hr (fun t ht hW => ⟨⟨(h_17, g), rfl, HW, g_B ht hG⟩, hG.2.2.F ht⟩) hG.2.2.2.2 dX11_waitsWith_20
  exact E0 _ _ _ hG hl

def w_X11_nameOf (x0 : Int32) (h : HI) (g : HL) (Q : Int32 → HI → HL → Prop) : Prop :=
  ((x0 = 104 → Q (2 : Int32) h g) ∧ (x0 = 108 → Q (1 : Int32) h g) ∧ (x0 = 121 → Q (0 : Int32) h g) ∧ (¬ x0 = 104 → ¬ x0 = 108 → ¬ x0 = 121 → Q (-1 : Int32) h g))
set_option maxHeartbeats 8000000 in
set_option maxRecDepth 100000 in
theorem m_X11_nameOf (l : Launch) (D : va_G) (cy : Nat → ClassId) (ad : Nat → Nat) (h : HI) (g : HL) (sz : Nat) (x0 : Int32) (Q : Int32 → HI → HL → Prop) (HW : w_X11_nameOf x0 h g Q) : Met l yX11_nameOf (wa yX11_nameOf cX11_nameOf 1 (some .int)) ({ frames := 0, cells := 0, slots := 0, locals := 0 }) (va_Pc [.int x0] (gI D cy ad h g sz)) (va_Qi (fun (r : Int32) (u : HI × HL) => Q r u.1 u.2) (gB D cy ad sz) (gA ad sz)) 0 0 (gA ad sz) := by
  refine Met.ofW (cc := cX11_nameOf) (maxL := 1) (ret := (some .int)) (by decide) rfl ?_
  intro p e s m args below meth c s₁ B hml hv
  obtain ⟨hav, hsz, hP, hK, hD0, hNw⟩ := hv
  have hx := B.exec
  have hb := B.bytes
  have hr := B.returns
  have hts := atoms_spec (ws := (wa yX11_nameOf cX11_nameOf 1 (some .int))) B.pre
  have hw := wa_hw hts
  have hown : s.vm.findClass RX11 = some m.cls := findClass_of_methodNamed B.named
  have hlocks := B.notSynchronized
  subst hsz
  have hG : gG D cy ad (gA ad s.heap.size) s.heap h g s.heap [] := ⟨hP, gA_self hD0, va_S.rf⟩
  clear hP hD0
  rw [show (headSpec (wa yX11_nameOf cX11_nameOf 1 (some .int)) ({ frames := 0, cells := 0, slots := 0, locals := 0 } : Room)).room = ({ frames := 0, cells := 0, slots := 0, locals := 0 } : Room) from rfl]
  have hl := lv_entry ([.int x0]) (n := 1) (Nat.le_of_ble_eq_true rfl)
  rw [show entryFrame m args 1 = entryFrame m ([.int x0] : List Value).toArray 1 from by rw [hav], lg_entry_eq]
  generalize (lg_sl ([.int x0]) ++ List.replicate (1 - (lg_sl ([.int x0])).length) Slot.unset).toArray = ls at hl ⊢
  have hl : lv_has ls 1 [(0, .int x0)] := hl
  have E0 : ∀ (H : Heap) (locs : List Loc) (ls : Array Slot), gG D cy ad (gA ad s.heap.size) s.heap h g H locs → lv_has ls 1 [(0, .int x0)] → W p l e ({ frames := 0, cells := 0, slots := 0, locals := 0 } : Room) s m args below meth c H locs 0 0 (MQ below (va_Qi (fun (r : Int32) (u : HI × HL) => Q r u.1 u.2) (gB D cy ad s.heap.size) (gA ad s.heap.size)) args s 0 0 (gA ad s.heap.size)) (F0 m 0 ls []) := by
    intro H locs ls hG hl
    unfold w_X11_nameOf at HW
    refine lv_iload_n hx hb dX11_nameOf_0 rfl (lv_at hl 0 rfl) ?_
    by_cases c_1_0 : x0 = 104
    · replace HW := HW.1 c_1_0
      refine lv_lookup (tgt := 40) hx hb dX11_nameOf_1 (by decide) (by rw [c_1_0]; first | done | decide) (by decide) ?_
      refine lv_iconst (v := 2) hx hb dX11_nameOf_40 (by decide) ?_
      exact W.iret (v := (2 : Int32)) hx hb hr (fun t ht hW => ⟨⟨(2 : Int32), (h, g), rfl, HW, g_B ht hG⟩, hG.2.2.F ht⟩) hG.2.2.2.2 dX11_nameOf_41
    · by_cases c_1_1 : x0 = 108
      · replace HW := HW.2.1 c_1_1
        refine lv_lookup (tgt := 38) hx hb dX11_nameOf_1 (by decide) (by rw [c_1_1]; first | done | decide) (by decide) ?_
        refine lv_iconst (v := 1) hx hb dX11_nameOf_38 (by decide) ?_
        exact W.iret (v := (1 : Int32)) hx hb hr (fun t ht hW => ⟨⟨(1 : Int32), (h, g), rfl, HW, g_B ht hG⟩, hG.2.2.F ht⟩) hG.2.2.2.2 dX11_nameOf_39
      · by_cases c_1_2 : x0 = 121
        · replace HW := HW.2.2.1 c_1_2
          refine lv_lookup (tgt := 36) hx hb dX11_nameOf_1 (by decide) (by rw [c_1_2]; first | done | decide) (by decide) ?_
          refine lv_iconst (v := 0) hx hb dX11_nameOf_36 (by decide) ?_
          exact W.iret (v := (0 : Int32)) hx hb hr (fun t ht hW => ⟨⟨(0 : Int32), (h, g), rfl, HW, g_B ht hG⟩, hG.2.2.F ht⟩) hG.2.2.2.2 dX11_nameOf_37
        · replace HW := HW.2.2.2 c_1_0 c_1_1 c_1_2
          have z_1_0 : ¬ ((104 : Int) = (x0).toInt) := fun q => g_ne c_1_0 (n := 104) (by decide) q.symm
          have z_1_1 : ¬ ((108 : Int) = (x0).toInt) := fun q => g_ne c_1_1 (n := 108) (by decide) q.symm
          have z_1_2 : ¬ ((121 : Int) = (x0).toInt) := fun q => g_ne c_1_2 (n := 121) (by decide) q.symm
          refine lv_lookup (tgt := 42) (off := 41) hx hb dX11_nameOf_1 (by decide) (by show Op.lookupswitch.offset [(104, 39), (108, 37), (121, 35)] (41) (x0).toInt = 41; rw [Op.lookupswitch.offset_cons, if_neg z_1_0, Op.lookupswitch.offset_cons, if_neg z_1_1, Op.lookupswitch.offset_cons, if_neg z_1_2, Op.lookupswitch.offset_nil]) (by decide) ?_
          refine lv_iconst (v := (-1)) hx hb dX11_nameOf_42 (by decide) ?_
          exact W.iret (v := (-1 : Int32)) hx hb hr (fun t ht hW => ⟨⟨(-1 : Int32), (h, g), rfl, HW, g_B ht hG⟩, hG.2.2.F ht⟩) hG.2.2.2.2 dX11_nameOf_43
  exact E0 _ _ _ hG hl

def w_X11_signOf (x0 : Int32) (h : HI) (g : HL) (Q : Int32 → HI → HL → Prop) : Prop :=
  ((x0 = 38 → Q (11 : Int32) h g) ∧ (x0 = 42 → Q (4 : Int32) h g) ∧ (x0 = 43 → Q (6 : Int32) h g) ∧ (x0 = 45 → Q (7 : Int32) h g) ∧ (x0 = 47 → Q (5 : Int32) h g) ∧ (x0 = 60 → Q (8 : Int32) h g) ∧ (x0 = 61 → Q (10 : Int32) h g) ∧ (x0 = 62 → Q (9 : Int32) h g) ∧ (x0 = 124 → Q (12 : Int32) h g) ∧ (¬ x0 = 38 → ¬ x0 = 42 → ¬ x0 = 43 → ¬ x0 = 45 → ¬ x0 = 47 → ¬ x0 = 60 → ¬ x0 = 61 → ¬ x0 = 62 → ¬ x0 = 124 → Q (-1 : Int32) h g))
set_option maxHeartbeats 8000000 in
set_option maxRecDepth 100000 in
theorem m_X11_signOf (l : Launch) (D : va_G) (cy : Nat → ClassId) (ad : Nat → Nat) (h : HI) (g : HL) (sz : Nat) (x0 : Int32) (Q : Int32 → HI → HL → Prop) (HW : w_X11_signOf x0 h g Q) : Met l yX11_signOf (wa yX11_signOf cX11_signOf 1 (some .int)) ({ frames := 0, cells := 0, slots := 0, locals := 0 }) (va_Pc [.int x0] (gI D cy ad h g sz)) (va_Qi (fun (r : Int32) (u : HI × HL) => Q r u.1 u.2) (gB D cy ad sz) (gA ad sz)) 0 0 (gA ad sz) := by
  refine Met.ofW (cc := cX11_signOf) (maxL := 1) (ret := (some .int)) (by decide) rfl ?_
  intro p e s m args below meth c s₁ B hml hv
  obtain ⟨hav, hsz, hP, hK, hD0, hNw⟩ := hv
  have hx := B.exec
  have hb := B.bytes
  have hr := B.returns
  have hts := atoms_spec (ws := (wa yX11_signOf cX11_signOf 1 (some .int))) B.pre
  have hw := wa_hw hts
  have hown : s.vm.findClass RX11 = some m.cls := findClass_of_methodNamed B.named
  have hlocks := B.notSynchronized
  subst hsz
  have hG : gG D cy ad (gA ad s.heap.size) s.heap h g s.heap [] := ⟨hP, gA_self hD0, va_S.rf⟩
  clear hP hD0
  rw [show (headSpec (wa yX11_signOf cX11_signOf 1 (some .int)) ({ frames := 0, cells := 0, slots := 0, locals := 0 } : Room)).room = ({ frames := 0, cells := 0, slots := 0, locals := 0 } : Room) from rfl]
  have hl := lv_entry ([.int x0]) (n := 1) (Nat.le_of_ble_eq_true rfl)
  rw [show entryFrame m args 1 = entryFrame m ([.int x0] : List Value).toArray 1 from by rw [hav], lg_entry_eq]
  generalize (lg_sl ([.int x0]) ++ List.replicate (1 - (lg_sl ([.int x0])).length) Slot.unset).toArray = ls at hl ⊢
  have hl : lv_has ls 1 [(0, .int x0)] := hl
  have E0 : ∀ (H : Heap) (locs : List Loc) (ls : Array Slot), gG D cy ad (gA ad s.heap.size) s.heap h g H locs → lv_has ls 1 [(0, .int x0)] → W p l e ({ frames := 0, cells := 0, slots := 0, locals := 0 } : Room) s m args below meth c H locs 0 0 (MQ below (va_Qi (fun (r : Int32) (u : HI × HL) => Q r u.1 u.2) (gB D cy ad s.heap.size) (gA ad s.heap.size)) args s 0 0 (gA ad s.heap.size)) (F0 m 0 ls []) := by
    intro H locs ls hG hl
    unfold w_X11_signOf at HW
    refine lv_iload_n hx hb dX11_signOf_0 rfl (lv_at hl 0 rfl) ?_
    by_cases c_1_0 : x0 = 38
    · replace HW := HW.1 c_1_0
      refine lv_lookup (tgt := 103) hx hb dX11_signOf_1 (by decide) (by rw [c_1_0]; first | done | decide) (by decide) ?_
      refine lv_bipush (v := 11) hx hb dX11_signOf_103 (by decide) ?_
      exact W.iret (v := (11 : Int32)) hx hb hr (fun t ht hW => ⟨⟨(11 : Int32), (h, g), rfl, HW, g_B ht hG⟩, hG.2.2.F ht⟩) hG.2.2.2.2 dX11_signOf_105
    · by_cases c_1_1 : x0 = 42
      · replace HW := HW.2.1 c_1_1
        refine lv_lookup (tgt := 84) hx hb dX11_signOf_1 (by decide) (by rw [c_1_1]; first | done | decide) (by decide) ?_
        refine lv_iconst (v := 4) hx hb dX11_signOf_84 (by decide) ?_
        exact W.iret (v := (4 : Int32)) hx hb hr (fun t ht hW => ⟨⟨(4 : Int32), (h, g), rfl, HW, g_B ht hG⟩, hG.2.2.F ht⟩) hG.2.2.2.2 dX11_signOf_85
      · by_cases c_1_2 : x0 = 43
        · replace HW := HW.2.2.1 c_1_2
          refine lv_lookup (tgt := 88) hx hb dX11_signOf_1 (by decide) (by rw [c_1_2]; first | done | decide) (by decide) ?_
          refine lv_bipush (v := 6) hx hb dX11_signOf_88 (by decide) ?_
          exact W.iret (v := (6 : Int32)) hx hb hr (fun t ht hW => ⟨⟨(6 : Int32), (h, g), rfl, HW, g_B ht hG⟩, hG.2.2.F ht⟩) hG.2.2.2.2 dX11_signOf_90
        · by_cases c_1_3 : x0 = 45
          · replace HW := HW.2.2.2.1 c_1_3
            refine lv_lookup (tgt := 91) hx hb dX11_signOf_1 (by decide) (by rw [c_1_3]; first | done | decide) (by decide) ?_
            refine lv_bipush (v := 7) hx hb dX11_signOf_91 (by decide) ?_
            exact W.iret (v := (7 : Int32)) hx hb hr (fun t ht hW => ⟨⟨(7 : Int32), (h, g), rfl, HW, g_B ht hG⟩, hG.2.2.F ht⟩) hG.2.2.2.2 dX11_signOf_93
          · by_cases c_1_4 : x0 = 47
            · replace HW := HW.2.2.2.2.1 c_1_4
              refine lv_lookup (tgt := 86) hx hb dX11_signOf_1 (by decide) (by rw [c_1_4]; first | done | decide) (by decide) ?_
              refine lv_iconst (v := 5) hx hb dX11_signOf_86 (by decide) ?_
              exact W.iret (v := (5 : Int32)) hx hb hr (fun t ht hW => ⟨⟨(5 : Int32), (h, g), rfl, HW, g_B ht hG⟩, hG.2.2.F ht⟩) hG.2.2.2.2 dX11_signOf_87
            · by_cases c_1_5 : x0 = 60
              · replace HW := HW.2.2.2.2.2.1 c_1_5
                refine lv_lookup (tgt := 94) hx hb dX11_signOf_1 (by decide) (by rw [c_1_5]; first | done | decide) (by decide) ?_
                refine lv_bipush (v := 8) hx hb dX11_signOf_94 (by decide) ?_
                exact W.iret (v := (8 : Int32)) hx hb hr (fun t ht hW => ⟨⟨(8 : Int32), (h, g), rfl, HW, g_B ht hG⟩, hG.2.2.F ht⟩) hG.2.2.2.2 dX11_signOf_96
              · by_cases c_1_6 : x0 = 61
                · replace HW := HW.2.2.2.2.2.2.1 c_1_6
                  refine lv_lookup (tgt := 100) hx hb dX11_signOf_1 (by decide) (by rw [c_1_6]; first | done | decide) (by decide) ?_
                  refine lv_bipush (v := 10) hx hb dX11_signOf_100 (by decide) ?_
                  exact W.iret (v := (10 : Int32)) hx hb hr (fun t ht hW => ⟨⟨(10 : Int32), (h, g), rfl, HW, g_B ht hG⟩, hG.2.2.F ht⟩) hG.2.2.2.2 dX11_signOf_102
                · by_cases c_1_7 : x0 = 62
                  · replace HW := HW.2.2.2.2.2.2.2.1 c_1_7
                    refine lv_lookup (tgt := 97) hx hb dX11_signOf_1 (by decide) (by rw [c_1_7]; first | done | decide) (by decide) ?_
                    refine lv_bipush (v := 9) hx hb dX11_signOf_97 (by decide) ?_
                    exact W.iret (v := (9 : Int32)) hx hb hr (fun t ht hW => ⟨⟨(9 : Int32), (h, g), rfl, HW, g_B ht hG⟩, hG.2.2.F ht⟩) hG.2.2.2.2 dX11_signOf_99
                  · by_cases c_1_8 : x0 = 124
                    · replace HW := HW.2.2.2.2.2.2.2.2.1 c_1_8
                      refine lv_lookup (tgt := 106) hx hb dX11_signOf_1 (by decide) (by rw [c_1_8]; first | done | decide) (by decide) ?_
                      refine lv_bipush (v := 12) hx hb dX11_signOf_106 (by decide) ?_
                      exact W.iret (v := (12 : Int32)) hx hb hr (fun t ht hW => ⟨⟨(12 : Int32), (h, g), rfl, HW, g_B ht hG⟩, hG.2.2.F ht⟩) hG.2.2.2.2 dX11_signOf_108
                    · replace HW := HW.2.2.2.2.2.2.2.2.2 c_1_0 c_1_1 c_1_2 c_1_3 c_1_4 c_1_5 c_1_6 c_1_7 c_1_8
                      have z_1_0 : ¬ ((38 : Int) = (x0).toInt) := fun q => g_ne c_1_0 (n := 38) (by decide) q.symm
                      have z_1_1 : ¬ ((42 : Int) = (x0).toInt) := fun q => g_ne c_1_1 (n := 42) (by decide) q.symm
                      have z_1_2 : ¬ ((43 : Int) = (x0).toInt) := fun q => g_ne c_1_2 (n := 43) (by decide) q.symm
                      have z_1_3 : ¬ ((45 : Int) = (x0).toInt) := fun q => g_ne c_1_3 (n := 45) (by decide) q.symm
                      have z_1_4 : ¬ ((47 : Int) = (x0).toInt) := fun q => g_ne c_1_4 (n := 47) (by decide) q.symm
                      have z_1_5 : ¬ ((60 : Int) = (x0).toInt) := fun q => g_ne c_1_5 (n := 60) (by decide) q.symm
                      have z_1_6 : ¬ ((61 : Int) = (x0).toInt) := fun q => g_ne c_1_6 (n := 61) (by decide) q.symm
                      have z_1_7 : ¬ ((62 : Int) = (x0).toInt) := fun q => g_ne c_1_7 (n := 62) (by decide) q.symm
                      have z_1_8 : ¬ ((124 : Int) = (x0).toInt) := fun q => g_ne c_1_8 (n := 124) (by decide) q.symm
                      refine lv_lookup (tgt := 109) (off := 108) hx hb dX11_signOf_1 (by decide) (by show Op.lookupswitch.offset [(38, 102), (42, 83), (43, 87), (45, 90), (47, 85), (60, 93), (61, 99), (62, 96), (124, 105)] (108) (x0).toInt = 108; rw [Op.lookupswitch.offset_cons, if_neg z_1_0, Op.lookupswitch.offset_cons, if_neg z_1_1, Op.lookupswitch.offset_cons, if_neg z_1_2, Op.lookupswitch.offset_cons, if_neg z_1_3, Op.lookupswitch.offset_cons, if_neg z_1_4, Op.lookupswitch.offset_cons, if_neg z_1_5, Op.lookupswitch.offset_cons, if_neg z_1_6, Op.lookupswitch.offset_cons, if_neg z_1_7, Op.lookupswitch.offset_cons, if_neg z_1_8, Op.lookupswitch.offset_nil]) (by decide) ?_
                      refine lv_iconst (v := (-1)) hx hb dX11_signOf_109 (by decide) ?_
                      exact W.iret (v := (-1 : Int32)) hx hb hr (fun t ht hW => ⟨⟨(-1 : Int32), (h, g), rfl, HW, g_B ht hG⟩, hG.2.2.F ht⟩) hG.2.2.2.2 dX11_signOf_110
  exact E0 _ _ _ hG hl

def j_X11_goesOn_42 (Q : Int32 → HI → HL → Prop) (x1 : Int32) (x2 : Int32) (h : HI) (g : HL) : Prop :=
  (∃ P_44 : HI → HL → Prop, w_X11_settles x2 h g P_44 ∧ ∀ (h_44 : HI) (g_44 : HL), P_44 h_44 g_44 → (∃ P_49 : HI → HL → Prop, w_X11_waitsWith x1 h_44 g_44 P_49 ∧ ∀ (h_49 : HI) (g_49 : HL), P_49 h_49 g_49 → Q (1 : Int32) h_49 g_49))
def w_X11_goesOn (x1 : Int32) (h : HI) (g : HL) (Q : Int32 → HI → HL → Prop) : Prop :=
  (∃ P_1 : Int32 → HI → HL → Prop, w_X11_holds x1 h g P_1 ∧ ∀ (r_1 : Int32) (h_1 : HI) (g_1 : HL), P_1 r_1 h_1 g_1 → ((¬ r_1 = (3 : Int32) → j_X11_goesOn_42 Q x1 r_1 h_1 g_1) ∧ (r_1 = (3 : Int32) → (∃ P_12 : HI → HL → Prop, w_X11_settles (4 : Int32) h_1 g_1 P_12 ∧ ∀ (h_12 : HI) (g_12 : HL), P_12 h_12 g_12 → (((h_12 135 6) ≤ 0 → j_X11_goesOn_42 Q x1 r_1 h_12 g_12) ∧ (¬ (h_12 135 6) ≤ 0 → (vp_in ((h_12 135 6) - (1 : Int32)) 70 ∧ (∃ P_33 : Int32 → HI → HL → Prop, w_X11_holds (h_12 141 ((h_12 135 6) - (1 : Int32)).toNatClampNeg) h_12 g_12 P_33 ∧ ∀ (r_33 : Int32) (h_33 : HI) (g_33 : HL), P_33 r_33 h_33 g_33 → ((¬ r_33 = (3 : Int32) → j_X11_goesOn_42 Q x1 r_1 h_33 g_33) ∧ (r_33 = (3 : Int32) → Q (0 : Int32) h_33 g_33))))))))))
set_option maxHeartbeats 8000000 in
set_option maxRecDepth 100000 in
theorem m_X11_goesOn (l : Launch) (D : va_G) (cy : Nat → ClassId) (ad : Nat → Nat) (h : HI) (g : HL) (sz : Nat) (x1 : Int32) (Q : Int32 → HI → HL → Prop) (HW : w_X11_goesOn x1 h g Q) : Met l yX11_goesOn (wa yX11_goesOn cX11_goesOn 3 (some .boolean)) ({ frames := 2, cells := 0, slots := 0, locals := 43 }) (va_Pc [.ref (ad 135), .int x1] (gI D cy ad h g sz)) (va_Qi (fun (r : Int32) (u : HI × HL) => zb r ∧ Q r u.1 u.2) (gB D cy ad sz) (gA ad sz)) 0 0 (gA ad sz) := by
  refine Met.ofW (cc := cX11_goesOn) (maxL := 3) (ret := (some .boolean)) (by decide) rfl ?_
  intro p e s m args below meth c s₁ B hml hv
  obtain ⟨hav, hsz, hP, hK, hD0, hNw⟩ := hv
  have hx := B.exec
  have hb := B.bytes
  have hr := B.returns
  have hts := atoms_spec (ws := (wa yX11_goesOn cX11_goesOn 3 (some .boolean))) B.pre
  have hw := wa_hw hts
  have hown : s.vm.findClass RX11 = some m.cls := findClass_of_methodNamed B.named
  have hlocks := B.notSynchronized
  subst hsz
  have hG : gG D cy ad (gA ad s.heap.size) s.heap h g s.heap [] := ⟨hP, gA_self hD0, va_S.rf⟩
  clear hP hD0
  have lk82 := hw (.fieldLink RX11 82 "OldWorksModel" "waiting" "I") (wm5 33 rfl rfl)
  have lk26 := hw (.fieldLink RX11 26 "OldWorksModel" "waits" "[I") (wm5 34 rfl rfl)
  rw [show (headSpec (wa yX11_goesOn cX11_goesOn 3 (some .boolean)) ({ frames := 2, cells := 0, slots := 0, locals := 43 } : Room)).room = ({ frames := 2, cells := 0, slots := 0, locals := 43 } : Room) from rfl]
  have hl := lv_entry ([.ref (ad 135), .int x1]) (n := 3) (Nat.le_of_ble_eq_true rfl)
  rw [show entryFrame m args 3 = entryFrame m ([.ref (ad 135), .int x1] : List Value).toArray 3 from by rw [hav], lg_entry_eq]
  generalize (lg_sl ([.ref (ad 135), .int x1]) ++ List.replicate (3 - (lg_sl ([.ref (ad 135), .int x1])).length) Slot.unset).toArray = ls at hl ⊢
  have hl : lv_has ls 3 [(0, .ref (ad 135)), (1, .int x1)] := hl
  have B42 : ∀ (x1 : Int32) (x2 : Int32) (h : HI) (g : HL) (H : Heap) (locs : List Loc) (ls : Array Slot), j_X11_goesOn_42 Q x1 x2 h g → gG D cy ad (gA ad s.heap.size) s.heap h g H locs → lv_has ls 3 [(0, .ref (ad 135)), (1, .int x1), (2, .int x2)] → W p l e ({ frames := 2, cells := 0, slots := 0, locals := 43 } : Room) s m args below meth c H locs 0 0 (MQ below (va_Qi (fun (r : Int32) (u : HI × HL) => zb r ∧ Q r u.1 u.2) (gB D cy ad s.heap.size) (gA ad s.heap.size)) args s 0 0 (gA ad s.heap.size)) (F0 m 42 ls []) := by
    intro x1 x2 h g H locs ls HW hG hl
    unfold j_X11_goesOn_42 at HW
    refine lv_aload_n hx hb dX11_goesOn_42 rfl (lv_at hl 0 rfl) ?_
    refine lv_iload_n hx hb dX11_goesOn_43 rfl (lv_at hl 2 rfl) ?_
    obtain ⟨P_44, HC_44, HW⟩ := HW
    refine g_callv (g_runV (As := [.int x2]) (rest := []) ⟨hx, hb, hml, hown, hts⟩ (m_X11_settles l D cy ad h g H.size x2 P_44 HC_44) (cwV 1 hts (gd_V (wm5 153 rfl rfl) (wm5 155 rfl rfl) (wmp3 (q := (yX11_settles, 26)) 10 rfl) (wm1 13 rfl rfl) (wm5 156 rfl rfl)) rfl rfl rfl (by decide +kernel) ⟨Nat.le_of_ble_eq_true rfl, Nat.le_of_ble_eq_true rfl⟩) hK hNw hG gl_135 rfl gk_135 (by decide) rfl rfl hl.1 rfl (lv_room (Nat.le_of_ble_eq_true rfl)) dX11_goesOn_44 ⟨Nat.zero_le _, Nat.zero_le _⟩) hG (fun h_44 g_44 H locs hq hG => ?_)
    replace HW := HW h_44 g_44 hq
    refine lv_aload_n hx hb dX11_goesOn_47 rfl (lv_at hl 0 rfl) ?_
    refine lv_iload_n hx hb dX11_goesOn_48 rfl (lv_at hl 1 rfl) ?_
    obtain ⟨P_49, HC_49, HW⟩ := HW
    refine g_callv (g_runV (As := [.int x1]) (rest := []) ⟨hx, hb, hml, hown, hts⟩ (m_X11_waitsWith l D cy ad h_44 g_44 H.size x1 P_49 HC_49) (cwV 1 hts (gd_V (wm5 171 rfl rfl) (wm5 173 rfl rfl) (wmp3 (q := (yX11_waitsWith, 26)) 13 rfl) (wm1 13 rfl rfl) (wm5 174 rfl rfl)) rfl rfl rfl (by decide +kernel) ⟨Nat.le_of_ble_eq_true rfl, Nat.le_of_ble_eq_true rfl⟩) hK hNw hG gl_135 rfl gk_135 (by decide) rfl rfl hl.1 rfl (lv_room (Nat.le_of_ble_eq_true rfl)) dX11_goesOn_49 ⟨Nat.zero_le _, Nat.zero_le _⟩) hG (fun h_49 g_49 H locs hq hG => ?_)
    replace HW := HW h_49 g_49 hq
    refine lv_iconst (v := 1) hx hb dX11_goesOn_52 (by decide) ?_
    exact W.zret (v := (1 : Int32)) hx hb hr rfl (fun t ht hW => ⟨⟨(1 : Int32), (h_49, g_49), rfl, ⟨Or.inr rfl, HW⟩, g_B ht hG⟩, hG.2.2.F ht⟩) hG.2.2.2.2 dX11_goesOn_53
  have E0 : ∀ (H : Heap) (locs : List Loc) (ls : Array Slot), gG D cy ad (gA ad s.heap.size) s.heap h g H locs → lv_has ls 3 [(0, .ref (ad 135)), (1, .int x1)] → W p l e ({ frames := 2, cells := 0, slots := 0, locals := 43 } : Room) s m args below meth c H locs 0 0 (MQ below (va_Qi (fun (r : Int32) (u : HI × HL) => zb r ∧ Q r u.1 u.2) (gB D cy ad s.heap.size) (gA ad s.heap.size)) args s 0 0 (gA ad s.heap.size)) (F0 m 0 ls []) := by
    intro H locs ls hG hl
    unfold w_X11_goesOn at HW
    refine lv_iload_n hx hb dX11_goesOn_0 rfl (lv_at hl 1 rfl) ?_
    obtain ⟨P_1, HC_1, HW⟩ := HW
    refine g_calli (g_runS (As := [.int x1]) (rest := []) ⟨hx, hb, hml, hown, hts⟩ (m_X11_holds l D cy ad h g H.size x1 P_1 HC_1) (va_cwS 1 hts (gd_S (wm5 157 rfl rfl) (wm5 158 rfl rfl) (wm1 13 rfl rfl) (wm5 159 rfl rfl)) rfl rfl rfl (by decide +kernel) ⟨Nat.le_of_ble_eq_true rfl, Nat.le_of_ble_eq_true rfl⟩) hK hNw hG rfl rfl hl.1 rfl (lv_room (Nat.le_of_ble_eq_true rfl)) dX11_goesOn_1 ⟨Nat.zero_le _, Nat.zero_le _⟩) hG (fun r_1 h_1 g_1 H locs hq hG => ?_)
    replace HW := HW r_1 h_1 g_1 hq
    refine lv_istore_n (lv' := [(2, .int r_1), (0, .ref (ad 135)), (1, .int x1)]) hx hb dX11_goesOn_4 rfl hl (by decide) rfl (fun ls hl => ?_)
    refine lv_iload_n hx hb dX11_goesOn_5 rfl (lv_at hl 0 rfl) ?_
    refine lv_iconst (v := 3) hx hb dX11_goesOn_6 (by decide) ?_
    refine lv_icmp_ne (tgt := 42) hx hb dX11_goesOn_7 (by decide) (fun c_7 => ?_) (fun c_7 => ?_)
    · replace HW := HW.1 c_7
      exact B42 x1 r_1 h_1 g_1 _ _ _ HW hG (lv_sub hl [1, 2, 0] rfl)
    · replace HW := HW.2 c_7
      refine lv_aload_n hx hb dX11_goesOn_10 rfl (lv_at hl 1 rfl) ?_
      refine lv_iconst (v := 4) hx hb dX11_goesOn_11 (by decide) ?_
      obtain ⟨P_12, HC_12, HW⟩ := HW
      refine g_callv (g_runV (As := [.int (4 : Int32)]) (rest := []) ⟨hx, hb, hml, hown, hts⟩ (m_X11_settles l D cy ad h_1 g_1 H.size (4 : Int32) P_12 HC_12) (cwV 1 hts (gd_V (wm5 153 rfl rfl) (wm5 155 rfl rfl) (wmp3 (q := (yX11_settles, 26)) 10 rfl) (wm1 13 rfl rfl) (wm5 156 rfl rfl)) rfl rfl rfl (by decide +kernel) ⟨Nat.le_of_ble_eq_true rfl, Nat.le_of_ble_eq_true rfl⟩) hK hNw hG gl_135 rfl gk_135 (by decide) rfl rfl hl.1 rfl (lv_room (Nat.le_of_ble_eq_true rfl)) dX11_goesOn_12 ⟨Nat.zero_le _, Nat.zero_le _⟩) hG (fun h_12 g_12 H locs hq hG => ?_)
      replace HW := HW h_12 g_12 hq
      refine lv_aload_n hx hb dX11_goesOn_15 rfl (lv_at hl 1 rfl) ?_
      refine g_geti hx hb hw inG11 hown hK hG gl_135 rfl gk_135 (by decide) 6 (by decide) (by rw [gm_135]; decide) gr_135_6 lk82 dX11_goesOn_16 ?_
      refine lv_if_le (tgt := 42) hx hb dX11_goesOn_19 (by decide) (fun c_19 => ?_) (fun c_19 => ?_)
      · replace HW := HW.1 c_19
        exact B42 x1 r_1 h_12 g_12 _ _ _ HW hG (lv_sub hl [1, 2, 0] rfl)
      · replace HW := HW.2 c_19
        refine lv_aload_n hx hb dX11_goesOn_22 rfl (lv_at hl 1 rfl) ?_
        refine g_getr hx hb hw inG11 hown hK hG gl_135 rfl gk_135 (by decide) 7 (by decide) (by rw [gm_135]; decide) (r := 141) gr_135_7 lk26 dX11_goesOn_23 ?_
        refine lv_aload_n hx hb dX11_goesOn_26 rfl (lv_at hl 1 rfl) ?_
        refine g_geti hx hb hw inG11 hown hK hG gl_135 rfl gk_135 (by decide) 6 (by decide) (by rw [gm_135]; decide) gr_135_6 lk82 dX11_goesOn_27 ?_
        refine lv_iconst (v := 1) hx hb dX11_goesOn_30 (by decide) ?_
        refine lv_isub hx hb dX11_goesOn_31 ?_
        refine g_iald hx hb hK hG gl_141 gk_141 gn_141 HW.1 dX11_goesOn_32 ?_
        replace HW := HW.2
        obtain ⟨P_33, HC_33, HW⟩ := HW
        refine g_calli (g_runS (As := [.int (h_12 141 ((h_12 135 6) - (1 : Int32)).toNatClampNeg)]) (rest := []) ⟨hx, hb, hml, hown, hts⟩ (m_X11_holds l D cy ad h_12 g_12 H.size (h_12 141 ((h_12 135 6) - (1 : Int32)).toNatClampNeg) P_33 HC_33) (va_cwS 1 hts (gd_S (wm5 157 rfl rfl) (wm5 158 rfl rfl) (wm1 13 rfl rfl) (wm5 159 rfl rfl)) rfl rfl rfl (by decide +kernel) ⟨Nat.le_of_ble_eq_true rfl, Nat.le_of_ble_eq_true rfl⟩) hK hNw hG rfl rfl hl.1 rfl (lv_room (Nat.le_of_ble_eq_true rfl)) dX11_goesOn_33 ⟨Nat.zero_le _, Nat.zero_le _⟩) hG (fun r_33 h_33 g_33 H locs hq hG => ?_)
        replace HW := HW r_33 h_33 g_33 hq
        refine lv_iconst (v := 3) hx hb dX11_goesOn_36 (by decide) ?_
        refine lv_icmp_ne (tgt := 42) hx hb dX11_goesOn_37 (by decide) (fun c_37 => ?_) (fun c_37 => ?_)
        · replace HW := HW.1 c_37
          exact B42 x1 r_1 h_33 g_33 _ _ _ HW hG (lv_sub hl [1, 2, 0] rfl)
        · replace HW := HW.2 c_37
          refine lv_iconst (v := 0) hx hb dX11_goesOn_40 (by decide) ?_
          exact W.zret (v := (0 : Int32)) hx hb hr rfl (fun t ht hW => ⟨⟨(0 : Int32), (h_33, g_33), rfl, ⟨Or.inl rfl, HW⟩, g_B ht hG⟩, hG.2.2.F ht⟩) hG.2.2.2.2 dX11_goesOn_41
  exact E0 _ _ _ hG hl

def j_X11_reads_388 (Q : Int32 → HI → HL → Prop) (x1 : Int32) (h : HI) (g : HL) : Prop :=
  Q (((10 : Int32) * x1) + (1 : Int32)) h g
def j_X11_reads_368 (Q : Int32 → HI → HL → Prop) (K25 : Int32 → Int32 → Int32 → Int32 → HI → HL → Prop) (x1 : Int32) (x2 : Int32) (x3 : Int32) (x4 : Int32) (h : HI) (g : HL) : Prop :=
  K25 x1 x2 x3 x4 h g
def j_X11_reads_351 (Q : Int32 → HI → HL → Prop) (K25 : Int32 → Int32 → Int32 → Int32 → HI → HL → Prop) (x1 : Int32) (x2 : Int32) (x3 : Int32) (x4 : Int32) (s1 : Int32) (h : HI) (g : HL) : Prop :=
  (∃ P_351 : HI → HL → Prop, w_X11_waitsWith s1 h g P_351 ∧ ∀ (h_351 : HI) (g_351 : HL), P_351 h_351 g_351 → (∀ x4_354 : Int32, x4_354 = (x4 + 1) → j_X11_reads_368 Q K25 x1 x2 x3 x4_354 h_351 g_351))
def j_X11_reads_338 (Q : Int32 → HI → HL → Prop) (K25 : Int32 → Int32 → Int32 → Int32 → HI → HL → Prop) (x1 : Int32) (x2 : Int32) (x3 : Int32) (x4 : Int32) (x5 : Int32) (h : HI) (g : HL) : Prop :=
  ((¬ x5 = (45 : Int32) → j_X11_reads_351 Q K25 x1 x2 x3 x4 (2 : Int32) h g) ∧ (x5 = (45 : Int32) → j_X11_reads_351 Q K25 x1 x2 x3 x4 (3 : Int32) h g))
def j_X11_reads_237 (Q : Int32 → HI → HL → Prop) (K25 : Int32 → Int32 → Int32 → Int32 → HI → HL → Prop) (x1 : Int32) (x2 : Int32) (x4 : Int32) (x7 : Int32) (h : HI) (g : HL) : Prop :=
  (∃ P_241 : HI → HL → Prop, w_X11_emits (0 : Int32) x7 h g P_241 ∧ ∀ (h_241 : HI) (g_241 : HL), P_241 h_241 g_241 → (∃ P_247 : HI → HL → Prop, w_X11_settles (6 : Int32) h_241 g_241 P_247 ∧ ∀ (h_247 : HI) (g_247 : HL), P_247 h_247 g_247 → j_X11_reads_368 Q K25 x1 x2 (1 : Int32) x4 h_247 g_247))
def b_X11_reads_161 (Q : Int32 → HI → HL → Prop) (K25 : Int32 → Int32 → Int32 → Int32 → HI → HL → Prop) (K161 : Int32 → Int32 → Int32 → Int32 → Int32 → HI → HL → Prop) (x1 : Int32) (x2 : Int32) (x4 : Int32) (x6 : Int32) (x7 : Int32) (h : HI) (g : HL) : Prop :=
  ((x1 ≤ x4 → j_X11_reads_237 Q K25 x1 x2 x4 x7 h g) ∧ (¬ x1 ≤ x4 → (vp_in ((827 : Int32) + x4) 887 ∧ (∃ P_185 : Int32 → HI → HL → Prop, w_X11_in (((h 136 ((827 : Int32) + x4).toNatClampNeg)).toInt64) (48 : Int64) (57 : Int64) h g P_185 ∧ ∀ (r_185 : Int32) (h_185 : HI) (g_185 : HL), zb r_185 → P_185 r_185 h_185 g_185 → ((r_185 = 0 → j_X11_reads_237 Q K25 x1 x2 x4 x7 h_185 g_185) ∧ (¬ r_185 = 0 → ((¬ (x4 - x6) = (6 : Int32) → (vp_in ((827 : Int32) + x4) 887 ∧ (∀ x7_229 : Int32, x7_229 = ((((10 : Int32) * x7) + (h_185 136 ((827 : Int32) + x4).toNatClampNeg)) - (48 : Int32)) → (∀ x4_231 : Int32, x4_231 = (x4 + 1) → K161 x1 x2 x4_231 x6 x7_229 h_185 g_185)))) ∧ ((x4 - x6) = (6 : Int32) → Q (((10 : Int32) * x6) + (2 : Int32)) h_185 g_185))))))))
def F_X11_reads_161 (Q : Int32 → HI → HL → Prop) (K25 : Int32 → Int32 → Int32 → Int32 → HI → HL → Prop) (K : Int32 × Int32 × Int32 × Int32 × Int32 × HI × HL → Prop) (q : Int32 × Int32 × Int32 × Int32 × Int32 × HI × HL) : Prop := b_X11_reads_161 Q K25 (fun x1 x2 x4 x6 x7 h g => K (x1, x2, x4, x6, x7, h, g)) q.1 q.2.1 q.2.2.1 q.2.2.2.1 q.2.2.2.2.1 q.2.2.2.2.2.1 q.2.2.2.2.2.2
def j_X11_reads_125 (Q : Int32 → HI → HL → Prop) (x4 : Int32) (h : HI) (g : HL) : Prop :=
  Q (((10 : Int32) * x4) + (1 : Int32)) h g
def j_X11_reads_133 (Q : Int32 → HI → HL → Prop) (K25 : Int32 → Int32 → Int32 → Int32 → HI → HL → Prop) (x1 : Int32) (x2 : Int32) (x3 : Int32) (x4 : Int32) (h : HI) (g : HL) : Prop :=
  (∀ x4_133 : Int32, x4_133 = (x4 + 1) → j_X11_reads_368 Q K25 x1 x2 x3 x4_133 h g)
def j_X11_reads_99 (Q : Int32 → HI → HL → Prop) (K25 : Int32 → Int32 → Int32 → Int32 → HI → HL → Prop) (x1 : Int32) (x2 : Int32) (x4 : Int32) (x5 : Int32) (h : HI) (g : HL) : Prop :=
  (∃ P_101 : Int32 → HI → HL → Prop, w_X11_signOf x5 h g P_101 ∧ ∀ (r_101 : Int32) (h_101 : HI) (g_101 : HL), P_101 r_101 h_101 g_101 → ((r_101 = (-1 : Int32) → j_X11_reads_125 Q x4 h_101 g_101) ∧ (¬ r_101 = (-1 : Int32) → (∃ P_111 : Int32 → HI → HL → Prop, w_X11_signOf x5 h_101 g_101 P_111 ∧ ∀ (r_111 : Int32) (h_111 : HI) (g_111 : HL), P_111 r_111 h_111 g_111 → (∃ P_114 : Int32 → HI → HL → Prop, w_X11_goesOn r_111 h_111 g_111 P_114 ∧ ∀ (r_114 : Int32) (h_114 : HI) (g_114 : HL), zb r_114 → P_114 r_114 h_114 g_114 → ((r_114 = 0 → j_X11_reads_125 Q x4 h_114 g_114) ∧ (¬ r_114 = 0 → j_X11_reads_133 Q K25 x1 x2 (0 : Int32) x4 h_114 g_114)))))))
def b_X11_reads_25 (Q : Int32 → HI → HL → Prop) (K25 : Int32 → Int32 → Int32 → Int32 → HI → HL → Prop) (x1 : Int32) (x2 : Int32) (x3 : Int32) (x4 : Int32) (h : HI) (g : HL) : Prop :=
  ((x1 ≤ x4 → (∃ P_373 : HI → HL → Prop, w_X11_settles (1 : Int32) h g P_373 ∧ ∀ (h_373 : HI) (g_373 : HL), P_373 h_373 g_373 → ((x3 = 0 → j_X11_reads_388 Q x1 h_373 g_373) ∧ (¬ x3 = 0 → ((¬ x2 = 0 → j_X11_reads_388 Q x1 h_373 g_373) ∧ (x2 = 0 → Q (-1 : Int32) h_373 g_373)))))) ∧ (¬ x1 ≤ x4 → (vp_in ((827 : Int32) + x4) 887 ∧ (∀ x5_42 : Int32, x5_42 = (h 136 ((827 : Int32) + x4).toNatClampNeg) → ((¬ x5_42 = (32 : Int32) → ((x3 = 0 → (∃ P_148 : Int32 → HI → HL → Prop, w_X11_in ((x5_42).toInt64) (48 : Int64) (57 : Int64) h g P_148 ∧ ∀ (r_148 : Int32) (h_148 : HI) (g_148 : HL), zb r_148 → P_148 r_148 h_148 g_148 → ((r_148 = 0 → (∃ P_257 : Int32 → HI → HL → Prop, w_X11_nameOf x5_42 h_148 g_148 P_257 ∧ ∀ (r_257 : Int32) (h_257 : HI) (g_257 : HL), P_257 r_257 h_257 g_257 → ((r_257 = (-1 : Int32) → ((¬ x5_42 = (40 : Int32) → ((x5_42 = (45 : Int32) → j_X11_reads_338 Q K25 x1 x2 x3 x4 x5_42 h_257 g_257) ∧ (¬ x5_42 = (45 : Int32) → ((¬ x5_42 = (33 : Int32) → Q (((10 : Int32) * x4) + (1 : Int32)) h_257 g_257) ∧ (x5_42 = (33 : Int32) → j_X11_reads_338 Q K25 x1 x2 x3 x4 x5_42 h_257 g_257))))) ∧ (x5_42 = (40 : Int32) → ((¬ x2 = (8 : Int32) → (∀ x2_309 : Int32, x2_309 = (x2 + 1) → (∃ P_315 : HI → HL → Prop, w_X11_waitsWith (13 : Int32) h_257 g_257 P_315 ∧ ∀ (h_315 : HI) (g_315 : HL), P_315 h_315 g_315 → (∀ x4_318 : Int32, x4_318 = (x4 + 1) → j_X11_reads_368 Q K25 x1 x2_309 x3 x4_318 h_315 g_315)))) ∧ (x2 = (8 : Int32) → Q (((10 : Int32) * x4) + (3 : Int32)) h_257 g_257))))) ∧ (¬ r_257 = (-1 : Int32) → (∃ P_268 : Int32 → HI → HL → Prop, w_X11_nameOf x5_42 h_257 g_257 P_268 ∧ ∀ (r_268 : Int32) (h_268 : HI) (g_268 : HL), P_268 r_268 h_268 g_268 → (∃ P_271 : HI → HL → Prop, w_X11_emits (1 : Int32) r_268 h_268 g_268 P_271 ∧ ∀ (h_271 : HI) (g_271 : HL), P_271 h_271 g_271 → (∃ P_277 : HI → HL → Prop, w_X11_settles (6 : Int32) h_271 g_271 P_277 ∧ ∀ (h_277 : HI) (g_277 : HL), P_277 h_277 g_277 → (∀ x4_282 : Int32, x4_282 = (x4 + 1) → j_X11_reads_368 Q K25 x1 x2 (1 : Int32) x4_282 h_277 g_277)))))))) ∧ (¬ r_148 = 0 → lpE (F_X11_reads_161 Q K25) (x1, x2, x4, x4, (0 : Int32), h_148, g_148))))) ∧ (¬ x3 = 0 → ((¬ x5_42 = (41 : Int32) → j_X11_reads_99 Q K25 x1 x2 x4 x5_42 h g) ∧ (x5_42 = (41 : Int32) → ((x2 ≤ 0 → j_X11_reads_99 Q K25 x1 x2 x4 x5_42 h g) ∧ (¬ x2 ≤ 0 → (∃ P_74 : HI → HL → Prop, w_X11_settles (1 : Int32) h g P_74 ∧ ∀ (h_74 : HI) (g_74 : HL), P_74 h_74 g_74 → (∀ h_84 : HI, h_84 = hu h_74 135 6 ((h_74 135 6) - (1 : Int32)) → (∀ x2_87 : Int32, x2_87 = (x2 + (-1)) → (∃ P_93 : HI → HL → Prop, w_X11_settles (6 : Int32) h_84 g_74 P_93 ∧ ∀ (h_93 : HI) (g_93 : HL), P_93 h_93 g_93 → j_X11_reads_133 Q K25 x1 x2_87 x3 x4 h_93 g_93))))))))))) ∧ (x5_42 = (32 : Int32) → (∀ x4_51 : Int32, x4_51 = (x4 + 1) → j_X11_reads_368 Q K25 x1 x2 x3 x4_51 h g)))))))
def F_X11_reads_25 (Q : Int32 → HI → HL → Prop) (K : Int32 × Int32 × Int32 × Int32 × HI × HL → Prop) (q : Int32 × Int32 × Int32 × Int32 × HI × HL) : Prop := b_X11_reads_25 Q (fun x1 x2 x3 x4 h g => K (x1, x2, x3, x4, h, g)) q.1 q.2.1 q.2.2.1 q.2.2.2.1 q.2.2.2.2.1 q.2.2.2.2.2
def w_X11_reads  (h : HI) (g : HL) (Q : Int32 → HI → HL → Prop) : Prop :=
  (vp_in (8 : Int32) 887 ∧ (∀ x1_7 : Int32, x1_7 = (h 136 (8 : Int32).toNatClampNeg) → (∀ h_10 : HI, h_10 = hu h 135 3 (0 : Int32) → (∀ h_15 : HI, h_15 = hu h_10 135 6 (0 : Int32) → lpE (F_X11_reads_25 Q) (x1_7, (0 : Int32), (0 : Int32), (0 : Int32), h_15, g)))))
set_option maxHeartbeats 8000000 in
set_option maxRecDepth 100000 in
theorem m_X11_reads (l : Launch) (D : va_G) (cy : Nat → ClassId) (ad : Nat → Nat) (h : HI) (g : HL) (sz : Nat)  (Q : Int32 → HI → HL → Prop) (HW : w_X11_reads h g Q) : Met l yX11_reads (wa yX11_reads cX11_reads 8 (some .int)) ({ frames := 3, cells := 0, slots := 0, locals := 65 }) (va_Pc [.ref (ad 135)] (gI D cy ad h g sz)) (va_Qi (fun (r : Int32) (u : HI × HL) => Q r u.1 u.2) (gB D cy ad sz) (gA ad sz)) 0 0 (gA ad sz) := by
  refine Met.ofW (cc := cX11_reads) (maxL := 8) (ret := (some .int)) (by decide) rfl ?_
  intro p e s m args below meth c s₁ B hml hv
  obtain ⟨hav, hsz, hP, hK, hD0, hNw⟩ := hv
  have hx := B.exec
  have hb := B.bytes
  have hr := B.returns
  have hts := atoms_spec (ws := (wa yX11_reads cX11_reads 8 (some .int))) B.pre
  have hw := wa_hw hts
  have hown : s.vm.findClass RX11 = some m.cls := findClass_of_methodNamed B.named
  have hlocks := B.notSynchronized
  subst hsz
  have hG : gG D cy ad (gA ad s.heap.size) s.heap h g s.heap [] := ⟨hP, gA_self hD0, va_S.rf⟩
  clear hP hD0
  have lk7 := hw (.fieldLink RX11 7 "OldWorksModel" "st" "[I") (wm5 27 rfl rfl)
  have lk78 := hw (.fieldLink RX11 78 "OldWorksModel" "steps" "I") (wm5 30 rfl rfl)
  have lk82 := hw (.fieldLink RX11 82 "OldWorksModel" "waiting" "I") (wm5 33 rfl rfl)
  have cn105 := hw (.constantLong RX11 105 (48)) (wm5 175 rfl rfl)
  have cn107 := hw (.constantLong RX11 107 (57)) (wm5 176 rfl rfl)
  rw [show (headSpec (wa yX11_reads cX11_reads 8 (some .int)) ({ frames := 3, cells := 0, slots := 0, locals := 65 } : Room)).room = ({ frames := 3, cells := 0, slots := 0, locals := 65 } : Room) from rfl]
  have hl := lv_entry ([.ref (ad 135)]) (n := 8) (Nat.le_of_ble_eq_true rfl)
  rw [show entryFrame m args 8 = entryFrame m ([.ref (ad 135)] : List Value).toArray 8 from by rw [hav], lg_entry_eq]
  generalize (lg_sl ([.ref (ad 135)]) ++ List.replicate (8 - (lg_sl ([.ref (ad 135)])).length) Slot.unset).toArray = ls at hl ⊢
  have hl : lv_has ls 8 [(0, .ref (ad 135))] := hl
  have B388 : ∀ (x1 : Int32) (h : HI) (g : HL) (H : Heap) (locs : List Loc) (ls : Array Slot), j_X11_reads_388 Q x1 h g → gG D cy ad (gA ad s.heap.size) s.heap h g H locs → lv_has ls 8 [(1, .int x1)] → W p l e ({ frames := 3, cells := 0, slots := 0, locals := 65 } : Room) s m args below meth c H locs 0 0 (MQ below (va_Qi (fun (r : Int32) (u : HI × HL) => Q r u.1 u.2) (gB D cy ad s.heap.size) (gA ad s.heap.size)) args s 0 0 (gA ad s.heap.size)) (F0 m 388 ls []) := by
    intro x1 h g H locs ls HW hG hl
    unfold j_X11_reads_388 at HW
    refine lv_bipush (v := 10) hx hb dX11_reads_388 (by decide) ?_
    refine lv_iload_n hx hb dX11_reads_390 rfl (lv_at hl 0 rfl) ?_
    refine lv_imul hx hb dX11_reads_391 ?_
    refine lv_iconst (v := 1) hx hb dX11_reads_392 (by decide) ?_
    refine lv_iadd hx hb dX11_reads_393 ?_
    exact W.iret (v := (((10 : Int32) * x1) + (1 : Int32))) hx hb hr (fun t ht hW => ⟨⟨(((10 : Int32) * x1) + (1 : Int32)), (h, g), rfl, HW, g_B ht hG⟩, hG.2.2.F ht⟩) hG.2.2.2.2 dX11_reads_394
  have B368 : ∀ (K25 : Int32 → Int32 → Int32 → Int32 → HI → HL → Prop) (hK25 : ∀ (x1 : Int32) (x2 : Int32) (x3 : Int32) (x4 : Int32) (h : HI) (g : HL) (H : Heap) (locs : List Loc) (ls : Array Slot), K25 x1 x2 x3 x4 h g → gG D cy ad (gA ad s.heap.size) s.heap h g H locs → lv_has ls 8 [(0, .ref (ad 135)), (1, .int x1), (2, .int x2), (3, .int x3), (4, .int x4)] → W p l e ({ frames := 3, cells := 0, slots := 0, locals := 65 } : Room) s m args below meth c H locs 0 0 (MQ below (va_Qi (fun (r : Int32) (u : HI × HL) => Q r u.1 u.2) (gB D cy ad s.heap.size) (gA ad s.heap.size)) args s 0 0 (gA ad s.heap.size)) (F0 m 25 ls [])) (x1 : Int32) (x2 : Int32) (x3 : Int32) (x4 : Int32) (h : HI) (g : HL) (H : Heap) (locs : List Loc) (ls : Array Slot), j_X11_reads_368 Q K25 x1 x2 x3 x4 h g → gG D cy ad (gA ad s.heap.size) s.heap h g H locs → lv_has ls 8 [(0, .ref (ad 135)), (1, .int x1), (2, .int x2), (3, .int x3), (4, .int x4)] → W p l e ({ frames := 3, cells := 0, slots := 0, locals := 65 } : Room) s m args below meth c H locs 0 0 (MQ below (va_Qi (fun (r : Int32) (u : HI × HL) => Q r u.1 u.2) (gB D cy ad s.heap.size) (gA ad s.heap.size)) args s 0 0 (gA ad s.heap.size)) (F0 m 368 ls []) := by
    intro K25 hK25 x1 x2 x3 x4 h g H locs ls HW hG hl
    unfold j_X11_reads_368 at HW
    refine lv_goto (tgt := 25) hx hb dX11_reads_368 (by decide) ?_
    exact hK25 x1 x2 x3 x4 h g _ _ _ HW hG (lv_sub hl [0, 1, 2, 3, 4] rfl)
  have B351 : ∀ (K25 : Int32 → Int32 → Int32 → Int32 → HI → HL → Prop) (hK25 : ∀ (x1 : Int32) (x2 : Int32) (x3 : Int32) (x4 : Int32) (h : HI) (g : HL) (H : Heap) (locs : List Loc) (ls : Array Slot), K25 x1 x2 x3 x4 h g → gG D cy ad (gA ad s.heap.size) s.heap h g H locs → lv_has ls 8 [(0, .ref (ad 135)), (1, .int x1), (2, .int x2), (3, .int x3), (4, .int x4)] → W p l e ({ frames := 3, cells := 0, slots := 0, locals := 65 } : Room) s m args below meth c H locs 0 0 (MQ below (va_Qi (fun (r : Int32) (u : HI × HL) => Q r u.1 u.2) (gB D cy ad s.heap.size) (gA ad s.heap.size)) args s 0 0 (gA ad s.heap.size)) (F0 m 25 ls [])) (x1 : Int32) (x2 : Int32) (x3 : Int32) (x4 : Int32) (s1 : Int32) (h : HI) (g : HL) (H : Heap) (locs : List Loc) (ls : Array Slot), j_X11_reads_351 Q K25 x1 x2 x3 x4 s1 h g → gG D cy ad (gA ad s.heap.size) s.heap h g H locs → lv_has ls 8 [(0, .ref (ad 135)), (1, .int x1), (2, .int x2), (3, .int x3), (4, .int x4)] → W p l e ({ frames := 3, cells := 0, slots := 0, locals := 65 } : Room) s m args below meth c H locs 0 0 (MQ below (va_Qi (fun (r : Int32) (u : HI × HL) => Q r u.1 u.2) (gB D cy ad s.heap.size) (gA ad s.heap.size)) args s 0 0 (gA ad s.heap.size)) (F0 m 351 ls [.int s1, .ref (ad 135)]) := by
    intro K25 hK25 x1 x2 x3 x4 s1 h g H locs ls HW hG hl
    unfold j_X11_reads_351 at HW
    obtain ⟨P_351, HC_351, HW⟩ := HW
    refine g_callv (g_runV (As := [.int s1]) (rest := []) ⟨hx, hb, hml, hown, hts⟩ (m_X11_waitsWith l D cy ad h g H.size s1 P_351 HC_351) (cwV 1 hts (gd_V (wm5 171 rfl rfl) (wm5 173 rfl rfl) (wmp3 (q := (yX11_waitsWith, 26)) 13 rfl) (wm1 13 rfl rfl) (wm5 174 rfl rfl)) rfl rfl rfl (by decide +kernel) ⟨Nat.le_of_ble_eq_true rfl, Nat.le_of_ble_eq_true rfl⟩) hK hNw hG gl_135 rfl gk_135 (by decide) rfl rfl hl.1 rfl (lv_room (Nat.le_of_ble_eq_true rfl)) dX11_reads_351 ⟨Nat.zero_le _, Nat.zero_le _⟩) hG (fun h_351 g_351 H locs hq hG => ?_)
    replace HW := HW h_351 g_351 hq
    obtain ⟨x4_354, ex4_354⟩ : ∃ y : Int32, y = (x4 + 1) := ⟨_, rfl⟩
    replace HW := HW x4_354 ex4_354
    refine lv_iinc (v := x4_354) (lv' := [(4, .int x4_354), (0, .ref (ad 135)), (1, .int x1), (2, .int x2), (3, .int x3)]) hx hb dX11_reads_354 hl (k := 4) rfl (by rw [ex4_354]; rfl) (by decide) rfl (fun ls hl => ?_)
    refine lv_goto (tgt := 368) hx hb dX11_reads_357 (by decide) ?_
    exact B368 K25 hK25 x1 x2 x3 x4_354 h_351 g_351 _ _ _ HW hG (lv_sub hl [1, 2, 3, 4, 0] rfl)
  have B338 : ∀ (K25 : Int32 → Int32 → Int32 → Int32 → HI → HL → Prop) (hK25 : ∀ (x1 : Int32) (x2 : Int32) (x3 : Int32) (x4 : Int32) (h : HI) (g : HL) (H : Heap) (locs : List Loc) (ls : Array Slot), K25 x1 x2 x3 x4 h g → gG D cy ad (gA ad s.heap.size) s.heap h g H locs → lv_has ls 8 [(0, .ref (ad 135)), (1, .int x1), (2, .int x2), (3, .int x3), (4, .int x4)] → W p l e ({ frames := 3, cells := 0, slots := 0, locals := 65 } : Room) s m args below meth c H locs 0 0 (MQ below (va_Qi (fun (r : Int32) (u : HI × HL) => Q r u.1 u.2) (gB D cy ad s.heap.size) (gA ad s.heap.size)) args s 0 0 (gA ad s.heap.size)) (F0 m 25 ls [])) (x1 : Int32) (x2 : Int32) (x3 : Int32) (x4 : Int32) (x5 : Int32) (h : HI) (g : HL) (H : Heap) (locs : List Loc) (ls : Array Slot), j_X11_reads_338 Q K25 x1 x2 x3 x4 x5 h g → gG D cy ad (gA ad s.heap.size) s.heap h g H locs → lv_has ls 8 [(0, .ref (ad 135)), (1, .int x1), (2, .int x2), (3, .int x3), (4, .int x4), (5, .int x5)] → W p l e ({ frames := 3, cells := 0, slots := 0, locals := 65 } : Room) s m args below meth c H locs 0 0 (MQ below (va_Qi (fun (r : Int32) (u : HI × HL) => Q r u.1 u.2) (gB D cy ad s.heap.size) (gA ad s.heap.size)) args s 0 0 (gA ad s.heap.size)) (F0 m 338 ls []) := by
    intro K25 hK25 x1 x2 x3 x4 x5 h g H locs ls HW hG hl
    unfold j_X11_reads_338 at HW
    refine lv_aload_n hx hb dX11_reads_338 rfl (lv_at hl 0 rfl) ?_
    refine lv_iload hx hb dX11_reads_339 (lv_at hl 5 rfl) ?_
    refine lv_bipush (v := 45) hx hb dX11_reads_341 (by decide) ?_
    refine lv_icmp_ne (tgt := 350) hx hb dX11_reads_343 (by decide) (fun c_343 => ?_) (fun c_343 => ?_)
    · replace HW := HW.1 c_343
      refine lv_iconst (v := 2) hx hb dX11_reads_350 (by decide) ?_
      exact B351 K25 hK25 x1 x2 x3 x4 (2 : Int32) h g _ _ _ HW hG (lv_sub hl [0, 1, 2, 3, 4] rfl)
    · replace HW := HW.2 c_343
      refine lv_iconst (v := 3) hx hb dX11_reads_346 (by decide) ?_
      refine lv_goto (tgt := 351) hx hb dX11_reads_347 (by decide) ?_
      exact B351 K25 hK25 x1 x2 x3 x4 (3 : Int32) h g _ _ _ HW hG (lv_sub hl [0, 1, 2, 3, 4] rfl)
  have B237 : ∀ (K25 : Int32 → Int32 → Int32 → Int32 → HI → HL → Prop) (hK25 : ∀ (x1 : Int32) (x2 : Int32) (x3 : Int32) (x4 : Int32) (h : HI) (g : HL) (H : Heap) (locs : List Loc) (ls : Array Slot), K25 x1 x2 x3 x4 h g → gG D cy ad (gA ad s.heap.size) s.heap h g H locs → lv_has ls 8 [(0, .ref (ad 135)), (1, .int x1), (2, .int x2), (3, .int x3), (4, .int x4)] → W p l e ({ frames := 3, cells := 0, slots := 0, locals := 65 } : Room) s m args below meth c H locs 0 0 (MQ below (va_Qi (fun (r : Int32) (u : HI × HL) => Q r u.1 u.2) (gB D cy ad s.heap.size) (gA ad s.heap.size)) args s 0 0 (gA ad s.heap.size)) (F0 m 25 ls [])) (x1 : Int32) (x2 : Int32) (x4 : Int32) (x7 : Int32) (h : HI) (g : HL) (H : Heap) (locs : List Loc) (ls : Array Slot), j_X11_reads_237 Q K25 x1 x2 x4 x7 h g → gG D cy ad (gA ad s.heap.size) s.heap h g H locs → lv_has ls 8 [(0, .ref (ad 135)), (1, .int x1), (2, .int x2), (4, .int x4), (7, .int x7)] → W p l e ({ frames := 3, cells := 0, slots := 0, locals := 65 } : Room) s m args below meth c H locs 0 0 (MQ below (va_Qi (fun (r : Int32) (u : HI × HL) => Q r u.1 u.2) (gB D cy ad s.heap.size) (gA ad s.heap.size)) args s 0 0 (gA ad s.heap.size)) (F0 m 237 ls []) := by
    intro K25 hK25 x1 x2 x4 x7 h g H locs ls HW hG hl
    unfold j_X11_reads_237 at HW
    refine lv_aload_n hx hb dX11_reads_237 rfl (lv_at hl 0 rfl) ?_
    refine lv_iconst (v := 0) hx hb dX11_reads_238 (by decide) ?_
    refine lv_iload hx hb dX11_reads_239 (lv_at hl 4 rfl) ?_
    obtain ⟨P_241, HC_241, HW⟩ := HW
    refine g_callv (g_runV (As := [.int (0 : Int32), .int x7]) (rest := []) ⟨hx, hb, hml, hown, hts⟩ (m_X11_emits l D cy ad h g H.size (0 : Int32) x7 P_241 HC_241) (cwV 2 hts (gd_V (wm5 160 rfl rfl) (wm5 162 rfl rfl) (wmp3 (q := (yX11_emits, 26)) 11 rfl) (wm1 13 rfl rfl) (wm5 163 rfl rfl)) rfl rfl rfl (by decide +kernel) ⟨Nat.le_of_ble_eq_true rfl, Nat.le_of_ble_eq_true rfl⟩) hK hNw hG gl_135 rfl gk_135 (by decide) rfl rfl hl.1 rfl (lv_room (Nat.le_of_ble_eq_true rfl)) dX11_reads_241 ⟨Nat.zero_le _, Nat.zero_le _⟩) hG (fun h_241 g_241 H locs hq hG => ?_)
    replace HW := HW h_241 g_241 hq
    refine lv_aload_n hx hb dX11_reads_244 rfl (lv_at hl 0 rfl) ?_
    refine lv_bipush (v := 6) hx hb dX11_reads_245 (by decide) ?_
    obtain ⟨P_247, HC_247, HW⟩ := HW
    refine g_callv (g_runV (As := [.int (6 : Int32)]) (rest := []) ⟨hx, hb, hml, hown, hts⟩ (m_X11_settles l D cy ad h_241 g_241 H.size (6 : Int32) P_247 HC_247) (cwV 1 hts (gd_V (wm5 153 rfl rfl) (wm5 155 rfl rfl) (wmp3 (q := (yX11_settles, 26)) 10 rfl) (wm1 13 rfl rfl) (wm5 156 rfl rfl)) rfl rfl rfl (by decide +kernel) ⟨Nat.le_of_ble_eq_true rfl, Nat.le_of_ble_eq_true rfl⟩) hK hNw hG gl_135 rfl gk_135 (by decide) rfl rfl hl.1 rfl (lv_room (Nat.le_of_ble_eq_true rfl)) dX11_reads_247 ⟨Nat.zero_le _, Nat.zero_le _⟩) hG (fun h_247 g_247 H locs hq hG => ?_)
    replace HW := HW h_247 g_247 hq
    refine lv_iconst (v := 1) hx hb dX11_reads_250 (by decide) ?_
    refine lv_istore_n (lv' := [(3, .int (1 : Int32)), (0, .ref (ad 135)), (1, .int x1), (2, .int x2), (4, .int x4), (7, .int x7)]) hx hb dX11_reads_251 rfl hl (by decide) rfl (fun ls hl => ?_)
    refine lv_goto (tgt := 368) hx hb dX11_reads_252 (by decide) ?_
    exact B368 K25 hK25 x1 x2 (1 : Int32) x4 h_247 g_247 _ _ _ HW hG (lv_sub hl [1, 2, 3, 0, 4] rfl)
  have L161 : ∀ (K25 : Int32 → Int32 → Int32 → Int32 → HI → HL → Prop) (hK25 : ∀ (x1 : Int32) (x2 : Int32) (x3 : Int32) (x4 : Int32) (h : HI) (g : HL) (H : Heap) (locs : List Loc) (ls : Array Slot), K25 x1 x2 x3 x4 h g → gG D cy ad (gA ad s.heap.size) s.heap h g H locs → lv_has ls 8 [(0, .ref (ad 135)), (1, .int x1), (2, .int x2), (3, .int x3), (4, .int x4)] → W p l e ({ frames := 3, cells := 0, slots := 0, locals := 65 } : Room) s m args below meth c H locs 0 0 (MQ below (va_Qi (fun (r : Int32) (u : HI × HL) => Q r u.1 u.2) (gB D cy ad s.heap.size) (gA ad s.heap.size)) args s 0 0 (gA ad s.heap.size)) (F0 m 25 ls [])) (n : Nat) (x1 : Int32) (x2 : Int32) (x4 : Int32) (x6 : Int32) (x7 : Int32) (h : HI) (g : HL) (H : Heap) (locs : List Loc) (ls : Array Slot), lpN (F_X11_reads_161 Q K25) n (x1, x2, x4, x6, x7, h, g) → gG D cy ad (gA ad s.heap.size) s.heap h g H locs → lv_has ls 8 [(0, .ref (ad 135)), (1, .int x1), (2, .int x2), (4, .int x4), (6, .int x6), (7, .int x7)] → W p l e ({ frames := 3, cells := 0, slots := 0, locals := 65 } : Room) s m args below meth c H locs 0 0 (MQ below (va_Qi (fun (r : Int32) (u : HI × HL) => Q r u.1 u.2) (gB D cy ad s.heap.size) (gA ad s.heap.size)) args s 0 0 (gA ad s.heap.size)) (F0 m 161 ls []) := by
    intro K25 hK25 n
    induction n with
    | zero => intro x1 x2 x4 x6 x7 h g H locs ls HW; exact HW.elim
    | succ n ih =>
      intro x1 x2 x4 x6 x7 h g H locs ls HW hG hl
      have HW : b_X11_reads_161 Q K25 (fun x1 x2 x4 x6 x7 h g => lpN (F_X11_reads_161 Q K25) n (x1, x2, x4, x6, x7, h, g)) x1 x2 x4 x6 x7 h g := HW
      generalize hKe : (fun (x1 : Int32) (x2 : Int32) (x4 : Int32) (x6 : Int32) (x7 : Int32) (h : HI) (g : HL) => lpN (F_X11_reads_161 Q K25) n (x1, x2, x4, x6, x7, h, g)) = K161 at HW
      have hK161 : ∀ (x1 : Int32) (x2 : Int32) (x4 : Int32) (x6 : Int32) (x7 : Int32) (h : HI) (g : HL) (H : Heap) (locs : List Loc) (ls : Array Slot), K161 x1 x2 x4 x6 x7 h g → gG D cy ad (gA ad s.heap.size) s.heap h g H locs → lv_has ls 8 [(0, .ref (ad 135)), (1, .int x1), (2, .int x2), (4, .int x4), (6, .int x6), (7, .int x7)] → W p l e ({ frames := 3, cells := 0, slots := 0, locals := 65 } : Room) s m args below meth c H locs 0 0 (MQ below (va_Qi (fun (r : Int32) (u : HI × HL) => Q r u.1 u.2) (gB D cy ad s.heap.size) (gA ad s.heap.size)) args s 0 0 (gA ad s.heap.size)) (F0 m 161 ls []) := by subst hKe; exact ih
      clear ih
      clear hKe
      unfold b_X11_reads_161 at HW
      refine lv_iload hx hb dX11_reads_161 (lv_at hl 3 rfl) ?_
      refine lv_iload_n hx hb dX11_reads_163 rfl (lv_at hl 1 rfl) ?_
      refine lv_icmp_ge (tgt := 237) hx hb dX11_reads_164 (by decide) (fun c_164 => ?_) (fun c_164 => ?_)
      · replace HW := HW.1 c_164
        exact B237 K25 hK25 x1 x2 x4 x7 h g _ _ _ HW hG (lv_sub hl [0, 1, 2, 3, 5] rfl)
      · replace HW := HW.2 c_164
        refine lv_aload_n hx hb dX11_reads_167 rfl (lv_at hl 0 rfl) ?_
        refine g_getr hx hb hw inG11 hown hK hG gl_135 rfl gk_135 (by decide) 0 (by decide) (by rw [gm_135]; decide) (r := 136) gr_135_0 lk7 dX11_reads_168 ?_
        refine lv_sipush (v := 827) hx hb dX11_reads_171 (by decide) ?_
        refine lv_iload hx hb dX11_reads_174 (lv_at hl 3 rfl) ?_
        refine lv_iadd hx hb dX11_reads_176 ?_
        refine g_iald hx hb hK hG gl_136 gk_136 gn_136 HW.1 dX11_reads_177 ?_
        replace HW := HW.2
        refine lv_i2l hx hb dX11_reads_178 rfl ?_
        refine lv_ldc2 (v := 48) hx hb hown cn105 dX11_reads_179 ?_
        refine lv_ldc2 (v := 57) hx hb hown cn107 dX11_reads_182 ?_
        obtain ⟨P_185, HC_185, HW⟩ := HW
        refine g_callz (g_runS (As := [.long (((h 136 ((827 : Int32) + x4).toNatClampNeg)).toInt64), .long (48 : Int64), .long (57 : Int64)]) (rest := []) ⟨hx, hb, hml, hown, hts⟩ (m_X11_in l D cy ad h g H.size (((h 136 ((827 : Int32) + x4).toNatClampNeg)).toInt64) (48 : Int64) (57 : Int64) P_185 HC_185) (va_cwS 3 hts (gd_S (wm5 111 rfl rfl) (wm5 112 rfl rfl) (wm1 13 rfl rfl) (wm5 113 rfl rfl)) rfl rfl rfl (by decide +kernel) ⟨Nat.le_of_ble_eq_true rfl, Nat.le_of_ble_eq_true rfl⟩) hK hNw hG rfl rfl hl.1 rfl (lv_room (Nat.le_of_ble_eq_true rfl)) dX11_reads_185 ⟨Nat.zero_le _, Nat.zero_le _⟩) hG (fun r_185 h_185 g_185 H locs hz hq hG => ?_)
        replace HW := HW r_185 h_185 g_185 hz hq
        refine lv_if_eq (tgt := 237) hx hb dX11_reads_188 (by decide) (fun c_188 => ?_) (fun c_188 => ?_)
        · replace HW := HW.1 c_188
          exact B237 K25 hK25 x1 x2 x4 x7 h_185 g_185 _ _ _ HW hG (lv_sub hl [0, 1, 2, 3, 5] rfl)
        · replace HW := HW.2 c_188
          refine lv_iload hx hb dX11_reads_191 (lv_at hl 3 rfl) ?_
          refine lv_iload hx hb dX11_reads_193 (lv_at hl 4 rfl) ?_
          refine lv_isub hx hb dX11_reads_195 ?_
          refine lv_bipush (v := 6) hx hb dX11_reads_196 (by decide) ?_
          refine lv_icmp_ne (tgt := 209) hx hb dX11_reads_198 (by decide) (fun c_198 => ?_) (fun c_198 => ?_)
          · replace HW := HW.1 c_198
            refine lv_bipush (v := 10) hx hb dX11_reads_209 (by decide) ?_
            refine lv_iload hx hb dX11_reads_211 (lv_at hl 5 rfl) ?_
            refine lv_imul hx hb dX11_reads_213 ?_
            refine lv_aload_n hx hb dX11_reads_214 rfl (lv_at hl 0 rfl) ?_
            refine g_getr hx hb hw inG11 hown hK hG gl_135 rfl gk_135 (by decide) 0 (by decide) (by rw [gm_135]; decide) (r := 136) gr_135_0 lk7 dX11_reads_215 ?_
            refine lv_sipush (v := 827) hx hb dX11_reads_218 (by decide) ?_
            refine lv_iload hx hb dX11_reads_221 (lv_at hl 3 rfl) ?_
            refine lv_iadd hx hb dX11_reads_223 ?_
            refine g_iald hx hb hK hG gl_136 gk_136 gn_136 HW.1 dX11_reads_224 ?_
            replace HW := HW.2
            refine lv_iadd hx hb dX11_reads_225 ?_
            refine lv_bipush (v := 48) hx hb dX11_reads_226 (by decide) ?_
            refine lv_isub hx hb dX11_reads_228 ?_
            refine lv_topi (fun x7_229 ex7_229 => ?_)
            replace HW := HW x7_229 ex7_229
            refine lv_istore (lv' := [(7, .int x7_229), (0, .ref (ad 135)), (1, .int x1), (2, .int x2), (4, .int x4), (6, .int x6)]) hx hb dX11_reads_229 hl (by decide) rfl (fun ls hl => ?_)
            obtain ⟨x4_231, ex4_231⟩ : ∃ y : Int32, y = (x4 + 1) := ⟨_, rfl⟩
            replace HW := HW x4_231 ex4_231
            refine lv_iinc (v := x4_231) (lv' := [(4, .int x4_231), (7, .int x7_229), (0, .ref (ad 135)), (1, .int x1), (2, .int x2), (6, .int x6)]) hx hb dX11_reads_231 hl (k := 4) rfl (by rw [ex4_231]; rfl) (by decide) rfl (fun ls hl => ?_)
            refine lv_goto (tgt := 161) hx hb dX11_reads_234 (by decide) ?_
            exact hK161 x1 x2 x4_231 x6 x7_229 h_185 g_185 _ _ _ HW hG (lv_sub hl [2, 3, 4, 0, 5, 1] rfl)
          · replace HW := HW.2 c_198
            refine lv_bipush (v := 10) hx hb dX11_reads_201 (by decide) ?_
            refine lv_iload hx hb dX11_reads_203 (lv_at hl 4 rfl) ?_
            refine lv_imul hx hb dX11_reads_205 ?_
            refine lv_iconst (v := 2) hx hb dX11_reads_206 (by decide) ?_
            refine lv_iadd hx hb dX11_reads_207 ?_
            exact W.iret (v := (((10 : Int32) * x6) + (2 : Int32))) hx hb hr (fun t ht hW => ⟨⟨(((10 : Int32) * x6) + (2 : Int32)), (h_185, g_185), rfl, HW, g_B ht hG⟩, hG.2.2.F ht⟩) hG.2.2.2.2 dX11_reads_208
  have B125 : ∀ (x4 : Int32) (h : HI) (g : HL) (H : Heap) (locs : List Loc) (ls : Array Slot), j_X11_reads_125 Q x4 h g → gG D cy ad (gA ad s.heap.size) s.heap h g H locs → lv_has ls 8 [(4, .int x4)] → W p l e ({ frames := 3, cells := 0, slots := 0, locals := 65 } : Room) s m args below meth c H locs 0 0 (MQ below (va_Qi (fun (r : Int32) (u : HI × HL) => Q r u.1 u.2) (gB D cy ad s.heap.size) (gA ad s.heap.size)) args s 0 0 (gA ad s.heap.size)) (F0 m 125 ls []) := by
    intro x4 h g H locs ls HW hG hl
    unfold j_X11_reads_125 at HW
    refine lv_bipush (v := 10) hx hb dX11_reads_125 (by decide) ?_
    refine lv_iload hx hb dX11_reads_127 (lv_at hl 0 rfl) ?_
    refine lv_imul hx hb dX11_reads_129 ?_
    refine lv_iconst (v := 1) hx hb dX11_reads_130 (by decide) ?_
    refine lv_iadd hx hb dX11_reads_131 ?_
    exact W.iret (v := (((10 : Int32) * x4) + (1 : Int32))) hx hb hr (fun t ht hW => ⟨⟨(((10 : Int32) * x4) + (1 : Int32)), (h, g), rfl, HW, g_B ht hG⟩, hG.2.2.F ht⟩) hG.2.2.2.2 dX11_reads_132
  have B133 : ∀ (K25 : Int32 → Int32 → Int32 → Int32 → HI → HL → Prop) (hK25 : ∀ (x1 : Int32) (x2 : Int32) (x3 : Int32) (x4 : Int32) (h : HI) (g : HL) (H : Heap) (locs : List Loc) (ls : Array Slot), K25 x1 x2 x3 x4 h g → gG D cy ad (gA ad s.heap.size) s.heap h g H locs → lv_has ls 8 [(0, .ref (ad 135)), (1, .int x1), (2, .int x2), (3, .int x3), (4, .int x4)] → W p l e ({ frames := 3, cells := 0, slots := 0, locals := 65 } : Room) s m args below meth c H locs 0 0 (MQ below (va_Qi (fun (r : Int32) (u : HI × HL) => Q r u.1 u.2) (gB D cy ad s.heap.size) (gA ad s.heap.size)) args s 0 0 (gA ad s.heap.size)) (F0 m 25 ls [])) (x1 : Int32) (x2 : Int32) (x3 : Int32) (x4 : Int32) (h : HI) (g : HL) (H : Heap) (locs : List Loc) (ls : Array Slot), j_X11_reads_133 Q K25 x1 x2 x3 x4 h g → gG D cy ad (gA ad s.heap.size) s.heap h g H locs → lv_has ls 8 [(0, .ref (ad 135)), (1, .int x1), (2, .int x2), (3, .int x3), (4, .int x4)] → W p l e ({ frames := 3, cells := 0, slots := 0, locals := 65 } : Room) s m args below meth c H locs 0 0 (MQ below (va_Qi (fun (r : Int32) (u : HI × HL) => Q r u.1 u.2) (gB D cy ad s.heap.size) (gA ad s.heap.size)) args s 0 0 (gA ad s.heap.size)) (F0 m 133 ls []) := by
    intro K25 hK25 x1 x2 x3 x4 h g H locs ls HW hG hl
    unfold j_X11_reads_133 at HW
    obtain ⟨x4_133, ex4_133⟩ : ∃ y : Int32, y = (x4 + 1) := ⟨_, rfl⟩
    replace HW := HW x4_133 ex4_133
    refine lv_iinc (v := x4_133) (lv' := [(4, .int x4_133), (0, .ref (ad 135)), (1, .int x1), (2, .int x2), (3, .int x3)]) hx hb dX11_reads_133 hl (k := 4) rfl (by rw [ex4_133]; rfl) (by decide) rfl (fun ls hl => ?_)
    refine lv_goto (tgt := 368) hx hb dX11_reads_136 (by decide) ?_
    exact B368 K25 hK25 x1 x2 x3 x4_133 h g _ _ _ HW hG (lv_sub hl [1, 2, 3, 4, 0] rfl)
  have B99 : ∀ (K25 : Int32 → Int32 → Int32 → Int32 → HI → HL → Prop) (hK25 : ∀ (x1 : Int32) (x2 : Int32) (x3 : Int32) (x4 : Int32) (h : HI) (g : HL) (H : Heap) (locs : List Loc) (ls : Array Slot), K25 x1 x2 x3 x4 h g → gG D cy ad (gA ad s.heap.size) s.heap h g H locs → lv_has ls 8 [(0, .ref (ad 135)), (1, .int x1), (2, .int x2), (3, .int x3), (4, .int x4)] → W p l e ({ frames := 3, cells := 0, slots := 0, locals := 65 } : Room) s m args below meth c H locs 0 0 (MQ below (va_Qi (fun (r : Int32) (u : HI × HL) => Q r u.1 u.2) (gB D cy ad s.heap.size) (gA ad s.heap.size)) args s 0 0 (gA ad s.heap.size)) (F0 m 25 ls [])) (x1 : Int32) (x2 : Int32) (x4 : Int32) (x5 : Int32) (h : HI) (g : HL) (H : Heap) (locs : List Loc) (ls : Array Slot), j_X11_reads_99 Q K25 x1 x2 x4 x5 h g → gG D cy ad (gA ad s.heap.size) s.heap h g H locs → lv_has ls 8 [(0, .ref (ad 135)), (1, .int x1), (2, .int x2), (4, .int x4), (5, .int x5)] → W p l e ({ frames := 3, cells := 0, slots := 0, locals := 65 } : Room) s m args below meth c H locs 0 0 (MQ below (va_Qi (fun (r : Int32) (u : HI × HL) => Q r u.1 u.2) (gB D cy ad s.heap.size) (gA ad s.heap.size)) args s 0 0 (gA ad s.heap.size)) (F0 m 99 ls []) := by
    intro K25 hK25 x1 x2 x4 x5 h g H locs ls HW hG hl
    unfold j_X11_reads_99 at HW
    refine lv_iload hx hb dX11_reads_99 (lv_at hl 4 rfl) ?_
    obtain ⟨P_101, HC_101, HW⟩ := HW
    refine g_calli (g_runS (As := [.int x5]) (rest := []) ⟨hx, hb, hml, hown, hts⟩ (m_X11_signOf l D cy ad h g H.size x5 P_101 HC_101) (va_cwS 1 hts (gd_S (wm5 164 rfl rfl) (wm5 165 rfl rfl) (wm1 13 rfl rfl) (wm5 166 rfl rfl)) rfl rfl rfl (by decide +kernel) ⟨Nat.le_of_ble_eq_true rfl, Nat.le_of_ble_eq_true rfl⟩) hK hNw hG rfl rfl hl.1 rfl (lv_room (Nat.le_of_ble_eq_true rfl)) dX11_reads_101 ⟨Nat.zero_le _, Nat.zero_le _⟩) hG (fun r_101 h_101 g_101 H locs hq hG => ?_)
    replace HW := HW r_101 h_101 g_101 hq
    refine lv_iconst (v := (-1)) hx hb dX11_reads_104 (by decide) ?_
    refine lv_icmp_eq (tgt := 125) hx hb dX11_reads_105 (by decide) (fun c_105 => ?_) (fun c_105 => ?_)
    · replace HW := HW.1 c_105
      exact B125 x4 h_101 g_101 _ _ _ HW hG (lv_sub hl [3] rfl)
    · replace HW := HW.2 c_105
      refine lv_aload_n hx hb dX11_reads_108 rfl (lv_at hl 0 rfl) ?_
      refine lv_iload hx hb dX11_reads_109 (lv_at hl 4 rfl) ?_
      obtain ⟨P_111, HC_111, HW⟩ := HW
      refine g_calli (g_runS (As := [.int x5]) (rest := [.ref (ad 135)]) ⟨hx, hb, hml, hown, hts⟩ (m_X11_signOf l D cy ad h_101 g_101 H.size x5 P_111 HC_111) (va_cwS 1 hts (gd_S (wm5 164 rfl rfl) (wm5 165 rfl rfl) (wm1 13 rfl rfl) (wm5 166 rfl rfl)) rfl rfl rfl (by decide +kernel) ⟨Nat.le_of_ble_eq_true rfl, Nat.le_of_ble_eq_true rfl⟩) hK hNw hG rfl rfl hl.1 rfl (lv_room (Nat.le_of_ble_eq_true rfl)) dX11_reads_111 ⟨Nat.zero_le _, Nat.zero_le _⟩) hG (fun r_111 h_111 g_111 H locs hq hG => ?_)
      replace HW := HW r_111 h_111 g_111 hq
      obtain ⟨P_114, HC_114, HW⟩ := HW
      refine g_callz (g_runV (As := [.int r_111]) (rest := []) ⟨hx, hb, hml, hown, hts⟩ (m_X11_goesOn l D cy ad h_111 g_111 H.size r_111 P_114 HC_114) (cwV 1 hts (gd_V (wm5 167 rfl rfl) (wm5 169 rfl rfl) (wmp3 (q := (yX11_goesOn, 26)) 12 rfl) (wm1 13 rfl rfl) (wm5 170 rfl rfl)) rfl rfl rfl (by decide +kernel) ⟨Nat.le_of_ble_eq_true rfl, Nat.le_of_ble_eq_true rfl⟩) hK hNw hG gl_135 rfl gk_135 (by decide) rfl rfl hl.1 rfl (lv_room (Nat.le_of_ble_eq_true rfl)) dX11_reads_114 ⟨Nat.zero_le _, Nat.zero_le _⟩) hG (fun r_114 h_114 g_114 H locs hz hq hG => ?_)
      replace HW := HW r_114 h_114 g_114 hz hq
      refine lv_if_eq (tgt := 125) hx hb dX11_reads_117 (by decide) (fun c_117 => ?_) (fun c_117 => ?_)
      · replace HW := HW.1 c_117
        exact B125 x4 h_114 g_114 _ _ _ HW hG (lv_sub hl [3] rfl)
      · replace HW := HW.2 c_117
        refine lv_iconst (v := 0) hx hb dX11_reads_120 (by decide) ?_
        refine lv_istore_n (lv' := [(3, .int (0 : Int32)), (0, .ref (ad 135)), (1, .int x1), (2, .int x2), (4, .int x4), (5, .int x5)]) hx hb dX11_reads_121 rfl hl (by decide) rfl (fun ls hl => ?_)
        refine lv_goto (tgt := 133) hx hb dX11_reads_122 (by decide) ?_
        exact B133 K25 hK25 x1 x2 (0 : Int32) x4 h_114 g_114 _ _ _ HW hG (lv_sub hl [1, 2, 3, 0, 4] rfl)
  have L25 : ∀ (n : Nat) (x1 : Int32) (x2 : Int32) (x3 : Int32) (x4 : Int32) (h : HI) (g : HL) (H : Heap) (locs : List Loc) (ls : Array Slot), lpN (F_X11_reads_25 Q) n (x1, x2, x3, x4, h, g) → gG D cy ad (gA ad s.heap.size) s.heap h g H locs → lv_has ls 8 [(0, .ref (ad 135)), (1, .int x1), (2, .int x2), (3, .int x3), (4, .int x4)] → W p l e ({ frames := 3, cells := 0, slots := 0, locals := 65 } : Room) s m args below meth c H locs 0 0 (MQ below (va_Qi (fun (r : Int32) (u : HI × HL) => Q r u.1 u.2) (gB D cy ad s.heap.size) (gA ad s.heap.size)) args s 0 0 (gA ad s.heap.size)) (F0 m 25 ls []) := by
    intro n
    induction n with
    | zero => intro x1 x2 x3 x4 h g H locs ls HW; exact HW.elim
    | succ n ih =>
      intro x1 x2 x3 x4 h g H locs ls HW hG hl
      have HW : b_X11_reads_25 Q (fun x1 x2 x3 x4 h g => lpN (F_X11_reads_25 Q) n (x1, x2, x3, x4, h, g)) x1 x2 x3 x4 h g := HW
      generalize hKe : (fun (x1 : Int32) (x2 : Int32) (x3 : Int32) (x4 : Int32) (h : HI) (g : HL) => lpN (F_X11_reads_25 Q) n (x1, x2, x3, x4, h, g)) = K25 at HW
      have hK25 : ∀ (x1 : Int32) (x2 : Int32) (x3 : Int32) (x4 : Int32) (h : HI) (g : HL) (H : Heap) (locs : List Loc) (ls : Array Slot), K25 x1 x2 x3 x4 h g → gG D cy ad (gA ad s.heap.size) s.heap h g H locs → lv_has ls 8 [(0, .ref (ad 135)), (1, .int x1), (2, .int x2), (3, .int x3), (4, .int x4)] → W p l e ({ frames := 3, cells := 0, slots := 0, locals := 65 } : Room) s m args below meth c H locs 0 0 (MQ below (va_Qi (fun (r : Int32) (u : HI × HL) => Q r u.1 u.2) (gB D cy ad s.heap.size) (gA ad s.heap.size)) args s 0 0 (gA ad s.heap.size)) (F0 m 25 ls []) := by subst hKe; exact ih
      clear ih
      clear hKe
      unfold b_X11_reads_25 at HW
      refine lv_iload hx hb dX11_reads_25 (lv_at hl 4 rfl) ?_
      refine lv_iload_n hx hb dX11_reads_27 rfl (lv_at hl 1 rfl) ?_
      refine lv_icmp_ge (tgt := 371) hx hb dX11_reads_28 (by decide) (fun c_28 => ?_) (fun c_28 => ?_)
      · replace HW := HW.1 c_28
        refine lv_aload_n hx hb dX11_reads_371 rfl (lv_at hl 0 rfl) ?_
        refine lv_iconst (v := 1) hx hb dX11_reads_372 (by decide) ?_
        obtain ⟨P_373, HC_373, HW⟩ := HW
        refine g_callv (g_runV (As := [.int (1 : Int32)]) (rest := []) ⟨hx, hb, hml, hown, hts⟩ (m_X11_settles l D cy ad h g H.size (1 : Int32) P_373 HC_373) (cwV 1 hts (gd_V (wm5 153 rfl rfl) (wm5 155 rfl rfl) (wmp3 (q := (yX11_settles, 26)) 10 rfl) (wm1 13 rfl rfl) (wm5 156 rfl rfl)) rfl rfl rfl (by decide +kernel) ⟨Nat.le_of_ble_eq_true rfl, Nat.le_of_ble_eq_true rfl⟩) hK hNw hG gl_135 rfl gk_135 (by decide) rfl rfl hl.1 rfl (lv_room (Nat.le_of_ble_eq_true rfl)) dX11_reads_373 ⟨Nat.zero_le _, Nat.zero_le _⟩) hG (fun h_373 g_373 H locs hq hG => ?_)
        replace HW := HW h_373 g_373 hq
        refine lv_iload_n hx hb dX11_reads_376 rfl (lv_at hl 3 rfl) ?_
        refine lv_if_eq (tgt := 388) hx hb dX11_reads_377 (by decide) (fun c_377 => ?_) (fun c_377 => ?_)
        · replace HW := HW.1 c_377
          exact B388 x1 h_373 g_373 _ _ _ HW hG (lv_sub hl [1] rfl)
        · replace HW := HW.2 c_377
          refine lv_iload_n hx hb dX11_reads_380 rfl (lv_at hl 2 rfl) ?_
          refine lv_if_ne (tgt := 388) hx hb dX11_reads_381 (by decide) (fun c_381 => ?_) (fun c_381 => ?_)
          · replace HW := HW.1 c_381
            exact B388 x1 h_373 g_373 _ _ _ HW hG (lv_sub hl [1] rfl)
          · replace HW := HW.2 c_381
            refine lv_iconst (v := (-1)) hx hb dX11_reads_384 (by decide) ?_
            refine lv_goto (tgt := 394) hx hb dX11_reads_385 (by decide) ?_
            exact W.iret (v := (-1 : Int32)) hx hb hr (fun t ht hW => ⟨⟨(-1 : Int32), (h_373, g_373), rfl, HW, g_B ht hG⟩, hG.2.2.F ht⟩) hG.2.2.2.2 dX11_reads_394
      · replace HW := HW.2 c_28
        refine lv_aload_n hx hb dX11_reads_31 rfl (lv_at hl 0 rfl) ?_
        refine g_getr hx hb hw inG11 hown hK hG gl_135 rfl gk_135 (by decide) 0 (by decide) (by rw [gm_135]; decide) (r := 136) gr_135_0 lk7 dX11_reads_32 ?_
        refine lv_sipush (v := 827) hx hb dX11_reads_35 (by decide) ?_
        refine lv_iload hx hb dX11_reads_38 (lv_at hl 4 rfl) ?_
        refine lv_iadd hx hb dX11_reads_40 ?_
        refine g_iald hx hb hK hG gl_136 gk_136 gn_136 HW.1 dX11_reads_41 ?_
        replace HW := HW.2
        refine lv_topi (fun x5_42 ex5_42 => ?_)
        replace HW := HW x5_42 ex5_42
        refine lv_istore (lv' := [(5, .int x5_42), (0, .ref (ad 135)), (1, .int x1), (2, .int x2), (3, .int x3), (4, .int x4)]) hx hb dX11_reads_42 hl (by decide) rfl (fun ls hl => ?_)
        refine lv_iload hx hb dX11_reads_44 (lv_at hl 0 rfl) ?_
        refine lv_bipush (v := 32) hx hb dX11_reads_46 (by decide) ?_
        refine lv_icmp_ne (tgt := 57) hx hb dX11_reads_48 (by decide) (fun c_48 => ?_) (fun c_48 => ?_)
        · replace HW := HW.1 c_48
          refine lv_iload_n hx hb dX11_reads_57 rfl (lv_at hl 4 rfl) ?_
          refine lv_if_eq (tgt := 139) hx hb dX11_reads_58 (by decide) (fun c_58 => ?_) (fun c_58 => ?_)
          · replace HW := HW.1 c_58
            refine lv_iload hx hb dX11_reads_139 (lv_at hl 0 rfl) ?_
            refine lv_i2l hx hb dX11_reads_141 rfl ?_
            refine lv_ldc2 (v := 48) hx hb hown cn105 dX11_reads_142 ?_
            refine lv_ldc2 (v := 57) hx hb hown cn107 dX11_reads_145 ?_
            obtain ⟨P_148, HC_148, HW⟩ := HW
            refine g_callz (g_runS (As := [.long ((x5_42).toInt64), .long (48 : Int64), .long (57 : Int64)]) (rest := []) ⟨hx, hb, hml, hown, hts⟩ (m_X11_in l D cy ad h g H.size ((x5_42).toInt64) (48 : Int64) (57 : Int64) P_148 HC_148) (va_cwS 3 hts (gd_S (wm5 111 rfl rfl) (wm5 112 rfl rfl) (wm1 13 rfl rfl) (wm5 113 rfl rfl)) rfl rfl rfl (by decide +kernel) ⟨Nat.le_of_ble_eq_true rfl, Nat.le_of_ble_eq_true rfl⟩) hK hNw hG rfl rfl hl.1 rfl (lv_room (Nat.le_of_ble_eq_true rfl)) dX11_reads_148 ⟨Nat.zero_le _, Nat.zero_le _⟩) hG (fun r_148 h_148 g_148 H locs hz hq hG => ?_)
            replace HW := HW r_148 h_148 g_148 hz hq
            refine lv_if_eq (tgt := 255) hx hb dX11_reads_151 (by decide) (fun c_151 => ?_) (fun c_151 => ?_)
            · replace HW := HW.1 c_151
              refine lv_iload hx hb dX11_reads_255 (lv_at hl 0 rfl) ?_
              obtain ⟨P_257, HC_257, HW⟩ := HW
              refine g_calli (g_runS (As := [.int x5_42]) (rest := []) ⟨hx, hb, hml, hown, hts⟩ (m_X11_nameOf l D cy ad h_148 g_148 H.size x5_42 P_257 HC_257) (va_cwS 1 hts (gd_S (wm5 177 rfl rfl) (wm5 178 rfl rfl) (wm1 13 rfl rfl) (wm5 179 rfl rfl)) rfl rfl rfl (by decide +kernel) ⟨Nat.le_of_ble_eq_true rfl, Nat.le_of_ble_eq_true rfl⟩) hK hNw hG rfl rfl hl.1 rfl (lv_room (Nat.le_of_ble_eq_true rfl)) dX11_reads_257 ⟨Nat.zero_le _, Nat.zero_le _⟩) hG (fun r_257 h_257 g_257 H locs hq hG => ?_)
              replace HW := HW r_257 h_257 g_257 hq
              refine lv_iconst (v := (-1)) hx hb dX11_reads_260 (by decide) ?_
              refine lv_icmp_eq (tgt := 288) hx hb dX11_reads_261 (by decide) (fun c_261 => ?_) (fun c_261 => ?_)
              · replace HW := HW.1 c_261
                refine lv_iload hx hb dX11_reads_288 (lv_at hl 0 rfl) ?_
                refine lv_bipush (v := 40) hx hb dX11_reads_290 (by decide) ?_
                refine lv_icmp_ne (tgt := 324) hx hb dX11_reads_292 (by decide) (fun c_292 => ?_) (fun c_292 => ?_)
                · replace HW := HW.1 c_292
                  refine lv_iload hx hb dX11_reads_324 (lv_at hl 0 rfl) ?_
                  refine lv_bipush (v := 45) hx hb dX11_reads_326 (by decide) ?_
                  refine lv_icmp_eq (tgt := 338) hx hb dX11_reads_328 (by decide) (fun c_328 => ?_) (fun c_328 => ?_)
                  · replace HW := HW.1 c_328
                    exact B338 K25 hK25 x1 x2 x3 x4 x5_42 h_257 g_257 _ _ _ HW hG (lv_sub hl [1, 2, 3, 4, 5, 0] rfl)
                  · replace HW := HW.2 c_328
                    refine lv_iload hx hb dX11_reads_331 (lv_at hl 0 rfl) ?_
                    refine lv_bipush (v := 33) hx hb dX11_reads_333 (by decide) ?_
                    refine lv_icmp_ne (tgt := 360) hx hb dX11_reads_335 (by decide) (fun c_335 => ?_) (fun c_335 => ?_)
                    · replace HW := HW.1 c_335
                      refine lv_bipush (v := 10) hx hb dX11_reads_360 (by decide) ?_
                      refine lv_iload hx hb dX11_reads_362 (lv_at hl 5 rfl) ?_
                      refine lv_imul hx hb dX11_reads_364 ?_
                      refine lv_iconst (v := 1) hx hb dX11_reads_365 (by decide) ?_
                      refine lv_iadd hx hb dX11_reads_366 ?_
                      exact W.iret (v := (((10 : Int32) * x4) + (1 : Int32))) hx hb hr (fun t ht hW => ⟨⟨(((10 : Int32) * x4) + (1 : Int32)), (h_257, g_257), rfl, HW, g_B ht hG⟩, hG.2.2.F ht⟩) hG.2.2.2.2 dX11_reads_367
                    · replace HW := HW.2 c_335
                      exact B338 K25 hK25 x1 x2 x3 x4 x5_42 h_257 g_257 _ _ _ HW hG (lv_sub hl [1, 2, 3, 4, 5, 0] rfl)
                · replace HW := HW.2 c_292
                  refine lv_iload_n hx hb dX11_reads_295 rfl (lv_at hl 3 rfl) ?_
                  refine lv_bipush (v := 8) hx hb dX11_reads_296 (by decide) ?_
                  refine lv_icmp_ne (tgt := 309) hx hb dX11_reads_298 (by decide) (fun c_298 => ?_) (fun c_298 => ?_)
                  · replace HW := HW.1 c_298
                    obtain ⟨x2_309, ex2_309⟩ : ∃ y : Int32, y = (x2 + 1) := ⟨_, rfl⟩
                    replace HW := HW x2_309 ex2_309
                    refine lv_iinc (v := x2_309) (lv' := [(2, .int x2_309), (5, .int x5_42), (0, .ref (ad 135)), (1, .int x1), (3, .int x3), (4, .int x4)]) hx hb dX11_reads_309 hl (k := 3) rfl (by rw [ex2_309]; rfl) (by decide) rfl (fun ls hl => ?_)
                    refine lv_aload_n hx hb dX11_reads_312 rfl (lv_at hl 2 rfl) ?_
                    refine lv_bipush (v := 13) hx hb dX11_reads_313 (by decide) ?_
                    obtain ⟨P_315, HC_315, HW⟩ := HW
                    refine g_callv (g_runV (As := [.int (13 : Int32)]) (rest := []) ⟨hx, hb, hml, hown, hts⟩ (m_X11_waitsWith l D cy ad h_257 g_257 H.size (13 : Int32) P_315 HC_315) (cwV 1 hts (gd_V (wm5 171 rfl rfl) (wm5 173 rfl rfl) (wmp3 (q := (yX11_waitsWith, 26)) 13 rfl) (wm1 13 rfl rfl) (wm5 174 rfl rfl)) rfl rfl rfl (by decide +kernel) ⟨Nat.le_of_ble_eq_true rfl, Nat.le_of_ble_eq_true rfl⟩) hK hNw hG gl_135 rfl gk_135 (by decide) rfl rfl hl.1 rfl (lv_room (Nat.le_of_ble_eq_true rfl)) dX11_reads_315 ⟨Nat.zero_le _, Nat.zero_le _⟩) hG (fun h_315 g_315 H locs hq hG => ?_)
                    replace HW := HW h_315 g_315 hq
                    obtain ⟨x4_318, ex4_318⟩ : ∃ y : Int32, y = (x4 + 1) := ⟨_, rfl⟩
                    replace HW := HW x4_318 ex4_318
                    refine lv_iinc (v := x4_318) (lv' := [(4, .int x4_318), (2, .int x2_309), (5, .int x5_42), (0, .ref (ad 135)), (1, .int x1), (3, .int x3)]) hx hb dX11_reads_318 hl (k := 5) rfl (by rw [ex4_318]; rfl) (by decide) rfl (fun ls hl => ?_)
                    refine lv_goto (tgt := 368) hx hb dX11_reads_321 (by decide) ?_
                    exact B368 K25 hK25 x1 x2_309 x3 x4_318 h_315 g_315 _ _ _ HW hG (lv_sub hl [3, 4, 1, 5, 0] rfl)
                  · replace HW := HW.2 c_298
                    refine lv_bipush (v := 10) hx hb dX11_reads_301 (by decide) ?_
                    refine lv_iload hx hb dX11_reads_303 (lv_at hl 5 rfl) ?_
                    refine lv_imul hx hb dX11_reads_305 ?_
                    refine lv_iconst (v := 3) hx hb dX11_reads_306 (by decide) ?_
                    refine lv_iadd hx hb dX11_reads_307 ?_
                    exact W.iret (v := (((10 : Int32) * x4) + (3 : Int32))) hx hb hr (fun t ht hW => ⟨⟨(((10 : Int32) * x4) + (3 : Int32)), (h_257, g_257), rfl, HW, g_B ht hG⟩, hG.2.2.F ht⟩) hG.2.2.2.2 dX11_reads_308
              · replace HW := HW.2 c_261
                refine lv_aload_n hx hb dX11_reads_264 rfl (lv_at hl 1 rfl) ?_
                refine lv_iconst (v := 1) hx hb dX11_reads_265 (by decide) ?_
                refine lv_iload hx hb dX11_reads_266 (lv_at hl 0 rfl) ?_
                obtain ⟨P_268, HC_268, HW⟩ := HW
                refine g_calli (g_runS (As := [.int x5_42]) (rest := [.int (1 : Int32), .ref (ad 135)]) ⟨hx, hb, hml, hown, hts⟩ (m_X11_nameOf l D cy ad h_257 g_257 H.size x5_42 P_268 HC_268) (va_cwS 1 hts (gd_S (wm5 177 rfl rfl) (wm5 178 rfl rfl) (wm1 13 rfl rfl) (wm5 179 rfl rfl)) rfl rfl rfl (by decide +kernel) ⟨Nat.le_of_ble_eq_true rfl, Nat.le_of_ble_eq_true rfl⟩) hK hNw hG rfl rfl hl.1 rfl (lv_room (Nat.le_of_ble_eq_true rfl)) dX11_reads_268 ⟨Nat.zero_le _, Nat.zero_le _⟩) hG (fun r_268 h_268 g_268 H locs hq hG => ?_)
                replace HW := HW r_268 h_268 g_268 hq
                obtain ⟨P_271, HC_271, HW⟩ := HW
                refine g_callv (g_runV (As := [.int (1 : Int32), .int r_268]) (rest := []) ⟨hx, hb, hml, hown, hts⟩ (m_X11_emits l D cy ad h_268 g_268 H.size (1 : Int32) r_268 P_271 HC_271) (cwV 2 hts (gd_V (wm5 160 rfl rfl) (wm5 162 rfl rfl) (wmp3 (q := (yX11_emits, 26)) 11 rfl) (wm1 13 rfl rfl) (wm5 163 rfl rfl)) rfl rfl rfl (by decide +kernel) ⟨Nat.le_of_ble_eq_true rfl, Nat.le_of_ble_eq_true rfl⟩) hK hNw hG gl_135 rfl gk_135 (by decide) rfl rfl hl.1 rfl (lv_room (Nat.le_of_ble_eq_true rfl)) dX11_reads_271 ⟨Nat.zero_le _, Nat.zero_le _⟩) hG (fun h_271 g_271 H locs hq hG => ?_)
                replace HW := HW h_271 g_271 hq
                refine lv_aload_n hx hb dX11_reads_274 rfl (lv_at hl 1 rfl) ?_
                refine lv_bipush (v := 6) hx hb dX11_reads_275 (by decide) ?_
                obtain ⟨P_277, HC_277, HW⟩ := HW
                refine g_callv (g_runV (As := [.int (6 : Int32)]) (rest := []) ⟨hx, hb, hml, hown, hts⟩ (m_X11_settles l D cy ad h_271 g_271 H.size (6 : Int32) P_277 HC_277) (cwV 1 hts (gd_V (wm5 153 rfl rfl) (wm5 155 rfl rfl) (wmp3 (q := (yX11_settles, 26)) 10 rfl) (wm1 13 rfl rfl) (wm5 156 rfl rfl)) rfl rfl rfl (by decide +kernel) ⟨Nat.le_of_ble_eq_true rfl, Nat.le_of_ble_eq_true rfl⟩) hK hNw hG gl_135 rfl gk_135 (by decide) rfl rfl hl.1 rfl (lv_room (Nat.le_of_ble_eq_true rfl)) dX11_reads_277 ⟨Nat.zero_le _, Nat.zero_le _⟩) hG (fun h_277 g_277 H locs hq hG => ?_)
                replace HW := HW h_277 g_277 hq
                refine lv_iconst (v := 1) hx hb dX11_reads_280 (by decide) ?_
                refine lv_istore_n (lv' := [(3, .int (1 : Int32)), (5, .int x5_42), (0, .ref (ad 135)), (1, .int x1), (2, .int x2), (4, .int x4)]) hx hb dX11_reads_281 rfl hl (by decide) rfl (fun ls hl => ?_)
                obtain ⟨x4_282, ex4_282⟩ : ∃ y : Int32, y = (x4 + 1) := ⟨_, rfl⟩
                replace HW := HW x4_282 ex4_282
                refine lv_iinc (v := x4_282) (lv' := [(4, .int x4_282), (3, .int (1 : Int32)), (5, .int x5_42), (0, .ref (ad 135)), (1, .int x1), (2, .int x2)]) hx hb dX11_reads_282 hl (k := 5) rfl (by rw [ex4_282]; rfl) (by decide) rfl (fun ls hl => ?_)
                refine lv_goto (tgt := 368) hx hb dX11_reads_285 (by decide) ?_
                exact B368 K25 hK25 x1 x2 (1 : Int32) x4_282 h_277 g_277 _ _ _ HW hG (lv_sub hl [3, 4, 5, 1, 0] rfl)
            · replace HW := HW.2 c_151
              refine lv_iload hx hb dX11_reads_154 (lv_at hl 5 rfl) ?_
              refine lv_istore (lv' := [(6, .int x4), (5, .int x5_42), (0, .ref (ad 135)), (1, .int x1), (2, .int x2), (3, .int x3), (4, .int x4)]) hx hb dX11_reads_156 hl (by decide) rfl (fun ls hl => ?_)
              refine lv_iconst (v := 0) hx hb dX11_reads_158 (by decide) ?_
              refine lv_istore (lv' := [(7, .int (0 : Int32)), (6, .int x4), (5, .int x5_42), (0, .ref (ad 135)), (1, .int x1), (2, .int x2), (3, .int x3), (4, .int x4)]) hx hb dX11_reads_159 hl (by decide) rfl (fun ls hl => ?_)
              obtain ⟨n_161, HW⟩ := HW
              exact L161 K25 hK25 n_161 x1 x2 x4 x4 (0 : Int32) h_148 g_148 _ _ _ HW hG (lv_sub hl [3, 4, 5, 7, 1, 0] rfl)
          · replace HW := HW.2 c_58
            refine lv_iload hx hb dX11_reads_61 (lv_at hl 0 rfl) ?_
            refine lv_bipush (v := 41) hx hb dX11_reads_63 (by decide) ?_
            refine lv_icmp_ne (tgt := 99) hx hb dX11_reads_65 (by decide) (fun c_65 => ?_) (fun c_65 => ?_)
            · replace HW := HW.1 c_65
              exact B99 K25 hK25 x1 x2 x4 x5_42 h g _ _ _ HW hG (lv_sub hl [1, 2, 3, 5, 0] rfl)
            · replace HW := HW.2 c_65
              refine lv_iload_n hx hb dX11_reads_68 rfl (lv_at hl 3 rfl) ?_
              refine lv_if_le (tgt := 99) hx hb dX11_reads_69 (by decide) (fun c_69 => ?_) (fun c_69 => ?_)
              · replace HW := HW.1 c_69
                exact B99 K25 hK25 x1 x2 x4 x5_42 h g _ _ _ HW hG (lv_sub hl [1, 2, 3, 5, 0] rfl)
              · replace HW := HW.2 c_69
                refine lv_aload_n hx hb dX11_reads_72 rfl (lv_at hl 1 rfl) ?_
                refine lv_iconst (v := 1) hx hb dX11_reads_73 (by decide) ?_
                obtain ⟨P_74, HC_74, HW⟩ := HW
                refine g_callv (g_runV (As := [.int (1 : Int32)]) (rest := []) ⟨hx, hb, hml, hown, hts⟩ (m_X11_settles l D cy ad h g H.size (1 : Int32) P_74 HC_74) (cwV 1 hts (gd_V (wm5 153 rfl rfl) (wm5 155 rfl rfl) (wmp3 (q := (yX11_settles, 26)) 10 rfl) (wm1 13 rfl rfl) (wm5 156 rfl rfl)) rfl rfl rfl (by decide +kernel) ⟨Nat.le_of_ble_eq_true rfl, Nat.le_of_ble_eq_true rfl⟩) hK hNw hG gl_135 rfl gk_135 (by decide) rfl rfl hl.1 rfl (lv_room (Nat.le_of_ble_eq_true rfl)) dX11_reads_74 ⟨Nat.zero_le _, Nat.zero_le _⟩) hG (fun h_74 g_74 H locs hq hG => ?_)
                replace HW := HW h_74 g_74 hq
                refine lv_aload_n hx hb dX11_reads_77 rfl (lv_at hl 1 rfl) ?_
                refine lv_dup hx hb dX11_reads_78 rfl ?_
                refine g_geti hx hb hw inG11 hown hK hG gl_135 rfl gk_135 (by decide) 6 (by decide) (by rw [gm_135]; decide) gr_135_6 lk82 dX11_reads_79 ?_
                refine lv_iconst (v := 1) hx hb dX11_reads_82 (by decide) ?_
                refine lv_isub hx hb dX11_reads_83 ?_
                refine g_put hx hb hw inG11 tyX11 tyX11_ok nmX11 hown hK hG gl_135 rfl gk_135 (by decide) 6 (by decide) (by rw [gm_135]; decide) gr_135_6 rfl (ty := .int) (by decide +kernel) rfl rfl lk82 dX11_reads_84 (fun H locs hG => ?_)
                obtain ⟨h_84, eh_84⟩ : ∃ y : HI, y = hu h_74 135 6 ((h_74 135 6) - (1 : Int32)) := ⟨_, rfl⟩
                rw [← eh_84] at hG
                replace HW := HW h_84 eh_84
                obtain ⟨x2_87, ex2_87⟩ : ∃ y : Int32, y = (x2 + (-1)) := ⟨_, rfl⟩
                replace HW := HW x2_87 ex2_87
                refine lv_iinc (v := x2_87) (lv' := [(2, .int x2_87), (5, .int x5_42), (0, .ref (ad 135)), (1, .int x1), (3, .int x3), (4, .int x4)]) hx hb dX11_reads_87 hl (k := 3) rfl (by rw [ex2_87]; rfl) (by decide) rfl (fun ls hl => ?_)
                refine lv_aload_n hx hb dX11_reads_90 rfl (lv_at hl 2 rfl) ?_
                refine lv_bipush (v := 6) hx hb dX11_reads_91 (by decide) ?_
                obtain ⟨P_93, HC_93, HW⟩ := HW
                refine g_callv (g_runV (As := [.int (6 : Int32)]) (rest := []) ⟨hx, hb, hml, hown, hts⟩ (m_X11_settles l D cy ad h_84 g_74 H.size (6 : Int32) P_93 HC_93) (cwV 1 hts (gd_V (wm5 153 rfl rfl) (wm5 155 rfl rfl) (wmp3 (q := (yX11_settles, 26)) 10 rfl) (wm1 13 rfl rfl) (wm5 156 rfl rfl)) rfl rfl rfl (by decide +kernel) ⟨Nat.le_of_ble_eq_true rfl, Nat.le_of_ble_eq_true rfl⟩) hK hNw hG gl_135 rfl gk_135 (by decide) rfl rfl hl.1 rfl (lv_room (Nat.le_of_ble_eq_true rfl)) dX11_reads_93 ⟨Nat.zero_le _, Nat.zero_le _⟩) hG (fun h_93 g_93 H locs hq hG => ?_)
                replace HW := HW h_93 g_93 hq
                refine lv_goto (tgt := 133) hx hb dX11_reads_96 (by decide) ?_
                exact B133 K25 hK25 x1 x2_87 x3 x4 h_93 g_93 _ _ _ HW hG (lv_sub hl [2, 3, 0, 4, 5] rfl)
        · replace HW := HW.2 c_48
          obtain ⟨x4_51, ex4_51⟩ : ∃ y : Int32, y = (x4 + 1) := ⟨_, rfl⟩
          replace HW := HW x4_51 ex4_51
          refine lv_iinc (v := x4_51) (lv' := [(4, .int x4_51), (5, .int x5_42), (0, .ref (ad 135)), (1, .int x1), (2, .int x2), (3, .int x3)]) hx hb dX11_reads_51 hl (k := 5) rfl (by rw [ex4_51]; rfl) (by decide) rfl (fun ls hl => ?_)
          refine lv_goto (tgt := 368) hx hb dX11_reads_54 (by decide) ?_
          exact B368 K25 hK25 x1 x2 x3 x4_51 h g _ _ _ HW hG (lv_sub hl [2, 3, 4, 5, 0] rfl)
  have E0 : ∀ (H : Heap) (locs : List Loc) (ls : Array Slot), gG D cy ad (gA ad s.heap.size) s.heap h g H locs → lv_has ls 8 [(0, .ref (ad 135))] → W p l e ({ frames := 3, cells := 0, slots := 0, locals := 65 } : Room) s m args below meth c H locs 0 0 (MQ below (va_Qi (fun (r : Int32) (u : HI × HL) => Q r u.1 u.2) (gB D cy ad s.heap.size) (gA ad s.heap.size)) args s 0 0 (gA ad s.heap.size)) (F0 m 0 ls []) := by
    intro H locs ls hG hl
    unfold w_X11_reads at HW
    refine lv_aload_n hx hb dX11_reads_0 rfl (lv_at hl 0 rfl) ?_
    refine g_getr hx hb hw inG11 hown hK hG gl_135 rfl gk_135 (by decide) 0 (by decide) (by rw [gm_135]; decide) (r := 136) gr_135_0 lk7 dX11_reads_1 ?_
    refine lv_bipush (v := 8) hx hb dX11_reads_4 (by decide) ?_
    refine g_iald hx hb hK hG gl_136 gk_136 gn_136 HW.1 dX11_reads_6 ?_
    replace HW := HW.2
    refine lv_topi (fun x1_7 ex1_7 => ?_)
    replace HW := HW x1_7 ex1_7
    refine lv_istore_n (lv' := [(1, .int x1_7), (0, .ref (ad 135))]) hx hb dX11_reads_7 rfl hl (by decide) rfl (fun ls hl => ?_)
    refine lv_aload_n hx hb dX11_reads_8 rfl (lv_at hl 1 rfl) ?_
    refine lv_iconst (v := 0) hx hb dX11_reads_9 (by decide) ?_
    refine g_put hx hb hw inG11 tyX11 tyX11_ok nmX11 hown hK hG gl_135 rfl gk_135 (by decide) 3 (by decide) (by rw [gm_135]; decide) gr_135_3 rfl (ty := .int) (by decide +kernel) rfl rfl lk78 dX11_reads_10 (fun H locs hG => ?_)
    obtain ⟨h_10, eh_10⟩ : ∃ y : HI, y = hu h 135 3 (0 : Int32) := ⟨_, rfl⟩
    rw [← eh_10] at hG
    replace HW := HW h_10 eh_10
    refine lv_aload_n hx hb dX11_reads_13 rfl (lv_at hl 1 rfl) ?_
    refine lv_iconst (v := 0) hx hb dX11_reads_14 (by decide) ?_
    refine g_put hx hb hw inG11 tyX11 tyX11_ok nmX11 hown hK hG gl_135 rfl gk_135 (by decide) 6 (by decide) (by rw [gm_135]; decide) gr_135_6 rfl (ty := .int) (by decide +kernel) rfl rfl lk82 dX11_reads_15 (fun H locs hG => ?_)
    obtain ⟨h_15, eh_15⟩ : ∃ y : HI, y = hu h_10 135 6 (0 : Int32) := ⟨_, rfl⟩
    rw [← eh_15] at hG
    replace HW := HW h_15 eh_15
    refine lv_iconst (v := 0) hx hb dX11_reads_18 (by decide) ?_
    refine lv_istore_n (lv' := [(2, .int (0 : Int32)), (1, .int x1_7), (0, .ref (ad 135))]) hx hb dX11_reads_19 rfl hl (by decide) rfl (fun ls hl => ?_)
    refine lv_iconst (v := 0) hx hb dX11_reads_20 (by decide) ?_
    refine lv_istore_n (lv' := [(3, .int (0 : Int32)), (2, .int (0 : Int32)), (1, .int x1_7), (0, .ref (ad 135))]) hx hb dX11_reads_21 rfl hl (by decide) rfl (fun ls hl => ?_)
    refine lv_iconst (v := 0) hx hb dX11_reads_22 (by decide) ?_
    refine lv_istore (lv' := [(4, .int (0 : Int32)), (3, .int (0 : Int32)), (2, .int (0 : Int32)), (1, .int x1_7), (0, .ref (ad 135))]) hx hb dX11_reads_23 hl (by decide) rfl (fun ls hl => ?_)
    obtain ⟨n_25, HW⟩ := HW
    exact L25 n_25 x1_7 (0 : Int32) (0 : Int32) (0 : Int32) h_15 g _ _ _ HW hG (lv_sub hl [4, 3, 2, 1, 0] rfl)
  exact E0 _ _ _ hG hl
