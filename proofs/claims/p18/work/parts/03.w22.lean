def w_X11_need (x1 : Int32) (x2 : Int32) (h : HI) (g : HL) (Q : Int32 → HI → HL → Prop) : Prop :=
  (∃ P_6 : Int32 → HI → HL → Prop, w_X11_in ((x1).toInt64) (0 : Int64) (3 : Int64) h g P_6 ∧ ∀ (r_6 : Int32) (h_6 : HI) (g_6 : HL), zb r_6 → P_6 r_6 h_6 g_6 → ((r_6 = 0 → Q (-2 : Int32) h_6 g_6) ∧ (¬ r_6 = 0 → (∃ P_18 : Int32 → HI → HL → Prop, w_X11_in ((x2).toInt64) (0 : Int64) (9 : Int64) h_6 g_6 P_18 ∧ ∀ (r_18 : Int32) (h_18 : HI) (g_18 : HL), zb r_18 → P_18 r_18 h_18 g_18 → ((r_18 = 0 → Q (-2 : Int32) h_18 g_18) ∧ (¬ r_18 = 0 → (∃ P_31 : Int32 → HI → HL → Prop, w_X11_puts ((823 : Int32) + x1) x2 h_18 g_18 P_31 ∧ ∀ (r_31 : Int32) (h_31 : HI) (g_31 : HL), P_31 r_31 h_31 g_31 → Q r_31 h_31 g_31)))))))
set_option maxHeartbeats 8000000 in
set_option maxRecDepth 100000 in
theorem m_X11_need (l : Launch) (D : va_G) (cy : Nat → ClassId) (ad : Nat → Nat) (h : HI) (g : HL) (sz : Nat) (x1 : Int32) (x2 : Int32) (Q : Int32 → HI → HL → Prop) (HW : w_X11_need x1 x2 h g Q) : Met l yX11_need (wa yX11_need cX11_need 3 (some .int)) ({ frames := 1, cells := 0, slots := 0, locals := 25 }) (va_Pc [.ref (ad 135), .int x1, .int x2] (gI D cy ad h g sz)) (va_Qi (fun (r : Int32) (u : HI × HL) => Q r u.1 u.2) (gB D cy ad sz) (gA ad sz)) 0 0 (gA ad sz) := by
  refine Met.ofW (cc := cX11_need) (maxL := 3) (ret := (some .int)) (by decide) rfl ?_
  intro p e s m args below meth c s₁ B hml hv
  obtain ⟨hav, hsz, hP, hK, hD0, hNw⟩ := hv
  have hx := B.exec
  have hb := B.bytes
  have hr := B.returns
  have hts := atoms_spec (ws := (wa yX11_need cX11_need 3 (some .int))) B.pre
  have hw := wa_hw hts
  have hown : s.vm.findClass RX11 = some m.cls := findClass_of_methodNamed B.named
  have hlocks := B.notSynchronized
  subst hsz
  have hG : gG D cy ad (gA ad s.heap.size) s.heap h g s.heap [] := ⟨hP, gA_self hD0, va_S.rf⟩
  clear hP hD0
  have cn67 := hw (.constantLong RX11 67 (3)) (wm5 119 rfl rfl)
  have cn258 := hw (.constantLong RX11 258 (9)) (wm6 120 rfl rfl)
  rw [show (headSpec (wa yX11_need cX11_need 3 (some .int)) ({ frames := 1, cells := 0, slots := 0, locals := 25 } : Room)).room = ({ frames := 1, cells := 0, slots := 0, locals := 25 } : Room) from rfl]
  have hl := lv_entry ([.ref (ad 135), .int x1, .int x2]) (n := 3) (Nat.le_of_ble_eq_true rfl)
  rw [show entryFrame m args 3 = entryFrame m ([.ref (ad 135), .int x1, .int x2] : List Value).toArray 3 from by rw [hav], lg_entry_eq]
  generalize (lg_sl ([.ref (ad 135), .int x1, .int x2]) ++ List.replicate (3 - (lg_sl ([.ref (ad 135), .int x1, .int x2])).length) Slot.unset).toArray = ls at hl ⊢
  have hl : lv_has ls 3 [(0, .ref (ad 135)), (1, .int x1), (2, .int x2)] := hl
  have E0 : ∀ (H : Heap) (locs : List Loc) (ls : Array Slot), gG D cy ad (gA ad s.heap.size) s.heap h g H locs → lv_has ls 3 [(0, .ref (ad 135)), (1, .int x1), (2, .int x2)] → W p l e ({ frames := 1, cells := 0, slots := 0, locals := 25 } : Room) s m args below meth c H locs 0 0 (MQ below (va_Qi (fun (r : Int32) (u : HI × HL) => Q r u.1 u.2) (gB D cy ad s.heap.size) (gA ad s.heap.size)) args s 0 0 (gA ad s.heap.size)) (F0 m 0 ls []) := by
    intro H locs ls hG hl
    unfold w_X11_need at HW
    refine lv_iload_n hx hb dX11_need_0 rfl (lv_at hl 1 rfl) ?_
    refine lv_i2l hx hb dX11_need_1 rfl ?_
    refine lv_lconst (v := 0) hx hb dX11_need_2 (by decide) ?_
    refine lv_ldc2 (v := 3) hx hb hown cn67 dX11_need_3 ?_
    obtain ⟨P_6, HC_6, HW⟩ := HW
    refine g_callz (g_runS (As := [.long ((x1).toInt64), .long (0 : Int64), .long (3 : Int64)]) (rest := []) ⟨hx, hb, hml, hown, hts⟩ (m_X11_in l D cy ad h g H.size ((x1).toInt64) (0 : Int64) (3 : Int64) P_6 HC_6) (va_cwS 3 hts (gd_S (wm5 111 rfl rfl) (wm5 112 rfl rfl) (wm1 13 rfl rfl) (wm5 113 rfl rfl)) rfl rfl rfl (by decide +kernel) ⟨Nat.le_of_ble_eq_true rfl, Nat.le_of_ble_eq_true rfl⟩) hK hNw hG rfl rfl hl.1 rfl (lv_room (Nat.le_of_ble_eq_true rfl)) dX11_need_6 ⟨Nat.zero_le _, Nat.zero_le _⟩) hG (fun r_6 h_6 g_6 H locs hz hq hG => ?_)
    replace HW := HW r_6 h_6 g_6 hz hq
    refine lv_if_eq (tgt := 37) hx hb dX11_need_9 (by decide) (fun c_9 => ?_) (fun c_9 => ?_)
    · replace HW := HW.1 c_9
      refine lv_bipush (v := (-2)) hx hb dX11_need_37 (by decide) ?_
      exact W.iret (v := (-2 : Int32)) hx hb hr (fun t ht hW => ⟨⟨(-2 : Int32), (h_6, g_6), rfl, HW, g_B ht hG⟩, hG.2.2.F ht⟩) hG.2.2.2.2 dX11_need_39
    · replace HW := HW.2 c_9
      refine lv_iload_n hx hb dX11_need_12 rfl (lv_at hl 2 rfl) ?_
      refine lv_i2l hx hb dX11_need_13 rfl ?_
      refine lv_lconst (v := 0) hx hb dX11_need_14 (by decide) ?_
      refine lv_ldc2 (v := 9) hx hb hown cn258 dX11_need_15 ?_
      obtain ⟨P_18, HC_18, HW⟩ := HW
      refine g_callz (g_runS (As := [.long ((x2).toInt64), .long (0 : Int64), .long (9 : Int64)]) (rest := []) ⟨hx, hb, hml, hown, hts⟩ (m_X11_in l D cy ad h_6 g_6 H.size ((x2).toInt64) (0 : Int64) (9 : Int64) P_18 HC_18) (va_cwS 3 hts (gd_S (wm5 111 rfl rfl) (wm5 112 rfl rfl) (wm1 13 rfl rfl) (wm5 113 rfl rfl)) rfl rfl rfl (by decide +kernel) ⟨Nat.le_of_ble_eq_true rfl, Nat.le_of_ble_eq_true rfl⟩) hK hNw hG rfl rfl hl.1 rfl (lv_room (Nat.le_of_ble_eq_true rfl)) dX11_need_18 ⟨Nat.zero_le _, Nat.zero_le _⟩) hG (fun r_18 h_18 g_18 H locs hz hq hG => ?_)
      replace HW := HW r_18 h_18 g_18 hz hq
      refine lv_if_eq (tgt := 37) hx hb dX11_need_21 (by decide) (fun c_21 => ?_) (fun c_21 => ?_)
      · replace HW := HW.1 c_21
        refine lv_bipush (v := (-2)) hx hb dX11_need_37 (by decide) ?_
        exact W.iret (v := (-2 : Int32)) hx hb hr (fun t ht hW => ⟨⟨(-2 : Int32), (h_18, g_18), rfl, HW, g_B ht hG⟩, hG.2.2.F ht⟩) hG.2.2.2.2 dX11_need_39
      · replace HW := HW.2 c_21
        refine lv_aload_n hx hb dX11_need_24 rfl (lv_at hl 0 rfl) ?_
        refine lv_sipush (v := 823) hx hb dX11_need_25 (by decide) ?_
        refine lv_iload_n hx hb dX11_need_28 rfl (lv_at hl 1 rfl) ?_
        refine lv_iadd hx hb dX11_need_29 ?_
        refine lv_iload_n hx hb dX11_need_30 rfl (lv_at hl 2 rfl) ?_
        obtain ⟨P_31, HC_31, HW⟩ := HW
        refine g_calli (g_runV (As := [.int ((823 : Int32) + x1), .int x2]) (rest := []) ⟨hx, hb, hml, hown, hts⟩ (m_X11_puts l D cy ad h_18 g_18 H.size ((823 : Int32) + x1) x2 P_31 HC_31) (cwV 2 hts (gd_V (wm5 141 rfl rfl) (wm5 143 rfl rfl) (wmp3 (q := (yX11_puts, 26)) 8 rfl) (wm1 13 rfl rfl) (wm5 144 rfl rfl)) rfl rfl rfl (by decide +kernel) ⟨Nat.le_of_ble_eq_true rfl, Nat.le_of_ble_eq_true rfl⟩) hK hNw hG gl_135 rfl gk_135 (by decide) rfl rfl hl.1 rfl (lv_room (Nat.le_of_ble_eq_true rfl)) dX11_need_31 ⟨Nat.zero_le _, Nat.zero_le _⟩) hG (fun r_31 h_31 g_31 H locs hq hG => ?_)
        replace HW := HW r_31 h_31 g_31 hq
        refine lv_goto (tgt := 39) hx hb dX11_need_34 (by decide) ?_
        exact W.iret (v := r_31) hx hb hr (fun t ht hW => ⟨⟨r_31, (h_31, g_31), rfl, HW, g_B ht hG⟩, hG.2.2.F ht⟩) hG.2.2.2.2 dX11_need_39
  exact E0 _ _ _ hG hl

def w_X11_isThere (x1 : Int32) (x2 : Int32) (h : HI) (g : HL) (Q : Int32 → HI → HL → Prop) : Prop :=
  (∃ P_4 : Int32 → HI → HL → Prop, w_X11_is (7 : Int32) x1 h g P_4 ∧ ∀ (r_4 : Int32) (h_4 : HI) (g_4 : HL), zb r_4 → P_4 r_4 h_4 g_4 → ((r_4 = 0 → Q (0 : Int32) h_4 g_4) ∧ (¬ r_4 = 0 → (vp_in (((817 : Int32) + ((2 : Int32) * x1)) + (1 : Int32)) 887 ∧ (((h_4 136 (((817 : Int32) + ((2 : Int32) * x1)) + (1 : Int32)).toNatClampNeg) ≤ x2 → Q (0 : Int32) h_4 g_4) ∧ (¬ (h_4 136 (((817 : Int32) + ((2 : Int32) * x1)) + (1 : Int32)).toNatClampNeg) ≤ x2 → Q (1 : Int32) h_4 g_4))))))
set_option maxHeartbeats 8000000 in
set_option maxRecDepth 100000 in
theorem m_X11_isThere (l : Launch) (D : va_G) (cy : Nat → ClassId) (ad : Nat → Nat) (h : HI) (g : HL) (sz : Nat) (x1 : Int32) (x2 : Int32) (Q : Int32 → HI → HL → Prop) (HW : w_X11_isThere x1 x2 h g Q) : Met l yX11_isThere (wa yX11_isThere cX11_isThere 3 (some .boolean)) ({ frames := 2, cells := 0, slots := 0, locals := 47 }) (va_Pc [.ref (ad 135), .int x1, .int x2] (gI D cy ad h g sz)) (va_Qi (fun (r : Int32) (u : HI × HL) => zb r ∧ Q r u.1 u.2) (gB D cy ad sz) (gA ad sz)) 0 0 (gA ad sz) := by
  refine Met.ofW (cc := cX11_isThere) (maxL := 3) (ret := (some .boolean)) (by decide) rfl ?_
  intro p e s m args below meth c s₁ B hml hv
  obtain ⟨hav, hsz, hP, hK, hD0, hNw⟩ := hv
  have hx := B.exec
  have hb := B.bytes
  have hr := B.returns
  have hts := atoms_spec (ws := (wa yX11_isThere cX11_isThere 3 (some .boolean))) B.pre
  have hw := wa_hw hts
  have hown : s.vm.findClass RX11 = some m.cls := findClass_of_methodNamed B.named
  have hlocks := B.notSynchronized
  subst hsz
  have hG : gG D cy ad (gA ad s.heap.size) s.heap h g s.heap [] := ⟨hP, gA_self hD0, va_S.rf⟩
  clear hP hD0
  have lk7 := hw (.fieldLink RX11 7 "OldWorksModel" "st" "[I") (wm5 27 rfl rfl)
  rw [show (headSpec (wa yX11_isThere cX11_isThere 3 (some .boolean)) ({ frames := 2, cells := 0, slots := 0, locals := 47 } : Room)).room = ({ frames := 2, cells := 0, slots := 0, locals := 47 } : Room) from rfl]
  have hl := lv_entry ([.ref (ad 135), .int x1, .int x2]) (n := 3) (Nat.le_of_ble_eq_true rfl)
  rw [show entryFrame m args 3 = entryFrame m ([.ref (ad 135), .int x1, .int x2] : List Value).toArray 3 from by rw [hav], lg_entry_eq]
  generalize (lg_sl ([.ref (ad 135), .int x1, .int x2]) ++ List.replicate (3 - (lg_sl ([.ref (ad 135), .int x1, .int x2])).length) Slot.unset).toArray = ls at hl ⊢
  have hl : lv_has ls 3 [(0, .ref (ad 135)), (1, .int x1), (2, .int x2)] := hl
  have E0 : ∀ (H : Heap) (locs : List Loc) (ls : Array Slot), gG D cy ad (gA ad s.heap.size) s.heap h g H locs → lv_has ls 3 [(0, .ref (ad 135)), (1, .int x1), (2, .int x2)] → W p l e ({ frames := 2, cells := 0, slots := 0, locals := 47 } : Room) s m args below meth c H locs 0 0 (MQ below (va_Qi (fun (r : Int32) (u : HI × HL) => zb r ∧ Q r u.1 u.2) (gB D cy ad s.heap.size) (gA ad s.heap.size)) args s 0 0 (gA ad s.heap.size)) (F0 m 0 ls []) := by
    intro H locs ls hG hl
    unfold w_X11_isThere at HW
    refine lv_aload_n hx hb dX11_isThere_0 rfl (lv_at hl 0 rfl) ?_
    refine lv_bipush (v := 7) hx hb dX11_isThere_1 (by decide) ?_
    refine lv_iload_n hx hb dX11_isThere_3 rfl (lv_at hl 1 rfl) ?_
    obtain ⟨P_4, HC_4, HW⟩ := HW
    refine g_callz (g_runV (As := [.int (7 : Int32), .int x1]) (rest := []) ⟨hx, hb, hml, hown, hts⟩ (m_X11_is l D cy ad h g H.size (7 : Int32) x1 P_4 HC_4) (cwV 2 hts (gd_V (wm5 184 rfl rfl) (wm5 186 rfl rfl) (wmp3 (q := (yX11_is, 26)) 14 rfl) (wm1 13 rfl rfl) (wm5 187 rfl rfl)) rfl rfl rfl (by decide +kernel) ⟨Nat.le_of_ble_eq_true rfl, Nat.le_of_ble_eq_true rfl⟩) hK hNw hG gl_135 rfl gk_135 (by decide) rfl rfl hl.1 rfl (lv_room (Nat.le_of_ble_eq_true rfl)) dX11_isThere_4 ⟨Nat.zero_le _, Nat.zero_le _⟩) hG (fun r_4 h_4 g_4 H locs hz hq hG => ?_)
    replace HW := HW r_4 h_4 g_4 hz hq
    refine lv_if_eq (tgt := 32) hx hb dX11_isThere_7 (by decide) (fun c_7 => ?_) (fun c_7 => ?_)
    · replace HW := HW.1 c_7
      refine lv_iconst (v := 0) hx hb dX11_isThere_32 (by decide) ?_
      exact W.zret (v := (0 : Int32)) hx hb hr rfl (fun t ht hW => ⟨⟨(0 : Int32), (h_4, g_4), rfl, ⟨Or.inl rfl, HW⟩, g_B ht hG⟩, hG.2.2.F ht⟩) hG.2.2.2.2 dX11_isThere_33
    · replace HW := HW.2 c_7
      refine lv_iload_n hx hb dX11_isThere_10 rfl (lv_at hl 2 rfl) ?_
      refine lv_aload_n hx hb dX11_isThere_11 rfl (lv_at hl 0 rfl) ?_
      refine g_getr hx hb hw inG11 hown hK hG gl_135 rfl gk_135 (by decide) 0 (by decide) (by rw [gm_135]; decide) (r := 136) gr_135_0 lk7 dX11_isThere_12 ?_
      refine lv_sipush (v := 817) hx hb dX11_isThere_15 (by decide) ?_
      refine lv_iconst (v := 2) hx hb dX11_isThere_18 (by decide) ?_
      refine lv_iload_n hx hb dX11_isThere_19 rfl (lv_at hl 1 rfl) ?_
      refine lv_imul hx hb dX11_isThere_20 ?_
      refine lv_iadd hx hb dX11_isThere_21 ?_
      refine lv_iconst (v := 1) hx hb dX11_isThere_22 (by decide) ?_
      refine lv_iadd hx hb dX11_isThere_23 ?_
      refine g_iald hx hb hK hG gl_136 gk_136 gn_136 HW.1 dX11_isThere_24 ?_
      replace HW := HW.2
      refine lv_icmp_ge (tgt := 32) hx hb dX11_isThere_25 (by decide) (fun c_25 => ?_) (fun c_25 => ?_)
      · replace HW := HW.1 c_25
        refine lv_iconst (v := 0) hx hb dX11_isThere_32 (by decide) ?_
        exact W.zret (v := (0 : Int32)) hx hb hr rfl (fun t ht hW => ⟨⟨(0 : Int32), (h_4, g_4), rfl, ⟨Or.inl rfl, HW⟩, g_B ht hG⟩, hG.2.2.F ht⟩) hG.2.2.2.2 dX11_isThere_33
      · replace HW := HW.2 c_25
        refine lv_iconst (v := 1) hx hb dX11_isThere_28 (by decide) ?_
        refine lv_goto (tgt := 33) hx hb dX11_isThere_29 (by decide) ?_
        exact W.zret (v := (1 : Int32)) hx hb hr rfl (fun t ht hW => ⟨⟨(1 : Int32), (h_4, g_4), rfl, ⟨Or.inr rfl, HW⟩, g_B ht hG⟩, hG.2.2.F ht⟩) hG.2.2.2.2 dX11_isThere_33
  exact E0 _ _ _ hG hl

def w_X11_canOf (x0 : Int32) (x1 : Int32) (h : HI) (g : HL) (Q : Int32 → HI → HL → Prop) : Prop :=
  Q ((x0 >>> (((4 : Int32) * x1) &&& 31)) &&& (15 : Int32)) h g
set_option maxHeartbeats 8000000 in
set_option maxRecDepth 100000 in
theorem m_X11_canOf (l : Launch) (D : va_G) (cy : Nat → ClassId) (ad : Nat → Nat) (h : HI) (g : HL) (sz : Nat) (x0 : Int32) (x1 : Int32) (Q : Int32 → HI → HL → Prop) (HW : w_X11_canOf x0 x1 h g Q) : Met l yX11_canOf (wa yX11_canOf cX11_canOf 2 (some .int)) ({ frames := 0, cells := 0, slots := 0, locals := 0 }) (va_Pc [.int x0, .int x1] (gI D cy ad h g sz)) (va_Qi (fun (r : Int32) (u : HI × HL) => Q r u.1 u.2) (gB D cy ad sz) (gA ad sz)) 0 0 (gA ad sz) := by
  refine Met.ofW (cc := cX11_canOf) (maxL := 2) (ret := (some .int)) (by decide) rfl ?_
  intro p e s m args below meth c s₁ B hml hv
  obtain ⟨hav, hsz, hP, hK, hD0, hNw⟩ := hv
  have hx := B.exec
  have hb := B.bytes
  have hr := B.returns
  have hts := atoms_spec (ws := (wa yX11_canOf cX11_canOf 2 (some .int))) B.pre
  have hw := wa_hw hts
  have hown : s.vm.findClass RX11 = some m.cls := findClass_of_methodNamed B.named
  have hlocks := B.notSynchronized
  subst hsz
  have hG : gG D cy ad (gA ad s.heap.size) s.heap h g s.heap [] := ⟨hP, gA_self hD0, va_S.rf⟩
  clear hP hD0
  rw [show (headSpec (wa yX11_canOf cX11_canOf 2 (some .int)) ({ frames := 0, cells := 0, slots := 0, locals := 0 } : Room)).room = ({ frames := 0, cells := 0, slots := 0, locals := 0 } : Room) from rfl]
  have hl := lv_entry ([.int x0, .int x1]) (n := 2) (Nat.le_of_ble_eq_true rfl)
  rw [show entryFrame m args 2 = entryFrame m ([.int x0, .int x1] : List Value).toArray 2 from by rw [hav], lg_entry_eq]
  generalize (lg_sl ([.int x0, .int x1]) ++ List.replicate (2 - (lg_sl ([.int x0, .int x1])).length) Slot.unset).toArray = ls at hl ⊢
  have hl : lv_has ls 2 [(0, .int x0), (1, .int x1)] := hl
  have E0 : ∀ (H : Heap) (locs : List Loc) (ls : Array Slot), gG D cy ad (gA ad s.heap.size) s.heap h g H locs → lv_has ls 2 [(0, .int x0), (1, .int x1)] → W p l e ({ frames := 0, cells := 0, slots := 0, locals := 0 } : Room) s m args below meth c H locs 0 0 (MQ below (va_Qi (fun (r : Int32) (u : HI × HL) => Q r u.1 u.2) (gB D cy ad s.heap.size) (gA ad s.heap.size)) args s 0 0 (gA ad s.heap.size)) (F0 m 0 ls []) := by
    intro H locs ls hG hl
    unfold w_X11_canOf at HW
    refine lv_iload_n hx hb dX11_canOf_0 rfl (lv_at hl 0 rfl) ?_
    refine lv_iconst (v := 4) hx hb dX11_canOf_1 (by decide) ?_
    refine lv_iload_n hx hb dX11_canOf_2 rfl (lv_at hl 1 rfl) ?_
    refine lv_imul hx hb dX11_canOf_3 ?_
    refine lv_ishr hx hb dX11_canOf_4 ?_
    refine lv_bipush (v := 15) hx hb dX11_canOf_5 (by decide) ?_
    refine lv_iand hx hb dX11_canOf_7 ?_
    exact W.iret (v := ((x0 >>> (((4 : Int32) * x1) &&& 31)) &&& (15 : Int32))) hx hb hr (fun t ht hW => ⟨⟨((x0 >>> (((4 : Int32) * x1) &&& 31)) &&& (15 : Int32)), (h, g), rfl, HW, g_B ht hG⟩, hG.2.2.F ht⟩) hG.2.2.2.2 dX11_canOf_8
  exact E0 _ _ _ hG hl

def w_X11_mayTeach (x1 : Int32) (x2 : Int32) (x3 : Int32) (h : HI) (g : HL) (Q : Int32 → HI → HL → Prop) : Prop :=
  (∀ x4_4 : Int32, x4_4 = (x3 / (16 : Int32)) → (∀ x5_11 : Int32, x5_11 = ((x3 / (4 : Int32)) - (x3 / (4 : Int32)) / (4 : Int32) * (4 : Int32)) → (∀ x6_16 : Int32, x6_16 = (x3 - x3 / (4 : Int32) * (4 : Int32)) → ((x4_4 = x6_16 → Q (0 : Int32) h g) ∧ (¬ x4_4 = x6_16 → (∃ P_29 : Int32 → HI → HL → Prop, w_X11_isThere x4_4 x2 h g P_29 ∧ ∀ (r_29 : Int32) (h_29 : HI) (g_29 : HL), zb r_29 → P_29 r_29 h_29 g_29 → ((r_29 = 0 → Q (0 : Int32) h_29 g_29) ∧ (¬ r_29 = 0 → (∃ P_39 : Int32 → HI → HL → Prop, w_X11_isThere x6_16 x2 h_29 g_29 P_39 ∧ ∀ (r_39 : Int32) (h_39 : HI) (g_39 : HL), zb r_39 → P_39 r_39 h_39 g_39 → ((r_39 = 0 → Q (0 : Int32) h_39 g_39) ∧ (¬ r_39 = 0 → (∃ P_48 : Int32 → HI → HL → Prop, w_X11_canOf x1 x4_4 h_39 g_39 P_48 ∧ ∀ (r_48 : Int32) (h_48 : HI) (g_48 : HL), P_48 r_48 h_48 g_48 → ((¬ ((r_48 >>> (x5_11 &&& 31)) &&& (1 : Int32)) = (1 : Int32) → Q (0 : Int32) h_48 g_48) ∧ (((r_48 >>> (x5_11 &&& 31)) &&& (1 : Int32)) = (1 : Int32) → (∃ P_63 : Int32 → HI → HL → Prop, w_X11_canOf x1 x6_16 h_48 g_48 P_63 ∧ ∀ (r_63 : Int32) (h_63 : HI) (g_63 : HL), P_63 r_63 h_63 g_63 → ((¬ ((r_63 >>> (x5_11 &&& 31)) &&& (1 : Int32)) = 0 → Q (0 : Int32) h_63 g_63) ∧ (((r_63 >>> (x5_11 &&& 31)) &&& (1 : Int32)) = 0 → Q (1 : Int32) h_63 g_63)))))))))))))))))
set_option maxHeartbeats 8000000 in
set_option maxRecDepth 100000 in
theorem m_X11_mayTeach (l : Launch) (D : va_G) (cy : Nat → ClassId) (ad : Nat → Nat) (h : HI) (g : HL) (sz : Nat) (x1 : Int32) (x2 : Int32) (x3 : Int32) (Q : Int32 → HI → HL → Prop) (HW : w_X11_mayTeach x1 x2 x3 h g Q) : Met l yX11_mayTeach (wa yX11_mayTeach cX11_mayTeach 7 (some .boolean)) ({ frames := 3, cells := 0, slots := 0, locals := 69 }) (va_Pc [.ref (ad 135), .int x1, .int x2, .int x3] (gI D cy ad h g sz)) (va_Qi (fun (r : Int32) (u : HI × HL) => zb r ∧ Q r u.1 u.2) (gB D cy ad sz) (gA ad sz)) 0 0 (gA ad sz) := by
  refine Met.ofW (cc := cX11_mayTeach) (maxL := 7) (ret := (some .boolean)) (by decide) rfl ?_
  intro p e s m args below meth c s₁ B hml hv
  obtain ⟨hav, hsz, hP, hK, hD0, hNw⟩ := hv
  have hx := B.exec
  have hb := B.bytes
  have hr := B.returns
  have hts := atoms_spec (ws := (wa yX11_mayTeach cX11_mayTeach 7 (some .boolean))) B.pre
  have hw := wa_hw hts
  have hown : s.vm.findClass RX11 = some m.cls := findClass_of_methodNamed B.named
  have hlocks := B.notSynchronized
  subst hsz
  have hG : gG D cy ad (gA ad s.heap.size) s.heap h g s.heap [] := ⟨hP, gA_self hD0, va_S.rf⟩
  clear hP hD0
  rw [show (headSpec (wa yX11_mayTeach cX11_mayTeach 7 (some .boolean)) ({ frames := 3, cells := 0, slots := 0, locals := 69 } : Room)).room = ({ frames := 3, cells := 0, slots := 0, locals := 69 } : Room) from rfl]
  have hl := lv_entry ([.ref (ad 135), .int x1, .int x2, .int x3]) (n := 7) (Nat.le_of_ble_eq_true rfl)
  rw [show entryFrame m args 7 = entryFrame m ([.ref (ad 135), .int x1, .int x2, .int x3] : List Value).toArray 7 from by rw [hav], lg_entry_eq]
  generalize (lg_sl ([.ref (ad 135), .int x1, .int x2, .int x3]) ++ List.replicate (7 - (lg_sl ([.ref (ad 135), .int x1, .int x2, .int x3])).length) Slot.unset).toArray = ls at hl ⊢
  have hl : lv_has ls 7 [(0, .ref (ad 135)), (1, .int x1), (2, .int x2), (3, .int x3)] := hl
  have E0 : ∀ (H : Heap) (locs : List Loc) (ls : Array Slot), gG D cy ad (gA ad s.heap.size) s.heap h g H locs → lv_has ls 7 [(0, .ref (ad 135)), (1, .int x1), (2, .int x2), (3, .int x3)] → W p l e ({ frames := 3, cells := 0, slots := 0, locals := 69 } : Room) s m args below meth c H locs 0 0 (MQ below (va_Qi (fun (r : Int32) (u : HI × HL) => zb r ∧ Q r u.1 u.2) (gB D cy ad s.heap.size) (gA ad s.heap.size)) args s 0 0 (gA ad s.heap.size)) (F0 m 0 ls []) := by
    intro H locs ls hG hl
    unfold w_X11_mayTeach at HW
    refine lv_iload_n hx hb dX11_mayTeach_0 rfl (lv_at hl 3 rfl) ?_
    refine lv_bipush (v := 16) hx hb dX11_mayTeach_1 (by decide) ?_
    refine lv_idiv hx hb dX11_mayTeach_3 (by decide) ?_
    refine lv_topi (fun x4_4 ex4_4 => ?_)
    replace HW := HW x4_4 ex4_4
    refine lv_istore (lv' := [(4, .int x4_4), (0, .ref (ad 135)), (1, .int x1), (2, .int x2), (3, .int x3)]) hx hb dX11_mayTeach_4 hl (by decide) rfl (fun ls hl => ?_)
    refine lv_iload_n hx hb dX11_mayTeach_6 rfl (lv_at hl 4 rfl) ?_
    refine lv_iconst (v := 4) hx hb dX11_mayTeach_7 (by decide) ?_
    refine lv_idiv hx hb dX11_mayTeach_8 (by decide) ?_
    refine lv_iconst (v := 4) hx hb dX11_mayTeach_9 (by decide) ?_
    refine lv_irem hx hb dX11_mayTeach_10 (by decide) ?_
    refine lv_topi (fun x5_11 ex5_11 => ?_)
    replace HW := HW x5_11 ex5_11
    refine lv_istore (lv' := [(5, .int x5_11), (4, .int x4_4), (0, .ref (ad 135)), (1, .int x1), (2, .int x2), (3, .int x3)]) hx hb dX11_mayTeach_11 hl (by decide) rfl (fun ls hl => ?_)
    refine lv_iload_n hx hb dX11_mayTeach_13 rfl (lv_at hl 5 rfl) ?_
    refine lv_iconst (v := 4) hx hb dX11_mayTeach_14 (by decide) ?_
    refine lv_irem hx hb dX11_mayTeach_15 (by decide) ?_
    refine lv_topi (fun x6_16 ex6_16 => ?_)
    replace HW := HW x6_16 ex6_16
    refine lv_istore (lv' := [(6, .int x6_16), (5, .int x5_11), (4, .int x4_4), (0, .ref (ad 135)), (1, .int x1), (2, .int x2), (3, .int x3)]) hx hb dX11_mayTeach_16 hl (by decide) rfl (fun ls hl => ?_)
    refine lv_iload hx hb dX11_mayTeach_18 (lv_at hl 2 rfl) ?_
    refine lv_iload hx hb dX11_mayTeach_20 (lv_at hl 0 rfl) ?_
    refine lv_icmp_eq (tgt := 78) hx hb dX11_mayTeach_22 (by decide) (fun c_22 => ?_) (fun c_22 => ?_)
    · replace HW := HW.1 c_22
      refine lv_iconst (v := 0) hx hb dX11_mayTeach_78 (by decide) ?_
      exact W.zret (v := (0 : Int32)) hx hb hr rfl (fun t ht hW => ⟨⟨(0 : Int32), (h, g), rfl, ⟨Or.inl rfl, HW⟩, g_B ht hG⟩, hG.2.2.F ht⟩) hG.2.2.2.2 dX11_mayTeach_79
    · replace HW := HW.2 c_22
      refine lv_aload_n hx hb dX11_mayTeach_25 rfl (lv_at hl 3 rfl) ?_
      refine lv_iload hx hb dX11_mayTeach_26 (lv_at hl 2 rfl) ?_
      refine lv_iload_n hx hb dX11_mayTeach_28 rfl (lv_at hl 5 rfl) ?_
      obtain ⟨P_29, HC_29, HW⟩ := HW
      refine g_callz (g_runV (As := [.int x4_4, .int x2]) (rest := []) ⟨hx, hb, hml, hown, hts⟩ (m_X11_isThere l D cy ad h g H.size x4_4 x2 P_29 HC_29) (cwV 2 hts (gd_V (wm6 209 rfl rfl) (wm6 211 rfl rfl) (wmp5 (q := (yX11_isThere, 26)) 14 rfl) (wm1 13 rfl rfl) (wm6 212 rfl rfl)) rfl rfl rfl (by decide +kernel) ⟨Nat.le_of_ble_eq_true rfl, Nat.le_of_ble_eq_true rfl⟩) hK hNw hG gl_135 rfl gk_135 (by decide) rfl rfl hl.1 rfl (lv_room (Nat.le_of_ble_eq_true rfl)) dX11_mayTeach_29 ⟨Nat.zero_le _, Nat.zero_le _⟩) hG (fun r_29 h_29 g_29 H locs hz hq hG => ?_)
      replace HW := HW r_29 h_29 g_29 hz hq
      refine lv_if_eq (tgt := 78) hx hb dX11_mayTeach_32 (by decide) (fun c_32 => ?_) (fun c_32 => ?_)
      · replace HW := HW.1 c_32
        refine lv_iconst (v := 0) hx hb dX11_mayTeach_78 (by decide) ?_
        exact W.zret (v := (0 : Int32)) hx hb hr rfl (fun t ht hW => ⟨⟨(0 : Int32), (h_29, g_29), rfl, ⟨Or.inl rfl, HW⟩, g_B ht hG⟩, hG.2.2.F ht⟩) hG.2.2.2.2 dX11_mayTeach_79
      · replace HW := HW.2 c_32
        refine lv_aload_n hx hb dX11_mayTeach_35 rfl (lv_at hl 3 rfl) ?_
        refine lv_iload hx hb dX11_mayTeach_36 (lv_at hl 0 rfl) ?_
        refine lv_iload_n hx hb dX11_mayTeach_38 rfl (lv_at hl 5 rfl) ?_
        obtain ⟨P_39, HC_39, HW⟩ := HW
        refine g_callz (g_runV (As := [.int x6_16, .int x2]) (rest := []) ⟨hx, hb, hml, hown, hts⟩ (m_X11_isThere l D cy ad h_29 g_29 H.size x6_16 x2 P_39 HC_39) (cwV 2 hts (gd_V (wm6 209 rfl rfl) (wm6 211 rfl rfl) (wmp5 (q := (yX11_isThere, 26)) 14 rfl) (wm1 13 rfl rfl) (wm6 212 rfl rfl)) rfl rfl rfl (by decide +kernel) ⟨Nat.le_of_ble_eq_true rfl, Nat.le_of_ble_eq_true rfl⟩) hK hNw hG gl_135 rfl gk_135 (by decide) rfl rfl hl.1 rfl (lv_room (Nat.le_of_ble_eq_true rfl)) dX11_mayTeach_39 ⟨Nat.zero_le _, Nat.zero_le _⟩) hG (fun r_39 h_39 g_39 H locs hz hq hG => ?_)
        replace HW := HW r_39 h_39 g_39 hz hq
        refine lv_if_eq (tgt := 78) hx hb dX11_mayTeach_42 (by decide) (fun c_42 => ?_) (fun c_42 => ?_)
        · replace HW := HW.1 c_42
          refine lv_iconst (v := 0) hx hb dX11_mayTeach_78 (by decide) ?_
          exact W.zret (v := (0 : Int32)) hx hb hr rfl (fun t ht hW => ⟨⟨(0 : Int32), (h_39, g_39), rfl, ⟨Or.inl rfl, HW⟩, g_B ht hG⟩, hG.2.2.F ht⟩) hG.2.2.2.2 dX11_mayTeach_79
        · replace HW := HW.2 c_42
          refine lv_iload_n hx hb dX11_mayTeach_45 rfl (lv_at hl 4 rfl) ?_
          refine lv_iload hx hb dX11_mayTeach_46 (lv_at hl 2 rfl) ?_
          obtain ⟨P_48, HC_48, HW⟩ := HW
          refine g_calli (g_runS (As := [.int x1, .int x4_4]) (rest := []) ⟨hx, hb, hml, hown, hts⟩ (m_X11_canOf l D cy ad h_39 g_39 H.size x1 x4_4 P_48 HC_48) (va_cwS 2 hts (gd_S (wm6 213 rfl rfl) (wm6 214 rfl rfl) (wm1 13 rfl rfl) (wm6 215 rfl rfl)) rfl rfl rfl (by decide +kernel) ⟨Nat.le_of_ble_eq_true rfl, Nat.le_of_ble_eq_true rfl⟩) hK hNw hG rfl rfl hl.1 rfl (lv_room (Nat.le_of_ble_eq_true rfl)) dX11_mayTeach_48 ⟨Nat.zero_le _, Nat.zero_le _⟩) hG (fun r_48 h_48 g_48 H locs hq hG => ?_)
          replace HW := HW r_48 h_48 g_48 hq
          refine lv_iload hx hb dX11_mayTeach_51 (lv_at hl 1 rfl) ?_
          refine lv_ishr hx hb dX11_mayTeach_53 ?_
          refine lv_iconst (v := 1) hx hb dX11_mayTeach_54 (by decide) ?_
          refine lv_iand hx hb dX11_mayTeach_55 ?_
          refine lv_iconst (v := 1) hx hb dX11_mayTeach_56 (by decide) ?_
          refine lv_icmp_ne (tgt := 78) hx hb dX11_mayTeach_57 (by decide) (fun c_57 => ?_) (fun c_57 => ?_)
          · replace HW := HW.1 c_57
            refine lv_iconst (v := 0) hx hb dX11_mayTeach_78 (by decide) ?_
            exact W.zret (v := (0 : Int32)) hx hb hr rfl (fun t ht hW => ⟨⟨(0 : Int32), (h_48, g_48), rfl, ⟨Or.inl rfl, HW⟩, g_B ht hG⟩, hG.2.2.F ht⟩) hG.2.2.2.2 dX11_mayTeach_79
          · replace HW := HW.2 c_57
            refine lv_iload_n hx hb dX11_mayTeach_60 rfl (lv_at hl 4 rfl) ?_
            refine lv_iload hx hb dX11_mayTeach_61 (lv_at hl 0 rfl) ?_
            obtain ⟨P_63, HC_63, HW⟩ := HW
            refine g_calli (g_runS (As := [.int x1, .int x6_16]) (rest := []) ⟨hx, hb, hml, hown, hts⟩ (m_X11_canOf l D cy ad h_48 g_48 H.size x1 x6_16 P_63 HC_63) (va_cwS 2 hts (gd_S (wm6 213 rfl rfl) (wm6 214 rfl rfl) (wm1 13 rfl rfl) (wm6 215 rfl rfl)) rfl rfl rfl (by decide +kernel) ⟨Nat.le_of_ble_eq_true rfl, Nat.le_of_ble_eq_true rfl⟩) hK hNw hG rfl rfl hl.1 rfl (lv_room (Nat.le_of_ble_eq_true rfl)) dX11_mayTeach_63 ⟨Nat.zero_le _, Nat.zero_le _⟩) hG (fun r_63 h_63 g_63 H locs hq hG => ?_)
            replace HW := HW r_63 h_63 g_63 hq
            refine lv_iload hx hb dX11_mayTeach_66 (lv_at hl 1 rfl) ?_
            refine lv_ishr hx hb dX11_mayTeach_68 ?_
            refine lv_iconst (v := 1) hx hb dX11_mayTeach_69 (by decide) ?_
            refine lv_iand hx hb dX11_mayTeach_70 ?_
            refine lv_if_ne (tgt := 78) hx hb dX11_mayTeach_71 (by decide) (fun c_71 => ?_) (fun c_71 => ?_)
            · replace HW := HW.1 c_71
              refine lv_iconst (v := 0) hx hb dX11_mayTeach_78 (by decide) ?_
              exact W.zret (v := (0 : Int32)) hx hb hr rfl (fun t ht hW => ⟨⟨(0 : Int32), (h_63, g_63), rfl, ⟨Or.inl rfl, HW⟩, g_B ht hG⟩, hG.2.2.F ht⟩) hG.2.2.2.2 dX11_mayTeach_79
            · replace HW := HW.2 c_71
              refine lv_iconst (v := 1) hx hb dX11_mayTeach_74 (by decide) ?_
              refine lv_goto (tgt := 79) hx hb dX11_mayTeach_75 (by decide) ?_
              exact W.zret (v := (1 : Int32)) hx hb hr rfl (fun t ht hW => ⟨⟨(1 : Int32), (h_63, g_63), rfl, ⟨Or.inr rfl, HW⟩, g_B ht hG⟩, hG.2.2.F ht⟩) hG.2.2.2.2 dX11_mayTeach_79
  exact E0 _ _ _ hG hl

def j_X11_worth_150 (Q : Int32 → HI → HL → Prop) (x2 : Int32) (x5 : Int32) (s0 : Int32) (h : HI) (g : HL) : Prop :=
  (vp_in (((4096 : Int32) * (x2 + (1 : Int32))) + s0) 36864 ∧ Q (x5 + (h 148 (((4096 : Int32) * (x2 + (1 : Int32))) + s0).toNatClampNeg)) h g)
def j_X11_worth_117 (Q : Int32 → HI → HL → Prop) (K83 : Int32 → Int32 → Int32 → Int32 → Int32 → Int32 → HI → HL → Prop) (x1 : Int32) (x2 : Int32) (x3 : Int32) (x4 : Int32) (x6 : Int32) (s0 : Int32) (s1 : Int32) (h : HI) (g : HL) : Prop :=
  (∀ x5_118 : Int32, x5_118 = (s0 + s1) → (∀ x6_120 : Int32, x6_120 = (x6 + 1) → K83 x1 x2 x3 x4 x5_118 x6_120 h g))
def b_X11_worth_83 (Q : Int32 → HI → HL → Prop) (K83 : Int32 → Int32 → Int32 → Int32 → Int32 → Int32 → HI → HL → Prop) (x1 : Int32) (x2 : Int32) (x3 : Int32) (x4 : Int32) (x5 : Int32) (x6 : Int32) (h : HI) (g : HL) : Prop :=
  (((4 : Int32) ≤ x6 → ((¬ x3 = (-1 : Int32) → j_X11_worth_150 Q x2 x5 (x1 ||| ((1 : Int32) <<< ((((4 : Int32) * (x3 - x3 / (4 : Int32) * (4 : Int32))) + ((x3 / (4 : Int32)) - (x3 / (4 : Int32)) / (4 : Int32) * (4 : Int32))) &&& 31))) h g) ∧ (x3 = (-1 : Int32) → j_X11_worth_150 Q x2 x5 x1 h g))) ∧ (¬ (4 : Int32) ≤ x6 → ((¬ ((x4 >>> (x6 &&& 31)) &&& (1 : Int32)) = (1 : Int32) → j_X11_worth_117 Q K83 x1 x2 x3 x4 x6 x5 (0 : Int32) h g) ∧ (((x4 >>> (x6 &&& 31)) &&& (1 : Int32)) = (1 : Int32) → (vp_in ((823 : Int32) + x6) 887 ∧ j_X11_worth_117 Q K83 x1 x2 x3 x4 x6 x5 (h 136 ((823 : Int32) + x6).toNatClampNeg) h g)))))
def F_X11_worth_83 (Q : Int32 → HI → HL → Prop) (K : Int32 × Int32 × Int32 × Int32 × Int32 × Int32 × HI × HL → Prop) (q : Int32 × Int32 × Int32 × Int32 × Int32 × Int32 × HI × HL) : Prop := b_X11_worth_83 Q (fun x1 x2 x3 x4 x5 x6 h g => K (x1, x2, x3, x4, x5, x6, h, g)) q.1 q.2.1 q.2.2.1 q.2.2.2.1 q.2.2.2.2.1 q.2.2.2.2.2.1 q.2.2.2.2.2.2.1 q.2.2.2.2.2.2.2
def j_X11_worth_68 (Q : Int32 → HI → HL → Prop) (K6 : Int32 → Int32 → Int32 → Int32 → Int32 → HI → HL → Prop) (x1 : Int32) (x2 : Int32) (x3 : Int32) (x5 : Int32) (s0 : Int32) (s1 : Int32) (h : HI) (g : HL) : Prop :=
  (∀ x4_69 : Int32, x4_69 = (s0 ||| s1) → (∀ x5_71 : Int32, x5_71 = (x5 + 1) → K6 x1 x2 x3 x4_69 x5_71 h g))
def j_X11_worth_67 (Q : Int32 → HI → HL → Prop) (K6 : Int32 → Int32 → Int32 → Int32 → Int32 → HI → HL → Prop) (x1 : Int32) (x2 : Int32) (x3 : Int32) (x5 : Int32) (s0 : Int32) (h : HI) (g : HL) : Prop :=
  j_X11_worth_68 Q K6 x1 x2 x3 x5 s0 (0 : Int32) h g
def j_X11_worth_39 (Q : Int32 → HI → HL → Prop) (K6 : Int32 → Int32 → Int32 → Int32 → Int32 → HI → HL → Prop) (x1 : Int32) (x2 : Int32) (x3 : Int32) (x4 : Int32) (x5 : Int32) (s0 : Int32) (h : HI) (g : HL) : Prop :=
  (∃ P_47 : Int32 → HI → HL → Prop, w_X11_isThere x5 x2 h g P_47 ∧ ∀ (r_47 : Int32) (h_47 : HI) (g_47 : HL), zb r_47 → P_47 r_47 h_47 g_47 → ((r_47 = 0 → j_X11_worth_67 Q K6 x1 x2 x3 x5 x4 h_47 g_47) ∧ (¬ r_47 = 0 → ((¬ s0 = 0 → j_X11_worth_67 Q K6 x1 x2 x3 x5 x4 h_47 g_47) ∧ (s0 = 0 → (∃ P_61 : Int32 → HI → HL → Prop, w_X11_canOf x1 x5 h_47 g_47 P_61 ∧ ∀ (r_61 : Int32) (h_61 : HI) (g_61 : HL), P_61 r_61 h_61 g_61 → j_X11_worth_68 Q K6 x1 x2 x3 x5 x4 r_61 h_61 g_61))))))
def j_X11_worth_38 (Q : Int32 → HI → HL → Prop) (K6 : Int32 → Int32 → Int32 → Int32 → Int32 → HI → HL → Prop) (x1 : Int32) (x2 : Int32) (x3 : Int32) (x4 : Int32) (x5 : Int32) (h : HI) (g : HL) : Prop :=
  j_X11_worth_39 Q K6 x1 x2 x3 x4 x5 (0 : Int32) h g
def j_X11_worth_34 (Q : Int32 → HI → HL → Prop) (K6 : Int32 → Int32 → Int32 → Int32 → Int32 → HI → HL → Prop) (x1 : Int32) (x2 : Int32) (x3 : Int32) (x4 : Int32) (x5 : Int32) (h : HI) (g : HL) : Prop :=
  j_X11_worth_39 Q K6 x1 x2 x3 x4 x5 (1 : Int32) h g
def b_X11_worth_6 (Q : Int32 → HI → HL → Prop) (K6 : Int32 → Int32 → Int32 → Int32 → Int32 → HI → HL → Prop) (x1 : Int32) (x2 : Int32) (x3 : Int32) (x4 : Int32) (x5 : Int32) (h : HI) (g : HL) : Prop :=
  (((3 : Int32) ≤ x5 → lpE (F_X11_worth_83 Q) (x1, x2, x3, x4, (0 : Int32), (0 : Int32), h, g)) ∧ (¬ (3 : Int32) ≤ x5 → ((x3 = (-1 : Int32) → j_X11_worth_38 Q K6 x1 x2 x3 x4 x5 h g) ∧ (¬ x3 = (-1 : Int32) → (((x3 / (16 : Int32)) = x5 → j_X11_worth_34 Q K6 x1 x2 x3 x4 x5 h g) ∧ (¬ (x3 / (16 : Int32)) = x5 → ((¬ (x3 - x3 / (4 : Int32) * (4 : Int32)) = x5 → j_X11_worth_38 Q K6 x1 x2 x3 x4 x5 h g) ∧ ((x3 - x3 / (4 : Int32) * (4 : Int32)) = x5 → j_X11_worth_34 Q K6 x1 x2 x3 x4 x5 h g))))))))
def F_X11_worth_6 (Q : Int32 → HI → HL → Prop) (K : Int32 × Int32 × Int32 × Int32 × Int32 × HI × HL → Prop) (q : Int32 × Int32 × Int32 × Int32 × Int32 × HI × HL) : Prop := b_X11_worth_6 Q (fun x1 x2 x3 x4 x5 h g => K (x1, x2, x3, x4, x5, h, g)) q.1 q.2.1 q.2.2.1 q.2.2.2.1 q.2.2.2.2.1 q.2.2.2.2.2.1 q.2.2.2.2.2.2
def w_X11_worth (x1 : Int32) (x2 : Int32) (x3 : Int32) (h : HI) (g : HL) (Q : Int32 → HI → HL → Prop) : Prop :=
  lpE (F_X11_worth_6 Q) (x1, x2, x3, (0 : Int32), (0 : Int32), h, g)
set_option maxHeartbeats 8000000 in
set_option maxRecDepth 100000 in
theorem m_X11_worth (l : Launch) (D : va_G) (cy : Nat → ClassId) (ad : Nat → Nat) (h : HI) (g : HL) (sz : Nat) (x1 : Int32) (x2 : Int32) (x3 : Int32) (Q : Int32 → HI → HL → Prop) (HW : w_X11_worth x1 x2 x3 h g Q) : Met l yX11_worth (wa yX11_worth cX11_worth 7 (some .int)) ({ frames := 3, cells := 0, slots := 0, locals := 69 }) (va_Pc [.ref (ad 135), .int x1, .int x2, .int x3] (gI D cy ad h g sz)) (va_Qi (fun (r : Int32) (u : HI × HL) => Q r u.1 u.2) (gB D cy ad sz) (gA ad sz)) 0 0 (gA ad sz) := by
  refine Met.ofW (cc := cX11_worth) (maxL := 7) (ret := (some .int)) (by decide) rfl ?_
  intro p e s m args below meth c s₁ B hml hv
  obtain ⟨hav, hsz, hP, hK, hD0, hNw⟩ := hv
  have hx := B.exec
  have hb := B.bytes
  have hr := B.returns
  have hts := atoms_spec (ws := (wa yX11_worth cX11_worth 7 (some .int))) B.pre
  have hw := wa_hw hts
  have hown : s.vm.findClass RX11 = some m.cls := findClass_of_methodNamed B.named
  have hlocks := B.notSynchronized
  subst hsz
  have hG : gG D cy ad (gA ad s.heap.size) s.heap h g s.heap [] := ⟨hP, gA_self hD0, va_S.rf⟩
  clear hP hD0
  have lk7 := hw (.fieldLink RX11 7 "OldWorksModel" "st" "[I") (wm5 27 rfl rfl)
  have lk49 := hw (.fieldLink RX11 49 "OldWorksModel" "most" "[I") (wm5 52 rfl rfl)
  rw [show (headSpec (wa yX11_worth cX11_worth 7 (some .int)) ({ frames := 3, cells := 0, slots := 0, locals := 69 } : Room)).room = ({ frames := 3, cells := 0, slots := 0, locals := 69 } : Room) from rfl]
  have hl := lv_entry ([.ref (ad 135), .int x1, .int x2, .int x3]) (n := 7) (Nat.le_of_ble_eq_true rfl)
  rw [show entryFrame m args 7 = entryFrame m ([.ref (ad 135), .int x1, .int x2, .int x3] : List Value).toArray 7 from by rw [hav], lg_entry_eq]
  generalize (lg_sl ([.ref (ad 135), .int x1, .int x2, .int x3]) ++ List.replicate (7 - (lg_sl ([.ref (ad 135), .int x1, .int x2, .int x3])).length) Slot.unset).toArray = ls at hl ⊢
  have hl : lv_has ls 7 [(0, .ref (ad 135)), (1, .int x1), (2, .int x2), (3, .int x3)] := hl
  have B150 : ∀ (x2 : Int32) (x5 : Int32) (s0 : Int32) (h : HI) (g : HL) (H : Heap) (locs : List Loc) (ls : Array Slot), j_X11_worth_150 Q x2 x5 s0 h g → gG D cy ad (gA ad s.heap.size) s.heap h g H locs → lv_has ls 7 [(0, .ref (ad 135)), (2, .int x2), (5, .int x5)] → W p l e ({ frames := 3, cells := 0, slots := 0, locals := 69 } : Room) s m args below meth c H locs 0 0 (MQ below (va_Qi (fun (r : Int32) (u : HI × HL) => Q r u.1 u.2) (gB D cy ad s.heap.size) (gA ad s.heap.size)) args s 0 0 (gA ad s.heap.size)) (F0 m 150 ls [.int s0]) := by
    intro x2 x5 s0 h g H locs ls HW hG hl
    unfold j_X11_worth_150 at HW
    refine lv_istore (lv' := [(6, .int s0), (0, .ref (ad 135)), (2, .int x2), (5, .int x5)]) hx hb dX11_worth_150 hl (by decide) rfl (fun ls hl => ?_)
    refine lv_iload hx hb dX11_worth_152 (lv_at hl 3 rfl) ?_
    refine lv_aload_n hx hb dX11_worth_154 rfl (lv_at hl 1 rfl) ?_
    refine g_getr hx hb hw inG11 hown hK hG gl_135 rfl gk_135 (by decide) 25 (by decide) (by rw [gm_135]; decide) (r := 148) gr_135_25 lk49 dX11_worth_155 ?_
    refine lv_sipush (v := 4096) hx hb dX11_worth_158 (by decide) ?_
    refine lv_iload_n hx hb dX11_worth_161 rfl (lv_at hl 2 rfl) ?_
    refine lv_iconst (v := 1) hx hb dX11_worth_162 (by decide) ?_
    refine lv_iadd hx hb dX11_worth_163 ?_
    refine lv_imul hx hb dX11_worth_164 ?_
    refine lv_iload hx hb dX11_worth_165 (lv_at hl 0 rfl) ?_
    refine lv_iadd hx hb dX11_worth_167 ?_
    refine g_iald hx hb hK hG gl_148 gk_148 gn_148 HW.1 dX11_worth_168 ?_
    replace HW := HW.2
    refine lv_iadd hx hb dX11_worth_169 ?_
    exact W.iret (v := (x5 + (h 148 (((4096 : Int32) * (x2 + (1 : Int32))) + s0).toNatClampNeg))) hx hb hr (fun t ht hW => ⟨⟨(x5 + (h 148 (((4096 : Int32) * (x2 + (1 : Int32))) + s0).toNatClampNeg)), (h, g), rfl, HW, g_B ht hG⟩, hG.2.2.F ht⟩) hG.2.2.2.2 dX11_worth_170
  have B117 : ∀ (K83 : Int32 → Int32 → Int32 → Int32 → Int32 → Int32 → HI → HL → Prop) (hK83 : ∀ (x1 : Int32) (x2 : Int32) (x3 : Int32) (x4 : Int32) (x5 : Int32) (x6 : Int32) (h : HI) (g : HL) (H : Heap) (locs : List Loc) (ls : Array Slot), K83 x1 x2 x3 x4 x5 x6 h g → gG D cy ad (gA ad s.heap.size) s.heap h g H locs → lv_has ls 7 [(0, .ref (ad 135)), (1, .int x1), (2, .int x2), (3, .int x3), (4, .int x4), (5, .int x5), (6, .int x6)] → W p l e ({ frames := 3, cells := 0, slots := 0, locals := 69 } : Room) s m args below meth c H locs 0 0 (MQ below (va_Qi (fun (r : Int32) (u : HI × HL) => Q r u.1 u.2) (gB D cy ad s.heap.size) (gA ad s.heap.size)) args s 0 0 (gA ad s.heap.size)) (F0 m 83 ls [])) (x1 : Int32) (x2 : Int32) (x3 : Int32) (x4 : Int32) (x6 : Int32) (s0 : Int32) (s1 : Int32) (h : HI) (g : HL) (H : Heap) (locs : List Loc) (ls : Array Slot), j_X11_worth_117 Q K83 x1 x2 x3 x4 x6 s0 s1 h g → gG D cy ad (gA ad s.heap.size) s.heap h g H locs → lv_has ls 7 [(0, .ref (ad 135)), (1, .int x1), (2, .int x2), (3, .int x3), (4, .int x4), (6, .int x6)] → W p l e ({ frames := 3, cells := 0, slots := 0, locals := 69 } : Room) s m args below meth c H locs 0 0 (MQ below (va_Qi (fun (r : Int32) (u : HI × HL) => Q r u.1 u.2) (gB D cy ad s.heap.size) (gA ad s.heap.size)) args s 0 0 (gA ad s.heap.size)) (F0 m 117 ls [.int s1, .int s0]) := by
    intro K83 hK83 x1 x2 x3 x4 x6 s0 s1 h g H locs ls HW hG hl
    unfold j_X11_worth_117 at HW
    refine lv_iadd hx hb dX11_worth_117 ?_
    refine lv_topi (fun x5_118 ex5_118 => ?_)
    replace HW := HW x5_118 ex5_118
    refine lv_istore (lv' := [(5, .int x5_118), (0, .ref (ad 135)), (1, .int x1), (2, .int x2), (3, .int x3), (4, .int x4), (6, .int x6)]) hx hb dX11_worth_118 hl (by decide) rfl (fun ls hl => ?_)
    obtain ⟨x6_120, ex6_120⟩ : ∃ y : Int32, y = (x6 + 1) := ⟨_, rfl⟩
    replace HW := HW x6_120 ex6_120
    refine lv_iinc (v := x6_120) (lv' := [(6, .int x6_120), (5, .int x5_118), (0, .ref (ad 135)), (1, .int x1), (2, .int x2), (3, .int x3), (4, .int x4)]) hx hb dX11_worth_120 hl (k := 6) rfl (by rw [ex6_120]; rfl) (by decide) rfl (fun ls hl => ?_)
    refine lv_goto (tgt := 83) hx hb dX11_worth_123 (by decide) ?_
    exact hK83 x1 x2 x3 x4 x5_118 x6_120 h g _ _ _ HW hG (lv_sub hl [2, 3, 4, 5, 6, 1, 0] rfl)
  have L83 : ∀ (n : Nat) (x1 : Int32) (x2 : Int32) (x3 : Int32) (x4 : Int32) (x5 : Int32) (x6 : Int32) (h : HI) (g : HL) (H : Heap) (locs : List Loc) (ls : Array Slot), lpN (F_X11_worth_83 Q) n (x1, x2, x3, x4, x5, x6, h, g) → gG D cy ad (gA ad s.heap.size) s.heap h g H locs → lv_has ls 7 [(0, .ref (ad 135)), (1, .int x1), (2, .int x2), (3, .int x3), (4, .int x4), (5, .int x5), (6, .int x6)] → W p l e ({ frames := 3, cells := 0, slots := 0, locals := 69 } : Room) s m args below meth c H locs 0 0 (MQ below (va_Qi (fun (r : Int32) (u : HI × HL) => Q r u.1 u.2) (gB D cy ad s.heap.size) (gA ad s.heap.size)) args s 0 0 (gA ad s.heap.size)) (F0 m 83 ls []) := by
    intro n
    induction n with
    | zero => intro x1 x2 x3 x4 x5 x6 h g H locs ls HW; exact HW.elim
    | succ n ih =>
      intro x1 x2 x3 x4 x5 x6 h g H locs ls HW hG hl
      have HW : b_X11_worth_83 Q (fun x1 x2 x3 x4 x5 x6 h g => lpN (F_X11_worth_83 Q) n (x1, x2, x3, x4, x5, x6, h, g)) x1 x2 x3 x4 x5 x6 h g := HW
      generalize hKe : (fun (x1 : Int32) (x2 : Int32) (x3 : Int32) (x4 : Int32) (x5 : Int32) (x6 : Int32) (h : HI) (g : HL) => lpN (F_X11_worth_83 Q) n (x1, x2, x3, x4, x5, x6, h, g)) = K83 at HW
      have hK83 : ∀ (x1 : Int32) (x2 : Int32) (x3 : Int32) (x4 : Int32) (x5 : Int32) (x6 : Int32) (h : HI) (g : HL) (H : Heap) (locs : List Loc) (ls : Array Slot), K83 x1 x2 x3 x4 x5 x6 h g → gG D cy ad (gA ad s.heap.size) s.heap h g H locs → lv_has ls 7 [(0, .ref (ad 135)), (1, .int x1), (2, .int x2), (3, .int x3), (4, .int x4), (5, .int x5), (6, .int x6)] → W p l e ({ frames := 3, cells := 0, slots := 0, locals := 69 } : Room) s m args below meth c H locs 0 0 (MQ below (va_Qi (fun (r : Int32) (u : HI × HL) => Q r u.1 u.2) (gB D cy ad s.heap.size) (gA ad s.heap.size)) args s 0 0 (gA ad s.heap.size)) (F0 m 83 ls []) := by subst hKe; exact ih
      clear ih
      clear hKe
      unfold b_X11_worth_83 at HW
      refine lv_iload hx hb dX11_worth_83 (lv_at hl 6 rfl) ?_
      refine lv_iconst (v := 4) hx hb dX11_worth_85 (by decide) ?_
      refine lv_icmp_ge (tgt := 126) hx hb dX11_worth_86 (by decide) (fun c_86 => ?_) (fun c_86 => ?_)
      · replace HW := HW.1 c_86
        refine lv_iload_n hx hb dX11_worth_126 rfl (lv_at hl 3 rfl) ?_
        refine lv_iconst (v := (-1)) hx hb dX11_worth_127 (by decide) ?_
        refine lv_icmp_ne (tgt := 135) hx hb dX11_worth_128 (by decide) (fun c_128 => ?_) (fun c_128 => ?_)
        · replace HW := HW.1 c_128
          refine lv_iload_n hx hb dX11_worth_135 rfl (lv_at hl 1 rfl) ?_
          refine lv_iconst (v := 1) hx hb dX11_worth_136 (by decide) ?_
          refine lv_iconst (v := 4) hx hb dX11_worth_137 (by decide) ?_
          refine lv_iload_n hx hb dX11_worth_138 rfl (lv_at hl 3 rfl) ?_
          refine lv_iconst (v := 4) hx hb dX11_worth_139 (by decide) ?_
          refine lv_irem hx hb dX11_worth_140 (by decide) ?_
          refine lv_imul hx hb dX11_worth_141 ?_
          refine lv_iload_n hx hb dX11_worth_142 rfl (lv_at hl 3 rfl) ?_
          refine lv_iconst (v := 4) hx hb dX11_worth_143 (by decide) ?_
          refine lv_idiv hx hb dX11_worth_144 (by decide) ?_
          refine lv_iconst (v := 4) hx hb dX11_worth_145 (by decide) ?_
          refine lv_irem hx hb dX11_worth_146 (by decide) ?_
          refine lv_iadd hx hb dX11_worth_147 ?_
          refine lv_ishl hx hb dX11_worth_148 ?_
          refine lv_ior hx hb dX11_worth_149 ?_
          exact B150 x2 x5 (x1 ||| ((1 : Int32) <<< ((((4 : Int32) * (x3 - x3 / (4 : Int32) * (4 : Int32))) + ((x3 / (4 : Int32)) - (x3 / (4 : Int32)) / (4 : Int32) * (4 : Int32))) &&& 31))) h g _ _ _ HW hG (lv_sub hl [0, 2, 5] rfl)
        · replace HW := HW.2 c_128
          refine lv_iload_n hx hb dX11_worth_131 rfl (lv_at hl 1 rfl) ?_
          refine lv_goto (tgt := 150) hx hb dX11_worth_132 (by decide) ?_
          exact B150 x2 x5 x1 h g _ _ _ HW hG (lv_sub hl [0, 2, 5] rfl)
      · replace HW := HW.2 c_86
        refine lv_iload hx hb dX11_worth_89 (lv_at hl 5 rfl) ?_
        refine lv_iload hx hb dX11_worth_91 (lv_at hl 4 rfl) ?_
        refine lv_iload hx hb dX11_worth_93 (lv_at hl 6 rfl) ?_
        refine lv_ishr hx hb dX11_worth_95 ?_
        refine lv_iconst (v := 1) hx hb dX11_worth_96 (by decide) ?_
        refine lv_iand hx hb dX11_worth_97 ?_
        refine lv_iconst (v := 1) hx hb dX11_worth_98 (by decide) ?_
        refine lv_icmp_ne (tgt := 116) hx hb dX11_worth_99 (by decide) (fun c_99 => ?_) (fun c_99 => ?_)
        · replace HW := HW.1 c_99
          refine lv_iconst (v := 0) hx hb dX11_worth_116 (by decide) ?_
          exact B117 K83 hK83 x1 x2 x3 x4 x6 x5 (0 : Int32) h g _ _ _ HW hG (lv_sub hl [0, 1, 2, 3, 4, 6] rfl)
        · replace HW := HW.2 c_99
          refine lv_aload_n hx hb dX11_worth_102 rfl (lv_at hl 0 rfl) ?_
          refine g_getr hx hb hw inG11 hown hK hG gl_135 rfl gk_135 (by decide) 0 (by decide) (by rw [gm_135]; decide) (r := 136) gr_135_0 lk7 dX11_worth_103 ?_
          refine lv_sipush (v := 823) hx hb dX11_worth_106 (by decide) ?_
          refine lv_iload hx hb dX11_worth_109 (lv_at hl 6 rfl) ?_
          refine lv_iadd hx hb dX11_worth_111 ?_
          refine g_iald hx hb hK hG gl_136 gk_136 gn_136 HW.1 dX11_worth_112 ?_
          replace HW := HW.2
          refine lv_goto (tgt := 117) hx hb dX11_worth_113 (by decide) ?_
          exact B117 K83 hK83 x1 x2 x3 x4 x6 x5 (h 136 ((823 : Int32) + x6).toNatClampNeg) h g _ _ _ HW hG (lv_sub hl [0, 1, 2, 3, 4, 6] rfl)
  have B68 : ∀ (K6 : Int32 → Int32 → Int32 → Int32 → Int32 → HI → HL → Prop) (hK6 : ∀ (x1 : Int32) (x2 : Int32) (x3 : Int32) (x4 : Int32) (x5 : Int32) (h : HI) (g : HL) (H : Heap) (locs : List Loc) (ls : Array Slot), K6 x1 x2 x3 x4 x5 h g → gG D cy ad (gA ad s.heap.size) s.heap h g H locs → lv_has ls 7 [(0, .ref (ad 135)), (1, .int x1), (2, .int x2), (3, .int x3), (4, .int x4), (5, .int x5)] → W p l e ({ frames := 3, cells := 0, slots := 0, locals := 69 } : Room) s m args below meth c H locs 0 0 (MQ below (va_Qi (fun (r : Int32) (u : HI × HL) => Q r u.1 u.2) (gB D cy ad s.heap.size) (gA ad s.heap.size)) args s 0 0 (gA ad s.heap.size)) (F0 m 6 ls [])) (x1 : Int32) (x2 : Int32) (x3 : Int32) (x5 : Int32) (s0 : Int32) (s1 : Int32) (h : HI) (g : HL) (H : Heap) (locs : List Loc) (ls : Array Slot), j_X11_worth_68 Q K6 x1 x2 x3 x5 s0 s1 h g → gG D cy ad (gA ad s.heap.size) s.heap h g H locs → lv_has ls 7 [(0, .ref (ad 135)), (1, .int x1), (2, .int x2), (3, .int x3), (5, .int x5)] → W p l e ({ frames := 3, cells := 0, slots := 0, locals := 69 } : Room) s m args below meth c H locs 0 0 (MQ below (va_Qi (fun (r : Int32) (u : HI × HL) => Q r u.1 u.2) (gB D cy ad s.heap.size) (gA ad s.heap.size)) args s 0 0 (gA ad s.heap.size)) (F0 m 68 ls [.int s1, .int s0]) := by
    intro K6 hK6 x1 x2 x3 x5 s0 s1 h g H locs ls HW hG hl
    unfold j_X11_worth_68 at HW
    refine lv_ior hx hb dX11_worth_68 ?_
    refine lv_topi (fun x4_69 ex4_69 => ?_)
    replace HW := HW x4_69 ex4_69
    refine lv_istore (lv' := [(4, .int x4_69), (0, .ref (ad 135)), (1, .int x1), (2, .int x2), (3, .int x3), (5, .int x5)]) hx hb dX11_worth_69 hl (by decide) rfl (fun ls hl => ?_)
    obtain ⟨x5_71, ex5_71⟩ : ∃ y : Int32, y = (x5 + 1) := ⟨_, rfl⟩
    replace HW := HW x5_71 ex5_71
    refine lv_iinc (v := x5_71) (lv' := [(5, .int x5_71), (4, .int x4_69), (0, .ref (ad 135)), (1, .int x1), (2, .int x2), (3, .int x3)]) hx hb dX11_worth_71 hl (k := 5) rfl (by rw [ex5_71]; rfl) (by decide) rfl (fun ls hl => ?_)
    refine lv_goto (tgt := 6) hx hb dX11_worth_74 (by decide) ?_
    exact hK6 x1 x2 x3 x4_69 x5_71 h g _ _ _ HW hG (lv_sub hl [2, 3, 4, 5, 1, 0] rfl)
  have B67 : ∀ (K6 : Int32 → Int32 → Int32 → Int32 → Int32 → HI → HL → Prop) (hK6 : ∀ (x1 : Int32) (x2 : Int32) (x3 : Int32) (x4 : Int32) (x5 : Int32) (h : HI) (g : HL) (H : Heap) (locs : List Loc) (ls : Array Slot), K6 x1 x2 x3 x4 x5 h g → gG D cy ad (gA ad s.heap.size) s.heap h g H locs → lv_has ls 7 [(0, .ref (ad 135)), (1, .int x1), (2, .int x2), (3, .int x3), (4, .int x4), (5, .int x5)] → W p l e ({ frames := 3, cells := 0, slots := 0, locals := 69 } : Room) s m args below meth c H locs 0 0 (MQ below (va_Qi (fun (r : Int32) (u : HI × HL) => Q r u.1 u.2) (gB D cy ad s.heap.size) (gA ad s.heap.size)) args s 0 0 (gA ad s.heap.size)) (F0 m 6 ls [])) (x1 : Int32) (x2 : Int32) (x3 : Int32) (x5 : Int32) (s0 : Int32) (h : HI) (g : HL) (H : Heap) (locs : List Loc) (ls : Array Slot), j_X11_worth_67 Q K6 x1 x2 x3 x5 s0 h g → gG D cy ad (gA ad s.heap.size) s.heap h g H locs → lv_has ls 7 [(0, .ref (ad 135)), (1, .int x1), (2, .int x2), (3, .int x3), (5, .int x5)] → W p l e ({ frames := 3, cells := 0, slots := 0, locals := 69 } : Room) s m args below meth c H locs 0 0 (MQ below (va_Qi (fun (r : Int32) (u : HI × HL) => Q r u.1 u.2) (gB D cy ad s.heap.size) (gA ad s.heap.size)) args s 0 0 (gA ad s.heap.size)) (F0 m 67 ls [.int s0]) := by
    intro K6 hK6 x1 x2 x3 x5 s0 h g H locs ls HW hG hl
    unfold j_X11_worth_67 at HW
    refine lv_iconst (v := 0) hx hb dX11_worth_67 (by decide) ?_
    exact B68 K6 hK6 x1 x2 x3 x5 s0 (0 : Int32) h g _ _ _ HW hG (lv_sub hl [0, 1, 2, 3, 4] rfl)
  have B39 : ∀ (K6 : Int32 → Int32 → Int32 → Int32 → Int32 → HI → HL → Prop) (hK6 : ∀ (x1 : Int32) (x2 : Int32) (x3 : Int32) (x4 : Int32) (x5 : Int32) (h : HI) (g : HL) (H : Heap) (locs : List Loc) (ls : Array Slot), K6 x1 x2 x3 x4 x5 h g → gG D cy ad (gA ad s.heap.size) s.heap h g H locs → lv_has ls 7 [(0, .ref (ad 135)), (1, .int x1), (2, .int x2), (3, .int x3), (4, .int x4), (5, .int x5)] → W p l e ({ frames := 3, cells := 0, slots := 0, locals := 69 } : Room) s m args below meth c H locs 0 0 (MQ below (va_Qi (fun (r : Int32) (u : HI × HL) => Q r u.1 u.2) (gB D cy ad s.heap.size) (gA ad s.heap.size)) args s 0 0 (gA ad s.heap.size)) (F0 m 6 ls [])) (x1 : Int32) (x2 : Int32) (x3 : Int32) (x4 : Int32) (x5 : Int32) (s0 : Int32) (h : HI) (g : HL) (H : Heap) (locs : List Loc) (ls : Array Slot), j_X11_worth_39 Q K6 x1 x2 x3 x4 x5 s0 h g → gG D cy ad (gA ad s.heap.size) s.heap h g H locs → lv_has ls 7 [(0, .ref (ad 135)), (1, .int x1), (2, .int x2), (3, .int x3), (4, .int x4), (5, .int x5)] → W p l e ({ frames := 3, cells := 0, slots := 0, locals := 69 } : Room) s m args below meth c H locs 0 0 (MQ below (va_Qi (fun (r : Int32) (u : HI × HL) => Q r u.1 u.2) (gB D cy ad s.heap.size) (gA ad s.heap.size)) args s 0 0 (gA ad s.heap.size)) (F0 m 39 ls [.int s0]) := by
    intro K6 hK6 x1 x2 x3 x4 x5 s0 h g H locs ls HW hG hl
    unfold j_X11_worth_39 at HW
    refine lv_istore (lv' := [(6, .int s0), (0, .ref (ad 135)), (1, .int x1), (2, .int x2), (3, .int x3), (4, .int x4), (5, .int x5)]) hx hb dX11_worth_39 hl (by decide) rfl (fun ls hl => ?_)
    refine lv_iload hx hb dX11_worth_41 (lv_at hl 5 rfl) ?_
    refine lv_aload_n hx hb dX11_worth_43 rfl (lv_at hl 1 rfl) ?_
    refine lv_iload hx hb dX11_worth_44 (lv_at hl 6 rfl) ?_
    refine lv_iload_n hx hb dX11_worth_46 rfl (lv_at hl 3 rfl) ?_
    obtain ⟨P_47, HC_47, HW⟩ := HW
    refine g_callz (g_runV (As := [.int x5, .int x2]) (rest := [.int x4]) ⟨hx, hb, hml, hown, hts⟩ (m_X11_isThere l D cy ad h g H.size x5 x2 P_47 HC_47) (cwV 2 hts (gd_V (wm6 209 rfl rfl) (wm6 211 rfl rfl) (wmp5 (q := (yX11_isThere, 26)) 14 rfl) (wm1 13 rfl rfl) (wm6 212 rfl rfl)) rfl rfl rfl (by decide +kernel) ⟨Nat.le_of_ble_eq_true rfl, Nat.le_of_ble_eq_true rfl⟩) hK hNw hG gl_135 rfl gk_135 (by decide) rfl rfl hl.1 rfl (lv_room (Nat.le_of_ble_eq_true rfl)) dX11_worth_47 ⟨Nat.zero_le _, Nat.zero_le _⟩) hG (fun r_47 h_47 g_47 H locs hz hq hG => ?_)
    replace HW := HW r_47 h_47 g_47 hz hq
    refine lv_if_eq (tgt := 67) hx hb dX11_worth_50 (by decide) (fun c_50 => ?_) (fun c_50 => ?_)
    · replace HW := HW.1 c_50
      exact B67 K6 hK6 x1 x2 x3 x5 x4 h_47 g_47 _ _ _ HW hG (lv_sub hl [1, 2, 3, 4, 6] rfl)
    · replace HW := HW.2 c_50
      refine lv_iload hx hb dX11_worth_53 (lv_at hl 0 rfl) ?_
      refine lv_if_ne (tgt := 67) hx hb dX11_worth_55 (by decide) (fun c_55 => ?_) (fun c_55 => ?_)
      · replace HW := HW.1 c_55
        exact B67 K6 hK6 x1 x2 x3 x5 x4 h_47 g_47 _ _ _ HW hG (lv_sub hl [1, 2, 3, 4, 6] rfl)
      · replace HW := HW.2 c_55
        refine lv_iload_n hx hb dX11_worth_58 rfl (lv_at hl 2 rfl) ?_
        refine lv_iload hx hb dX11_worth_59 (lv_at hl 6 rfl) ?_
        obtain ⟨P_61, HC_61, HW⟩ := HW
        refine g_calli (g_runS (As := [.int x1, .int x5]) (rest := [.int x4]) ⟨hx, hb, hml, hown, hts⟩ (m_X11_canOf l D cy ad h_47 g_47 H.size x1 x5 P_61 HC_61) (va_cwS 2 hts (gd_S (wm6 213 rfl rfl) (wm6 214 rfl rfl) (wm1 13 rfl rfl) (wm6 215 rfl rfl)) rfl rfl rfl (by decide +kernel) ⟨Nat.le_of_ble_eq_true rfl, Nat.le_of_ble_eq_true rfl⟩) hK hNw hG rfl rfl hl.1 rfl (lv_room (Nat.le_of_ble_eq_true rfl)) dX11_worth_61 ⟨Nat.zero_le _, Nat.zero_le _⟩) hG (fun r_61 h_61 g_61 H locs hq hG => ?_)
        replace HW := HW r_61 h_61 g_61 hq
        refine lv_goto (tgt := 68) hx hb dX11_worth_64 (by decide) ?_
        exact B68 K6 hK6 x1 x2 x3 x5 x4 r_61 h_61 g_61 _ _ _ HW hG (lv_sub hl [1, 2, 3, 4, 6] rfl)
  have B38 : ∀ (K6 : Int32 → Int32 → Int32 → Int32 → Int32 → HI → HL → Prop) (hK6 : ∀ (x1 : Int32) (x2 : Int32) (x3 : Int32) (x4 : Int32) (x5 : Int32) (h : HI) (g : HL) (H : Heap) (locs : List Loc) (ls : Array Slot), K6 x1 x2 x3 x4 x5 h g → gG D cy ad (gA ad s.heap.size) s.heap h g H locs → lv_has ls 7 [(0, .ref (ad 135)), (1, .int x1), (2, .int x2), (3, .int x3), (4, .int x4), (5, .int x5)] → W p l e ({ frames := 3, cells := 0, slots := 0, locals := 69 } : Room) s m args below meth c H locs 0 0 (MQ below (va_Qi (fun (r : Int32) (u : HI × HL) => Q r u.1 u.2) (gB D cy ad s.heap.size) (gA ad s.heap.size)) args s 0 0 (gA ad s.heap.size)) (F0 m 6 ls [])) (x1 : Int32) (x2 : Int32) (x3 : Int32) (x4 : Int32) (x5 : Int32) (h : HI) (g : HL) (H : Heap) (locs : List Loc) (ls : Array Slot), j_X11_worth_38 Q K6 x1 x2 x3 x4 x5 h g → gG D cy ad (gA ad s.heap.size) s.heap h g H locs → lv_has ls 7 [(0, .ref (ad 135)), (1, .int x1), (2, .int x2), (3, .int x3), (4, .int x4), (5, .int x5)] → W p l e ({ frames := 3, cells := 0, slots := 0, locals := 69 } : Room) s m args below meth c H locs 0 0 (MQ below (va_Qi (fun (r : Int32) (u : HI × HL) => Q r u.1 u.2) (gB D cy ad s.heap.size) (gA ad s.heap.size)) args s 0 0 (gA ad s.heap.size)) (F0 m 38 ls []) := by
    intro K6 hK6 x1 x2 x3 x4 x5 h g H locs ls HW hG hl
    unfold j_X11_worth_38 at HW
    refine lv_iconst (v := 0) hx hb dX11_worth_38 (by decide) ?_
    exact B39 K6 hK6 x1 x2 x3 x4 x5 (0 : Int32) h g _ _ _ HW hG (lv_sub hl [0, 1, 2, 3, 4, 5] rfl)
  have B34 : ∀ (K6 : Int32 → Int32 → Int32 → Int32 → Int32 → HI → HL → Prop) (hK6 : ∀ (x1 : Int32) (x2 : Int32) (x3 : Int32) (x4 : Int32) (x5 : Int32) (h : HI) (g : HL) (H : Heap) (locs : List Loc) (ls : Array Slot), K6 x1 x2 x3 x4 x5 h g → gG D cy ad (gA ad s.heap.size) s.heap h g H locs → lv_has ls 7 [(0, .ref (ad 135)), (1, .int x1), (2, .int x2), (3, .int x3), (4, .int x4), (5, .int x5)] → W p l e ({ frames := 3, cells := 0, slots := 0, locals := 69 } : Room) s m args below meth c H locs 0 0 (MQ below (va_Qi (fun (r : Int32) (u : HI × HL) => Q r u.1 u.2) (gB D cy ad s.heap.size) (gA ad s.heap.size)) args s 0 0 (gA ad s.heap.size)) (F0 m 6 ls [])) (x1 : Int32) (x2 : Int32) (x3 : Int32) (x4 : Int32) (x5 : Int32) (h : HI) (g : HL) (H : Heap) (locs : List Loc) (ls : Array Slot), j_X11_worth_34 Q K6 x1 x2 x3 x4 x5 h g → gG D cy ad (gA ad s.heap.size) s.heap h g H locs → lv_has ls 7 [(0, .ref (ad 135)), (1, .int x1), (2, .int x2), (3, .int x3), (4, .int x4), (5, .int x5)] → W p l e ({ frames := 3, cells := 0, slots := 0, locals := 69 } : Room) s m args below meth c H locs 0 0 (MQ below (va_Qi (fun (r : Int32) (u : HI × HL) => Q r u.1 u.2) (gB D cy ad s.heap.size) (gA ad s.heap.size)) args s 0 0 (gA ad s.heap.size)) (F0 m 34 ls []) := by
    intro K6 hK6 x1 x2 x3 x4 x5 h g H locs ls HW hG hl
    unfold j_X11_worth_34 at HW
    refine lv_iconst (v := 1) hx hb dX11_worth_34 (by decide) ?_
    refine lv_goto (tgt := 39) hx hb dX11_worth_35 (by decide) ?_
    exact B39 K6 hK6 x1 x2 x3 x4 x5 (1 : Int32) h g _ _ _ HW hG (lv_sub hl [0, 1, 2, 3, 4, 5] rfl)
  have L6 : ∀ (n : Nat) (x1 : Int32) (x2 : Int32) (x3 : Int32) (x4 : Int32) (x5 : Int32) (h : HI) (g : HL) (H : Heap) (locs : List Loc) (ls : Array Slot), lpN (F_X11_worth_6 Q) n (x1, x2, x3, x4, x5, h, g) → gG D cy ad (gA ad s.heap.size) s.heap h g H locs → lv_has ls 7 [(0, .ref (ad 135)), (1, .int x1), (2, .int x2), (3, .int x3), (4, .int x4), (5, .int x5)] → W p l e ({ frames := 3, cells := 0, slots := 0, locals := 69 } : Room) s m args below meth c H locs 0 0 (MQ below (va_Qi (fun (r : Int32) (u : HI × HL) => Q r u.1 u.2) (gB D cy ad s.heap.size) (gA ad s.heap.size)) args s 0 0 (gA ad s.heap.size)) (F0 m 6 ls []) := by
    intro n
    induction n with
    | zero => intro x1 x2 x3 x4 x5 h g H locs ls HW; exact HW.elim
    | succ n ih =>
      intro x1 x2 x3 x4 x5 h g H locs ls HW hG hl
      have HW : b_X11_worth_6 Q (fun x1 x2 x3 x4 x5 h g => lpN (F_X11_worth_6 Q) n (x1, x2, x3, x4, x5, h, g)) x1 x2 x3 x4 x5 h g := HW
      generalize hKe : (fun (x1 : Int32) (x2 : Int32) (x3 : Int32) (x4 : Int32) (x5 : Int32) (h : HI) (g : HL) => lpN (F_X11_worth_6 Q) n (x1, x2, x3, x4, x5, h, g)) = K6 at HW
      have hK6 : ∀ (x1 : Int32) (x2 : Int32) (x3 : Int32) (x4 : Int32) (x5 : Int32) (h : HI) (g : HL) (H : Heap) (locs : List Loc) (ls : Array Slot), K6 x1 x2 x3 x4 x5 h g → gG D cy ad (gA ad s.heap.size) s.heap h g H locs → lv_has ls 7 [(0, .ref (ad 135)), (1, .int x1), (2, .int x2), (3, .int x3), (4, .int x4), (5, .int x5)] → W p l e ({ frames := 3, cells := 0, slots := 0, locals := 69 } : Room) s m args below meth c H locs 0 0 (MQ below (va_Qi (fun (r : Int32) (u : HI × HL) => Q r u.1 u.2) (gB D cy ad s.heap.size) (gA ad s.heap.size)) args s 0 0 (gA ad s.heap.size)) (F0 m 6 ls []) := by subst hKe; exact ih
      clear ih
      clear hKe
      unfold b_X11_worth_6 at HW
      refine lv_iload hx hb dX11_worth_6 (lv_at hl 5 rfl) ?_
      refine lv_iconst (v := 3) hx hb dX11_worth_8 (by decide) ?_
      refine lv_icmp_ge (tgt := 77) hx hb dX11_worth_9 (by decide) (fun c_9 => ?_) (fun c_9 => ?_)
      · replace HW := HW.1 c_9
        refine lv_iconst (v := 0) hx hb dX11_worth_77 (by decide) ?_
        refine lv_istore (lv' := [(5, .int (0 : Int32)), (0, .ref (ad 135)), (1, .int x1), (2, .int x2), (3, .int x3), (4, .int x4)]) hx hb dX11_worth_78 hl (by decide) rfl (fun ls hl => ?_)
        refine lv_iconst (v := 0) hx hb dX11_worth_80 (by decide) ?_
        refine lv_istore (lv' := [(6, .int (0 : Int32)), (5, .int (0 : Int32)), (0, .ref (ad 135)), (1, .int x1), (2, .int x2), (3, .int x3), (4, .int x4)]) hx hb dX11_worth_81 hl (by decide) rfl (fun ls hl => ?_)
        obtain ⟨n_83, HW⟩ := HW
        exact L83 n_83 x1 x2 x3 x4 (0 : Int32) (0 : Int32) h g _ _ _ HW hG (lv_sub hl [2, 3, 4, 5, 6, 1, 0] rfl)
      · replace HW := HW.2 c_9
        refine lv_iload_n hx hb dX11_worth_12 rfl (lv_at hl 3 rfl) ?_
        refine lv_iconst (v := (-1)) hx hb dX11_worth_13 (by decide) ?_
        refine lv_icmp_eq (tgt := 38) hx hb dX11_worth_14 (by decide) (fun c_14 => ?_) (fun c_14 => ?_)
        · replace HW := HW.1 c_14
          exact B38 K6 hK6 x1 x2 x3 x4 x5 h g _ _ _ HW hG (lv_sub hl [0, 1, 2, 3, 4, 5] rfl)
        · replace HW := HW.2 c_14
          refine lv_iload_n hx hb dX11_worth_17 rfl (lv_at hl 3 rfl) ?_
          refine lv_bipush (v := 16) hx hb dX11_worth_18 (by decide) ?_
          refine lv_idiv hx hb dX11_worth_20 (by decide) ?_
          refine lv_iload hx hb dX11_worth_21 (lv_at hl 5 rfl) ?_
          refine lv_icmp_eq (tgt := 34) hx hb dX11_worth_23 (by decide) (fun c_23 => ?_) (fun c_23 => ?_)
          · replace HW := HW.1 c_23
            exact B34 K6 hK6 x1 x2 x3 x4 x5 h g _ _ _ HW hG (lv_sub hl [0, 1, 2, 3, 4, 5] rfl)
          · replace HW := HW.2 c_23
            refine lv_iload_n hx hb dX11_worth_26 rfl (lv_at hl 3 rfl) ?_
            refine lv_iconst (v := 4) hx hb dX11_worth_27 (by decide) ?_
            refine lv_irem hx hb dX11_worth_28 (by decide) ?_
            refine lv_iload hx hb dX11_worth_29 (lv_at hl 5 rfl) ?_
            refine lv_icmp_ne (tgt := 38) hx hb dX11_worth_31 (by decide) (fun c_31 => ?_) (fun c_31 => ?_)
            · replace HW := HW.1 c_31
              exact B38 K6 hK6 x1 x2 x3 x4 x5 h g _ _ _ HW hG (lv_sub hl [0, 1, 2, 3, 4, 5] rfl)
            · replace HW := HW.2 c_31
              exact B34 K6 hK6 x1 x2 x3 x4 x5 h g _ _ _ HW hG (lv_sub hl [0, 1, 2, 3, 4, 5] rfl)
  have E0 : ∀ (H : Heap) (locs : List Loc) (ls : Array Slot), gG D cy ad (gA ad s.heap.size) s.heap h g H locs → lv_has ls 7 [(0, .ref (ad 135)), (1, .int x1), (2, .int x2), (3, .int x3)] → W p l e ({ frames := 3, cells := 0, slots := 0, locals := 69 } : Room) s m args below meth c H locs 0 0 (MQ below (va_Qi (fun (r : Int32) (u : HI × HL) => Q r u.1 u.2) (gB D cy ad s.heap.size) (gA ad s.heap.size)) args s 0 0 (gA ad s.heap.size)) (F0 m 0 ls []) := by
    intro H locs ls hG hl
    unfold w_X11_worth at HW
    refine lv_iconst (v := 0) hx hb dX11_worth_0 (by decide) ?_
    refine lv_istore (lv' := [(4, .int (0 : Int32)), (0, .ref (ad 135)), (1, .int x1), (2, .int x2), (3, .int x3)]) hx hb dX11_worth_1 hl (by decide) rfl (fun ls hl => ?_)
    refine lv_iconst (v := 0) hx hb dX11_worth_3 (by decide) ?_
    refine lv_istore (lv' := [(5, .int (0 : Int32)), (4, .int (0 : Int32)), (0, .ref (ad 135)), (1, .int x1), (2, .int x2), (3, .int x3)]) hx hb dX11_worth_4 hl (by decide) rfl (fun ls hl => ?_)
    obtain ⟨n_6, HW⟩ := HW
    exact L6 n_6 x1 x2 x3 (0 : Int32) (0 : Int32) h g _ _ _ HW hG (lv_sub hl [2, 3, 4, 5, 1, 0] rfl)
  exact E0 _ _ _ hG hl

def j_X11_choice_57 (Q : Int32 → HI → HL → Prop) (K14 : Int32 → Int32 → Int32 → Int32 → Int32 → HI → HL → Prop) (x1 : Int32) (x2 : Int32) (x3 : Int32) (x4 : Int32) (x5 : Int32) (h : HI) (g : HL) : Prop :=
  (∀ x5_57 : Int32, x5_57 = (x5 + 1) → K14 x1 x2 x3 x4 x5_57 h g)
def b_X11_choice_14 (Q : Int32 → HI → HL → Prop) (K14 : Int32 → Int32 → Int32 → Int32 → Int32 → HI → HL → Prop) (x1 : Int32) (x2 : Int32) (x3 : Int32) (x4 : Int32) (x5 : Int32) (h : HI) (g : HL) : Prop :=
  (((48 : Int32) ≤ x5 → (vp_in (((4096 : Int32) * x2) + x1) 36864 ∧ ∀ h_75 : HI, h_75 = hu h 148 (((4096 : Int32) * x2) + x1).toNatClampNeg x3 → Q x4 h_75 g)) ∧ (¬ (48 : Int32) ≤ x5 → (∃ P_26 : Int32 → HI → HL → Prop, w_X11_mayTeach x1 x2 x5 h g P_26 ∧ ∀ (r_26 : Int32) (h_26 : HI) (g_26 : HL), zb r_26 → P_26 r_26 h_26 g_26 → ((r_26 = 0 → j_X11_choice_57 Q K14 x1 x2 x3 x4 x5 h_26 g_26) ∧ (¬ r_26 = 0 → (∃ P_37 : Int32 → HI → HL → Prop, w_X11_worth x1 x2 x5 h_26 g_26 P_37 ∧ ∀ (r_37 : Int32) (h_37 : HI) (g_37 : HL), P_37 r_37 h_37 g_37 → ((r_37 ≤ x3 → j_X11_choice_57 Q K14 x1 x2 x3 x4 x5 h_37 g_37) ∧ (¬ r_37 ≤ x3 → (∃ P_49 : Int32 → HI → HL → Prop, w_X11_worth x1 x2 x5 h_37 g_37 P_49 ∧ ∀ (r_49 : Int32) (h_49 : HI) (g_49 : HL), P_49 r_49 h_49 g_49 → j_X11_choice_57 Q K14 x1 x2 r_49 x5 x5 h_49 g_49)))))))))
def F_X11_choice_14 (Q : Int32 → HI → HL → Prop) (K : Int32 × Int32 × Int32 × Int32 × Int32 × HI × HL → Prop) (q : Int32 × Int32 × Int32 × Int32 × Int32 × HI × HL) : Prop := b_X11_choice_14 Q (fun x1 x2 x3 x4 x5 h g => K (x1, x2, x3, x4, x5, h, g)) q.1 q.2.1 q.2.2.1 q.2.2.2.1 q.2.2.2.2.1 q.2.2.2.2.2.1 q.2.2.2.2.2.2
def w_X11_choice (x1 : Int32) (x2 : Int32) (h : HI) (g : HL) (Q : Int32 → HI → HL → Prop) : Prop :=
  (∃ P_4 : Int32 → HI → HL → Prop, w_X11_worth x1 x2 (-1 : Int32) h g P_4 ∧ ∀ (r_4 : Int32) (h_4 : HI) (g_4 : HL), P_4 r_4 h_4 g_4 → lpE (F_X11_choice_14 Q) (x1, x2, r_4, (-1 : Int32), (0 : Int32), h_4, g_4))
set_option maxHeartbeats 8000000 in
set_option maxRecDepth 100000 in
theorem m_X11_choice (l : Launch) (D : va_G) (cy : Nat → ClassId) (ad : Nat → Nat) (h : HI) (g : HL) (sz : Nat) (x1 : Int32) (x2 : Int32) (Q : Int32 → HI → HL → Prop) (HW : w_X11_choice x1 x2 h g Q) : Met l yX11_choice (wa yX11_choice cX11_choice 6 (some .int)) ({ frames := 4, cells := 0, slots := 0, locals := 95 }) (va_Pc [.ref (ad 135), .int x1, .int x2] (gI D cy ad h g sz)) (va_Qi (fun (r : Int32) (u : HI × HL) => Q r u.1 u.2) (gB D cy ad sz) (gA ad sz)) 0 0 (gA ad sz) := by
  refine Met.ofW (cc := cX11_choice) (maxL := 6) (ret := (some .int)) (by decide) rfl ?_
  intro p e s m args below meth c s₁ B hml hv
  obtain ⟨hav, hsz, hP, hK, hD0, hNw⟩ := hv
  have hx := B.exec
  have hb := B.bytes
  have hr := B.returns
  have hts := atoms_spec (ws := (wa yX11_choice cX11_choice 6 (some .int))) B.pre
  have hw := wa_hw hts
  have hown : s.vm.findClass RX11 = some m.cls := findClass_of_methodNamed B.named
  have hlocks := B.notSynchronized
  subst hsz
  have hG : gG D cy ad (gA ad s.heap.size) s.heap h g s.heap [] := ⟨hP, gA_self hD0, va_S.rf⟩
  clear hP hD0
  have lk49 := hw (.fieldLink RX11 49 "OldWorksModel" "most" "[I") (wm5 52 rfl rfl)
  rw [show (headSpec (wa yX11_choice cX11_choice 6 (some .int)) ({ frames := 4, cells := 0, slots := 0, locals := 95 } : Room)).room = ({ frames := 4, cells := 0, slots := 0, locals := 95 } : Room) from rfl]
  have hl := lv_entry ([.ref (ad 135), .int x1, .int x2]) (n := 6) (Nat.le_of_ble_eq_true rfl)
  rw [show entryFrame m args 6 = entryFrame m ([.ref (ad 135), .int x1, .int x2] : List Value).toArray 6 from by rw [hav], lg_entry_eq]
  generalize (lg_sl ([.ref (ad 135), .int x1, .int x2]) ++ List.replicate (6 - (lg_sl ([.ref (ad 135), .int x1, .int x2])).length) Slot.unset).toArray = ls at hl ⊢
  have hl : lv_has ls 6 [(0, .ref (ad 135)), (1, .int x1), (2, .int x2)] := hl
  have B57 : ∀ (K14 : Int32 → Int32 → Int32 → Int32 → Int32 → HI → HL → Prop) (hK14 : ∀ (x1 : Int32) (x2 : Int32) (x3 : Int32) (x4 : Int32) (x5 : Int32) (h : HI) (g : HL) (H : Heap) (locs : List Loc) (ls : Array Slot), K14 x1 x2 x3 x4 x5 h g → gG D cy ad (gA ad s.heap.size) s.heap h g H locs → lv_has ls 6 [(0, .ref (ad 135)), (1, .int x1), (2, .int x2), (3, .int x3), (4, .int x4), (5, .int x5)] → W p l e ({ frames := 4, cells := 0, slots := 0, locals := 95 } : Room) s m args below meth c H locs 0 0 (MQ below (va_Qi (fun (r : Int32) (u : HI × HL) => Q r u.1 u.2) (gB D cy ad s.heap.size) (gA ad s.heap.size)) args s 0 0 (gA ad s.heap.size)) (F0 m 14 ls [])) (x1 : Int32) (x2 : Int32) (x3 : Int32) (x4 : Int32) (x5 : Int32) (h : HI) (g : HL) (H : Heap) (locs : List Loc) (ls : Array Slot), j_X11_choice_57 Q K14 x1 x2 x3 x4 x5 h g → gG D cy ad (gA ad s.heap.size) s.heap h g H locs → lv_has ls 6 [(0, .ref (ad 135)), (1, .int x1), (2, .int x2), (3, .int x3), (4, .int x4), (5, .int x5)] → W p l e ({ frames := 4, cells := 0, slots := 0, locals := 95 } : Room) s m args below meth c H locs 0 0 (MQ below (va_Qi (fun (r : Int32) (u : HI × HL) => Q r u.1 u.2) (gB D cy ad s.heap.size) (gA ad s.heap.size)) args s 0 0 (gA ad s.heap.size)) (F0 m 57 ls []) := by
    intro K14 hK14 x1 x2 x3 x4 x5 h g H locs ls HW hG hl
    unfold j_X11_choice_57 at HW
    obtain ⟨x5_57, ex5_57⟩ : ∃ y : Int32, y = (x5 + 1) := ⟨_, rfl⟩
    replace HW := HW x5_57 ex5_57
    refine lv_iinc (v := x5_57) (lv' := [(5, .int x5_57), (0, .ref (ad 135)), (1, .int x1), (2, .int x2), (3, .int x3), (4, .int x4)]) hx hb dX11_choice_57 hl (k := 5) rfl (by rw [ex5_57]; rfl) (by decide) rfl (fun ls hl => ?_)
    refine lv_goto (tgt := 14) hx hb dX11_choice_60 (by decide) ?_
    exact hK14 x1 x2 x3 x4 x5_57 h g _ _ _ HW hG (lv_sub hl [1, 2, 3, 4, 5, 0] rfl)
  have L14 : ∀ (n : Nat) (x1 : Int32) (x2 : Int32) (x3 : Int32) (x4 : Int32) (x5 : Int32) (h : HI) (g : HL) (H : Heap) (locs : List Loc) (ls : Array Slot), lpN (F_X11_choice_14 Q) n (x1, x2, x3, x4, x5, h, g) → gG D cy ad (gA ad s.heap.size) s.heap h g H locs → lv_has ls 6 [(0, .ref (ad 135)), (1, .int x1), (2, .int x2), (3, .int x3), (4, .int x4), (5, .int x5)] → W p l e ({ frames := 4, cells := 0, slots := 0, locals := 95 } : Room) s m args below meth c H locs 0 0 (MQ below (va_Qi (fun (r : Int32) (u : HI × HL) => Q r u.1 u.2) (gB D cy ad s.heap.size) (gA ad s.heap.size)) args s 0 0 (gA ad s.heap.size)) (F0 m 14 ls []) := by
    intro n
    induction n with
    | zero => intro x1 x2 x3 x4 x5 h g H locs ls HW; exact HW.elim
    | succ n ih =>
      intro x1 x2 x3 x4 x5 h g H locs ls HW hG hl
      have HW : b_X11_choice_14 Q (fun x1 x2 x3 x4 x5 h g => lpN (F_X11_choice_14 Q) n (x1, x2, x3, x4, x5, h, g)) x1 x2 x3 x4 x5 h g := HW
      generalize hKe : (fun (x1 : Int32) (x2 : Int32) (x3 : Int32) (x4 : Int32) (x5 : Int32) (h : HI) (g : HL) => lpN (F_X11_choice_14 Q) n (x1, x2, x3, x4, x5, h, g)) = K14 at HW
      have hK14 : ∀ (x1 : Int32) (x2 : Int32) (x3 : Int32) (x4 : Int32) (x5 : Int32) (h : HI) (g : HL) (H : Heap) (locs : List Loc) (ls : Array Slot), K14 x1 x2 x3 x4 x5 h g → gG D cy ad (gA ad s.heap.size) s.heap h g H locs → lv_has ls 6 [(0, .ref (ad 135)), (1, .int x1), (2, .int x2), (3, .int x3), (4, .int x4), (5, .int x5)] → W p l e ({ frames := 4, cells := 0, slots := 0, locals := 95 } : Room) s m args below meth c H locs 0 0 (MQ below (va_Qi (fun (r : Int32) (u : HI × HL) => Q r u.1 u.2) (gB D cy ad s.heap.size) (gA ad s.heap.size)) args s 0 0 (gA ad s.heap.size)) (F0 m 14 ls []) := by subst hKe; exact ih
      clear ih
      clear hKe
      unfold b_X11_choice_14 at HW
      refine lv_iload hx hb dX11_choice_14 (lv_at hl 5 rfl) ?_
      refine lv_bipush (v := 48) hx hb dX11_choice_16 (by decide) ?_
      refine lv_icmp_ge (tgt := 63) hx hb dX11_choice_18 (by decide) (fun c_18 => ?_) (fun c_18 => ?_)
      · replace HW := HW.1 c_18
        refine lv_aload_n hx hb dX11_choice_63 rfl (lv_at hl 0 rfl) ?_
        refine g_getr hx hb hw inG11 hown hK hG gl_135 rfl gk_135 (by decide) 25 (by decide) (by rw [gm_135]; decide) (r := 148) gr_135_25 lk49 dX11_choice_64 ?_
        refine lv_sipush (v := 4096) hx hb dX11_choice_67 (by decide) ?_
        refine lv_iload_n hx hb dX11_choice_70 rfl (lv_at hl 2 rfl) ?_
        refine lv_imul hx hb dX11_choice_71 ?_
        refine lv_iload_n hx hb dX11_choice_72 rfl (lv_at hl 1 rfl) ?_
        refine lv_iadd hx hb dX11_choice_73 ?_
        refine lv_iload_n hx hb dX11_choice_74 rfl (lv_at hl 3 rfl) ?_
        refine g_iast hx hb hK hG gl_148 gk_148 gn_148 HW.1 dX11_choice_75 (fun H locs hG => ?_)
        replace HW := HW.2
        obtain ⟨h_75, eh_75⟩ : ∃ y : HI, y = hu h 148 (((4096 : Int32) * x2) + x1).toNatClampNeg x3 := ⟨_, rfl⟩
        rw [← eh_75] at hG
        replace HW := HW h_75 eh_75
        refine lv_iload hx hb dX11_choice_76 (lv_at hl 4 rfl) ?_
        exact W.iret (v := x4) hx hb hr (fun t ht hW => ⟨⟨x4, (h_75, g), rfl, HW, g_B ht hG⟩, hG.2.2.F ht⟩) hG.2.2.2.2 dX11_choice_78
      · replace HW := HW.2 c_18
        refine lv_aload_n hx hb dX11_choice_21 rfl (lv_at hl 0 rfl) ?_
        refine lv_iload_n hx hb dX11_choice_22 rfl (lv_at hl 1 rfl) ?_
        refine lv_iload_n hx hb dX11_choice_23 rfl (lv_at hl 2 rfl) ?_
        refine lv_iload hx hb dX11_choice_24 (lv_at hl 5 rfl) ?_
        obtain ⟨P_26, HC_26, HW⟩ := HW
        refine g_callz (g_runV (As := [.int x1, .int x2, .int x5]) (rest := []) ⟨hx, hb, hml, hown, hts⟩ (m_X11_mayTeach l D cy ad h g H.size x1 x2 x5 P_26 HC_26) (cwV 3 hts (gd_V (wm6 216 rfl rfl) (wm6 218 rfl rfl) (wmp5 (q := (yX11_mayTeach, 26)) 15 rfl) (wm1 13 rfl rfl) (wm6 219 rfl rfl)) rfl rfl rfl (by decide +kernel) ⟨Nat.le_of_ble_eq_true rfl, Nat.le_of_ble_eq_true rfl⟩) hK hNw hG gl_135 rfl gk_135 (by decide) rfl rfl hl.1 rfl (lv_room (Nat.le_of_ble_eq_true rfl)) dX11_choice_26 ⟨Nat.zero_le _, Nat.zero_le _⟩) hG (fun r_26 h_26 g_26 H locs hz hq hG => ?_)
        replace HW := HW r_26 h_26 g_26 hz hq
        refine lv_if_eq (tgt := 57) hx hb dX11_choice_29 (by decide) (fun c_29 => ?_) (fun c_29 => ?_)
        · replace HW := HW.1 c_29
          exact B57 K14 hK14 x1 x2 x3 x4 x5 h_26 g_26 _ _ _ HW hG (lv_sub hl [0, 1, 2, 3, 4, 5] rfl)
        · replace HW := HW.2 c_29
          refine lv_aload_n hx hb dX11_choice_32 rfl (lv_at hl 0 rfl) ?_
          refine lv_iload_n hx hb dX11_choice_33 rfl (lv_at hl 1 rfl) ?_
          refine lv_iload_n hx hb dX11_choice_34 rfl (lv_at hl 2 rfl) ?_
          refine lv_iload hx hb dX11_choice_35 (lv_at hl 5 rfl) ?_
          obtain ⟨P_37, HC_37, HW⟩ := HW
          refine g_calli (g_runV (As := [.int x1, .int x2, .int x5]) (rest := []) ⟨hx, hb, hml, hown, hts⟩ (m_X11_worth l D cy ad h_26 g_26 H.size x1 x2 x5 P_37 HC_37) (cwV 3 hts (gd_V (wm6 205 rfl rfl) (wm6 207 rfl rfl) (wmp5 (q := (yX11_worth, 26)) 13 rfl) (wm1 13 rfl rfl) (wm6 208 rfl rfl)) rfl rfl rfl (by decide +kernel) ⟨Nat.le_of_ble_eq_true rfl, Nat.le_of_ble_eq_true rfl⟩) hK hNw hG gl_135 rfl gk_135 (by decide) rfl rfl hl.1 rfl (lv_room (Nat.le_of_ble_eq_true rfl)) dX11_choice_37 ⟨Nat.zero_le _, Nat.zero_le _⟩) hG (fun r_37 h_37 g_37 H locs hq hG => ?_)
          replace HW := HW r_37 h_37 g_37 hq
          refine lv_iload_n hx hb dX11_choice_40 rfl (lv_at hl 3 rfl) ?_
          refine lv_icmp_le (tgt := 57) hx hb dX11_choice_41 (by decide) (fun c_41 => ?_) (fun c_41 => ?_)
          · replace HW := HW.1 c_41
            exact B57 K14 hK14 x1 x2 x3 x4 x5 h_37 g_37 _ _ _ HW hG (lv_sub hl [0, 1, 2, 3, 4, 5] rfl)
          · replace HW := HW.2 c_41
            refine lv_aload_n hx hb dX11_choice_44 rfl (lv_at hl 0 rfl) ?_
            refine lv_iload_n hx hb dX11_choice_45 rfl (lv_at hl 1 rfl) ?_
            refine lv_iload_n hx hb dX11_choice_46 rfl (lv_at hl 2 rfl) ?_
            refine lv_iload hx hb dX11_choice_47 (lv_at hl 5 rfl) ?_
            obtain ⟨P_49, HC_49, HW⟩ := HW
            refine g_calli (g_runV (As := [.int x1, .int x2, .int x5]) (rest := []) ⟨hx, hb, hml, hown, hts⟩ (m_X11_worth l D cy ad h_37 g_37 H.size x1 x2 x5 P_49 HC_49) (cwV 3 hts (gd_V (wm6 205 rfl rfl) (wm6 207 rfl rfl) (wmp5 (q := (yX11_worth, 26)) 13 rfl) (wm1 13 rfl rfl) (wm6 208 rfl rfl)) rfl rfl rfl (by decide +kernel) ⟨Nat.le_of_ble_eq_true rfl, Nat.le_of_ble_eq_true rfl⟩) hK hNw hG gl_135 rfl gk_135 (by decide) rfl rfl hl.1 rfl (lv_room (Nat.le_of_ble_eq_true rfl)) dX11_choice_49 ⟨Nat.zero_le _, Nat.zero_le _⟩) hG (fun r_49 h_49 g_49 H locs hq hG => ?_)
            replace HW := HW r_49 h_49 g_49 hq
            refine lv_istore_n (lv' := [(3, .int r_49), (0, .ref (ad 135)), (1, .int x1), (2, .int x2), (4, .int x4), (5, .int x5)]) hx hb dX11_choice_52 rfl hl (by decide) rfl (fun ls hl => ?_)
            refine lv_iload hx hb dX11_choice_53 (lv_at hl 5 rfl) ?_
            refine lv_istore (lv' := [(4, .int x5), (3, .int r_49), (0, .ref (ad 135)), (1, .int x1), (2, .int x2), (5, .int x5)]) hx hb dX11_choice_55 hl (by decide) rfl (fun ls hl => ?_)
            exact B57 K14 hK14 x1 x2 r_49 x5 x5 h_49 g_49 _ _ _ HW hG (lv_sub hl [2, 3, 4, 1, 0, 5] rfl)
  have E0 : ∀ (H : Heap) (locs : List Loc) (ls : Array Slot), gG D cy ad (gA ad s.heap.size) s.heap h g H locs → lv_has ls 6 [(0, .ref (ad 135)), (1, .int x1), (2, .int x2)] → W p l e ({ frames := 4, cells := 0, slots := 0, locals := 95 } : Room) s m args below meth c H locs 0 0 (MQ below (va_Qi (fun (r : Int32) (u : HI × HL) => Q r u.1 u.2) (gB D cy ad s.heap.size) (gA ad s.heap.size)) args s 0 0 (gA ad s.heap.size)) (F0 m 0 ls []) := by
    intro H locs ls hG hl
    unfold w_X11_choice at HW
    refine lv_aload_n hx hb dX11_choice_0 rfl (lv_at hl 0 rfl) ?_
    refine lv_iload_n hx hb dX11_choice_1 rfl (lv_at hl 1 rfl) ?_
    refine lv_iload_n hx hb dX11_choice_2 rfl (lv_at hl 2 rfl) ?_
    refine lv_iconst (v := (-1)) hx hb dX11_choice_3 (by decide) ?_
    obtain ⟨P_4, HC_4, HW⟩ := HW
    refine g_calli (g_runV (As := [.int x1, .int x2, .int (-1 : Int32)]) (rest := []) ⟨hx, hb, hml, hown, hts⟩ (m_X11_worth l D cy ad h g H.size x1 x2 (-1 : Int32) P_4 HC_4) (cwV 3 hts (gd_V (wm6 205 rfl rfl) (wm6 207 rfl rfl) (wmp5 (q := (yX11_worth, 26)) 13 rfl) (wm1 13 rfl rfl) (wm6 208 rfl rfl)) rfl rfl rfl (by decide +kernel) ⟨Nat.le_of_ble_eq_true rfl, Nat.le_of_ble_eq_true rfl⟩) hK hNw hG gl_135 rfl gk_135 (by decide) rfl rfl hl.1 rfl (lv_room (Nat.le_of_ble_eq_true rfl)) dX11_choice_4 ⟨Nat.zero_le _, Nat.zero_le _⟩) hG (fun r_4 h_4 g_4 H locs hq hG => ?_)
    replace HW := HW r_4 h_4 g_4 hq
    refine lv_istore_n (lv' := [(3, .int r_4), (0, .ref (ad 135)), (1, .int x1), (2, .int x2)]) hx hb dX11_choice_7 rfl hl (by decide) rfl (fun ls hl => ?_)
    refine lv_iconst (v := (-1)) hx hb dX11_choice_8 (by decide) ?_
    refine lv_istore (lv' := [(4, .int (-1 : Int32)), (3, .int r_4), (0, .ref (ad 135)), (1, .int x1), (2, .int x2)]) hx hb dX11_choice_9 hl (by decide) rfl (fun ls hl => ?_)
    refine lv_iconst (v := 0) hx hb dX11_choice_11 (by decide) ?_
    refine lv_istore (lv' := [(5, .int (0 : Int32)), (4, .int (-1 : Int32)), (3, .int r_4), (0, .ref (ad 135)), (1, .int x1), (2, .int x2)]) hx hb dX11_choice_12 hl (by decide) rfl (fun ls hl => ?_)
    obtain ⟨n_14, HW⟩ := HW
    exact L14 n_14 x1 x2 r_4 (-1 : Int32) (0 : Int32) h_4 g_4 _ _ _ HW hG (lv_sub hl [3, 4, 5, 2, 1, 0] rfl)
  exact E0 _ _ _ hG hl

def j_X11_plan_200 (Q : Int32 → HI → HL → Prop) (K159 : Int32 → Int32 → Int32 → Int32 → HI → HL → Prop) (x2 : Int32) (x4 : Int32) (x5 : Int32) (s0 : Int32) (s1 : Int32) (h : HI) (g : HL) : Prop :=
  (∀ x3_201 : Int32, x3_201 = (s0 ||| s1) → (∀ x5_202 : Int32, x5_202 = (x5 + 1) → K159 x2 x3_201 x4 x5_202 h g))
def b_X11_plan_159 (Q : Int32 → HI → HL → Prop) (K159 : Int32 → Int32 → Int32 → Int32 → HI → HL → Prop) (x2 : Int32) (x3 : Int32) (x4 : Int32) (x5 : Int32) (h : HI) (g : HL) : Prop :=
  ((x2 < x5 → ((¬ x4 = (-1 : Int32) → Q x4 h g) ∧ (x4 = (-1 : Int32) → Q (-5 : Int32) h g))) ∧ (¬ x2 < x5 → (∃ P_169 : Int32 → HI → HL → Prop, w_X11_choice x3 x5 h g P_169 ∧ ∀ (r_169 : Int32) (h_169 : HI) (g_169 : HL), P_169 r_169 h_169 g_169 → ((¬ r_169 = (-1 : Int32) → j_X11_plan_200 Q K159 x2 r_169 x5 x3 ((1 : Int32) <<< ((((4 : Int32) * (r_169 - r_169 / (4 : Int32) * (4 : Int32))) + ((r_169 / (4 : Int32)) - (r_169 / (4 : Int32)) / (4 : Int32) * (4 : Int32))) &&& 31)) h_169 g_169) ∧ (r_169 = (-1 : Int32) → j_X11_plan_200 Q K159 x2 r_169 x5 x3 (0 : Int32) h_169 g_169)))))
def F_X11_plan_159 (Q : Int32 → HI → HL → Prop) (K : Int32 × Int32 × Int32 × Int32 × HI × HL → Prop) (q : Int32 × Int32 × Int32 × Int32 × HI × HL) : Prop := b_X11_plan_159 Q (fun x2 x3 x4 x5 h g => K (x2, x3, x4, x5, h, g)) q.1 q.2.1 q.2.2.1 q.2.2.2.1 q.2.2.2.2.1 q.2.2.2.2.2
def b_X11_plan_102 (Q : Int32 → HI → HL → Prop) (K102 : Int32 → Int32 → Int32 → HI → HL → Prop) (x2 : Int32) (x3 : Int32) (x4 : Int32) (h : HI) (g : HL) : Prop :=
  (vp_in (7 : Int32) 887 ∧ (((h 136 (7 : Int32).toNatClampNeg) ≤ x4 → ((¬ x2 = (-1 : Int32) → lpE (F_X11_plan_159 Q) (x2, x3, (-1 : Int32), (0 : Int32), h, g)) ∧ (x2 = (-1 : Int32) → (vp_in x3 36864 ∧ Q (h 148 x3.toNatClampNeg) h g)))) ∧ (¬ (h 136 (7 : Int32).toNatClampNeg) ≤ x4 → (vp_in ((817 : Int32) + ((2 : Int32) * x4)) 887 ∧ (∀ x3_134 : Int32, x3_134 = (x3 ||| ((h 136 ((817 : Int32) + ((2 : Int32) * x4)).toNatClampNeg) <<< (((4 : Int32) * x4) &&& 31))) → (∀ x4_135 : Int32, x4_135 = (x4 + 1) → K102 x2 x3_134 x4_135 h g))))))
def F_X11_plan_102 (Q : Int32 → HI → HL → Prop) (K : Int32 × Int32 × Int32 × HI × HL → Prop) (q : Int32 × Int32 × Int32 × HI × HL) : Prop := b_X11_plan_102 Q (fun x2 x3 x4 h g => K (x2, x3, x4, h, g)) q.1 q.2.1 q.2.2.1 q.2.2.2.1 q.2.2.2.2
def b_X11_plan_69 (Q : Int32 → HI → HL → Prop) (K62 : Int32 → Int32 → HI → HL → Prop) (K69 : Int32 → Int32 → Int32 → HI → HL → Prop) (x2 : Int32) (x3 : Int32) (x4 : Int32) (h : HI) (g : HL) : Prop :=
  (((4096 : Int32) ≤ x4 → (∀ x3_91 : Int32, x3_91 = (x3 + (-1)) → K62 x2 x3_91 h g)) ∧ (¬ (4096 : Int32) ≤ x4 → (∃ P_81 : Int32 → HI → HL → Prop, w_X11_choice x4 x3 h g P_81 ∧ ∀ (r_81 : Int32) (h_81 : HI) (g_81 : HL), P_81 r_81 h_81 g_81 → (∀ x4_85 : Int32, x4_85 = (x4 + 1) → K69 x2 x3 x4_85 h_81 g_81))))
def F_X11_plan_69 (Q : Int32 → HI → HL → Prop) (K62 : Int32 → Int32 → HI → HL → Prop) (K : Int32 × Int32 × Int32 × HI × HL → Prop) (q : Int32 × Int32 × Int32 × HI × HL) : Prop := b_X11_plan_69 Q K62 (fun x2 x3 x4 h g => K (x2, x3, x4, h, g)) q.1 q.2.1 q.2.2.1 q.2.2.2.1 q.2.2.2.2
def b_X11_plan_62 (Q : Int32 → HI → HL → Prop) (K62 : Int32 → Int32 → HI → HL → Prop) (x2 : Int32) (x3 : Int32) (h : HI) (g : HL) : Prop :=
  ((x3 < 0 → lpE (F_X11_plan_102 Q) (x2, (0 : Int32), (0 : Int32), h, g)) ∧ (¬ x3 < 0 → lpE (F_X11_plan_69 Q K62) (x2, x3, (0 : Int32), h, g)))
def F_X11_plan_62 (Q : Int32 → HI → HL → Prop) (K : Int32 × Int32 × HI × HL → Prop) (q : Int32 × Int32 × HI × HL) : Prop := b_X11_plan_62 Q (fun x2 x3 h g => K (x2, x3, h, g)) q.1 q.2.1 q.2.2.1 q.2.2.2
def b_X11_plan_32 (Q : Int32 → HI → HL → Prop) (K32 : Int32 → Int32 → Int32 → HI → HL → Prop) (x1 : Int32) (x2 : Int32) (x3 : Int32) (h : HI) (g : HL) : Prop :=
  (((4096 : Int32) ≤ x3 → (∀ x3_61 : Int32, x3_61 = (x1 - (1 : Int32)) → lpE (F_X11_plan_62 Q) (x2, x3_61, h, g))) ∧ (¬ (4096 : Int32) ≤ x3 → (vp_in (((4096 : Int32) * x1) + x3) 36864 ∧ ∀ h_51 : HI, h_51 = hu h 148 (((4096 : Int32) * x1) + x3).toNatClampNeg (0 : Int32) → (∀ x3_52 : Int32, x3_52 = (x3 + 1) → K32 x1 x2 x3_52 h_51 g))))
def F_X11_plan_32 (Q : Int32 → HI → HL → Prop) (K : Int32 × Int32 × Int32 × HI × HL → Prop) (q : Int32 × Int32 × Int32 × HI × HL) : Prop := b_X11_plan_32 Q (fun x1 x2 x3 h g => K (x1, x2, x3, h, g)) q.1 q.2.1 q.2.2.1 q.2.2.2.1 q.2.2.2.2
def w_X11_plan (x1 : Int32) (x2 : Int32) (h : HI) (g : HL) (Q : Int32 → HI → HL → Prop) : Prop :=
  (∃ P_6 : Int32 → HI → HL → Prop, w_X11_in ((x1).toInt64) (1 : Int64) (8 : Int64) h g P_6 ∧ ∀ (r_6 : Int32) (h_6 : HI) (g_6 : HL), zb r_6 → P_6 r_6 h_6 g_6 → ((r_6 = 0 → Q (-10 : Int32) h_6 g_6) ∧ (¬ r_6 = 0 → (∃ P_21 : Int32 → HI → HL → Prop, w_X11_in ((x2).toInt64) (-1 : Int64) (((x1 - (1 : Int32))).toInt64) h_6 g_6 P_21 ∧ ∀ (r_21 : Int32) (h_21 : HI) (g_21 : HL), zb r_21 → P_21 r_21 h_21 g_21 → ((¬ r_21 = 0 → lpE (F_X11_plan_32 Q) (x1, x2, (0 : Int32), h_21, g_21)) ∧ (r_21 = 0 → Q (-10 : Int32) h_21 g_21))))))
set_option maxHeartbeats 8000000 in
set_option maxRecDepth 100000 in
theorem m_X11_plan (l : Launch) (D : va_G) (cy : Nat → ClassId) (ad : Nat → Nat) (h : HI) (g : HL) (sz : Nat) (x1 : Int32) (x2 : Int32) (Q : Int32 → HI → HL → Prop) (HW : w_X11_plan x1 x2 h g Q) : Met l yX11_plan (wa yX11_plan cX11_plan 6 (some .int)) ({ frames := 5, cells := 0, slots := 0, locals := 120 }) (va_Pc [.ref (ad 135), .int x1, .int x2] (gI D cy ad h g sz)) (va_Qi (fun (r : Int32) (u : HI × HL) => Q r u.1 u.2) (gB D cy ad sz) (gA ad sz)) 0 0 (gA ad sz) := by
  refine Met.ofW (cc := cX11_plan) (maxL := 6) (ret := (some .int)) (by decide) rfl ?_
  intro p e s m args below meth c s₁ B hml hv
  obtain ⟨hav, hsz, hP, hK, hD0, hNw⟩ := hv
  have hx := B.exec
  have hb := B.bytes
  have hr := B.returns
  have hts := atoms_spec (ws := (wa yX11_plan cX11_plan 6 (some .int))) B.pre
  have hw := wa_hw hts
  have hown : s.vm.findClass RX11 = some m.cls := findClass_of_methodNamed B.named
  have hlocks := B.notSynchronized
  subst hsz
  have hG : gG D cy ad (gA ad s.heap.size) s.heap h g s.heap [] := ⟨hP, gA_self hD0, va_S.rf⟩
  clear hP hD0
  have cn306 := hw (.constantLong RX11 306 (8)) (wm6 200 rfl rfl)
  have cn65 := hw (.constantLong RX11 65 (-1)) (wm5 118 rfl rfl)
  have lk49 := hw (.fieldLink RX11 49 "OldWorksModel" "most" "[I") (wm5 52 rfl rfl)
  have lk7 := hw (.fieldLink RX11 7 "OldWorksModel" "st" "[I") (wm5 27 rfl rfl)
  rw [show (headSpec (wa yX11_plan cX11_plan 6 (some .int)) ({ frames := 5, cells := 0, slots := 0, locals := 120 } : Room)).room = ({ frames := 5, cells := 0, slots := 0, locals := 120 } : Room) from rfl]
  have hl := lv_entry ([.ref (ad 135), .int x1, .int x2]) (n := 6) (Nat.le_of_ble_eq_true rfl)
  rw [show entryFrame m args 6 = entryFrame m ([.ref (ad 135), .int x1, .int x2] : List Value).toArray 6 from by rw [hav], lg_entry_eq]
  generalize (lg_sl ([.ref (ad 135), .int x1, .int x2]) ++ List.replicate (6 - (lg_sl ([.ref (ad 135), .int x1, .int x2])).length) Slot.unset).toArray = ls at hl ⊢
  have hl : lv_has ls 6 [(0, .ref (ad 135)), (1, .int x1), (2, .int x2)] := hl
  have B200 : ∀ (K159 : Int32 → Int32 → Int32 → Int32 → HI → HL → Prop) (hK159 : ∀ (x2 : Int32) (x3 : Int32) (x4 : Int32) (x5 : Int32) (h : HI) (g : HL) (H : Heap) (locs : List Loc) (ls : Array Slot), K159 x2 x3 x4 x5 h g → gG D cy ad (gA ad s.heap.size) s.heap h g H locs → lv_has ls 6 [(0, .ref (ad 135)), (2, .int x2), (3, .int x3), (4, .int x4), (5, .int x5)] → W p l e ({ frames := 5, cells := 0, slots := 0, locals := 120 } : Room) s m args below meth c H locs 0 0 (MQ below (va_Qi (fun (r : Int32) (u : HI × HL) => Q r u.1 u.2) (gB D cy ad s.heap.size) (gA ad s.heap.size)) args s 0 0 (gA ad s.heap.size)) (F0 m 159 ls [])) (x2 : Int32) (x4 : Int32) (x5 : Int32) (s0 : Int32) (s1 : Int32) (h : HI) (g : HL) (H : Heap) (locs : List Loc) (ls : Array Slot), j_X11_plan_200 Q K159 x2 x4 x5 s0 s1 h g → gG D cy ad (gA ad s.heap.size) s.heap h g H locs → lv_has ls 6 [(0, .ref (ad 135)), (2, .int x2), (4, .int x4), (5, .int x5)] → W p l e ({ frames := 5, cells := 0, slots := 0, locals := 120 } : Room) s m args below meth c H locs 0 0 (MQ below (va_Qi (fun (r : Int32) (u : HI × HL) => Q r u.1 u.2) (gB D cy ad s.heap.size) (gA ad s.heap.size)) args s 0 0 (gA ad s.heap.size)) (F0 m 200 ls [.int s1, .int s0]) := by
    intro K159 hK159 x2 x4 x5 s0 s1 h g H locs ls HW hG hl
    unfold j_X11_plan_200 at HW
    refine lv_ior hx hb dX11_plan_200 ?_
    refine lv_topi (fun x3_201 ex3_201 => ?_)
    replace HW := HW x3_201 ex3_201
    refine lv_istore_n (lv' := [(3, .int x3_201), (0, .ref (ad 135)), (2, .int x2), (4, .int x4), (5, .int x5)]) hx hb dX11_plan_201 rfl hl (by decide) rfl (fun ls hl => ?_)
    obtain ⟨x5_202, ex5_202⟩ : ∃ y : Int32, y = (x5 + 1) := ⟨_, rfl⟩
    replace HW := HW x5_202 ex5_202
    refine lv_iinc (v := x5_202) (lv' := [(5, .int x5_202), (3, .int x3_201), (0, .ref (ad 135)), (2, .int x2), (4, .int x4)]) hx hb dX11_plan_202 hl (k := 4) rfl (by rw [ex5_202]; rfl) (by decide) rfl (fun ls hl => ?_)
    refine lv_goto (tgt := 159) hx hb dX11_plan_205 (by decide) ?_
    exact hK159 x2 x3_201 x4 x5_202 h g _ _ _ HW hG (lv_sub hl [2, 3, 1, 4, 0] rfl)
  have L159 : ∀ (n : Nat) (x2 : Int32) (x3 : Int32) (x4 : Int32) (x5 : Int32) (h : HI) (g : HL) (H : Heap) (locs : List Loc) (ls : Array Slot), lpN (F_X11_plan_159 Q) n (x2, x3, x4, x5, h, g) → gG D cy ad (gA ad s.heap.size) s.heap h g H locs → lv_has ls 6 [(0, .ref (ad 135)), (2, .int x2), (3, .int x3), (4, .int x4), (5, .int x5)] → W p l e ({ frames := 5, cells := 0, slots := 0, locals := 120 } : Room) s m args below meth c H locs 0 0 (MQ below (va_Qi (fun (r : Int32) (u : HI × HL) => Q r u.1 u.2) (gB D cy ad s.heap.size) (gA ad s.heap.size)) args s 0 0 (gA ad s.heap.size)) (F0 m 159 ls []) := by
    intro n
    induction n with
    | zero => intro x2 x3 x4 x5 h g H locs ls HW; exact HW.elim
    | succ n ih =>
      intro x2 x3 x4 x5 h g H locs ls HW hG hl
      have HW : b_X11_plan_159 Q (fun x2 x3 x4 x5 h g => lpN (F_X11_plan_159 Q) n (x2, x3, x4, x5, h, g)) x2 x3 x4 x5 h g := HW
      generalize hKe : (fun (x2 : Int32) (x3 : Int32) (x4 : Int32) (x5 : Int32) (h : HI) (g : HL) => lpN (F_X11_plan_159 Q) n (x2, x3, x4, x5, h, g)) = K159 at HW
      have hK159 : ∀ (x2 : Int32) (x3 : Int32) (x4 : Int32) (x5 : Int32) (h : HI) (g : HL) (H : Heap) (locs : List Loc) (ls : Array Slot), K159 x2 x3 x4 x5 h g → gG D cy ad (gA ad s.heap.size) s.heap h g H locs → lv_has ls 6 [(0, .ref (ad 135)), (2, .int x2), (3, .int x3), (4, .int x4), (5, .int x5)] → W p l e ({ frames := 5, cells := 0, slots := 0, locals := 120 } : Room) s m args below meth c H locs 0 0 (MQ below (va_Qi (fun (r : Int32) (u : HI × HL) => Q r u.1 u.2) (gB D cy ad s.heap.size) (gA ad s.heap.size)) args s 0 0 (gA ad s.heap.size)) (F0 m 159 ls []) := by subst hKe; exact ih
      clear ih
      clear hKe
      unfold b_X11_plan_159 at HW
      refine lv_iload hx hb dX11_plan_159 (lv_at hl 4 rfl) ?_
      refine lv_iload_n hx hb dX11_plan_161 rfl (lv_at hl 1 rfl) ?_
      refine lv_icmp_gt (tgt := 208) hx hb dX11_plan_162 (by decide) (fun c_162 => ?_) (fun c_162 => ?_)
      · replace HW := HW.1 c_162
        refine lv_iload hx hb dX11_plan_208 (lv_at hl 3 rfl) ?_
        refine lv_iconst (v := (-1)) hx hb dX11_plan_210 (by decide) ?_
        refine lv_icmp_ne (tgt := 219) hx hb dX11_plan_211 (by decide) (fun c_211 => ?_) (fun c_211 => ?_)
        · replace HW := HW.1 c_211
          refine lv_iload hx hb dX11_plan_219 (lv_at hl 3 rfl) ?_
          exact W.iret (v := x4) hx hb hr (fun t ht hW => ⟨⟨x4, (h, g), rfl, HW, g_B ht hG⟩, hG.2.2.F ht⟩) hG.2.2.2.2 dX11_plan_221
        · replace HW := HW.2 c_211
          refine lv_bipush (v := (-5)) hx hb dX11_plan_214 (by decide) ?_
          refine lv_goto (tgt := 221) hx hb dX11_plan_216 (by decide) ?_
          exact W.iret (v := (-5 : Int32)) hx hb hr (fun t ht hW => ⟨⟨(-5 : Int32), (h, g), rfl, HW, g_B ht hG⟩, hG.2.2.F ht⟩) hG.2.2.2.2 dX11_plan_221
      · replace HW := HW.2 c_162
        refine lv_aload_n hx hb dX11_plan_165 rfl (lv_at hl 0 rfl) ?_
        refine lv_iload_n hx hb dX11_plan_166 rfl (lv_at hl 2 rfl) ?_
        refine lv_iload hx hb dX11_plan_167 (lv_at hl 4 rfl) ?_
        obtain ⟨P_169, HC_169, HW⟩ := HW
        refine g_calli (g_runV (As := [.int x3, .int x5]) (rest := []) ⟨hx, hb, hml, hown, hts⟩ (m_X11_choice l D cy ad h g H.size x3 x5 P_169 HC_169) (cwV 2 hts (gd_V (wm6 201 rfl rfl) (wm6 203 rfl rfl) (wmp5 (q := (yX11_choice, 26)) 12 rfl) (wm1 13 rfl rfl) (wm6 204 rfl rfl)) rfl rfl rfl (by decide +kernel) ⟨Nat.le_of_ble_eq_true rfl, Nat.le_of_ble_eq_true rfl⟩) hK hNw hG gl_135 rfl gk_135 (by decide) rfl rfl hl.1 rfl (lv_room (Nat.le_of_ble_eq_true rfl)) dX11_plan_169 ⟨Nat.zero_le _, Nat.zero_le _⟩) hG (fun r_169 h_169 g_169 H locs hq hG => ?_)
        replace HW := HW r_169 h_169 g_169 hq
        refine lv_istore (lv' := [(4, .int r_169), (0, .ref (ad 135)), (2, .int x2), (3, .int x3), (5, .int x5)]) hx hb dX11_plan_172 hl (by decide) rfl (fun ls hl => ?_)
        refine lv_iload_n hx hb dX11_plan_174 rfl (lv_at hl 3 rfl) ?_
        refine lv_iload hx hb dX11_plan_175 (lv_at hl 0 rfl) ?_
        refine lv_iconst (v := (-1)) hx hb dX11_plan_177 (by decide) ?_
        refine lv_icmp_ne (tgt := 185) hx hb dX11_plan_178 (by decide) (fun c_178 => ?_) (fun c_178 => ?_)
        · replace HW := HW.1 c_178
          refine lv_iconst (v := 1) hx hb dX11_plan_185 (by decide) ?_
          refine lv_iconst (v := 4) hx hb dX11_plan_186 (by decide) ?_
          refine lv_iload hx hb dX11_plan_187 (lv_at hl 0 rfl) ?_
          refine lv_iconst (v := 4) hx hb dX11_plan_189 (by decide) ?_
          refine lv_irem hx hb dX11_plan_190 (by decide) ?_
          refine lv_imul hx hb dX11_plan_191 ?_
          refine lv_iload hx hb dX11_plan_192 (lv_at hl 0 rfl) ?_
          refine lv_iconst (v := 4) hx hb dX11_plan_194 (by decide) ?_
          refine lv_idiv hx hb dX11_plan_195 (by decide) ?_
          refine lv_iconst (v := 4) hx hb dX11_plan_196 (by decide) ?_
          refine lv_irem hx hb dX11_plan_197 (by decide) ?_
          refine lv_iadd hx hb dX11_plan_198 ?_
          refine lv_ishl hx hb dX11_plan_199 ?_
          exact B200 K159 hK159 x2 r_169 x5 x3 ((1 : Int32) <<< ((((4 : Int32) * (r_169 - r_169 / (4 : Int32) * (4 : Int32))) + ((r_169 / (4 : Int32)) - (r_169 / (4 : Int32)) / (4 : Int32) * (4 : Int32))) &&& 31)) h_169 g_169 _ _ _ HW hG (lv_sub hl [1, 2, 0, 4] rfl)
        · replace HW := HW.2 c_178
          refine lv_iconst (v := 0) hx hb dX11_plan_181 (by decide) ?_
          refine lv_goto (tgt := 200) hx hb dX11_plan_182 (by decide) ?_
          exact B200 K159 hK159 x2 r_169 x5 x3 (0 : Int32) h_169 g_169 _ _ _ HW hG (lv_sub hl [1, 2, 0, 4] rfl)
  have L102 : ∀ (n : Nat) (x2 : Int32) (x3 : Int32) (x4 : Int32) (h : HI) (g : HL) (H : Heap) (locs : List Loc) (ls : Array Slot), lpN (F_X11_plan_102 Q) n (x2, x3, x4, h, g) → gG D cy ad (gA ad s.heap.size) s.heap h g H locs → lv_has ls 6 [(0, .ref (ad 135)), (2, .int x2), (3, .int x3), (4, .int x4)] → W p l e ({ frames := 5, cells := 0, slots := 0, locals := 120 } : Room) s m args below meth c H locs 0 0 (MQ below (va_Qi (fun (r : Int32) (u : HI × HL) => Q r u.1 u.2) (gB D cy ad s.heap.size) (gA ad s.heap.size)) args s 0 0 (gA ad s.heap.size)) (F0 m 102 ls []) := by
    intro n
    induction n with
    | zero => intro x2 x3 x4 h g H locs ls HW; exact HW.elim
    | succ n ih =>
      intro x2 x3 x4 h g H locs ls HW hG hl
      have HW : b_X11_plan_102 Q (fun x2 x3 x4 h g => lpN (F_X11_plan_102 Q) n (x2, x3, x4, h, g)) x2 x3 x4 h g := HW
      generalize hKe : (fun (x2 : Int32) (x3 : Int32) (x4 : Int32) (h : HI) (g : HL) => lpN (F_X11_plan_102 Q) n (x2, x3, x4, h, g)) = K102 at HW
      have hK102 : ∀ (x2 : Int32) (x3 : Int32) (x4 : Int32) (h : HI) (g : HL) (H : Heap) (locs : List Loc) (ls : Array Slot), K102 x2 x3 x4 h g → gG D cy ad (gA ad s.heap.size) s.heap h g H locs → lv_has ls 6 [(0, .ref (ad 135)), (2, .int x2), (3, .int x3), (4, .int x4)] → W p l e ({ frames := 5, cells := 0, slots := 0, locals := 120 } : Room) s m args below meth c H locs 0 0 (MQ below (va_Qi (fun (r : Int32) (u : HI × HL) => Q r u.1 u.2) (gB D cy ad s.heap.size) (gA ad s.heap.size)) args s 0 0 (gA ad s.heap.size)) (F0 m 102 ls []) := by subst hKe; exact ih
      clear ih
      clear hKe
      unfold b_X11_plan_102 at HW
      refine lv_iload hx hb dX11_plan_102 (lv_at hl 3 rfl) ?_
      refine lv_aload_n hx hb dX11_plan_104 rfl (lv_at hl 0 rfl) ?_
      refine g_getr hx hb hw inG11 hown hK hG gl_135 rfl gk_135 (by decide) 0 (by decide) (by rw [gm_135]; decide) (r := 136) gr_135_0 lk7 dX11_plan_105 ?_
      refine lv_bipush (v := 7) hx hb dX11_plan_108 (by decide) ?_
      refine g_iald hx hb hK hG gl_136 gk_136 gn_136 HW.1 dX11_plan_110 ?_
      replace HW := HW.2
      refine lv_icmp_ge (tgt := 141) hx hb dX11_plan_111 (by decide) (fun c_111 => ?_) (fun c_111 => ?_)
      · replace HW := HW.1 c_111
        refine lv_iload_n hx hb dX11_plan_141 rfl (lv_at hl 1 rfl) ?_
        refine lv_iconst (v := (-1)) hx hb dX11_plan_142 (by decide) ?_
        refine lv_icmp_ne (tgt := 153) hx hb dX11_plan_143 (by decide) (fun c_143 => ?_) (fun c_143 => ?_)
        · replace HW := HW.1 c_143
          refine lv_iconst (v := (-1)) hx hb dX11_plan_153 (by decide) ?_
          refine lv_istore (lv' := [(4, .int (-1 : Int32)), (0, .ref (ad 135)), (2, .int x2), (3, .int x3)]) hx hb dX11_plan_154 hl (by decide) rfl (fun ls hl => ?_)
          refine lv_iconst (v := 0) hx hb dX11_plan_156 (by decide) ?_
          refine lv_istore (lv' := [(5, .int (0 : Int32)), (4, .int (-1 : Int32)), (0, .ref (ad 135)), (2, .int x2), (3, .int x3)]) hx hb dX11_plan_157 hl (by decide) rfl (fun ls hl => ?_)
          obtain ⟨n_159, HW⟩ := HW
          exact L159 n_159 x2 x3 (-1 : Int32) (0 : Int32) h g _ _ _ HW hG (lv_sub hl [2, 3, 4, 1, 0] rfl)
        · replace HW := HW.2 c_143
          refine lv_aload_n hx hb dX11_plan_146 rfl (lv_at hl 0 rfl) ?_
          refine g_getr hx hb hw inG11 hown hK hG gl_135 rfl gk_135 (by decide) 25 (by decide) (by rw [gm_135]; decide) (r := 148) gr_135_25 lk49 dX11_plan_147 ?_
          refine lv_iload_n hx hb dX11_plan_150 rfl (lv_at hl 2 rfl) ?_
          refine g_iald hx hb hK hG gl_148 gk_148 gn_148 HW.1 dX11_plan_151 ?_
          replace HW := HW.2
          exact W.iret (v := (h 148 x3.toNatClampNeg)) hx hb hr (fun t ht hW => ⟨⟨(h 148 x3.toNatClampNeg), (h, g), rfl, HW, g_B ht hG⟩, hG.2.2.F ht⟩) hG.2.2.2.2 dX11_plan_152
      · replace HW := HW.2 c_111
        refine lv_iload_n hx hb dX11_plan_114 rfl (lv_at hl 2 rfl) ?_
        refine lv_aload_n hx hb dX11_plan_115 rfl (lv_at hl 0 rfl) ?_
        refine g_getr hx hb hw inG11 hown hK hG gl_135 rfl gk_135 (by decide) 0 (by decide) (by rw [gm_135]; decide) (r := 136) gr_135_0 lk7 dX11_plan_116 ?_
        refine lv_sipush (v := 817) hx hb dX11_plan_119 (by decide) ?_
        refine lv_iconst (v := 2) hx hb dX11_plan_122 (by decide) ?_
        refine lv_iload hx hb dX11_plan_123 (lv_at hl 3 rfl) ?_
        refine lv_imul hx hb dX11_plan_125 ?_
        refine lv_iadd hx hb dX11_plan_126 ?_
        refine g_iald hx hb hK hG gl_136 gk_136 gn_136 HW.1 dX11_plan_127 ?_
        replace HW := HW.2
        refine lv_iconst (v := 4) hx hb dX11_plan_128 (by decide) ?_
        refine lv_iload hx hb dX11_plan_129 (lv_at hl 3 rfl) ?_
        refine lv_imul hx hb dX11_plan_131 ?_
        refine lv_ishl hx hb dX11_plan_132 ?_
        refine lv_ior hx hb dX11_plan_133 ?_
        refine lv_topi (fun x3_134 ex3_134 => ?_)
        replace HW := HW x3_134 ex3_134
        refine lv_istore_n (lv' := [(3, .int x3_134), (0, .ref (ad 135)), (2, .int x2), (4, .int x4)]) hx hb dX11_plan_134 rfl hl (by decide) rfl (fun ls hl => ?_)
        obtain ⟨x4_135, ex4_135⟩ : ∃ y : Int32, y = (x4 + 1) := ⟨_, rfl⟩
        replace HW := HW x4_135 ex4_135
        refine lv_iinc (v := x4_135) (lv' := [(4, .int x4_135), (3, .int x3_134), (0, .ref (ad 135)), (2, .int x2)]) hx hb dX11_plan_135 hl (k := 3) rfl (by rw [ex4_135]; rfl) (by decide) rfl (fun ls hl => ?_)
        refine lv_goto (tgt := 102) hx hb dX11_plan_138 (by decide) ?_
        exact hK102 x2 x3_134 x4_135 h g _ _ _ HW hG (lv_sub hl [2, 3, 1, 0] rfl)
  have L69 : ∀ (K62 : Int32 → Int32 → HI → HL → Prop) (hK62 : ∀ (x2 : Int32) (x3 : Int32) (h : HI) (g : HL) (H : Heap) (locs : List Loc) (ls : Array Slot), K62 x2 x3 h g → gG D cy ad (gA ad s.heap.size) s.heap h g H locs → lv_has ls 6 [(0, .ref (ad 135)), (2, .int x2), (3, .int x3)] → W p l e ({ frames := 5, cells := 0, slots := 0, locals := 120 } : Room) s m args below meth c H locs 0 0 (MQ below (va_Qi (fun (r : Int32) (u : HI × HL) => Q r u.1 u.2) (gB D cy ad s.heap.size) (gA ad s.heap.size)) args s 0 0 (gA ad s.heap.size)) (F0 m 62 ls [])) (n : Nat) (x2 : Int32) (x3 : Int32) (x4 : Int32) (h : HI) (g : HL) (H : Heap) (locs : List Loc) (ls : Array Slot), lpN (F_X11_plan_69 Q K62) n (x2, x3, x4, h, g) → gG D cy ad (gA ad s.heap.size) s.heap h g H locs → lv_has ls 6 [(0, .ref (ad 135)), (2, .int x2), (3, .int x3), (4, .int x4)] → W p l e ({ frames := 5, cells := 0, slots := 0, locals := 120 } : Room) s m args below meth c H locs 0 0 (MQ below (va_Qi (fun (r : Int32) (u : HI × HL) => Q r u.1 u.2) (gB D cy ad s.heap.size) (gA ad s.heap.size)) args s 0 0 (gA ad s.heap.size)) (F0 m 69 ls []) := by
    intro K62 hK62 n
    induction n with
    | zero => intro x2 x3 x4 h g H locs ls HW; exact HW.elim
    | succ n ih =>
      intro x2 x3 x4 h g H locs ls HW hG hl
      have HW : b_X11_plan_69 Q K62 (fun x2 x3 x4 h g => lpN (F_X11_plan_69 Q K62) n (x2, x3, x4, h, g)) x2 x3 x4 h g := HW
      generalize hKe : (fun (x2 : Int32) (x3 : Int32) (x4 : Int32) (h : HI) (g : HL) => lpN (F_X11_plan_69 Q K62) n (x2, x3, x4, h, g)) = K69 at HW
      have hK69 : ∀ (x2 : Int32) (x3 : Int32) (x4 : Int32) (h : HI) (g : HL) (H : Heap) (locs : List Loc) (ls : Array Slot), K69 x2 x3 x4 h g → gG D cy ad (gA ad s.heap.size) s.heap h g H locs → lv_has ls 6 [(0, .ref (ad 135)), (2, .int x2), (3, .int x3), (4, .int x4)] → W p l e ({ frames := 5, cells := 0, slots := 0, locals := 120 } : Room) s m args below meth c H locs 0 0 (MQ below (va_Qi (fun (r : Int32) (u : HI × HL) => Q r u.1 u.2) (gB D cy ad s.heap.size) (gA ad s.heap.size)) args s 0 0 (gA ad s.heap.size)) (F0 m 69 ls []) := by subst hKe; exact ih
      clear ih
      clear hKe
      unfold b_X11_plan_69 at HW
      refine lv_iload hx hb dX11_plan_69 (lv_at hl 3 rfl) ?_
      refine lv_sipush (v := 4096) hx hb dX11_plan_71 (by decide) ?_
      refine lv_icmp_ge (tgt := 91) hx hb dX11_plan_74 (by decide) (fun c_74 => ?_) (fun c_74 => ?_)
      · replace HW := HW.1 c_74
        obtain ⟨x3_91, ex3_91⟩ : ∃ y : Int32, y = (x3 + (-1)) := ⟨_, rfl⟩
        replace HW := HW x3_91 ex3_91
        refine lv_iinc (v := x3_91) (lv' := [(3, .int x3_91), (0, .ref (ad 135)), (2, .int x2), (4, .int x4)]) hx hb dX11_plan_91 hl (k := 2) rfl (by rw [ex3_91]; rfl) (by decide) rfl (fun ls hl => ?_)
        refine lv_goto (tgt := 62) hx hb dX11_plan_94 (by decide) ?_
        exact hK62 x2 x3_91 h g _ _ _ HW hG (lv_sub hl [1, 2, 0] rfl)
      · replace HW := HW.2 c_74
        refine lv_aload_n hx hb dX11_plan_77 rfl (lv_at hl 0 rfl) ?_
        refine lv_iload hx hb dX11_plan_78 (lv_at hl 3 rfl) ?_
        refine lv_iload_n hx hb dX11_plan_80 rfl (lv_at hl 2 rfl) ?_
        obtain ⟨P_81, HC_81, HW⟩ := HW
        refine g_calli (g_runV (As := [.int x4, .int x3]) (rest := []) ⟨hx, hb, hml, hown, hts⟩ (m_X11_choice l D cy ad h g H.size x4 x3 P_81 HC_81) (cwV 2 hts (gd_V (wm6 201 rfl rfl) (wm6 203 rfl rfl) (wmp5 (q := (yX11_choice, 26)) 12 rfl) (wm1 13 rfl rfl) (wm6 204 rfl rfl)) rfl rfl rfl (by decide +kernel) ⟨Nat.le_of_ble_eq_true rfl, Nat.le_of_ble_eq_true rfl⟩) hK hNw hG gl_135 rfl gk_135 (by decide) rfl rfl hl.1 rfl (lv_room (Nat.le_of_ble_eq_true rfl)) dX11_plan_81 ⟨Nat.zero_le _, Nat.zero_le _⟩) hG (fun r_81 h_81 g_81 H locs hq hG => ?_)
        replace HW := HW r_81 h_81 g_81 hq
        refine lv_pop hx hb dX11_plan_84 rfl ?_
        obtain ⟨x4_85, ex4_85⟩ : ∃ y : Int32, y = (x4 + 1) := ⟨_, rfl⟩
        replace HW := HW x4_85 ex4_85
        refine lv_iinc (v := x4_85) (lv' := [(4, .int x4_85), (0, .ref (ad 135)), (2, .int x2), (3, .int x3)]) hx hb dX11_plan_85 hl (k := 3) rfl (by rw [ex4_85]; rfl) (by decide) rfl (fun ls hl => ?_)
        refine lv_goto (tgt := 69) hx hb dX11_plan_88 (by decide) ?_
        exact hK69 x2 x3 x4_85 h_81 g_81 _ _ _ HW hG (lv_sub hl [1, 2, 3, 0] rfl)
  have L62 : ∀ (n : Nat) (x2 : Int32) (x3 : Int32) (h : HI) (g : HL) (H : Heap) (locs : List Loc) (ls : Array Slot), lpN (F_X11_plan_62 Q) n (x2, x3, h, g) → gG D cy ad (gA ad s.heap.size) s.heap h g H locs → lv_has ls 6 [(0, .ref (ad 135)), (2, .int x2), (3, .int x3)] → W p l e ({ frames := 5, cells := 0, slots := 0, locals := 120 } : Room) s m args below meth c H locs 0 0 (MQ below (va_Qi (fun (r : Int32) (u : HI × HL) => Q r u.1 u.2) (gB D cy ad s.heap.size) (gA ad s.heap.size)) args s 0 0 (gA ad s.heap.size)) (F0 m 62 ls []) := by
    intro n
    induction n with
    | zero => intro x2 x3 h g H locs ls HW; exact HW.elim
    | succ n ih =>
      intro x2 x3 h g H locs ls HW hG hl
      have HW : b_X11_plan_62 Q (fun x2 x3 h g => lpN (F_X11_plan_62 Q) n (x2, x3, h, g)) x2 x3 h g := HW
      generalize hKe : (fun (x2 : Int32) (x3 : Int32) (h : HI) (g : HL) => lpN (F_X11_plan_62 Q) n (x2, x3, h, g)) = K62 at HW
      have hK62 : ∀ (x2 : Int32) (x3 : Int32) (h : HI) (g : HL) (H : Heap) (locs : List Loc) (ls : Array Slot), K62 x2 x3 h g → gG D cy ad (gA ad s.heap.size) s.heap h g H locs → lv_has ls 6 [(0, .ref (ad 135)), (2, .int x2), (3, .int x3)] → W p l e ({ frames := 5, cells := 0, slots := 0, locals := 120 } : Room) s m args below meth c H locs 0 0 (MQ below (va_Qi (fun (r : Int32) (u : HI × HL) => Q r u.1 u.2) (gB D cy ad s.heap.size) (gA ad s.heap.size)) args s 0 0 (gA ad s.heap.size)) (F0 m 62 ls []) := by subst hKe; exact ih
      clear ih
      clear hKe
      unfold b_X11_plan_62 at HW
      refine lv_iload_n hx hb dX11_plan_62 rfl (lv_at hl 2 rfl) ?_
      refine lv_if_lt (tgt := 97) hx hb dX11_plan_63 (by decide) (fun c_63 => ?_) (fun c_63 => ?_)
      · replace HW := HW.1 c_63
        refine lv_iconst (v := 0) hx hb dX11_plan_97 (by decide) ?_
        refine lv_istore_n (lv' := [(3, .int (0 : Int32)), (0, .ref (ad 135)), (2, .int x2)]) hx hb dX11_plan_98 rfl hl (by decide) rfl (fun ls hl => ?_)
        refine lv_iconst (v := 0) hx hb dX11_plan_99 (by decide) ?_
        refine lv_istore (lv' := [(4, .int (0 : Int32)), (3, .int (0 : Int32)), (0, .ref (ad 135)), (2, .int x2)]) hx hb dX11_plan_100 hl (by decide) rfl (fun ls hl => ?_)
        obtain ⟨n_102, HW⟩ := HW
        exact L102 n_102 x2 (0 : Int32) (0 : Int32) h g _ _ _ HW hG (lv_sub hl [2, 3, 1, 0] rfl)
      · replace HW := HW.2 c_63
        refine lv_iconst (v := 0) hx hb dX11_plan_66 (by decide) ?_
        refine lv_istore (lv' := [(4, .int (0 : Int32)), (0, .ref (ad 135)), (2, .int x2), (3, .int x3)]) hx hb dX11_plan_67 hl (by decide) rfl (fun ls hl => ?_)
        obtain ⟨n_69, HW⟩ := HW
        exact L69 K62 hK62 n_69 x2 x3 (0 : Int32) h g _ _ _ HW hG (lv_sub hl [1, 2, 3, 0] rfl)
  have L32 : ∀ (n : Nat) (x1 : Int32) (x2 : Int32) (x3 : Int32) (h : HI) (g : HL) (H : Heap) (locs : List Loc) (ls : Array Slot), lpN (F_X11_plan_32 Q) n (x1, x2, x3, h, g) → gG D cy ad (gA ad s.heap.size) s.heap h g H locs → lv_has ls 6 [(0, .ref (ad 135)), (1, .int x1), (2, .int x2), (3, .int x3)] → W p l e ({ frames := 5, cells := 0, slots := 0, locals := 120 } : Room) s m args below meth c H locs 0 0 (MQ below (va_Qi (fun (r : Int32) (u : HI × HL) => Q r u.1 u.2) (gB D cy ad s.heap.size) (gA ad s.heap.size)) args s 0 0 (gA ad s.heap.size)) (F0 m 32 ls []) := by
    intro n
    induction n with
    | zero => intro x1 x2 x3 h g H locs ls HW; exact HW.elim
    | succ n ih =>
      intro x1 x2 x3 h g H locs ls HW hG hl
      have HW : b_X11_plan_32 Q (fun x1 x2 x3 h g => lpN (F_X11_plan_32 Q) n (x1, x2, x3, h, g)) x1 x2 x3 h g := HW
      generalize hKe : (fun (x1 : Int32) (x2 : Int32) (x3 : Int32) (h : HI) (g : HL) => lpN (F_X11_plan_32 Q) n (x1, x2, x3, h, g)) = K32 at HW
      have hK32 : ∀ (x1 : Int32) (x2 : Int32) (x3 : Int32) (h : HI) (g : HL) (H : Heap) (locs : List Loc) (ls : Array Slot), K32 x1 x2 x3 h g → gG D cy ad (gA ad s.heap.size) s.heap h g H locs → lv_has ls 6 [(0, .ref (ad 135)), (1, .int x1), (2, .int x2), (3, .int x3)] → W p l e ({ frames := 5, cells := 0, slots := 0, locals := 120 } : Room) s m args below meth c H locs 0 0 (MQ below (va_Qi (fun (r : Int32) (u : HI × HL) => Q r u.1 u.2) (gB D cy ad s.heap.size) (gA ad s.heap.size)) args s 0 0 (gA ad s.heap.size)) (F0 m 32 ls []) := by subst hKe; exact ih
      clear ih
      clear hKe
      unfold b_X11_plan_32 at HW
      refine lv_iload_n hx hb dX11_plan_32 rfl (lv_at hl 3 rfl) ?_
      refine lv_sipush (v := 4096) hx hb dX11_plan_33 (by decide) ?_
      refine lv_icmp_ge (tgt := 58) hx hb dX11_plan_36 (by decide) (fun c_36 => ?_) (fun c_36 => ?_)
      · replace HW := HW.1 c_36
        refine lv_iload_n hx hb dX11_plan_58 rfl (lv_at hl 1 rfl) ?_
        refine lv_iconst (v := 1) hx hb dX11_plan_59 (by decide) ?_
        refine lv_isub hx hb dX11_plan_60 ?_
        refine lv_topi (fun x3_61 ex3_61 => ?_)
        replace HW := HW x3_61 ex3_61
        refine lv_istore_n (lv' := [(3, .int x3_61), (0, .ref (ad 135)), (1, .int x1), (2, .int x2)]) hx hb dX11_plan_61 rfl hl (by decide) rfl (fun ls hl => ?_)
        obtain ⟨n_62, HW⟩ := HW
        exact L62 n_62 x2 x3_61 h g _ _ _ HW hG (lv_sub hl [1, 3, 0] rfl)
      · replace HW := HW.2 c_36
        refine lv_aload_n hx hb dX11_plan_39 rfl (lv_at hl 0 rfl) ?_
        refine g_getr hx hb hw inG11 hown hK hG gl_135 rfl gk_135 (by decide) 25 (by decide) (by rw [gm_135]; decide) (r := 148) gr_135_25 lk49 dX11_plan_40 ?_
        refine lv_sipush (v := 4096) hx hb dX11_plan_43 (by decide) ?_
        refine lv_iload_n hx hb dX11_plan_46 rfl (lv_at hl 1 rfl) ?_
        refine lv_imul hx hb dX11_plan_47 ?_
        refine lv_iload_n hx hb dX11_plan_48 rfl (lv_at hl 3 rfl) ?_
        refine lv_iadd hx hb dX11_plan_49 ?_
        refine lv_iconst (v := 0) hx hb dX11_plan_50 (by decide) ?_
        refine g_iast hx hb hK hG gl_148 gk_148 gn_148 HW.1 dX11_plan_51 (fun H locs hG => ?_)
        replace HW := HW.2
        obtain ⟨h_51, eh_51⟩ : ∃ y : HI, y = hu h 148 (((4096 : Int32) * x1) + x3).toNatClampNeg (0 : Int32) := ⟨_, rfl⟩
        rw [← eh_51] at hG
        replace HW := HW h_51 eh_51
        obtain ⟨x3_52, ex3_52⟩ : ∃ y : Int32, y = (x3 + 1) := ⟨_, rfl⟩
        replace HW := HW x3_52 ex3_52
        refine lv_iinc (v := x3_52) (lv' := [(3, .int x3_52), (0, .ref (ad 135)), (1, .int x1), (2, .int x2)]) hx hb dX11_plan_52 hl (k := 3) rfl (by rw [ex3_52]; rfl) (by decide) rfl (fun ls hl => ?_)
        refine lv_goto (tgt := 32) hx hb dX11_plan_55 (by decide) ?_
        exact hK32 x1 x2 x3_52 h_51 g _ _ _ HW hG (lv_sub hl [1, 2, 3, 0] rfl)
  have E0 : ∀ (H : Heap) (locs : List Loc) (ls : Array Slot), gG D cy ad (gA ad s.heap.size) s.heap h g H locs → lv_has ls 6 [(0, .ref (ad 135)), (1, .int x1), (2, .int x2)] → W p l e ({ frames := 5, cells := 0, slots := 0, locals := 120 } : Room) s m args below meth c H locs 0 0 (MQ below (va_Qi (fun (r : Int32) (u : HI × HL) => Q r u.1 u.2) (gB D cy ad s.heap.size) (gA ad s.heap.size)) args s 0 0 (gA ad s.heap.size)) (F0 m 0 ls []) := by
    intro H locs ls hG hl
    unfold w_X11_plan at HW
    refine lv_iload_n hx hb dX11_plan_0 rfl (lv_at hl 1 rfl) ?_
    refine lv_i2l hx hb dX11_plan_1 rfl ?_
    refine lv_lconst (v := 1) hx hb dX11_plan_2 (by decide) ?_
    refine lv_ldc2 (v := 8) hx hb hown cn306 dX11_plan_3 ?_
    obtain ⟨P_6, HC_6, HW⟩ := HW
    refine g_callz (g_runS (As := [.long ((x1).toInt64), .long (1 : Int64), .long (8 : Int64)]) (rest := []) ⟨hx, hb, hml, hown, hts⟩ (m_X11_in l D cy ad h g H.size ((x1).toInt64) (1 : Int64) (8 : Int64) P_6 HC_6) (va_cwS 3 hts (gd_S (wm5 111 rfl rfl) (wm5 112 rfl rfl) (wm1 13 rfl rfl) (wm5 113 rfl rfl)) rfl rfl rfl (by decide +kernel) ⟨Nat.le_of_ble_eq_true rfl, Nat.le_of_ble_eq_true rfl⟩) hK hNw hG rfl rfl hl.1 rfl (lv_room (Nat.le_of_ble_eq_true rfl)) dX11_plan_6 ⟨Nat.zero_le _, Nat.zero_le _⟩) hG (fun r_6 h_6 g_6 H locs hz hq hG => ?_)
    replace HW := HW r_6 h_6 g_6 hz hq
    refine lv_if_eq (tgt := 27) hx hb dX11_plan_9 (by decide) (fun c_9 => ?_) (fun c_9 => ?_)
    · replace HW := HW.1 c_9
      refine lv_bipush (v := (-10)) hx hb dX11_plan_27 (by decide) ?_
      exact W.iret (v := (-10 : Int32)) hx hb hr (fun t ht hW => ⟨⟨(-10 : Int32), (h_6, g_6), rfl, HW, g_B ht hG⟩, hG.2.2.F ht⟩) hG.2.2.2.2 dX11_plan_29
    · replace HW := HW.2 c_9
      refine lv_iload_n hx hb dX11_plan_12 rfl (lv_at hl 2 rfl) ?_
      refine lv_i2l hx hb dX11_plan_13 rfl ?_
      refine lv_ldc2 (v := (-1)) hx hb hown cn65 dX11_plan_14 ?_
      refine lv_iload_n hx hb dX11_plan_17 rfl (lv_at hl 1 rfl) ?_
      refine lv_iconst (v := 1) hx hb dX11_plan_18 (by decide) ?_
      refine lv_isub hx hb dX11_plan_19 ?_
      refine lv_i2l hx hb dX11_plan_20 rfl ?_
      obtain ⟨P_21, HC_21, HW⟩ := HW
      refine g_callz (g_runS (As := [.long ((x2).toInt64), .long (-1 : Int64), .long (((x1 - (1 : Int32))).toInt64)]) (rest := []) ⟨hx, hb, hml, hown, hts⟩ (m_X11_in l D cy ad h_6 g_6 H.size ((x2).toInt64) (-1 : Int64) (((x1 - (1 : Int32))).toInt64) P_21 HC_21) (va_cwS 3 hts (gd_S (wm5 111 rfl rfl) (wm5 112 rfl rfl) (wm1 13 rfl rfl) (wm5 113 rfl rfl)) rfl rfl rfl (by decide +kernel) ⟨Nat.le_of_ble_eq_true rfl, Nat.le_of_ble_eq_true rfl⟩) hK hNw hG rfl rfl hl.1 rfl (lv_room (Nat.le_of_ble_eq_true rfl)) dX11_plan_21 ⟨Nat.zero_le _, Nat.zero_le _⟩) hG (fun r_21 h_21 g_21 H locs hz hq hG => ?_)
      replace HW := HW r_21 h_21 g_21 hz hq
      refine lv_if_ne (tgt := 30) hx hb dX11_plan_24 (by decide) (fun c_24 => ?_) (fun c_24 => ?_)
      · replace HW := HW.1 c_24
        refine lv_iconst (v := 0) hx hb dX11_plan_30 (by decide) ?_
        refine lv_istore_n (lv' := [(3, .int (0 : Int32)), (0, .ref (ad 135)), (1, .int x1), (2, .int x2)]) hx hb dX11_plan_31 rfl hl (by decide) rfl (fun ls hl => ?_)
        obtain ⟨n_32, HW⟩ := HW
        exact L32 n_32 x1 x2 (0 : Int32) h_21 g_21 _ _ _ HW hG (lv_sub hl [1, 2, 3, 0] rfl)
      · replace HW := HW.2 c_24
        refine lv_bipush (v := (-10)) hx hb dX11_plan_27 (by decide) ?_
        exact W.iret (v := (-10 : Int32)) hx hb hr (fun t ht hW => ⟨⟨(-10 : Int32), (h_21, g_21), rfl, HW, g_B ht hG⟩, hG.2.2.F ht⟩) hG.2.2.2.2 dX11_plan_29
  exact E0 _ _ _ hG hl
