def w_X10_limbs (x1 : Int32) (h : HI) (g : HL) (Q : Int32 → HI → HL → Prop) : Prop :=
  (∃ P_3 : Int32 → HI → HL → Prop, w_X10_within x1 (0 : Int32) (1 : Int32) h g P_3 ∧ ∀ (r_3 : Int32) (h_3 : HI) (g_3 : HL), zb r_3 → P_3 r_3 h_3 g_3 → ((¬ r_3 = 0 → (∃ P_17 : Nat → HI → HL → Prop, w_X1_side x1 h_3 g_3 P_17 ∧ ∀ (r_17 : Nat) (h_17 : HI) (g_17 : HL), P_17 r_17 h_17 g_17 → (isB r_17 ∧ (∃ P_20 : Int32 → HI → HL → Prop, w_X0_rows r_17 h_17 g_17 P_20 ∧ ∀ (r_20 : Int32) (h_20 : HI) (g_20 : HL), P_20 r_20 h_20 g_20 → Q r_20 h_20 g_20)))) ∧ (r_3 = 0 → Q (-2 : Int32) h_3 g_3)))
set_option maxHeartbeats 8000000 in
set_option maxRecDepth 100000 in
theorem m_X10_limbs (l : Launch) (D : va_G) (cy : Nat → ClassId) (ad : Nat → Nat) (h : HI) (g : HL) (sz : Nat) (x1 : Int32) (Q : Int32 → HI → HL → Prop) (HW : w_X10_limbs x1 h g Q) : Met l yX10_limbs (wa yX10_limbs cX10_limbs 2 (some .int)) ({ frames := 1, cells := 0, slots := 0, locals := 22 }) (va_Pc [.ref (ad 0), .int x1] (gI D cy ad h g sz)) (va_Qi (fun (r : Int32) (u : HI × HL) => Q r u.1 u.2) (gB D cy ad sz) (gA ad sz)) 0 0 (gA ad sz) := by
  refine Met.ofW (cc := cX10_limbs) (maxL := 2) (ret := (some .int)) (by decide) rfl ?_
  intro p e s m args below meth c s₁ B hml hv
  obtain ⟨hav, hsz, hP, hK, hD0, hNw⟩ := hv
  have hx := B.exec
  have hb := B.bytes
  have hr := B.returns
  have hts := atoms_spec (ws := (wa yX10_limbs cX10_limbs 2 (some .int))) B.pre
  have hw := wa_hw hts
  have hown : s.vm.findClass RX10 = some m.cls := findClass_of_methodNamed B.named
  have hlocks := B.notSynchronized
  subst hsz
  have hG : gG D cy ad (gA ad s.heap.size) s.heap h g s.heap [] := ⟨hP, gA_self hD0, va_S.rf⟩
  clear hP hD0
  have lk70 := hw (.fieldLink RX10 70 "OldWorks" "breaks" "LOldWorks$Breaks;") (wm2 164 rfl rfl)
  rw [show (headSpec (wa yX10_limbs cX10_limbs 2 (some .int)) ({ frames := 1, cells := 0, slots := 0, locals := 22 } : Room)).room = ({ frames := 1, cells := 0, slots := 0, locals := 22 } : Room) from rfl]
  have hl := lv_entry ([.ref (ad 0), .int x1]) (n := 2) (Nat.le_of_ble_eq_true rfl)
  rw [show entryFrame m args 2 = entryFrame m ([.ref (ad 0), .int x1] : List Value).toArray 2 from by rw [hav], lg_entry_eq]
  generalize (lg_sl ([.ref (ad 0), .int x1]) ++ List.replicate (2 - (lg_sl ([.ref (ad 0), .int x1])).length) Slot.unset).toArray = ls at hl ⊢
  have hl : lv_has ls 2 [(0, .ref (ad 0)), (1, .int x1)] := hl
  have E0 : ∀ (H : Heap) (locs : List Loc) (ls : Array Slot), gG D cy ad (gA ad s.heap.size) s.heap h g H locs → lv_has ls 2 [(0, .ref (ad 0)), (1, .int x1)] → W p l e ({ frames := 1, cells := 0, slots := 0, locals := 22 } : Room) s m args below meth c H locs 0 0 (MQ below (va_Qi (fun (r : Int32) (u : HI × HL) => Q r u.1 u.2) (gB D cy ad s.heap.size) (gA ad s.heap.size)) args s 0 0 (gA ad s.heap.size)) (F0 m 0 ls []) := by
    intro H locs ls hG hl
    unfold w_X10_limbs at HW
    refine lv_iload_n hx hb dX10_limbs_0 rfl (lv_at hl 1 rfl) ?_
    refine lv_iconst (v := 0) hx hb dX10_limbs_1 (by decide) ?_
    refine lv_iconst (v := 1) hx hb dX10_limbs_2 (by decide) ?_
    obtain ⟨P_3, HC_3, HW⟩ := HW
    refine g_callz (g_runS (As := [.int x1, .int (0 : Int32), .int (1 : Int32)]) (rest := []) ⟨hx, hb, hml, hown, hts⟩ (m_X10_within l D cy ad h g H.size x1 (0 : Int32) (1 : Int32) P_3 HC_3) (va_cwS 3 hts (gd_S (wm2 193 rfl rfl) (wm2 194 rfl rfl) (wm1 1 rfl rfl) (wm2 195 rfl rfl)) rfl rfl rfl (by decide +kernel) ⟨Nat.le_of_ble_eq_true rfl, Nat.le_of_ble_eq_true rfl⟩) hK hNw hG rfl rfl hl.1 rfl (lv_room (Nat.le_of_ble_eq_true rfl)) dX10_limbs_3 ⟨Nat.zero_le _, Nat.zero_le _⟩) hG (fun r_3 h_3 g_3 H locs hz hq hG => ?_)
    replace HW := HW r_3 h_3 g_3 hz hq
    refine lv_if_ne (tgt := 12) hx hb dX10_limbs_6 (by decide) (fun c_6 => ?_) (fun c_6 => ?_)
    · replace HW := HW.1 c_6
      refine lv_aload_n hx hb dX10_limbs_12 rfl (lv_at hl 0 rfl) ?_
      refine g_getr hx hb hw inG10 hown hK hG gl_0 rfl gk_0 (by decide) 9 (by decide) (by rw [gm_0]; decide) (r := 109) gr_0_9 lk70 dX10_limbs_13 ?_
      refine lv_iload_n hx hb dX10_limbs_16 rfl (lv_at hl 1 rfl) ?_
      obtain ⟨P_17, HC_17, HW⟩ := HW
      refine g_callr (g_runV (As := [.int x1]) (rest := []) ⟨hx, hb, hml, hown, hts⟩ (m_X1_side l D cy ad h_3 g_3 H.size x1 P_17 HC_17) (cwV 1 hts (gd_V (wm4 84 rfl rfl) (wm4 85 rfl rfl) (wm4 86 rfl rfl) (wm1 10 rfl rfl) (wm4 87 rfl rfl)) rfl rfl rfl (by decide +kernel) ⟨Nat.le_of_ble_eq_true rfl, Nat.le_of_ble_eq_true rfl⟩) hK hNw hG gl_109 rfl gk_109 (by decide) rfl rfl hl.1 rfl (lv_room (Nat.le_of_ble_eq_true rfl)) dX10_limbs_17 ⟨Nat.zero_le _, Nat.zero_le _⟩) hG (fun r_17 h_17 g_17 H locs hq hG => ?_)
      replace HW := HW r_17 h_17 g_17 hq
      have hz_17 := HW.1
      replace HW := HW.2
      obtain ⟨P_20, HC_20, HW⟩ := HW
      refine g_calli (g_runV (As := []) (rest := []) ⟨hx, hb, hml, hown, hts⟩ (m_X0_rows l D cy ad h_17 g_17 H.size r_17 hz_17 P_20 HC_20) (cwV 0 hts (gd_V (wm4 88 rfl rfl) (wm4 89 rfl rfl) (wm4 90 rfl rfl) (wm1 11 rfl rfl) (wm4 91 rfl rfl)) rfl rfl rfl (by decide +kernel) ⟨Nat.le_of_ble_eq_true rfl, Nat.le_of_ble_eq_true rfl⟩) hK hNw hG hz_17.lt rfl hz_17.k (by decide) rfl rfl hl.1 rfl (lv_room (Nat.le_of_ble_eq_true rfl)) dX10_limbs_20 ⟨Nat.zero_le _, Nat.zero_le _⟩) hG (fun r_20 h_20 g_20 H locs hq hG => ?_)
      replace HW := HW r_20 h_20 g_20 hq
      exact W.iret (v := r_20) hx hb hr (fun t ht hW => ⟨⟨r_20, (h_20, g_20), rfl, HW, g_B ht hG⟩, hG.2.2.F ht⟩) hG.2.2.2.2 dX10_limbs_23
    · replace HW := HW.2 c_6
      refine lv_bipush (v := (-2)) hx hb dX10_limbs_9 (by decide) ?_
      exact W.iret (v := (-2 : Int32)) hx hb hr (fun t ht hW => ⟨⟨(-2 : Int32), (h_3, g_3), rfl, HW, g_B ht hG⟩, hG.2.2.F ht⟩) hG.2.2.2.2 dX10_limbs_11
  exact E0 _ _ _ hG hl

def w_X10_limb (x1 : Int32) (x2 : Int32) (h : HI) (g : HL) (Q : Int32 → HI → HL → Prop) : Prop :=
  (∃ P_3 : Int32 → HI → HL → Prop, w_X10_within x1 (0 : Int32) (1 : Int32) h g P_3 ∧ ∀ (r_3 : Int32) (h_3 : HI) (g_3 : HL), zb r_3 → P_3 r_3 h_3 g_3 → ((r_3 = 0 → Q (-2 : Int32) h_3 g_3) ∧ (¬ r_3 = 0 → ((0 ≤ x2 → (∃ P_21 : Nat → HI → HL → Prop, w_X1_side x1 h_3 g_3 P_21 ∧ ∀ (r_21 : Nat) (h_21 : HI) (g_21 : HL), P_21 r_21 h_21 g_21 → (isB r_21 ∧ (∃ P_25 : Int32 → HI → HL → Prop, w_X0_at r_21 x2 h_21 g_21 P_25 ∧ ∀ (r_25 : Int32) (h_25 : HI) (g_25 : HL), P_25 r_25 h_25 g_25 → Q r_25 h_25 g_25)))) ∧ (¬ 0 ≤ x2 → Q (-2 : Int32) h_3 g_3)))))
set_option maxHeartbeats 8000000 in
set_option maxRecDepth 100000 in
theorem m_X10_limb (l : Launch) (D : va_G) (cy : Nat → ClassId) (ad : Nat → Nat) (h : HI) (g : HL) (sz : Nat) (x1 : Int32) (x2 : Int32) (Q : Int32 → HI → HL → Prop) (HW : w_X10_limb x1 x2 h g Q) : Met l yX10_limb (wa yX10_limb cX10_limb 3 (some .int)) ({ frames := 2, cells := 0, slots := 0, locals := 43 }) (va_Pc [.ref (ad 0), .int x1, .int x2] (gI D cy ad h g sz)) (va_Qi (fun (r : Int32) (u : HI × HL) => Q r u.1 u.2) (gB D cy ad sz) (gA ad sz)) 0 0 (gA ad sz) := by
  refine Met.ofW (cc := cX10_limb) (maxL := 3) (ret := (some .int)) (by decide) rfl ?_
  intro p e s m args below meth c s₁ B hml hv
  obtain ⟨hav, hsz, hP, hK, hD0, hNw⟩ := hv
  have hx := B.exec
  have hb := B.bytes
  have hr := B.returns
  have hts := atoms_spec (ws := (wa yX10_limb cX10_limb 3 (some .int))) B.pre
  have hw := wa_hw hts
  have hown : s.vm.findClass RX10 = some m.cls := findClass_of_methodNamed B.named
  have hlocks := B.notSynchronized
  subst hsz
  have hG : gG D cy ad (gA ad s.heap.size) s.heap h g s.heap [] := ⟨hP, gA_self hD0, va_S.rf⟩
  clear hP hD0
  have lk70 := hw (.fieldLink RX10 70 "OldWorks" "breaks" "LOldWorks$Breaks;") (wm2 164 rfl rfl)
  rw [show (headSpec (wa yX10_limb cX10_limb 3 (some .int)) ({ frames := 2, cells := 0, slots := 0, locals := 43 } : Room)).room = ({ frames := 2, cells := 0, slots := 0, locals := 43 } : Room) from rfl]
  have hl := lv_entry ([.ref (ad 0), .int x1, .int x2]) (n := 3) (Nat.le_of_ble_eq_true rfl)
  rw [show entryFrame m args 3 = entryFrame m ([.ref (ad 0), .int x1, .int x2] : List Value).toArray 3 from by rw [hav], lg_entry_eq]
  generalize (lg_sl ([.ref (ad 0), .int x1, .int x2]) ++ List.replicate (3 - (lg_sl ([.ref (ad 0), .int x1, .int x2])).length) Slot.unset).toArray = ls at hl ⊢
  have hl : lv_has ls 3 [(0, .ref (ad 0)), (1, .int x1), (2, .int x2)] := hl
  have E0 : ∀ (H : Heap) (locs : List Loc) (ls : Array Slot), gG D cy ad (gA ad s.heap.size) s.heap h g H locs → lv_has ls 3 [(0, .ref (ad 0)), (1, .int x1), (2, .int x2)] → W p l e ({ frames := 2, cells := 0, slots := 0, locals := 43 } : Room) s m args below meth c H locs 0 0 (MQ below (va_Qi (fun (r : Int32) (u : HI × HL) => Q r u.1 u.2) (gB D cy ad s.heap.size) (gA ad s.heap.size)) args s 0 0 (gA ad s.heap.size)) (F0 m 0 ls []) := by
    intro H locs ls hG hl
    unfold w_X10_limb at HW
    refine lv_iload_n hx hb dX10_limb_0 rfl (lv_at hl 1 rfl) ?_
    refine lv_iconst (v := 0) hx hb dX10_limb_1 (by decide) ?_
    refine lv_iconst (v := 1) hx hb dX10_limb_2 (by decide) ?_
    obtain ⟨P_3, HC_3, HW⟩ := HW
    refine g_callz (g_runS (As := [.int x1, .int (0 : Int32), .int (1 : Int32)]) (rest := []) ⟨hx, hb, hml, hown, hts⟩ (m_X10_within l D cy ad h g H.size x1 (0 : Int32) (1 : Int32) P_3 HC_3) (va_cwS 3 hts (gd_S (wm2 193 rfl rfl) (wm2 194 rfl rfl) (wm1 1 rfl rfl) (wm2 195 rfl rfl)) rfl rfl rfl (by decide +kernel) ⟨Nat.le_of_ble_eq_true rfl, Nat.le_of_ble_eq_true rfl⟩) hK hNw hG rfl rfl hl.1 rfl (lv_room (Nat.le_of_ble_eq_true rfl)) dX10_limb_3 ⟨Nat.zero_le _, Nat.zero_le _⟩) hG (fun r_3 h_3 g_3 H locs hz hq hG => ?_)
    replace HW := HW r_3 h_3 g_3 hz hq
    refine lv_if_eq (tgt := 13) hx hb dX10_limb_6 (by decide) (fun c_6 => ?_) (fun c_6 => ?_)
    · replace HW := HW.1 c_6
      refine lv_bipush (v := (-2)) hx hb dX10_limb_13 (by decide) ?_
      exact W.iret (v := (-2 : Int32)) hx hb hr (fun t ht hW => ⟨⟨(-2 : Int32), (h_3, g_3), rfl, HW, g_B ht hG⟩, hG.2.2.F ht⟩) hG.2.2.2.2 dX10_limb_15
    · replace HW := HW.2 c_6
      refine lv_iload_n hx hb dX10_limb_9 rfl (lv_at hl 2 rfl) ?_
      refine lv_if_ge (tgt := 16) hx hb dX10_limb_10 (by decide) (fun c_10 => ?_) (fun c_10 => ?_)
      · replace HW := HW.1 c_10
        refine lv_aload_n hx hb dX10_limb_16 rfl (lv_at hl 0 rfl) ?_
        refine g_getr hx hb hw inG10 hown hK hG gl_0 rfl gk_0 (by decide) 9 (by decide) (by rw [gm_0]; decide) (r := 109) gr_0_9 lk70 dX10_limb_17 ?_
        refine lv_iload_n hx hb dX10_limb_20 rfl (lv_at hl 1 rfl) ?_
        obtain ⟨P_21, HC_21, HW⟩ := HW
        refine g_callr (g_runV (As := [.int x1]) (rest := []) ⟨hx, hb, hml, hown, hts⟩ (m_X1_side l D cy ad h_3 g_3 H.size x1 P_21 HC_21) (cwV 1 hts (gd_V (wm4 84 rfl rfl) (wm4 85 rfl rfl) (wm4 86 rfl rfl) (wm1 10 rfl rfl) (wm4 87 rfl rfl)) rfl rfl rfl (by decide +kernel) ⟨Nat.le_of_ble_eq_true rfl, Nat.le_of_ble_eq_true rfl⟩) hK hNw hG gl_109 rfl gk_109 (by decide) rfl rfl hl.1 rfl (lv_room (Nat.le_of_ble_eq_true rfl)) dX10_limb_21 ⟨Nat.zero_le _, Nat.zero_le _⟩) hG (fun r_21 h_21 g_21 H locs hq hG => ?_)
        replace HW := HW r_21 h_21 g_21 hq
        have hz_21 := HW.1
        replace HW := HW.2
        refine lv_iload_n hx hb dX10_limb_24 rfl (lv_at hl 2 rfl) ?_
        obtain ⟨P_25, HC_25, HW⟩ := HW
        refine g_calli (g_runV (As := [.int x2]) (rest := []) ⟨hx, hb, hml, hown, hts⟩ (m_X0_at l D cy ad h_21 g_21 H.size r_21 hz_21 x2 P_25 HC_25) (cwV 1 hts (gd_V (wm4 96 rfl rfl) (wm4 97 rfl rfl) (wm4 98 rfl rfl) (wm1 11 rfl rfl) (wm4 99 rfl rfl)) rfl rfl rfl (by decide +kernel) ⟨Nat.le_of_ble_eq_true rfl, Nat.le_of_ble_eq_true rfl⟩) hK hNw hG hz_21.lt rfl hz_21.k (by decide) rfl rfl hl.1 rfl (lv_room (Nat.le_of_ble_eq_true rfl)) dX10_limb_25 ⟨Nat.zero_le _, Nat.zero_le _⟩) hG (fun r_25 h_25 g_25 H locs hq hG => ?_)
        replace HW := HW r_25 h_25 g_25 hq
        exact W.iret (v := r_25) hx hb hr (fun t ht hW => ⟨⟨r_25, (h_25, g_25), rfl, HW, g_B ht hG⟩, hG.2.2.F ht⟩) hG.2.2.2.2 dX10_limb_28
      · replace HW := HW.2 c_10
        refine lv_bipush (v := (-2)) hx hb dX10_limb_13 (by decide) ?_
        exact W.iret (v := (-2 : Int32)) hx hb hr (fun t ht hW => ⟨⟨(-2 : Int32), (h_3, g_3), rfl, HW, g_B ht hG⟩, hG.2.2.F ht⟩) hG.2.2.2.2 dX10_limb_15
  exact E0 _ _ _ hG hl

def j_X10_told_30 (Q : Int32 → HI → HL → Prop) (s1 : Int32) (s2 : Int32) (h : HI) (g : HL) : Prop :=
  (∃ P_32 : Int32 → HI → HL → Prop, w_X8_add 18 s1 s2 (0 : Int32) (0 : Int32) h g P_32 ∧ ∀ (r_32 : Int32) (h_32 : HI) (g_32 : HL), P_32 r_32 h_32 g_32 → ((¬ r_32 = (-4 : Int32) → (∃ P_50 : Int32 → HI → HL → Prop, w_X8_rows 18 h_32 g_32 P_50 ∧ ∀ (r_50 : Int32) (h_50 : HI) (g_50 : HL), P_50 r_50 h_50 g_50 → Q r_50 h_50 g_50)) ∧ (r_32 = (-4 : Int32) → Q (-4 : Int32) h_32 g_32)))
def w_X10_told (x1 : Int32) (x2 : Int32) (h : HI) (g : HL) (Q : Int32 → HI → HL → Prop) : Prop :=
  (∃ P_4 : Int32 → HI → HL → Prop, w_X10_within x1 (0 : Int32) (100 : Int32) h g P_4 ∧ ∀ (r_4 : Int32) (h_4 : HI) (g_4 : HL), zb r_4 → P_4 r_4 h_4 g_4 → ((¬ r_4 = 0 → ((x2 = 0 → j_X10_told_30 Q x1 (0 : Int32) h_4 g_4) ∧ (¬ x2 = 0 → j_X10_told_30 Q x1 (1 : Int32) h_4 g_4))) ∧ (r_4 = 0 → Q (-2 : Int32) h_4 g_4)))
set_option maxHeartbeats 8000000 in
set_option maxRecDepth 100000 in
theorem m_X10_told (l : Launch) (D : va_G) (cy : Nat → ClassId) (ad : Nat → Nat) (h : HI) (g : HL) (sz : Nat) (x1 : Int32) (x2 : Int32) (Q : Int32 → HI → HL → Prop) (HW : w_X10_told x1 x2 h g Q) : Met l yX10_told (wa yX10_told cX10_told 3 (some .int)) ({ frames := 2, cells := 0, slots := 0, locals := 50 }) (va_Pc [.ref (ad 0), .int x1, .int x2] (gI D cy ad h g sz)) (va_Qi (fun (r : Int32) (u : HI × HL) => Q r u.1 u.2) (gB D cy ad sz) (gA ad sz)) 0 0 (gA ad sz) := by
  refine Met.ofW (cc := cX10_told) (maxL := 3) (ret := (some .int)) (by decide) rfl ?_
  intro p e s m args below meth c s₁ B hml hv
  obtain ⟨hav, hsz, hP, hK, hD0, hNw⟩ := hv
  have hx := B.exec
  have hb := B.bytes
  have hr := B.returns
  have hts := atoms_spec (ws := (wa yX10_told cX10_told 3 (some .int))) B.pre
  have hw := wa_hw hts
  have hown : s.vm.findClass RX10 = some m.cls := findClass_of_methodNamed B.named
  have hlocks := B.notSynchronized
  subst hsz
  have hG : gG D cy ad (gA ad s.heap.size) s.heap h g s.heap [] := ⟨hP, gA_self hD0, va_S.rf⟩
  clear hP hD0
  have lk10 := hw (.fieldLink RX10 10 "OldWorks" "shop" "LOldWorks$Shop;") (wm2 155 rfl rfl)
  have lk229 := hw (.fieldLink RX10 229 "OldWorks$Shop" "loads" "LOldWorks$Table;") (wm1 88 rfl rfl)
  rw [show (headSpec (wa yX10_told cX10_told 3 (some .int)) ({ frames := 2, cells := 0, slots := 0, locals := 50 } : Room)).room = ({ frames := 2, cells := 0, slots := 0, locals := 50 } : Room) from rfl]
  have hl := lv_entry ([.ref (ad 0), .int x1, .int x2]) (n := 3) (Nat.le_of_ble_eq_true rfl)
  rw [show entryFrame m args 3 = entryFrame m ([.ref (ad 0), .int x1, .int x2] : List Value).toArray 3 from by rw [hav], lg_entry_eq]
  generalize (lg_sl ([.ref (ad 0), .int x1, .int x2]) ++ List.replicate (3 - (lg_sl ([.ref (ad 0), .int x1, .int x2])).length) Slot.unset).toArray = ls at hl ⊢
  have hl : lv_has ls 3 [(0, .ref (ad 0)), (1, .int x1), (2, .int x2)] := hl
  have B30 : ∀ (s1 : Int32) (s2 : Int32) (h : HI) (g : HL) (H : Heap) (locs : List Loc) (ls : Array Slot), j_X10_told_30 Q s1 s2 h g → gG D cy ad (gA ad s.heap.size) s.heap h g H locs → lv_has ls 3 [(0, .ref (ad 0))] → W p l e ({ frames := 2, cells := 0, slots := 0, locals := 50 } : Room) s m args below meth c H locs 0 0 (MQ below (va_Qi (fun (r : Int32) (u : HI × HL) => Q r u.1 u.2) (gB D cy ad s.heap.size) (gA ad s.heap.size)) args s 0 0 (gA ad s.heap.size)) (F0 m 30 ls [.int s2, .int s1, .ref (ad 18)]) := by
    intro s1 s2 h g H locs ls HW hG hl
    unfold j_X10_told_30 at HW
    refine lv_iconst (v := 0) hx hb dX10_told_30 (by decide) ?_
    refine lv_iconst (v := 0) hx hb dX10_told_31 (by decide) ?_
    obtain ⟨P_32, HC_32, HW⟩ := HW
    refine g_calli (g_runV (As := [.int s1, .int s2, .int (0 : Int32), .int (0 : Int32)]) (rest := []) ⟨hx, hb, hml, hown, hts⟩ (m_X8_add l D cy ad h g H.size 18 (gs_18) s1 s2 (0 : Int32) (0 : Int32) P_32 HC_32) (cwV 4 hts (gd_V (wm2 196 rfl rfl) (wm1 53 rfl rfl) (wm1 54 rfl rfl) (wm1 3 rfl rfl) (wm1 55 rfl rfl)) rfl rfl rfl (by decide +kernel) ⟨Nat.le_of_ble_eq_true rfl, Nat.le_of_ble_eq_true rfl⟩) hK hNw hG gl_18 rfl gk_18 (by decide) rfl rfl hl.1 rfl (lv_room (Nat.le_of_ble_eq_true rfl)) dX10_told_32 ⟨Nat.zero_le _, Nat.zero_le _⟩) hG (fun r_32 h_32 g_32 H locs hq hG => ?_)
    replace HW := HW r_32 h_32 g_32 hq
    refine lv_bipush (v := (-4)) hx hb dX10_told_35 (by decide) ?_
    refine lv_icmp_ne (tgt := 43) hx hb dX10_told_37 (by decide) (fun c_37 => ?_) (fun c_37 => ?_)
    · replace HW := HW.1 c_37
      refine lv_aload_n hx hb dX10_told_43 rfl (lv_at hl 0 rfl) ?_
      refine g_getr hx hb hw inG10 hown hK hG gl_0 rfl gk_0 (by decide) 0 (by decide) (by rw [gm_0]; decide) (r := 1) gr_0_0 lk10 dX10_told_44 ?_
      refine g_getr hx hb hw inG6 hown hK hG gl_1 rfl gk_1 (by decide) 8 (by decide) (by rw [gm_1]; decide) (r := 18) gr_1_8 lk229 dX10_told_47 ?_
      obtain ⟨P_50, HC_50, HW⟩ := HW
      refine g_calli (g_runV (As := []) (rest := []) ⟨hx, hb, hml, hown, hts⟩ (m_X8_rows l D cy ad h_32 g_32 H.size 18 (gs_18) P_50 HC_50) (cwV 0 hts (gd_V (wm3 19 rfl rfl) (wm2 217 rfl rfl) (wm2 218 rfl rfl) (wm1 3 rfl rfl) (wm2 219 rfl rfl)) rfl rfl rfl (by decide +kernel) ⟨Nat.le_of_ble_eq_true rfl, Nat.le_of_ble_eq_true rfl⟩) hK hNw hG gl_18 rfl gk_18 (by decide) rfl rfl hl.1 rfl (lv_room (Nat.le_of_ble_eq_true rfl)) dX10_told_50 ⟨Nat.zero_le _, Nat.zero_le _⟩) hG (fun r_50 h_50 g_50 H locs hq hG => ?_)
      replace HW := HW r_50 h_50 g_50 hq
      exact W.iret (v := r_50) hx hb hr (fun t ht hW => ⟨⟨r_50, (h_50, g_50), rfl, HW, g_B ht hG⟩, hG.2.2.F ht⟩) hG.2.2.2.2 dX10_told_53
    · replace HW := HW.2 c_37
      refine lv_bipush (v := (-4)) hx hb dX10_told_40 (by decide) ?_
      exact W.iret (v := (-4 : Int32)) hx hb hr (fun t ht hW => ⟨⟨(-4 : Int32), (h_32, g_32), rfl, HW, g_B ht hG⟩, hG.2.2.F ht⟩) hG.2.2.2.2 dX10_told_42
  have E0 : ∀ (H : Heap) (locs : List Loc) (ls : Array Slot), gG D cy ad (gA ad s.heap.size) s.heap h g H locs → lv_has ls 3 [(0, .ref (ad 0)), (1, .int x1), (2, .int x2)] → W p l e ({ frames := 2, cells := 0, slots := 0, locals := 50 } : Room) s m args below meth c H locs 0 0 (MQ below (va_Qi (fun (r : Int32) (u : HI × HL) => Q r u.1 u.2) (gB D cy ad s.heap.size) (gA ad s.heap.size)) args s 0 0 (gA ad s.heap.size)) (F0 m 0 ls []) := by
    intro H locs ls hG hl
    unfold w_X10_told at HW
    refine lv_iload_n hx hb dX10_told_0 rfl (lv_at hl 1 rfl) ?_
    refine lv_iconst (v := 0) hx hb dX10_told_1 (by decide) ?_
    refine lv_bipush (v := 100) hx hb dX10_told_2 (by decide) ?_
    obtain ⟨P_4, HC_4, HW⟩ := HW
    refine g_callz (g_runS (As := [.int x1, .int (0 : Int32), .int (100 : Int32)]) (rest := []) ⟨hx, hb, hml, hown, hts⟩ (m_X10_within l D cy ad h g H.size x1 (0 : Int32) (100 : Int32) P_4 HC_4) (va_cwS 3 hts (gd_S (wm2 193 rfl rfl) (wm2 194 rfl rfl) (wm1 1 rfl rfl) (wm2 195 rfl rfl)) rfl rfl rfl (by decide +kernel) ⟨Nat.le_of_ble_eq_true rfl, Nat.le_of_ble_eq_true rfl⟩) hK hNw hG rfl rfl hl.1 rfl (lv_room (Nat.le_of_ble_eq_true rfl)) dX10_told_4 ⟨Nat.zero_le _, Nat.zero_le _⟩) hG (fun r_4 h_4 g_4 H locs hz hq hG => ?_)
    replace HW := HW r_4 h_4 g_4 hz hq
    refine lv_if_ne (tgt := 13) hx hb dX10_told_7 (by decide) (fun c_7 => ?_) (fun c_7 => ?_)
    · replace HW := HW.1 c_7
      refine lv_aload_n hx hb dX10_told_13 rfl (lv_at hl 0 rfl) ?_
      refine g_getr hx hb hw inG10 hown hK hG gl_0 rfl gk_0 (by decide) 0 (by decide) (by rw [gm_0]; decide) (r := 1) gr_0_0 lk10 dX10_told_14 ?_
      refine g_getr hx hb hw inG6 hown hK hG gl_1 rfl gk_1 (by decide) 8 (by decide) (by rw [gm_1]; decide) (r := 18) gr_1_8 lk229 dX10_told_17 ?_
      refine lv_iload_n hx hb dX10_told_20 rfl (lv_at hl 1 rfl) ?_
      refine lv_iload_n hx hb dX10_told_21 rfl (lv_at hl 2 rfl) ?_
      refine lv_if_eq (tgt := 29) hx hb dX10_told_22 (by decide) (fun c_22 => ?_) (fun c_22 => ?_)
      · replace HW := HW.1 c_22
        refine lv_iconst (v := 0) hx hb dX10_told_29 (by decide) ?_
        exact B30 x1 (0 : Int32) h_4 g_4 _ _ _ HW hG (lv_sub hl [0] rfl)
      · replace HW := HW.2 c_22
        refine lv_iconst (v := 1) hx hb dX10_told_25 (by decide) ?_
        refine lv_goto (tgt := 30) hx hb dX10_told_26 (by decide) ?_
        exact B30 x1 (1 : Int32) h_4 g_4 _ _ _ HW hG (lv_sub hl [0] rfl)
    · replace HW := HW.2 c_7
      refine lv_bipush (v := (-2)) hx hb dX10_told_10 (by decide) ?_
      exact W.iret (v := (-2 : Int32)) hx hb hr (fun t ht hW => ⟨⟨(-2 : Int32), (h_4, g_4), rfl, HW, g_B ht hG⟩, hG.2.2.F ht⟩) hG.2.2.2.2 dX10_told_12
  exact E0 _ _ _ hG hl

def w_X10_fitted  (h : HI) (g : HL) (Q : Int32 → HI → HL → Prop) : Prop :=
  (∃ P_4 : Int32 → HI → HL → Prop, w_X1_fit h g P_4 ∧ ∀ (r_4 : Int32) (h_4 : HI) (g_4 : HL), P_4 r_4 h_4 g_4 → Q r_4 h_4 g_4)
set_option maxHeartbeats 8000000 in
set_option maxRecDepth 100000 in
theorem m_X10_fitted (l : Launch) (D : va_G) (cy : Nat → ClassId) (ad : Nat → Nat) (h : HI) (g : HL) (sz : Nat)  (Q : Int32 → HI → HL → Prop) (HW : w_X10_fitted h g Q) : Met l yX10_fitted (wa yX10_fitted cX10_fitted 1 (some .int)) ({ frames := 4, cells := 0, slots := 0, locals := 103 }) (va_Pc [.ref (ad 0)] (gI D cy ad h g sz)) (va_Qi (fun (r : Int32) (u : HI × HL) => Q r u.1 u.2) (gB D cy ad sz) (gA ad sz)) 0 0 (gA ad sz) := by
  refine Met.ofW (cc := cX10_fitted) (maxL := 1) (ret := (some .int)) (by decide) rfl ?_
  intro p e s m args below meth c s₁ B hml hv
  obtain ⟨hav, hsz, hP, hK, hD0, hNw⟩ := hv
  have hx := B.exec
  have hb := B.bytes
  have hr := B.returns
  have hts := atoms_spec (ws := (wa yX10_fitted cX10_fitted 1 (some .int))) B.pre
  have hw := wa_hw hts
  have hown : s.vm.findClass RX10 = some m.cls := findClass_of_methodNamed B.named
  have hlocks := B.notSynchronized
  subst hsz
  have hG : gG D cy ad (gA ad s.heap.size) s.heap h g s.heap [] := ⟨hP, gA_self hD0, va_S.rf⟩
  clear hP hD0
  have lk70 := hw (.fieldLink RX10 70 "OldWorks" "breaks" "LOldWorks$Breaks;") (wm2 164 rfl rfl)
  rw [show (headSpec (wa yX10_fitted cX10_fitted 1 (some .int)) ({ frames := 4, cells := 0, slots := 0, locals := 103 } : Room)).room = ({ frames := 4, cells := 0, slots := 0, locals := 103 } : Room) from rfl]
  have hl := lv_entry ([.ref (ad 0)]) (n := 1) (Nat.le_of_ble_eq_true rfl)
  rw [show entryFrame m args 1 = entryFrame m ([.ref (ad 0)] : List Value).toArray 1 from by rw [hav], lg_entry_eq]
  generalize (lg_sl ([.ref (ad 0)]) ++ List.replicate (1 - (lg_sl ([.ref (ad 0)])).length) Slot.unset).toArray = ls at hl ⊢
  have hl : lv_has ls 1 [(0, .ref (ad 0))] := hl
  have E0 : ∀ (H : Heap) (locs : List Loc) (ls : Array Slot), gG D cy ad (gA ad s.heap.size) s.heap h g H locs → lv_has ls 1 [(0, .ref (ad 0))] → W p l e ({ frames := 4, cells := 0, slots := 0, locals := 103 } : Room) s m args below meth c H locs 0 0 (MQ below (va_Qi (fun (r : Int32) (u : HI × HL) => Q r u.1 u.2) (gB D cy ad s.heap.size) (gA ad s.heap.size)) args s 0 0 (gA ad s.heap.size)) (F0 m 0 ls []) := by
    intro H locs ls hG hl
    unfold w_X10_fitted at HW
    refine lv_aload_n hx hb dX10_fitted_0 rfl (lv_at hl 0 rfl) ?_
    refine g_getr hx hb hw inG10 hown hK hG gl_0 rfl gk_0 (by decide) 9 (by decide) (by rw [gm_0]; decide) (r := 109) gr_0_9 lk70 dX10_fitted_1 ?_
    obtain ⟨P_4, HC_4, HW⟩ := HW
    refine g_calli (g_runV (As := []) (rest := []) ⟨hx, hb, hml, hown, hts⟩ (m_X1_fit l D cy ad h g H.size  P_4 HC_4) (cwV 0 hts (gd_V (wm4 108 rfl rfl) (wm4 109 rfl rfl) (wm4 110 rfl rfl) (wm1 10 rfl rfl) (wm4 111 rfl rfl)) rfl rfl rfl (by decide +kernel) ⟨Nat.le_of_ble_eq_true rfl, Nat.le_of_ble_eq_true rfl⟩) hK hNw hG gl_109 rfl gk_109 (by decide) rfl rfl hl.1 rfl (lv_room (Nat.le_of_ble_eq_true rfl)) dX10_fitted_4 ⟨Nat.zero_le _, Nat.zero_le _⟩) hG (fun r_4 h_4 g_4 H locs hq hG => ?_)
    replace HW := HW r_4 h_4 g_4 hq
    exact W.iret (v := r_4) hx hb hr (fun t ht hW => ⟨⟨r_4, (h_4, g_4), rfl, HW, g_B ht hG⟩, hG.2.2.F ht⟩) hG.2.2.2.2 dX10_fitted_7
  exact E0 _ _ _ hG hl

def j_X10_bear_65 (Q : Int32 → HI → HL → Prop) (x1 : Int32) (x2 : Int32) (x3 : Int32) (x4 : Int32) (s0 : Int32) (h : HI) (g : HL) : Prop :=
  ((¬ s0 = x3 → (∃ P_87 : HI → HL → Prop, w_X8_put 2 x2 (4 : Int32) (x4 ^^^ ((1 : Int32) <<< (x1 &&& 31))) h g P_87 ∧ ∀ (h_87 : HI) (g_87 : HL), P_87 h_87 g_87 → Q (1 : Int32) h_87 g_87)) ∧ (s0 = x3 → Q (-3 : Int32) h g))
def w_X10_bear (x1 : Int32) (x2 : Int32) (x3 : Int32) (h : HI) (g : HL) (Q : Int32 → HI → HL → Prop) : Prop :=
  (∃ P_8 : Int32 → HI → HL → Prop, w_X8_has 2 x1 h g P_8 ∧ ∀ (r_8 : Int32) (h_8 : HI) (g_8 : HL), zb r_8 → P_8 r_8 h_8 g_8 → ((r_8 = 0 → Q (-2 : Int32) h_8 g_8) ∧ (¬ r_8 = 0 → (∃ P_22 : Int32 → HI → HL → Prop, w_X8_has 2 x2 h_8 g_8 P_22 ∧ ∀ (r_22 : Int32) (h_22 : HI) (g_22 : HL), zb r_22 → P_22 r_22 h_22 g_22 → ((r_22 = 0 → Q (-2 : Int32) h_22 g_22) ∧ (¬ r_22 = 0 → ((¬ x1 = x2 → (∃ P_45 : Int32 → HI → HL → Prop, w_X8_at 2 x2 (4 : Int32) h_22 g_22 P_45 ∧ ∀ (r_45 : Int32) (h_45 : HI) (g_45 : HL), P_45 r_45 h_45 g_45 → ((¬ ((r_45 >>> (x1 &&& 31)) &&& (1 : Int32)) = (1 : Int32) → j_X10_bear_65 Q x1 x2 x3 r_45 (0 : Int32) h_45 g_45) ∧ (((r_45 >>> (x1 &&& 31)) &&& (1 : Int32)) = (1 : Int32) → j_X10_bear_65 Q x1 x2 x3 r_45 (1 : Int32) h_45 g_45)))) ∧ (x1 = x2 → Q (-2 : Int32) h_22 g_22))))))))
set_option maxHeartbeats 8000000 in
set_option maxRecDepth 100000 in
theorem m_X10_bear (l : Launch) (D : va_G) (cy : Nat → ClassId) (ad : Nat → Nat) (h : HI) (g : HL) (sz : Nat) (x1 : Int32) (x2 : Int32) (x3 : Int32) (Q : Int32 → HI → HL → Prop) (HW : w_X10_bear x1 x2 x3 h g Q) : Met l yX10_bear (wa yX10_bear cX10_bear 5 (some .int)) ({ frames := 1, cells := 0, slots := 0, locals := 24 }) (va_Pc [.ref (ad 0), .int x1, .int x2, .int x3] (gI D cy ad h g sz)) (va_Qi (fun (r : Int32) (u : HI × HL) => Q r u.1 u.2) (gB D cy ad sz) (gA ad sz)) 0 0 (gA ad sz) := by
  refine Met.ofW (cc := cX10_bear) (maxL := 5) (ret := (some .int)) (by decide) rfl ?_
  intro p e s m args below meth c s₁ B hml hv
  obtain ⟨hav, hsz, hP, hK, hD0, hNw⟩ := hv
  have hx := B.exec
  have hb := B.bytes
  have hr := B.returns
  have hts := atoms_spec (ws := (wa yX10_bear cX10_bear 5 (some .int))) B.pre
  have hw := wa_hw hts
  have hown : s.vm.findClass RX10 = some m.cls := findClass_of_methodNamed B.named
  have hlocks := B.notSynchronized
  subst hsz
  have hG : gG D cy ad (gA ad s.heap.size) s.heap h g s.heap [] := ⟨hP, gA_self hD0, va_S.rf⟩
  clear hP hD0
  have lk10 := hw (.fieldLink RX10 10 "OldWorks" "shop" "LOldWorks$Shop;") (wm2 155 rfl rfl)
  have lk85 := hw (.fieldLink RX10 85 "OldWorks$Shop" "parts" "LOldWorks$Table;") (wm1 62 rfl rfl)
  rw [show (headSpec (wa yX10_bear cX10_bear 5 (some .int)) ({ frames := 1, cells := 0, slots := 0, locals := 24 } : Room)).room = ({ frames := 1, cells := 0, slots := 0, locals := 24 } : Room) from rfl]
  have hl := lv_entry ([.ref (ad 0), .int x1, .int x2, .int x3]) (n := 5) (Nat.le_of_ble_eq_true rfl)
  rw [show entryFrame m args 5 = entryFrame m ([.ref (ad 0), .int x1, .int x2, .int x3] : List Value).toArray 5 from by rw [hav], lg_entry_eq]
  generalize (lg_sl ([.ref (ad 0), .int x1, .int x2, .int x3]) ++ List.replicate (5 - (lg_sl ([.ref (ad 0), .int x1, .int x2, .int x3])).length) Slot.unset).toArray = ls at hl ⊢
  have hl : lv_has ls 5 [(0, .ref (ad 0)), (1, .int x1), (2, .int x2), (3, .int x3)] := hl
  have B65 : ∀ (x1 : Int32) (x2 : Int32) (x3 : Int32) (x4 : Int32) (s0 : Int32) (h : HI) (g : HL) (H : Heap) (locs : List Loc) (ls : Array Slot), j_X10_bear_65 Q x1 x2 x3 x4 s0 h g → gG D cy ad (gA ad s.heap.size) s.heap h g H locs → lv_has ls 5 [(0, .ref (ad 0)), (1, .int x1), (2, .int x2), (3, .int x3), (4, .int x4)] → W p l e ({ frames := 1, cells := 0, slots := 0, locals := 24 } : Room) s m args below meth c H locs 0 0 (MQ below (va_Qi (fun (r : Int32) (u : HI × HL) => Q r u.1 u.2) (gB D cy ad s.heap.size) (gA ad s.heap.size)) args s 0 0 (gA ad s.heap.size)) (F0 m 65 ls [.int s0]) := by
    intro x1 x2 x3 x4 s0 h g H locs ls HW hG hl
    unfold j_X10_bear_65 at HW
    refine lv_iload_n hx hb dX10_bear_65 rfl (lv_at hl 3 rfl) ?_
    refine lv_icmp_ne (tgt := 72) hx hb dX10_bear_66 (by decide) (fun c_66 => ?_) (fun c_66 => ?_)
    · replace HW := HW.1 c_66
      refine lv_aload_n hx hb dX10_bear_72 rfl (lv_at hl 0 rfl) ?_
      refine g_getr hx hb hw inG10 hown hK hG gl_0 rfl gk_0 (by decide) 0 (by decide) (by rw [gm_0]; decide) (r := 1) gr_0_0 lk10 dX10_bear_73 ?_
      refine g_getr hx hb hw inG6 hown hK hG gl_1 rfl gk_1 (by decide) 0 (by decide) (by rw [gm_1]; decide) (r := 2) gr_1_0 lk85 dX10_bear_76 ?_
      refine lv_iload_n hx hb dX10_bear_79 rfl (lv_at hl 2 rfl) ?_
      refine lv_iconst (v := 4) hx hb dX10_bear_80 (by decide) ?_
      refine lv_iload hx hb dX10_bear_81 (lv_at hl 4 rfl) ?_
      refine lv_iconst (v := 1) hx hb dX10_bear_83 (by decide) ?_
      refine lv_iload_n hx hb dX10_bear_84 rfl (lv_at hl 1 rfl) ?_
      refine lv_ishl hx hb dX10_bear_85 ?_
      refine lv_ixor hx hb dX10_bear_86 ?_
      obtain ⟨P_87, HC_87, HW⟩ := HW
      refine g_callv (g_runV (As := [.int x2, .int (4 : Int32), .int (x4 ^^^ ((1 : Int32) <<< (x1 &&& 31)))]) (rest := []) ⟨hx, hb, hml, hown, hts⟩ (m_X8_put l D cy ad h g H.size 2 (gs_2) x2 (4 : Int32) (x4 ^^^ ((1 : Int32) <<< (x1 &&& 31))) P_87 HC_87) (cwV 3 hts (gd_V (wm2 207 rfl rfl) (wm1 57 rfl rfl) (wm1 58 rfl rfl) (wm1 3 rfl rfl) (wm1 59 rfl rfl)) rfl rfl rfl (by decide +kernel) ⟨Nat.le_of_ble_eq_true rfl, Nat.le_of_ble_eq_true rfl⟩) hK hNw hG gl_2 rfl gk_2 (by decide) rfl rfl hl.1 rfl (lv_room (Nat.le_of_ble_eq_true rfl)) dX10_bear_87 ⟨Nat.zero_le _, Nat.zero_le _⟩) hG (fun h_87 g_87 H locs hq hG => ?_)
      replace HW := HW h_87 g_87 hq
      refine lv_iconst (v := 1) hx hb dX10_bear_90 (by decide) ?_
      exact W.iret (v := (1 : Int32)) hx hb hr (fun t ht hW => ⟨⟨(1 : Int32), (h_87, g_87), rfl, HW, g_B ht hG⟩, hG.2.2.F ht⟩) hG.2.2.2.2 dX10_bear_91
    · replace HW := HW.2 c_66
      refine lv_bipush (v := (-3)) hx hb dX10_bear_69 (by decide) ?_
      exact W.iret (v := (-3 : Int32)) hx hb hr (fun t ht hW => ⟨⟨(-3 : Int32), (h, g), rfl, HW, g_B ht hG⟩, hG.2.2.F ht⟩) hG.2.2.2.2 dX10_bear_71
  have E0 : ∀ (H : Heap) (locs : List Loc) (ls : Array Slot), gG D cy ad (gA ad s.heap.size) s.heap h g H locs → lv_has ls 5 [(0, .ref (ad 0)), (1, .int x1), (2, .int x2), (3, .int x3)] → W p l e ({ frames := 1, cells := 0, slots := 0, locals := 24 } : Room) s m args below meth c H locs 0 0 (MQ below (va_Qi (fun (r : Int32) (u : HI × HL) => Q r u.1 u.2) (gB D cy ad s.heap.size) (gA ad s.heap.size)) args s 0 0 (gA ad s.heap.size)) (F0 m 0 ls []) := by
    intro H locs ls hG hl
    unfold w_X10_bear at HW
    refine lv_aload_n hx hb dX10_bear_0 rfl (lv_at hl 0 rfl) ?_
    refine g_getr hx hb hw inG10 hown hK hG gl_0 rfl gk_0 (by decide) 0 (by decide) (by rw [gm_0]; decide) (r := 1) gr_0_0 lk10 dX10_bear_1 ?_
    refine g_getr hx hb hw inG6 hown hK hG gl_1 rfl gk_1 (by decide) 0 (by decide) (by rw [gm_1]; decide) (r := 2) gr_1_0 lk85 dX10_bear_4 ?_
    refine lv_iload_n hx hb dX10_bear_7 rfl (lv_at hl 1 rfl) ?_
    obtain ⟨P_8, HC_8, HW⟩ := HW
    refine g_callz (g_runV (As := [.int x1]) (rest := []) ⟨hx, hb, hml, hown, hts⟩ (m_X8_has l D cy ad h g H.size 2 (gs_2) x1 P_8 HC_8) (cwV 1 hts (gd_V (wm2 201 rfl rfl) (wm2 202 rfl rfl) (wm2 203 rfl rfl) (wm1 3 rfl rfl) (wm2 204 rfl rfl)) rfl rfl rfl (by decide +kernel) ⟨Nat.le_of_ble_eq_true rfl, Nat.le_of_ble_eq_true rfl⟩) hK hNw hG gl_2 rfl gk_2 (by decide) rfl rfl hl.1 rfl (lv_room (Nat.le_of_ble_eq_true rfl)) dX10_bear_8 ⟨Nat.zero_le _, Nat.zero_le _⟩) hG (fun r_8 h_8 g_8 H locs hz hq hG => ?_)
    replace HW := HW r_8 h_8 g_8 hz hq
    refine lv_if_eq (tgt := 33) hx hb dX10_bear_11 (by decide) (fun c_11 => ?_) (fun c_11 => ?_)
    · replace HW := HW.1 c_11
      refine lv_bipush (v := (-2)) hx hb dX10_bear_33 (by decide) ?_
      exact W.iret (v := (-2 : Int32)) hx hb hr (fun t ht hW => ⟨⟨(-2 : Int32), (h_8, g_8), rfl, HW, g_B ht hG⟩, hG.2.2.F ht⟩) hG.2.2.2.2 dX10_bear_35
    · replace HW := HW.2 c_11
      refine lv_aload_n hx hb dX10_bear_14 rfl (lv_at hl 0 rfl) ?_
      refine g_getr hx hb hw inG10 hown hK hG gl_0 rfl gk_0 (by decide) 0 (by decide) (by rw [gm_0]; decide) (r := 1) gr_0_0 lk10 dX10_bear_15 ?_
      refine g_getr hx hb hw inG6 hown hK hG gl_1 rfl gk_1 (by decide) 0 (by decide) (by rw [gm_1]; decide) (r := 2) gr_1_0 lk85 dX10_bear_18 ?_
      refine lv_iload_n hx hb dX10_bear_21 rfl (lv_at hl 2 rfl) ?_
      obtain ⟨P_22, HC_22, HW⟩ := HW
      refine g_callz (g_runV (As := [.int x2]) (rest := []) ⟨hx, hb, hml, hown, hts⟩ (m_X8_has l D cy ad h_8 g_8 H.size 2 (gs_2) x2 P_22 HC_22) (cwV 1 hts (gd_V (wm2 201 rfl rfl) (wm2 202 rfl rfl) (wm2 203 rfl rfl) (wm1 3 rfl rfl) (wm2 204 rfl rfl)) rfl rfl rfl (by decide +kernel) ⟨Nat.le_of_ble_eq_true rfl, Nat.le_of_ble_eq_true rfl⟩) hK hNw hG gl_2 rfl gk_2 (by decide) rfl rfl hl.1 rfl (lv_room (Nat.le_of_ble_eq_true rfl)) dX10_bear_22 ⟨Nat.zero_le _, Nat.zero_le _⟩) hG (fun r_22 h_22 g_22 H locs hz hq hG => ?_)
      replace HW := HW r_22 h_22 g_22 hz hq
      refine lv_if_eq (tgt := 33) hx hb dX10_bear_25 (by decide) (fun c_25 => ?_) (fun c_25 => ?_)
      · replace HW := HW.1 c_25
        refine lv_bipush (v := (-2)) hx hb dX10_bear_33 (by decide) ?_
        exact W.iret (v := (-2 : Int32)) hx hb hr (fun t ht hW => ⟨⟨(-2 : Int32), (h_22, g_22), rfl, HW, g_B ht hG⟩, hG.2.2.F ht⟩) hG.2.2.2.2 dX10_bear_35
      · replace HW := HW.2 c_25
        refine lv_iload_n hx hb dX10_bear_28 rfl (lv_at hl 1 rfl) ?_
        refine lv_iload_n hx hb dX10_bear_29 rfl (lv_at hl 2 rfl) ?_
        refine lv_icmp_ne (tgt := 36) hx hb dX10_bear_30 (by decide) (fun c_30 => ?_) (fun c_30 => ?_)
        · replace HW := HW.1 c_30
          refine lv_aload_n hx hb dX10_bear_36 rfl (lv_at hl 0 rfl) ?_
          refine g_getr hx hb hw inG10 hown hK hG gl_0 rfl gk_0 (by decide) 0 (by decide) (by rw [gm_0]; decide) (r := 1) gr_0_0 lk10 dX10_bear_37 ?_
          refine g_getr hx hb hw inG6 hown hK hG gl_1 rfl gk_1 (by decide) 0 (by decide) (by rw [gm_1]; decide) (r := 2) gr_1_0 lk85 dX10_bear_40 ?_
          refine lv_iload_n hx hb dX10_bear_43 rfl (lv_at hl 2 rfl) ?_
          refine lv_iconst (v := 4) hx hb dX10_bear_44 (by decide) ?_
          obtain ⟨P_45, HC_45, HW⟩ := HW
          refine g_calli (g_runV (As := [.int x2, .int (4 : Int32)]) (rest := []) ⟨hx, hb, hml, hown, hts⟩ (m_X8_at l D cy ad h_22 g_22 H.size 2 (gs_2) x2 (4 : Int32) P_45 HC_45) (cwV 2 hts (gd_V (wm3 69 rfl rfl) (wm2 221 rfl rfl) (wm2 222 rfl rfl) (wm1 3 rfl rfl) (wm2 223 rfl rfl)) rfl rfl rfl (by decide +kernel) ⟨Nat.le_of_ble_eq_true rfl, Nat.le_of_ble_eq_true rfl⟩) hK hNw hG gl_2 rfl gk_2 (by decide) rfl rfl hl.1 rfl (lv_room (Nat.le_of_ble_eq_true rfl)) dX10_bear_45 ⟨Nat.zero_le _, Nat.zero_le _⟩) hG (fun r_45 h_45 g_45 H locs hq hG => ?_)
          replace HW := HW r_45 h_45 g_45 hq
          refine lv_istore (lv' := [(4, .int r_45), (0, .ref (ad 0)), (1, .int x1), (2, .int x2), (3, .int x3)]) hx hb dX10_bear_48 hl (by decide) rfl (fun ls hl => ?_)
          refine lv_iload hx hb dX10_bear_50 (lv_at hl 0 rfl) ?_
          refine lv_iload_n hx hb dX10_bear_52 rfl (lv_at hl 2 rfl) ?_
          refine lv_ishr hx hb dX10_bear_53 ?_
          refine lv_iconst (v := 1) hx hb dX10_bear_54 (by decide) ?_
          refine lv_iand hx hb dX10_bear_55 ?_
          refine lv_iconst (v := 1) hx hb dX10_bear_56 (by decide) ?_
          refine lv_icmp_ne (tgt := 64) hx hb dX10_bear_57 (by decide) (fun c_57 => ?_) (fun c_57 => ?_)
          · replace HW := HW.1 c_57
            refine lv_iconst (v := 0) hx hb dX10_bear_64 (by decide) ?_
            exact B65 x1 x2 x3 r_45 (0 : Int32) h_45 g_45 _ _ _ HW hG (lv_sub hl [1, 2, 3, 4, 0] rfl)
          · replace HW := HW.2 c_57
            refine lv_iconst (v := 1) hx hb dX10_bear_60 (by decide) ?_
            refine lv_goto (tgt := 65) hx hb dX10_bear_61 (by decide) ?_
            exact B65 x1 x2 x3 r_45 (1 : Int32) h_45 g_45 _ _ _ HW hG (lv_sub hl [1, 2, 3, 4, 0] rfl)
        · replace HW := HW.2 c_30
          refine lv_bipush (v := (-2)) hx hb dX10_bear_33 (by decide) ?_
          exact W.iret (v := (-2 : Int32)) hx hb hr (fun t ht hW => ⟨⟨(-2 : Int32), (h_22, g_22), rfl, HW, g_B ht hG⟩, hG.2.2.F ht⟩) hG.2.2.2.2 dX10_bear_35
  exact E0 _ _ _ hG hl

def w_X10_along (x1 : Int32) (h : HI) (g : HL) (Q : Int32 → HI → HL → Prop) : Prop :=
  (∃ P_8 : Int32 → HI → HL → Prop, w_X8_has 2 x1 h g P_8 ∧ ∀ (r_8 : Int32) (h_8 : HI) (g_8 : HL), zb r_8 → P_8 r_8 h_8 g_8 → ((¬ r_8 = 0 → (∃ P_22 : Int32 → HI → HL → Prop, w_X1_reached x1 h_8 g_8 P_22 ∧ ∀ (r_22 : Int32) (h_22 : HI) (g_22 : HL), P_22 r_22 h_22 g_22 → Q r_22 h_22 g_22)) ∧ (r_8 = 0 → Q (-2 : Int32) h_8 g_8)))
set_option maxHeartbeats 8000000 in
set_option maxRecDepth 100000 in
theorem m_X10_along (l : Launch) (D : va_G) (cy : Nat → ClassId) (ad : Nat → Nat) (h : HI) (g : HL) (sz : Nat) (x1 : Int32) (Q : Int32 → HI → HL → Prop) (HW : w_X10_along x1 h g Q) : Met l yX10_along (wa yX10_along cX10_along 2 (some .int)) ({ frames := 2, cells := 0, slots := 0, locals := 48 }) (va_Pc [.ref (ad 0), .int x1] (gI D cy ad h g sz)) (va_Qi (fun (r : Int32) (u : HI × HL) => Q r u.1 u.2) (gB D cy ad sz) (gA ad sz)) 0 0 (gA ad sz) := by
  refine Met.ofW (cc := cX10_along) (maxL := 2) (ret := (some .int)) (by decide) rfl ?_
  intro p e s m args below meth c s₁ B hml hv
  obtain ⟨hav, hsz, hP, hK, hD0, hNw⟩ := hv
  have hx := B.exec
  have hb := B.bytes
  have hr := B.returns
  have hts := atoms_spec (ws := (wa yX10_along cX10_along 2 (some .int))) B.pre
  have hw := wa_hw hts
  have hown : s.vm.findClass RX10 = some m.cls := findClass_of_methodNamed B.named
  have hlocks := B.notSynchronized
  subst hsz
  have hG : gG D cy ad (gA ad s.heap.size) s.heap h g s.heap [] := ⟨hP, gA_self hD0, va_S.rf⟩
  clear hP hD0
  have lk10 := hw (.fieldLink RX10 10 "OldWorks" "shop" "LOldWorks$Shop;") (wm2 155 rfl rfl)
  have lk85 := hw (.fieldLink RX10 85 "OldWorks$Shop" "parts" "LOldWorks$Table;") (wm1 62 rfl rfl)
  have lk70 := hw (.fieldLink RX10 70 "OldWorks" "breaks" "LOldWorks$Breaks;") (wm2 164 rfl rfl)
  rw [show (headSpec (wa yX10_along cX10_along 2 (some .int)) ({ frames := 2, cells := 0, slots := 0, locals := 48 } : Room)).room = ({ frames := 2, cells := 0, slots := 0, locals := 48 } : Room) from rfl]
  have hl := lv_entry ([.ref (ad 0), .int x1]) (n := 2) (Nat.le_of_ble_eq_true rfl)
  rw [show entryFrame m args 2 = entryFrame m ([.ref (ad 0), .int x1] : List Value).toArray 2 from by rw [hav], lg_entry_eq]
  generalize (lg_sl ([.ref (ad 0), .int x1]) ++ List.replicate (2 - (lg_sl ([.ref (ad 0), .int x1])).length) Slot.unset).toArray = ls at hl ⊢
  have hl : lv_has ls 2 [(0, .ref (ad 0)), (1, .int x1)] := hl
  have E0 : ∀ (H : Heap) (locs : List Loc) (ls : Array Slot), gG D cy ad (gA ad s.heap.size) s.heap h g H locs → lv_has ls 2 [(0, .ref (ad 0)), (1, .int x1)] → W p l e ({ frames := 2, cells := 0, slots := 0, locals := 48 } : Room) s m args below meth c H locs 0 0 (MQ below (va_Qi (fun (r : Int32) (u : HI × HL) => Q r u.1 u.2) (gB D cy ad s.heap.size) (gA ad s.heap.size)) args s 0 0 (gA ad s.heap.size)) (F0 m 0 ls []) := by
    intro H locs ls hG hl
    unfold w_X10_along at HW
    refine lv_aload_n hx hb dX10_along_0 rfl (lv_at hl 0 rfl) ?_
    refine g_getr hx hb hw inG10 hown hK hG gl_0 rfl gk_0 (by decide) 0 (by decide) (by rw [gm_0]; decide) (r := 1) gr_0_0 lk10 dX10_along_1 ?_
    refine g_getr hx hb hw inG6 hown hK hG gl_1 rfl gk_1 (by decide) 0 (by decide) (by rw [gm_1]; decide) (r := 2) gr_1_0 lk85 dX10_along_4 ?_
    refine lv_iload_n hx hb dX10_along_7 rfl (lv_at hl 1 rfl) ?_
    obtain ⟨P_8, HC_8, HW⟩ := HW
    refine g_callz (g_runV (As := [.int x1]) (rest := []) ⟨hx, hb, hml, hown, hts⟩ (m_X8_has l D cy ad h g H.size 2 (gs_2) x1 P_8 HC_8) (cwV 1 hts (gd_V (wm2 201 rfl rfl) (wm2 202 rfl rfl) (wm2 203 rfl rfl) (wm1 3 rfl rfl) (wm2 204 rfl rfl)) rfl rfl rfl (by decide +kernel) ⟨Nat.le_of_ble_eq_true rfl, Nat.le_of_ble_eq_true rfl⟩) hK hNw hG gl_2 rfl gk_2 (by decide) rfl rfl hl.1 rfl (lv_room (Nat.le_of_ble_eq_true rfl)) dX10_along_8 ⟨Nat.zero_le _, Nat.zero_le _⟩) hG (fun r_8 h_8 g_8 H locs hz hq hG => ?_)
    replace HW := HW r_8 h_8 g_8 hz hq
    refine lv_if_ne (tgt := 17) hx hb dX10_along_11 (by decide) (fun c_11 => ?_) (fun c_11 => ?_)
    · replace HW := HW.1 c_11
      refine lv_aload_n hx hb dX10_along_17 rfl (lv_at hl 0 rfl) ?_
      refine g_getr hx hb hw inG10 hown hK hG gl_0 rfl gk_0 (by decide) 9 (by decide) (by rw [gm_0]; decide) (r := 109) gr_0_9 lk70 dX10_along_18 ?_
      refine lv_iload_n hx hb dX10_along_21 rfl (lv_at hl 1 rfl) ?_
      obtain ⟨P_22, HC_22, HW⟩ := HW
      refine g_calli (g_runV (As := [.int x1]) (rest := []) ⟨hx, hb, hml, hown, hts⟩ (m_X1_reached l D cy ad h_8 g_8 H.size x1 P_22 HC_22) (cwV 1 hts (gd_V (wm4 134 rfl rfl) (wm4 135 rfl rfl) (wm4 136 rfl rfl) (wm1 10 rfl rfl) (wm4 137 rfl rfl)) rfl rfl rfl (by decide +kernel) ⟨Nat.le_of_ble_eq_true rfl, Nat.le_of_ble_eq_true rfl⟩) hK hNw hG gl_109 rfl gk_109 (by decide) rfl rfl hl.1 rfl (lv_room (Nat.le_of_ble_eq_true rfl)) dX10_along_22 ⟨Nat.zero_le _, Nat.zero_le _⟩) hG (fun r_22 h_22 g_22 H locs hq hG => ?_)
      replace HW := HW r_22 h_22 g_22 hq
      exact W.iret (v := r_22) hx hb hr (fun t ht hW => ⟨⟨r_22, (h_22, g_22), rfl, HW, g_B ht hG⟩, hG.2.2.F ht⟩) hG.2.2.2.2 dX10_along_25
    · replace HW := HW.2 c_11
      refine lv_bipush (v := (-2)) hx hb dX10_along_14 (by decide) ?_
      exact W.iret (v := (-2 : Int32)) hx hb hr (fun t ht hW => ⟨⟨(-2 : Int32), (h_8, g_8), rfl, HW, g_B ht hG⟩, hG.2.2.F ht⟩) hG.2.2.2.2 dX10_along_16
  exact E0 _ _ _ hG hl

def w_X10_hand (x1 : Int32) (x2 : Int32) (h : HI) (g : HL) (Q : Int32 → HI → HL → Prop) : Prop :=
  (∃ P_4 : Int32 → HI → HL → Prop, w_X10_within x1 (0 : Int32) (15 : Int32) h g P_4 ∧ ∀ (r_4 : Int32) (h_4 : HI) (g_4 : HL), zb r_4 → P_4 r_4 h_4 g_4 → ((r_4 = 0 → Q (-2 : Int32) h_4 g_4) ∧ (¬ r_4 = 0 → (∃ P_14 : Int32 → HI → HL → Prop, w_X10_within x2 (0 : Int32) (9 : Int32) h_4 g_4 P_14 ∧ ∀ (r_14 : Int32) (h_14 : HI) (g_14 : HL), zb r_14 → P_14 r_14 h_14 g_14 → ((¬ r_14 = 0 → (∃ P_34 : Int32 → HI → HL → Prop, w_X8_add 20 x1 x2 (0 : Int32) (0 : Int32) h_14 g_14 P_34 ∧ ∀ (r_34 : Int32) (h_34 : HI) (g_34 : HL), P_34 r_34 h_34 g_34 → Q r_34 h_34 g_34)) ∧ (r_14 = 0 → Q (-2 : Int32) h_14 g_14))))))
set_option maxHeartbeats 8000000 in
set_option maxRecDepth 100000 in
theorem m_X10_hand (l : Launch) (D : va_G) (cy : Nat → ClassId) (ad : Nat → Nat) (h : HI) (g : HL) (sz : Nat) (x1 : Int32) (x2 : Int32) (Q : Int32 → HI → HL → Prop) (HW : w_X10_hand x1 x2 h g Q) : Met l yX10_hand (wa yX10_hand cX10_hand 3 (some .int)) ({ frames := 2, cells := 0, slots := 0, locals := 50 }) (va_Pc [.ref (ad 0), .int x1, .int x2] (gI D cy ad h g sz)) (va_Qi (fun (r : Int32) (u : HI × HL) => Q r u.1 u.2) (gB D cy ad sz) (gA ad sz)) 0 0 (gA ad sz) := by
  refine Met.ofW (cc := cX10_hand) (maxL := 3) (ret := (some .int)) (by decide) rfl ?_
  intro p e s m args below meth c s₁ B hml hv
  obtain ⟨hav, hsz, hP, hK, hD0, hNw⟩ := hv
  have hx := B.exec
  have hb := B.bytes
  have hr := B.returns
  have hts := atoms_spec (ws := (wa yX10_hand cX10_hand 3 (some .int))) B.pre
  have hw := wa_hw hts
  have hown : s.vm.findClass RX10 = some m.cls := findClass_of_methodNamed B.named
  have hlocks := B.notSynchronized
  subst hsz
  have hG : gG D cy ad (gA ad s.heap.size) s.heap h g s.heap [] := ⟨hP, gA_self hD0, va_S.rf⟩
  clear hP hD0
  have lk10 := hw (.fieldLink RX10 10 "OldWorks" "shop" "LOldWorks$Shop;") (wm2 155 rfl rfl)
  have lk238 := hw (.fieldLink RX10 238 "OldWorks$Shop" "hands" "LOldWorks$Table;") (wm1 91 rfl rfl)
  rw [show (headSpec (wa yX10_hand cX10_hand 3 (some .int)) ({ frames := 2, cells := 0, slots := 0, locals := 50 } : Room)).room = ({ frames := 2, cells := 0, slots := 0, locals := 50 } : Room) from rfl]
  have hl := lv_entry ([.ref (ad 0), .int x1, .int x2]) (n := 3) (Nat.le_of_ble_eq_true rfl)
  rw [show entryFrame m args 3 = entryFrame m ([.ref (ad 0), .int x1, .int x2] : List Value).toArray 3 from by rw [hav], lg_entry_eq]
  generalize (lg_sl ([.ref (ad 0), .int x1, .int x2]) ++ List.replicate (3 - (lg_sl ([.ref (ad 0), .int x1, .int x2])).length) Slot.unset).toArray = ls at hl ⊢
  have hl : lv_has ls 3 [(0, .ref (ad 0)), (1, .int x1), (2, .int x2)] := hl
  have E0 : ∀ (H : Heap) (locs : List Loc) (ls : Array Slot), gG D cy ad (gA ad s.heap.size) s.heap h g H locs → lv_has ls 3 [(0, .ref (ad 0)), (1, .int x1), (2, .int x2)] → W p l e ({ frames := 2, cells := 0, slots := 0, locals := 50 } : Room) s m args below meth c H locs 0 0 (MQ below (va_Qi (fun (r : Int32) (u : HI × HL) => Q r u.1 u.2) (gB D cy ad s.heap.size) (gA ad s.heap.size)) args s 0 0 (gA ad s.heap.size)) (F0 m 0 ls []) := by
    intro H locs ls hG hl
    unfold w_X10_hand at HW
    refine lv_iload_n hx hb dX10_hand_0 rfl (lv_at hl 1 rfl) ?_
    refine lv_iconst (v := 0) hx hb dX10_hand_1 (by decide) ?_
    refine lv_bipush (v := 15) hx hb dX10_hand_2 (by decide) ?_
    obtain ⟨P_4, HC_4, HW⟩ := HW
    refine g_callz (g_runS (As := [.int x1, .int (0 : Int32), .int (15 : Int32)]) (rest := []) ⟨hx, hb, hml, hown, hts⟩ (m_X10_within l D cy ad h g H.size x1 (0 : Int32) (15 : Int32) P_4 HC_4) (va_cwS 3 hts (gd_S (wm2 193 rfl rfl) (wm2 194 rfl rfl) (wm1 1 rfl rfl) (wm2 195 rfl rfl)) rfl rfl rfl (by decide +kernel) ⟨Nat.le_of_ble_eq_true rfl, Nat.le_of_ble_eq_true rfl⟩) hK hNw hG rfl rfl hl.1 rfl (lv_room (Nat.le_of_ble_eq_true rfl)) dX10_hand_4 ⟨Nat.zero_le _, Nat.zero_le _⟩) hG (fun r_4 h_4 g_4 H locs hz hq hG => ?_)
    replace HW := HW r_4 h_4 g_4 hz hq
    refine lv_if_eq (tgt := 20) hx hb dX10_hand_7 (by decide) (fun c_7 => ?_) (fun c_7 => ?_)
    · replace HW := HW.1 c_7
      refine lv_bipush (v := (-2)) hx hb dX10_hand_20 (by decide) ?_
      exact W.iret (v := (-2 : Int32)) hx hb hr (fun t ht hW => ⟨⟨(-2 : Int32), (h_4, g_4), rfl, HW, g_B ht hG⟩, hG.2.2.F ht⟩) hG.2.2.2.2 dX10_hand_22
    · replace HW := HW.2 c_7
      refine lv_iload_n hx hb dX10_hand_10 rfl (lv_at hl 2 rfl) ?_
      refine lv_iconst (v := 0) hx hb dX10_hand_11 (by decide) ?_
      refine lv_bipush (v := 9) hx hb dX10_hand_12 (by decide) ?_
      obtain ⟨P_14, HC_14, HW⟩ := HW
      refine g_callz (g_runS (As := [.int x2, .int (0 : Int32), .int (9 : Int32)]) (rest := []) ⟨hx, hb, hml, hown, hts⟩ (m_X10_within l D cy ad h_4 g_4 H.size x2 (0 : Int32) (9 : Int32) P_14 HC_14) (va_cwS 3 hts (gd_S (wm2 193 rfl rfl) (wm2 194 rfl rfl) (wm1 1 rfl rfl) (wm2 195 rfl rfl)) rfl rfl rfl (by decide +kernel) ⟨Nat.le_of_ble_eq_true rfl, Nat.le_of_ble_eq_true rfl⟩) hK hNw hG rfl rfl hl.1 rfl (lv_room (Nat.le_of_ble_eq_true rfl)) dX10_hand_14 ⟨Nat.zero_le _, Nat.zero_le _⟩) hG (fun r_14 h_14 g_14 H locs hz hq hG => ?_)
      replace HW := HW r_14 h_14 g_14 hz hq
      refine lv_if_ne (tgt := 23) hx hb dX10_hand_17 (by decide) (fun c_17 => ?_) (fun c_17 => ?_)
      · replace HW := HW.1 c_17
        refine lv_aload_n hx hb dX10_hand_23 rfl (lv_at hl 0 rfl) ?_
        refine g_getr hx hb hw inG10 hown hK hG gl_0 rfl gk_0 (by decide) 0 (by decide) (by rw [gm_0]; decide) (r := 1) gr_0_0 lk10 dX10_hand_24 ?_
        refine g_getr hx hb hw inG6 hown hK hG gl_1 rfl gk_1 (by decide) 9 (by decide) (by rw [gm_1]; decide) (r := 20) gr_1_9 lk238 dX10_hand_27 ?_
        refine lv_iload_n hx hb dX10_hand_30 rfl (lv_at hl 1 rfl) ?_
        refine lv_iload_n hx hb dX10_hand_31 rfl (lv_at hl 2 rfl) ?_
        refine lv_iconst (v := 0) hx hb dX10_hand_32 (by decide) ?_
        refine lv_iconst (v := 0) hx hb dX10_hand_33 (by decide) ?_
        obtain ⟨P_34, HC_34, HW⟩ := HW
        refine g_calli (g_runV (As := [.int x1, .int x2, .int (0 : Int32), .int (0 : Int32)]) (rest := []) ⟨hx, hb, hml, hown, hts⟩ (m_X8_add l D cy ad h_14 g_14 H.size 20 (gs_20) x1 x2 (0 : Int32) (0 : Int32) P_34 HC_34) (cwV 4 hts (gd_V (wm2 196 rfl rfl) (wm1 53 rfl rfl) (wm1 54 rfl rfl) (wm1 3 rfl rfl) (wm1 55 rfl rfl)) rfl rfl rfl (by decide +kernel) ⟨Nat.le_of_ble_eq_true rfl, Nat.le_of_ble_eq_true rfl⟩) hK hNw hG gl_20 rfl gk_20 (by decide) rfl rfl hl.1 rfl (lv_room (Nat.le_of_ble_eq_true rfl)) dX10_hand_34 ⟨Nat.zero_le _, Nat.zero_le _⟩) hG (fun r_34 h_34 g_34 H locs hq hG => ?_)
        replace HW := HW r_34 h_34 g_34 hq
        exact W.iret (v := r_34) hx hb hr (fun t ht hW => ⟨⟨r_34, (h_34, g_34), rfl, HW, g_B ht hG⟩, hG.2.2.F ht⟩) hG.2.2.2.2 dX10_hand_37
      · replace HW := HW.2 c_17
        refine lv_bipush (v := (-2)) hx hb dX10_hand_20 (by decide) ?_
        exact W.iret (v := (-2 : Int32)) hx hb hr (fun t ht hW => ⟨⟨(-2 : Int32), (h_14, g_14), rfl, HW, g_B ht hG⟩, hG.2.2.F ht⟩) hG.2.2.2.2 dX10_hand_22
  exact E0 _ _ _ hG hl

def w_X10_need (x1 : Int32) (x2 : Int32) (h : HI) (g : HL) (Q : Int32 → HI → HL → Prop) : Prop :=
  (∃ P_8 : Int32 → HI → HL → Prop, w_X8_has 22 x1 h g P_8 ∧ ∀ (r_8 : Int32) (h_8 : HI) (g_8 : HL), zb r_8 → P_8 r_8 h_8 g_8 → ((r_8 = 0 → Q (-2 : Int32) h_8 g_8) ∧ (¬ r_8 = 0 → (∃ P_18 : Int32 → HI → HL → Prop, w_X10_within x2 (0 : Int32) (9 : Int32) h_8 g_8 P_18 ∧ ∀ (r_18 : Int32) (h_18 : HI) (g_18 : HL), zb r_18 → P_18 r_18 h_18 g_18 → ((¬ r_18 = 0 → (∃ P_36 : Int32 → HI → HL → Prop, w_X8_at 22 x1 (0 : Int32) h_18 g_18 P_36 ∧ ∀ (r_36 : Int32) (h_36 : HI) (g_36 : HL), P_36 r_36 h_36 g_36 → (∃ P_50 : HI → HL → Prop, w_X8_put 22 x1 (0 : Int32) x2 h_36 g_36 P_50 ∧ ∀ (h_50 : HI) (g_50 : HL), P_50 h_50 g_50 → Q r_36 h_50 g_50))) ∧ (r_18 = 0 → Q (-2 : Int32) h_18 g_18))))))
set_option maxHeartbeats 8000000 in
set_option maxRecDepth 100000 in
theorem m_X10_need (l : Launch) (D : va_G) (cy : Nat → ClassId) (ad : Nat → Nat) (h : HI) (g : HL) (sz : Nat) (x1 : Int32) (x2 : Int32) (Q : Int32 → HI → HL → Prop) (HW : w_X10_need x1 x2 h g Q) : Met l yX10_need (wa yX10_need cX10_need 4 (some .int)) ({ frames := 1, cells := 0, slots := 0, locals := 24 }) (va_Pc [.ref (ad 0), .int x1, .int x2] (gI D cy ad h g sz)) (va_Qi (fun (r : Int32) (u : HI × HL) => Q r u.1 u.2) (gB D cy ad sz) (gA ad sz)) 0 0 (gA ad sz) := by
  refine Met.ofW (cc := cX10_need) (maxL := 4) (ret := (some .int)) (by decide) rfl ?_
  intro p e s m args below meth c s₁ B hml hv
  obtain ⟨hav, hsz, hP, hK, hD0, hNw⟩ := hv
  have hx := B.exec
  have hb := B.bytes
  have hr := B.returns
  have hts := atoms_spec (ws := (wa yX10_need cX10_need 4 (some .int))) B.pre
  have hw := wa_hw hts
  have hown : s.vm.findClass RX10 = some m.cls := findClass_of_methodNamed B.named
  have hlocks := B.notSynchronized
  subst hsz
  have hG : gG D cy ad (gA ad s.heap.size) s.heap h g s.heap [] := ⟨hP, gA_self hD0, va_S.rf⟩
  clear hP hD0
  have lk10 := hw (.fieldLink RX10 10 "OldWorks" "shop" "LOldWorks$Shop;") (wm2 155 rfl rfl)
  have lk241 := hw (.fieldLink RX10 241 "OldWorks$Shop" "runs" "LOldWorks$Table;") (wm1 94 rfl rfl)
  rw [show (headSpec (wa yX10_need cX10_need 4 (some .int)) ({ frames := 1, cells := 0, slots := 0, locals := 24 } : Room)).room = ({ frames := 1, cells := 0, slots := 0, locals := 24 } : Room) from rfl]
  have hl := lv_entry ([.ref (ad 0), .int x1, .int x2]) (n := 4) (Nat.le_of_ble_eq_true rfl)
  rw [show entryFrame m args 4 = entryFrame m ([.ref (ad 0), .int x1, .int x2] : List Value).toArray 4 from by rw [hav], lg_entry_eq]
  generalize (lg_sl ([.ref (ad 0), .int x1, .int x2]) ++ List.replicate (4 - (lg_sl ([.ref (ad 0), .int x1, .int x2])).length) Slot.unset).toArray = ls at hl ⊢
  have hl : lv_has ls 4 [(0, .ref (ad 0)), (1, .int x1), (2, .int x2)] := hl
  have E0 : ∀ (H : Heap) (locs : List Loc) (ls : Array Slot), gG D cy ad (gA ad s.heap.size) s.heap h g H locs → lv_has ls 4 [(0, .ref (ad 0)), (1, .int x1), (2, .int x2)] → W p l e ({ frames := 1, cells := 0, slots := 0, locals := 24 } : Room) s m args below meth c H locs 0 0 (MQ below (va_Qi (fun (r : Int32) (u : HI × HL) => Q r u.1 u.2) (gB D cy ad s.heap.size) (gA ad s.heap.size)) args s 0 0 (gA ad s.heap.size)) (F0 m 0 ls []) := by
    intro H locs ls hG hl
    unfold w_X10_need at HW
    refine lv_aload_n hx hb dX10_need_0 rfl (lv_at hl 0 rfl) ?_
    refine g_getr hx hb hw inG10 hown hK hG gl_0 rfl gk_0 (by decide) 0 (by decide) (by rw [gm_0]; decide) (r := 1) gr_0_0 lk10 dX10_need_1 ?_
    refine g_getr hx hb hw inG6 hown hK hG gl_1 rfl gk_1 (by decide) 10 (by decide) (by rw [gm_1]; decide) (r := 22) gr_1_10 lk241 dX10_need_4 ?_
    refine lv_iload_n hx hb dX10_need_7 rfl (lv_at hl 1 rfl) ?_
    obtain ⟨P_8, HC_8, HW⟩ := HW
    refine g_callz (g_runV (As := [.int x1]) (rest := []) ⟨hx, hb, hml, hown, hts⟩ (m_X8_has l D cy ad h g H.size 22 (gs_22) x1 P_8 HC_8) (cwV 1 hts (gd_V (wm2 201 rfl rfl) (wm2 202 rfl rfl) (wm2 203 rfl rfl) (wm1 3 rfl rfl) (wm2 204 rfl rfl)) rfl rfl rfl (by decide +kernel) ⟨Nat.le_of_ble_eq_true rfl, Nat.le_of_ble_eq_true rfl⟩) hK hNw hG gl_22 rfl gk_22 (by decide) rfl rfl hl.1 rfl (lv_room (Nat.le_of_ble_eq_true rfl)) dX10_need_8 ⟨Nat.zero_le _, Nat.zero_le _⟩) hG (fun r_8 h_8 g_8 H locs hz hq hG => ?_)
    replace HW := HW r_8 h_8 g_8 hz hq
    refine lv_if_eq (tgt := 24) hx hb dX10_need_11 (by decide) (fun c_11 => ?_) (fun c_11 => ?_)
    · replace HW := HW.1 c_11
      refine lv_bipush (v := (-2)) hx hb dX10_need_24 (by decide) ?_
      exact W.iret (v := (-2 : Int32)) hx hb hr (fun t ht hW => ⟨⟨(-2 : Int32), (h_8, g_8), rfl, HW, g_B ht hG⟩, hG.2.2.F ht⟩) hG.2.2.2.2 dX10_need_26
    · replace HW := HW.2 c_11
      refine lv_iload_n hx hb dX10_need_14 rfl (lv_at hl 2 rfl) ?_
      refine lv_iconst (v := 0) hx hb dX10_need_15 (by decide) ?_
      refine lv_bipush (v := 9) hx hb dX10_need_16 (by decide) ?_
      obtain ⟨P_18, HC_18, HW⟩ := HW
      refine g_callz (g_runS (As := [.int x2, .int (0 : Int32), .int (9 : Int32)]) (rest := []) ⟨hx, hb, hml, hown, hts⟩ (m_X10_within l D cy ad h_8 g_8 H.size x2 (0 : Int32) (9 : Int32) P_18 HC_18) (va_cwS 3 hts (gd_S (wm2 193 rfl rfl) (wm2 194 rfl rfl) (wm1 1 rfl rfl) (wm2 195 rfl rfl)) rfl rfl rfl (by decide +kernel) ⟨Nat.le_of_ble_eq_true rfl, Nat.le_of_ble_eq_true rfl⟩) hK hNw hG rfl rfl hl.1 rfl (lv_room (Nat.le_of_ble_eq_true rfl)) dX10_need_18 ⟨Nat.zero_le _, Nat.zero_le _⟩) hG (fun r_18 h_18 g_18 H locs hz hq hG => ?_)
      replace HW := HW r_18 h_18 g_18 hz hq
      refine lv_if_ne (tgt := 27) hx hb dX10_need_21 (by decide) (fun c_21 => ?_) (fun c_21 => ?_)
      · replace HW := HW.1 c_21
        refine lv_aload_n hx hb dX10_need_27 rfl (lv_at hl 0 rfl) ?_
        refine g_getr hx hb hw inG10 hown hK hG gl_0 rfl gk_0 (by decide) 0 (by decide) (by rw [gm_0]; decide) (r := 1) gr_0_0 lk10 dX10_need_28 ?_
        refine g_getr hx hb hw inG6 hown hK hG gl_1 rfl gk_1 (by decide) 10 (by decide) (by rw [gm_1]; decide) (r := 22) gr_1_10 lk241 dX10_need_31 ?_
        refine lv_iload_n hx hb dX10_need_34 rfl (lv_at hl 1 rfl) ?_
        refine lv_iconst (v := 0) hx hb dX10_need_35 (by decide) ?_
        obtain ⟨P_36, HC_36, HW⟩ := HW
        refine g_calli (g_runV (As := [.int x1, .int (0 : Int32)]) (rest := []) ⟨hx, hb, hml, hown, hts⟩ (m_X8_at l D cy ad h_18 g_18 H.size 22 (gs_22) x1 (0 : Int32) P_36 HC_36) (cwV 2 hts (gd_V (wm3 69 rfl rfl) (wm2 221 rfl rfl) (wm2 222 rfl rfl) (wm1 3 rfl rfl) (wm2 223 rfl rfl)) rfl rfl rfl (by decide +kernel) ⟨Nat.le_of_ble_eq_true rfl, Nat.le_of_ble_eq_true rfl⟩) hK hNw hG gl_22 rfl gk_22 (by decide) rfl rfl hl.1 rfl (lv_room (Nat.le_of_ble_eq_true rfl)) dX10_need_36 ⟨Nat.zero_le _, Nat.zero_le _⟩) hG (fun r_36 h_36 g_36 H locs hq hG => ?_)
        replace HW := HW r_36 h_36 g_36 hq
        refine lv_istore_n (lv' := [(3, .int r_36), (0, .ref (ad 0)), (1, .int x1), (2, .int x2)]) hx hb dX10_need_39 rfl hl (by decide) rfl (fun ls hl => ?_)
        refine lv_aload_n hx hb dX10_need_40 rfl (lv_at hl 1 rfl) ?_
        refine g_getr hx hb hw inG10 hown hK hG gl_0 rfl gk_0 (by decide) 0 (by decide) (by rw [gm_0]; decide) (r := 1) gr_0_0 lk10 dX10_need_41 ?_
        refine g_getr hx hb hw inG6 hown hK hG gl_1 rfl gk_1 (by decide) 10 (by decide) (by rw [gm_1]; decide) (r := 22) gr_1_10 lk241 dX10_need_44 ?_
        refine lv_iload_n hx hb dX10_need_47 rfl (lv_at hl 2 rfl) ?_
        refine lv_iconst (v := 0) hx hb dX10_need_48 (by decide) ?_
        refine lv_iload_n hx hb dX10_need_49 rfl (lv_at hl 3 rfl) ?_
        obtain ⟨P_50, HC_50, HW⟩ := HW
        refine g_callv (g_runV (As := [.int x1, .int (0 : Int32), .int x2]) (rest := []) ⟨hx, hb, hml, hown, hts⟩ (m_X8_put l D cy ad h_36 g_36 H.size 22 (gs_22) x1 (0 : Int32) x2 P_50 HC_50) (cwV 3 hts (gd_V (wm2 207 rfl rfl) (wm1 57 rfl rfl) (wm1 58 rfl rfl) (wm1 3 rfl rfl) (wm1 59 rfl rfl)) rfl rfl rfl (by decide +kernel) ⟨Nat.le_of_ble_eq_true rfl, Nat.le_of_ble_eq_true rfl⟩) hK hNw hG gl_22 rfl gk_22 (by decide) rfl rfl hl.1 rfl (lv_room (Nat.le_of_ble_eq_true rfl)) dX10_need_50 ⟨Nat.zero_le _, Nat.zero_le _⟩) hG (fun h_50 g_50 H locs hq hG => ?_)
        replace HW := HW h_50 g_50 hq
        refine lv_iload_n hx hb dX10_need_53 rfl (lv_at hl 0 rfl) ?_
        exact W.iret (v := r_36) hx hb hr (fun t ht hW => ⟨⟨r_36, (h_50, g_50), rfl, HW, g_B ht hG⟩, hG.2.2.F ht⟩) hG.2.2.2.2 dX10_need_54
      · replace HW := HW.2 c_21
        refine lv_bipush (v := (-2)) hx hb dX10_need_24 (by decide) ?_
        exact W.iret (v := (-2 : Int32)) hx hb hr (fun t ht hW => ⟨⟨(-2 : Int32), (h_18, g_18), rfl, HW, g_B ht hG⟩, hG.2.2.F ht⟩) hG.2.2.2.2 dX10_need_26
  exact E0 _ _ _ hG hl

def w_X10_plan (x1 : Int32) (x2 : Int32) (h : HI) (g : HL) (Q : Int32 → HI → HL → Prop) : Prop :=
  (∃ P_4 : Int32 → HI → HL → Prop, w_X10_within x1 (1 : Int32) (8 : Int32) h g P_4 ∧ ∀ (r_4 : Int32) (h_4 : HI) (g_4 : HL), zb r_4 → P_4 r_4 h_4 g_4 → ((r_4 = 0 → Q (-10 : Int32) h_4 g_4) ∧ (¬ r_4 = 0 → (∃ P_15 : Int32 → HI → HL → Prop, w_X10_within x2 (-1 : Int32) (x1 - (1 : Int32)) h_4 g_4 P_15 ∧ ∀ (r_15 : Int32) (h_15 : HI) (g_15 : HL), zb r_15 → P_15 r_15 h_15 g_15 → ((¬ r_15 = 0 → (∃ P_29 : HI → HL → Prop, w_X5_find x1 h_15 g_15 P_29 ∧ ∀ (h_29 : HI) (g_29 : HL), P_29 h_29 g_29 → ((¬ x2 = (-1 : Int32) → (∃ P_50 : Int32 → HI → HL → Prop, w_X5_lessonIn x2 h_29 g_29 P_50 ∧ ∀ (r_50 : Int32) (h_50 : HI) (g_50 : HL), P_50 r_50 h_50 g_50 → ((¬ r_50 = (-1 : Int32) → Q r_50 h_50 g_50) ∧ (r_50 = (-1 : Int32) → Q (-5 : Int32) h_50 g_50)))) ∧ (x2 = (-1 : Int32) → (∃ P_41 : Int32 → HI → HL → Prop, w_X5_mostRuns h_29 g_29 P_41 ∧ ∀ (r_41 : Int32) (h_41 : HI) (g_41 : HL), P_41 r_41 h_41 g_41 → Q r_41 h_41 g_41))))) ∧ (r_15 = 0 → Q (-10 : Int32) h_15 g_15))))))
set_option maxHeartbeats 8000000 in
set_option maxRecDepth 100000 in
theorem m_X10_plan (l : Launch) (D : va_G) (cy : Nat → ClassId) (ad : Nat → Nat) (h : HI) (g : HL) (sz : Nat) (x1 : Int32) (x2 : Int32) (Q : Int32 → HI → HL → Prop) (HW : w_X10_plan x1 x2 h g Q) : Met l yX10_plan (wa yX10_plan cX10_plan 4 (some .int)) ({ frames := 6, cells := 0, slots := 0, locals := 145 }) (va_Pc [.ref (ad 0), .int x1, .int x2] (gI D cy ad h g sz)) (va_Qi (fun (r : Int32) (u : HI × HL) => Q r u.1 u.2) (gB D cy ad sz) (gA ad sz)) 0 0 (gA ad sz) := by
  refine Met.ofW (cc := cX10_plan) (maxL := 4) (ret := (some .int)) (by decide) rfl ?_
  intro p e s m args below meth c s₁ B hml hv
  obtain ⟨hav, hsz, hP, hK, hD0, hNw⟩ := hv
  have hx := B.exec
  have hb := B.bytes
  have hr := B.returns
  have hts := atoms_spec (ws := (wa yX10_plan cX10_plan 4 (some .int))) B.pre
  have hw := wa_hw hts
  have hown : s.vm.findClass RX10 = some m.cls := findClass_of_methodNamed B.named
  have hlocks := B.notSynchronized
  subst hsz
  have hG : gG D cy ad (gA ad s.heap.size) s.heap h g s.heap [] := ⟨hP, gA_self hD0, va_S.rf⟩
  clear hP hD0
  have lk77 := hw (.fieldLink RX10 77 "OldWorks" "plans" "LOldWorks$Plans;") (wm2 165 rfl rfl)
  rw [show (headSpec (wa yX10_plan cX10_plan 4 (some .int)) ({ frames := 6, cells := 0, slots := 0, locals := 145 } : Room)).room = ({ frames := 6, cells := 0, slots := 0, locals := 145 } : Room) from rfl]
  have hl := lv_entry ([.ref (ad 0), .int x1, .int x2]) (n := 4) (Nat.le_of_ble_eq_true rfl)
  rw [show entryFrame m args 4 = entryFrame m ([.ref (ad 0), .int x1, .int x2] : List Value).toArray 4 from by rw [hav], lg_entry_eq]
  generalize (lg_sl ([.ref (ad 0), .int x1, .int x2]) ++ List.replicate (4 - (lg_sl ([.ref (ad 0), .int x1, .int x2])).length) Slot.unset).toArray = ls at hl ⊢
  have hl : lv_has ls 4 [(0, .ref (ad 0)), (1, .int x1), (2, .int x2)] := hl
  have E0 : ∀ (H : Heap) (locs : List Loc) (ls : Array Slot), gG D cy ad (gA ad s.heap.size) s.heap h g H locs → lv_has ls 4 [(0, .ref (ad 0)), (1, .int x1), (2, .int x2)] → W p l e ({ frames := 6, cells := 0, slots := 0, locals := 145 } : Room) s m args below meth c H locs 0 0 (MQ below (va_Qi (fun (r : Int32) (u : HI × HL) => Q r u.1 u.2) (gB D cy ad s.heap.size) (gA ad s.heap.size)) args s 0 0 (gA ad s.heap.size)) (F0 m 0 ls []) := by
    intro H locs ls hG hl
    unfold w_X10_plan at HW
    refine lv_iload_n hx hb dX10_plan_0 rfl (lv_at hl 1 rfl) ?_
    refine lv_iconst (v := 1) hx hb dX10_plan_1 (by decide) ?_
    refine lv_bipush (v := 8) hx hb dX10_plan_2 (by decide) ?_
    obtain ⟨P_4, HC_4, HW⟩ := HW
    refine g_callz (g_runS (As := [.int x1, .int (1 : Int32), .int (8 : Int32)]) (rest := []) ⟨hx, hb, hml, hown, hts⟩ (m_X10_within l D cy ad h g H.size x1 (1 : Int32) (8 : Int32) P_4 HC_4) (va_cwS 3 hts (gd_S (wm2 193 rfl rfl) (wm2 194 rfl rfl) (wm1 1 rfl rfl) (wm2 195 rfl rfl)) rfl rfl rfl (by decide +kernel) ⟨Nat.le_of_ble_eq_true rfl, Nat.le_of_ble_eq_true rfl⟩) hK hNw hG rfl rfl hl.1 rfl (lv_room (Nat.le_of_ble_eq_true rfl)) dX10_plan_4 ⟨Nat.zero_le _, Nat.zero_le _⟩) hG (fun r_4 h_4 g_4 H locs hz hq hG => ?_)
    replace HW := HW r_4 h_4 g_4 hz hq
    refine lv_if_eq (tgt := 21) hx hb dX10_plan_7 (by decide) (fun c_7 => ?_) (fun c_7 => ?_)
    · replace HW := HW.1 c_7
      refine lv_bipush (v := (-10)) hx hb dX10_plan_21 (by decide) ?_
      exact W.iret (v := (-10 : Int32)) hx hb hr (fun t ht hW => ⟨⟨(-10 : Int32), (h_4, g_4), rfl, HW, g_B ht hG⟩, hG.2.2.F ht⟩) hG.2.2.2.2 dX10_plan_23
    · replace HW := HW.2 c_7
      refine lv_iload_n hx hb dX10_plan_10 rfl (lv_at hl 2 rfl) ?_
      refine lv_iconst (v := (-1)) hx hb dX10_plan_11 (by decide) ?_
      refine lv_iload_n hx hb dX10_plan_12 rfl (lv_at hl 1 rfl) ?_
      refine lv_iconst (v := 1) hx hb dX10_plan_13 (by decide) ?_
      refine lv_isub hx hb dX10_plan_14 ?_
      obtain ⟨P_15, HC_15, HW⟩ := HW
      refine g_callz (g_runS (As := [.int x2, .int (-1 : Int32), .int (x1 - (1 : Int32))]) (rest := []) ⟨hx, hb, hml, hown, hts⟩ (m_X10_within l D cy ad h_4 g_4 H.size x2 (-1 : Int32) (x1 - (1 : Int32)) P_15 HC_15) (va_cwS 3 hts (gd_S (wm2 193 rfl rfl) (wm2 194 rfl rfl) (wm1 1 rfl rfl) (wm2 195 rfl rfl)) rfl rfl rfl (by decide +kernel) ⟨Nat.le_of_ble_eq_true rfl, Nat.le_of_ble_eq_true rfl⟩) hK hNw hG rfl rfl hl.1 rfl (lv_room (Nat.le_of_ble_eq_true rfl)) dX10_plan_15 ⟨Nat.zero_le _, Nat.zero_le _⟩) hG (fun r_15 h_15 g_15 H locs hz hq hG => ?_)
      replace HW := HW r_15 h_15 g_15 hz hq
      refine lv_if_ne (tgt := 24) hx hb dX10_plan_18 (by decide) (fun c_18 => ?_) (fun c_18 => ?_)
      · replace HW := HW.1 c_18
        refine lv_aload_n hx hb dX10_plan_24 rfl (lv_at hl 0 rfl) ?_
        refine g_getr hx hb hw inG10 hown hK hG gl_0 rfl gk_0 (by decide) 10 (by decide) (by rw [gm_0]; decide) (r := 118) gr_0_10 lk77 dX10_plan_25 ?_
        refine lv_iload_n hx hb dX10_plan_28 rfl (lv_at hl 1 rfl) ?_
        obtain ⟨P_29, HC_29, HW⟩ := HW
        refine g_callv (g_runV (As := [.int x1]) (rest := []) ⟨hx, hb, hml, hown, hts⟩ (m_X5_find l D cy ad h_15 g_15 H.size x1 P_29 HC_29) (cwV 1 hts (gd_V (wm4 150 rfl rfl) (wm4 151 rfl rfl) (wm4 152 rfl rfl) (wm1 12 rfl rfl) (wm4 153 rfl rfl)) rfl rfl rfl (by decide +kernel) ⟨Nat.le_of_ble_eq_true rfl, Nat.le_of_ble_eq_true rfl⟩) hK hNw hG gl_118 rfl gk_118 (by decide) rfl rfl hl.1 rfl (lv_room (Nat.le_of_ble_eq_true rfl)) dX10_plan_29 ⟨Nat.zero_le _, Nat.zero_le _⟩) hG (fun h_29 g_29 H locs hq hG => ?_)
        replace HW := HW h_29 g_29 hq
        refine lv_iload_n hx hb dX10_plan_32 rfl (lv_at hl 2 rfl) ?_
        refine lv_iconst (v := (-1)) hx hb dX10_plan_33 (by decide) ?_
        refine lv_icmp_ne (tgt := 45) hx hb dX10_plan_34 (by decide) (fun c_34 => ?_) (fun c_34 => ?_)
        · replace HW := HW.1 c_34
          refine lv_aload_n hx hb dX10_plan_45 rfl (lv_at hl 0 rfl) ?_
          refine g_getr hx hb hw inG10 hown hK hG gl_0 rfl gk_0 (by decide) 10 (by decide) (by rw [gm_0]; decide) (r := 118) gr_0_10 lk77 dX10_plan_46 ?_
          refine lv_iload_n hx hb dX10_plan_49 rfl (lv_at hl 2 rfl) ?_
          obtain ⟨P_50, HC_50, HW⟩ := HW
          refine g_calli (g_runV (As := [.int x2]) (rest := []) ⟨hx, hb, hml, hown, hts⟩ (m_X5_lessonIn l D cy ad h_29 g_29 H.size x2 P_50 HC_50) (cwV 1 hts (gd_V (wm4 200 rfl rfl) (wm4 201 rfl rfl) (wm4 202 rfl rfl) (wm1 12 rfl rfl) (wm4 203 rfl rfl)) rfl rfl rfl (by decide +kernel) ⟨Nat.le_of_ble_eq_true rfl, Nat.le_of_ble_eq_true rfl⟩) hK hNw hG gl_118 rfl gk_118 (by decide) rfl rfl hl.1 rfl (lv_room (Nat.le_of_ble_eq_true rfl)) dX10_plan_50 ⟨Nat.zero_le _, Nat.zero_le _⟩) hG (fun r_50 h_50 g_50 H locs hq hG => ?_)
          replace HW := HW r_50 h_50 g_50 hq
          refine lv_istore_n (lv' := [(3, .int r_50), (0, .ref (ad 0)), (1, .int x1), (2, .int x2)]) hx hb dX10_plan_53 rfl hl (by decide) rfl (fun ls hl => ?_)
          refine lv_iload_n hx hb dX10_plan_54 rfl (lv_at hl 0 rfl) ?_
          refine lv_iconst (v := (-1)) hx hb dX10_plan_55 (by decide) ?_
          refine lv_icmp_ne (tgt := 64) hx hb dX10_plan_56 (by decide) (fun c_56 => ?_) (fun c_56 => ?_)
          · replace HW := HW.1 c_56
            refine lv_iload_n hx hb dX10_plan_64 rfl (lv_at hl 0 rfl) ?_
            exact W.iret (v := r_50) hx hb hr (fun t ht hW => ⟨⟨r_50, (h_50, g_50), rfl, HW, g_B ht hG⟩, hG.2.2.F ht⟩) hG.2.2.2.2 dX10_plan_65
          · replace HW := HW.2 c_56
            refine lv_bipush (v := (-5)) hx hb dX10_plan_59 (by decide) ?_
            refine lv_goto (tgt := 65) hx hb dX10_plan_61 (by decide) ?_
            exact W.iret (v := (-5 : Int32)) hx hb hr (fun t ht hW => ⟨⟨(-5 : Int32), (h_50, g_50), rfl, HW, g_B ht hG⟩, hG.2.2.F ht⟩) hG.2.2.2.2 dX10_plan_65
        · replace HW := HW.2 c_34
          refine lv_aload_n hx hb dX10_plan_37 rfl (lv_at hl 0 rfl) ?_
          refine g_getr hx hb hw inG10 hown hK hG gl_0 rfl gk_0 (by decide) 10 (by decide) (by rw [gm_0]; decide) (r := 118) gr_0_10 lk77 dX10_plan_38 ?_
          obtain ⟨P_41, HC_41, HW⟩ := HW
          refine g_calli (g_runV (As := []) (rest := []) ⟨hx, hb, hml, hown, hts⟩ (m_X5_mostRuns l D cy ad h_29 g_29 H.size  P_41 HC_41) (cwV 0 hts (gd_V (wm4 196 rfl rfl) (wm4 197 rfl rfl) (wm4 198 rfl rfl) (wm1 12 rfl rfl) (wm4 199 rfl rfl)) rfl rfl rfl (by decide +kernel) ⟨Nat.le_of_ble_eq_true rfl, Nat.le_of_ble_eq_true rfl⟩) hK hNw hG gl_118 rfl gk_118 (by decide) rfl rfl hl.1 rfl (lv_room (Nat.le_of_ble_eq_true rfl)) dX10_plan_41 ⟨Nat.zero_le _, Nat.zero_le _⟩) hG (fun r_41 h_41 g_41 H locs hq hG => ?_)
          replace HW := HW r_41 h_41 g_41 hq
          exact W.iret (v := r_41) hx hb hr (fun t ht hW => ⟨⟨r_41, (h_41, g_41), rfl, HW, g_B ht hG⟩, hG.2.2.F ht⟩) hG.2.2.2.2 dX10_plan_44
      · replace HW := HW.2 c_18
        refine lv_bipush (v := (-10)) hx hb dX10_plan_21 (by decide) ?_
        exact W.iret (v := (-10 : Int32)) hx hb hr (fun t ht hW => ⟨⟨(-10 : Int32), (h_15, g_15), rfl, HW, g_B ht hG⟩, hG.2.2.F ht⟩) hG.2.2.2.2 dX10_plan_23
  exact E0 _ _ _ hG hl

def j_X10_imageAt_15 (Q : Nat → HI → HL → Prop) (s0 : Nat) (h : HI) (g : HL) : Prop :=
  Q s0 h g
def w_X10_imageAt (x1 : Int32) (h : HI) (g : HL) (Q : Nat → HI → HL → Prop) : Prop :=
  ((¬ x1 = 0 → j_X10_imageAt_15 Q 51 h g) ∧ (x1 = 0 → j_X10_imageAt_15 Q 26 h g))
set_option maxHeartbeats 8000000 in
set_option maxRecDepth 100000 in
theorem m_X10_imageAt (l : Launch) (D : va_G) (cy : Nat → ClassId) (ad : Nat → Nat) (h : HI) (g : HL) (sz : Nat) (x1 : Int32) (Q : Nat → HI → HL → Prop) (HW : w_X10_imageAt x1 h g Q) : Met l yX10_imageAt (wa yX10_imageAt cX10_imageAt 2 (some (.object "OldWorks$Shop"))) ({ frames := 0, cells := 0, slots := 0, locals := 0 }) (va_Pc [.ref (ad 0), .int x1] (gI D cy ad h g sz)) (va_Qr (fun (u : Nat × HI × HL) => Q u.1 u.2.1 u.2.2) (fun (u : Nat × HI × HL) (a : Nat) (t : State) => a = ad u.1 ∧ gB D cy ad sz u.2 t) (gA ad sz)) 0 0 (gA ad sz) := by
  refine Met.ofW (cc := cX10_imageAt) (maxL := 2) (ret := (some (.object "OldWorks$Shop"))) (by decide) rfl ?_
  intro p e s m args below meth c s₁ B hml hv
  obtain ⟨hav, hsz, hP, hK, hD0, hNw⟩ := hv
  have hx := B.exec
  have hb := B.bytes
  have hr := B.returns
  have hts := atoms_spec (ws := (wa yX10_imageAt cX10_imageAt 2 (some (.object "OldWorks$Shop")))) B.pre
  have hw := wa_hw hts
  have hown : s.vm.findClass RX10 = some m.cls := findClass_of_methodNamed B.named
  have hlocks := B.notSynchronized
  subst hsz
  have hG : gG D cy ad (gA ad s.heap.size) s.heap h g s.heap [] := ⟨hP, gA_self hD0, va_S.rf⟩
  clear hP hD0
  have lk19 := hw (.fieldLink RX10 19 "OldWorks" "secondImage" "LOldWorks$Shop;") (wm2 157 rfl rfl)
  have lk16 := hw (.fieldLink RX10 16 "OldWorks" "firstImage" "LOldWorks$Shop;") (wm2 156 rfl rfl)
  rw [show (headSpec (wa yX10_imageAt cX10_imageAt 2 (some (.object "OldWorks$Shop"))) ({ frames := 0, cells := 0, slots := 0, locals := 0 } : Room)).room = ({ frames := 0, cells := 0, slots := 0, locals := 0 } : Room) from rfl]
  have hl := lv_entry ([.ref (ad 0), .int x1]) (n := 2) (Nat.le_of_ble_eq_true rfl)
  rw [show entryFrame m args 2 = entryFrame m ([.ref (ad 0), .int x1] : List Value).toArray 2 from by rw [hav], lg_entry_eq]
  generalize (lg_sl ([.ref (ad 0), .int x1]) ++ List.replicate (2 - (lg_sl ([.ref (ad 0), .int x1])).length) Slot.unset).toArray = ls at hl ⊢
  have hl : lv_has ls 2 [(0, .ref (ad 0)), (1, .int x1)] := hl
  have B15 : ∀ (s0 : Nat) (h : HI) (g : HL) (H : Heap) (locs : List Loc) (ls : Array Slot) (hk_s0 : isS s0), j_X10_imageAt_15 Q s0 h g → gG D cy ad (gA ad s.heap.size) s.heap h g H locs → lv_has ls 2 [] → W p l e ({ frames := 0, cells := 0, slots := 0, locals := 0 } : Room) s m args below meth c H locs 0 0 (MQ below (va_Qr (fun (u : Nat × HI × HL) => Q u.1 u.2.1 u.2.2) (fun (u : Nat × HI × HL) (a : Nat) (t : State) => a = ad u.1 ∧ gB D cy ad s.heap.size u.2 t) (gA ad s.heap.size)) args s 0 0 (gA ad s.heap.size)) (F0 m 15 ls [.ref (ad s0)]) := by
    intro s0 h g H locs ls hk_s0 HW hG hl
    unfold j_X10_imageAt_15 at HW
    exact W.aret (v := .ref (ad s0)) hx hb hr (Or.inl ⟨_, rfl⟩) (Or.inr ⟨_, rfl⟩) (fun t ht hW => ⟨⟨(s0, h, g), ad s0, rfl, HW, rfl, g_B ht hG⟩, hG.2.2.F ht⟩) hG.2.2.2.2 dX10_imageAt_15
  have E0 : ∀ (H : Heap) (locs : List Loc) (ls : Array Slot), gG D cy ad (gA ad s.heap.size) s.heap h g H locs → lv_has ls 2 [(0, .ref (ad 0)), (1, .int x1)] → W p l e ({ frames := 0, cells := 0, slots := 0, locals := 0 } : Room) s m args below meth c H locs 0 0 (MQ below (va_Qr (fun (u : Nat × HI × HL) => Q u.1 u.2.1 u.2.2) (fun (u : Nat × HI × HL) (a : Nat) (t : State) => a = ad u.1 ∧ gB D cy ad s.heap.size u.2 t) (gA ad s.heap.size)) args s 0 0 (gA ad s.heap.size)) (F0 m 0 ls []) := by
    intro H locs ls hG hl
    unfold w_X10_imageAt at HW
    refine lv_iload_n hx hb dX10_imageAt_0 rfl (lv_at hl 1 rfl) ?_
    refine lv_if_ne (tgt := 11) hx hb dX10_imageAt_1 (by decide) (fun c_1 => ?_) (fun c_1 => ?_)
    · replace HW := HW.1 c_1
      refine lv_aload_n hx hb dX10_imageAt_11 rfl (lv_at hl 0 rfl) ?_
      refine g_getr hx hb hw inG10 hown hK hG gl_0 rfl gk_0 (by decide) 2 (by decide) (by rw [gm_0]; decide) (r := 51) gr_0_2 lk19 dX10_imageAt_12 ?_
      exact B15 51 h g _ _ _ gs_51 HW hG (lv_sub hl [] rfl)
    · replace HW := HW.2 c_1
      refine lv_aload_n hx hb dX10_imageAt_4 rfl (lv_at hl 0 rfl) ?_
      refine g_getr hx hb hw inG10 hown hK hG gl_0 rfl gk_0 (by decide) 1 (by decide) (by rw [gm_0]; decide) (r := 26) gr_0_1 lk16 dX10_imageAt_5 ?_
      refine lv_goto (tgt := 15) hx hb dX10_imageAt_8 (by decide) ?_
      exact B15 26 h g _ _ _ gs_26 HW hG (lv_sub hl [] rfl)
  exact E0 _ _ _ hG hl

def w_X10_image (x1 : Int32) (h : HI) (g : HL) (Q : Int32 → HI → HL → Prop) : Prop :=
  (∃ P_3 : Int32 → HI → HL → Prop, w_X10_within x1 (0 : Int32) (1 : Int32) h g P_3 ∧ ∀ (r_3 : Int32) (h_3 : HI) (g_3 : HL), zb r_3 → P_3 r_3 h_3 g_3 → ((¬ r_3 = 0 → (∃ P_14 : Nat → HI → HL → Prop, w_X10_imageAt x1 h_3 g_3 P_14 ∧ ∀ (r_14 : Nat) (h_14 : HI) (g_14 : HL), P_14 r_14 h_14 g_14 → (isS r_14 ∧ (∃ P_21 : HI → HL → Prop, w_X6_copy r_14 1 h_14 g_14 P_21 ∧ ∀ (h_21 : HI) (g_21 : HL), P_21 h_21 g_21 → (vp_in x1 2 ∧ ∀ h_30 : HI, h_30 = hu h_21 76 x1.toNatClampNeg (vp_nar .boolean (1 : Int32)) → Q (1 : Int32) h_30 g_21))))) ∧ (r_3 = 0 → Q (-2 : Int32) h_3 g_3)))
set_option maxHeartbeats 8000000 in
set_option maxRecDepth 100000 in
theorem m_X10_image (l : Launch) (D : va_G) (cy : Nat → ClassId) (ad : Nat → Nat) (h : HI) (g : HL) (sz : Nat) (x1 : Int32) (Q : Int32 → HI → HL → Prop) (HW : w_X10_image x1 h g Q) : Met l yX10_image (wa yX10_image cX10_image 2 (some .int)) ({ frames := 3, cells := 0, slots := 0, locals := 103 }) (va_Pc [.ref (ad 0), .int x1] (gI D cy ad h g sz)) (va_Qi (fun (r : Int32) (u : HI × HL) => Q r u.1 u.2) (gB D cy ad sz) (gA ad sz)) 0 0 (gA ad sz) := by
  refine Met.ofW (cc := cX10_image) (maxL := 2) (ret := (some .int)) (by decide) rfl ?_
  intro p e s m args below meth c s₁ B hml hv
  obtain ⟨hav, hsz, hP, hK, hD0, hNw⟩ := hv
  have hx := B.exec
  have hb := B.bytes
  have hr := B.returns
  have hts := atoms_spec (ws := (wa yX10_image cX10_image 2 (some .int))) B.pre
  have hw := wa_hw hts
  have hown : s.vm.findClass RX10 = some m.cls := findClass_of_methodNamed B.named
  have hlocks := B.notSynchronized
  subst hsz
  have hG : gG D cy ad (gA ad s.heap.size) s.heap h g s.heap [] := ⟨hP, gA_self hD0, va_S.rf⟩
  clear hP hD0
  have lk10 := hw (.fieldLink RX10 10 "OldWorks" "shop" "LOldWorks$Shop;") (wm2 155 rfl rfl)
  have lk22 := hw (.fieldLink RX10 22 "OldWorks" "kept" "[Z") (wm2 158 rfl rfl)
  rw [show (headSpec (wa yX10_image cX10_image 2 (some .int)) ({ frames := 3, cells := 0, slots := 0, locals := 103 } : Room)).room = ({ frames := 3, cells := 0, slots := 0, locals := 103 } : Room) from rfl]
  have hl := lv_entry ([.ref (ad 0), .int x1]) (n := 2) (Nat.le_of_ble_eq_true rfl)
  rw [show entryFrame m args 2 = entryFrame m ([.ref (ad 0), .int x1] : List Value).toArray 2 from by rw [hav], lg_entry_eq]
  generalize (lg_sl ([.ref (ad 0), .int x1]) ++ List.replicate (2 - (lg_sl ([.ref (ad 0), .int x1])).length) Slot.unset).toArray = ls at hl ⊢
  have hl : lv_has ls 2 [(0, .ref (ad 0)), (1, .int x1)] := hl
  have E0 : ∀ (H : Heap) (locs : List Loc) (ls : Array Slot), gG D cy ad (gA ad s.heap.size) s.heap h g H locs → lv_has ls 2 [(0, .ref (ad 0)), (1, .int x1)] → W p l e ({ frames := 3, cells := 0, slots := 0, locals := 103 } : Room) s m args below meth c H locs 0 0 (MQ below (va_Qi (fun (r : Int32) (u : HI × HL) => Q r u.1 u.2) (gB D cy ad s.heap.size) (gA ad s.heap.size)) args s 0 0 (gA ad s.heap.size)) (F0 m 0 ls []) := by
    intro H locs ls hG hl
    unfold w_X10_image at HW
    refine lv_iload_n hx hb dX10_image_0 rfl (lv_at hl 1 rfl) ?_
    refine lv_iconst (v := 0) hx hb dX10_image_1 (by decide) ?_
    refine lv_iconst (v := 1) hx hb dX10_image_2 (by decide) ?_
    obtain ⟨P_3, HC_3, HW⟩ := HW
    refine g_callz (g_runS (As := [.int x1, .int (0 : Int32), .int (1 : Int32)]) (rest := []) ⟨hx, hb, hml, hown, hts⟩ (m_X10_within l D cy ad h g H.size x1 (0 : Int32) (1 : Int32) P_3 HC_3) (va_cwS 3 hts (gd_S (wm2 193 rfl rfl) (wm2 194 rfl rfl) (wm1 1 rfl rfl) (wm2 195 rfl rfl)) rfl rfl rfl (by decide +kernel) ⟨Nat.le_of_ble_eq_true rfl, Nat.le_of_ble_eq_true rfl⟩) hK hNw hG rfl rfl hl.1 rfl (lv_room (Nat.le_of_ble_eq_true rfl)) dX10_image_3 ⟨Nat.zero_le _, Nat.zero_le _⟩) hG (fun r_3 h_3 g_3 H locs hz hq hG => ?_)
    replace HW := HW r_3 h_3 g_3 hz hq
    refine lv_if_ne (tgt := 12) hx hb dX10_image_6 (by decide) (fun c_6 => ?_) (fun c_6 => ?_)
    · replace HW := HW.1 c_6
      refine lv_aload_n hx hb dX10_image_12 rfl (lv_at hl 0 rfl) ?_
      refine lv_iload_n hx hb dX10_image_13 rfl (lv_at hl 1 rfl) ?_
      obtain ⟨P_14, HC_14, HW⟩ := HW
      refine g_callr (g_runV (As := [.int x1]) (rest := []) ⟨hx, hb, hml, hown, hts⟩ (m_X10_imageAt l D cy ad h_3 g_3 H.size x1 P_14 HC_14) (cwV 1 hts (gd_V (wm4 212 rfl rfl) (wm4 214 rfl rfl) (wmp3 (q := (yX10_imageAt, 11)) 4 rfl) (wm1 1 rfl rfl) (wm4 215 rfl rfl)) rfl rfl rfl (by decide +kernel) ⟨Nat.le_of_ble_eq_true rfl, Nat.le_of_ble_eq_true rfl⟩) hK hNw hG gl_0 rfl gk_0 (by decide) rfl rfl hl.1 rfl (lv_room (Nat.le_of_ble_eq_true rfl)) dX10_image_14 ⟨Nat.zero_le _, Nat.zero_le _⟩) hG (fun r_14 h_14 g_14 H locs hq hG => ?_)
      replace HW := HW r_14 h_14 g_14 hq
      have hz_14 := HW.1
      replace HW := HW.2
      refine lv_aload_n hx hb dX10_image_17 rfl (lv_at hl 0 rfl) ?_
      refine g_getr hx hb hw inG10 hown hK hG gl_0 rfl gk_0 (by decide) 0 (by decide) (by rw [gm_0]; decide) (r := 1) gr_0_0 lk10 dX10_image_18 ?_
      obtain ⟨P_21, HC_21, HW⟩ := HW
      refine g_callv (g_runV (As := [.ref (ad 1)]) (rest := []) ⟨hx, hb, hml, hown, hts⟩ (m_X6_copy l D cy ad h_14 g_14 H.size r_14 hz_14 1 (gs_1) P_21 HC_21) (cwV 1 hts (gd_V (wm4 216 rfl rfl) (wm4 217 rfl rfl) (wm4 218 rfl rfl) (wm1 2 rfl rfl) (wm4 219 rfl rfl)) rfl rfl rfl (by decide +kernel) ⟨Nat.le_of_ble_eq_true rfl, Nat.le_of_ble_eq_true rfl⟩) hK hNw hG hz_14.lt rfl hz_14.k (by decide) rfl rfl hl.1 rfl (lv_room (Nat.le_of_ble_eq_true rfl)) dX10_image_21 ⟨Nat.zero_le _, Nat.zero_le _⟩) hG (fun h_21 g_21 H locs hq hG => ?_)
      replace HW := HW h_21 g_21 hq
      refine lv_aload_n hx hb dX10_image_24 rfl (lv_at hl 0 rfl) ?_
      refine g_getr hx hb hw inG10 hown hK hG gl_0 rfl gk_0 (by decide) 3 (by decide) (by rw [gm_0]; decide) (r := 76) gr_0_3 lk22 dX10_image_25 ?_
      refine lv_iload_n hx hb dX10_image_28 rfl (lv_at hl 1 rfl) ?_
      refine lv_iconst (v := 1) hx hb dX10_image_29 (by decide) ?_
      refine g_zast hx hb hK hG gl_76 gk_76 gn_76 HW.1 dX10_image_30 (fun H locs hG => ?_)
      replace HW := HW.2
      obtain ⟨h_30, eh_30⟩ : ∃ y : HI, y = hu h_21 76 x1.toNatClampNeg (vp_nar .boolean (1 : Int32)) := ⟨_, rfl⟩
      rw [← eh_30] at hG
      replace HW := HW h_30 eh_30
      refine lv_iconst (v := 1) hx hb dX10_image_31 (by decide) ?_
      exact W.iret (v := (1 : Int32)) hx hb hr (fun t ht hW => ⟨⟨(1 : Int32), (h_30, g_21), rfl, HW, g_B ht hG⟩, hG.2.2.F ht⟩) hG.2.2.2.2 dX10_image_32
    · replace HW := HW.2 c_6
      refine lv_bipush (v := (-2)) hx hb dX10_image_9 (by decide) ?_
      exact W.iret (v := (-2 : Int32)) hx hb hr (fun t ht hW => ⟨⟨(-2 : Int32), (h_3, g_3), rfl, HW, g_B ht hG⟩, hG.2.2.F ht⟩) hG.2.2.2.2 dX10_image_11
  exact E0 _ _ _ hG hl

def w_X10_from (x1 : Int32) (h : HI) (g : HL) (Q : Int32 → HI → HL → Prop) : Prop :=
  (∃ P_3 : Int32 → HI → HL → Prop, w_X10_within x1 (0 : Int32) (1 : Int32) h g P_3 ∧ ∀ (r_3 : Int32) (h_3 : HI) (g_3 : HL), zb r_3 → P_3 r_3 h_3 g_3 → ((¬ r_3 = 0 → (vp_in x1 2 ∧ ((¬ (h_3 76 x1.toNatClampNeg) = 0 → (∃ P_30 : Nat → HI → HL → Prop, w_X10_imageAt x1 h_3 g_3 P_30 ∧ ∀ (r_30 : Nat) (h_30 : HI) (g_30 : HL), P_30 r_30 h_30 g_30 → (isS r_30 ∧ (∃ P_33 : HI → HL → Prop, w_X6_copy 1 r_30 h_30 g_30 P_33 ∧ ∀ (h_33 : HI) (g_33 : HL), P_33 h_33 g_33 → (∃ P_40 : HI → HL → Prop, w_X4_read h_33 g_33 P_40 ∧ ∀ (h_40 : HI) (g_40 : HL), P_40 h_40 g_40 → Q (1 : Int32) h_40 g_40))))) ∧ ((h_3 76 x1.toNatClampNeg) = 0 → Q (-3 : Int32) h_3 g_3)))) ∧ (r_3 = 0 → Q (-2 : Int32) h_3 g_3)))
set_option maxHeartbeats 8000000 in
set_option maxRecDepth 100000 in
theorem m_X10_from (l : Launch) (D : va_G) (cy : Nat → ClassId) (ad : Nat → Nat) (h : HI) (g : HL) (sz : Nat) (x1 : Int32) (Q : Int32 → HI → HL → Prop) (HW : w_X10_from x1 h g Q) : Met l yX10_from (wa yX10_from cX10_from 2 (some .int)) ({ frames := 5, cells := 0, slots := 0, locals := 110 }) (va_Pc [.ref (ad 0), .int x1] (gI D cy ad h g sz)) (va_Qi (fun (r : Int32) (u : HI × HL) => Q r u.1 u.2) (gB D cy ad sz) (gA ad sz)) 0 0 (gA ad sz) := by
  refine Met.ofW (cc := cX10_from) (maxL := 2) (ret := (some .int)) (by decide) rfl ?_
  intro p e s m args below meth c s₁ B hml hv
  obtain ⟨hav, hsz, hP, hK, hD0, hNw⟩ := hv
  have hx := B.exec
  have hb := B.bytes
  have hr := B.returns
  have hts := atoms_spec (ws := (wa yX10_from cX10_from 2 (some .int))) B.pre
  have hw := wa_hw hts
  have hown : s.vm.findClass RX10 = some m.cls := findClass_of_methodNamed B.named
  have hlocks := B.notSynchronized
  subst hsz
  have hG : gG D cy ad (gA ad s.heap.size) s.heap h g s.heap [] := ⟨hP, gA_self hD0, va_S.rf⟩
  clear hP hD0
  have lk22 := hw (.fieldLink RX10 22 "OldWorks" "kept" "[Z") (wm2 158 rfl rfl)
  have lk10 := hw (.fieldLink RX10 10 "OldWorks" "shop" "LOldWorks$Shop;") (wm2 155 rfl rfl)
  have lk31 := hw (.fieldLink RX10 31 "OldWorks" "law" "LOldWorks$Law;") (wm2 159 rfl rfl)
  rw [show (headSpec (wa yX10_from cX10_from 2 (some .int)) ({ frames := 5, cells := 0, slots := 0, locals := 110 } : Room)).room = ({ frames := 5, cells := 0, slots := 0, locals := 110 } : Room) from rfl]
  have hl := lv_entry ([.ref (ad 0), .int x1]) (n := 2) (Nat.le_of_ble_eq_true rfl)
  rw [show entryFrame m args 2 = entryFrame m ([.ref (ad 0), .int x1] : List Value).toArray 2 from by rw [hav], lg_entry_eq]
  generalize (lg_sl ([.ref (ad 0), .int x1]) ++ List.replicate (2 - (lg_sl ([.ref (ad 0), .int x1])).length) Slot.unset).toArray = ls at hl ⊢
  have hl : lv_has ls 2 [(0, .ref (ad 0)), (1, .int x1)] := hl
  have E0 : ∀ (H : Heap) (locs : List Loc) (ls : Array Slot), gG D cy ad (gA ad s.heap.size) s.heap h g H locs → lv_has ls 2 [(0, .ref (ad 0)), (1, .int x1)] → W p l e ({ frames := 5, cells := 0, slots := 0, locals := 110 } : Room) s m args below meth c H locs 0 0 (MQ below (va_Qi (fun (r : Int32) (u : HI × HL) => Q r u.1 u.2) (gB D cy ad s.heap.size) (gA ad s.heap.size)) args s 0 0 (gA ad s.heap.size)) (F0 m 0 ls []) := by
    intro H locs ls hG hl
    unfold w_X10_from at HW
    refine lv_iload_n hx hb dX10_from_0 rfl (lv_at hl 1 rfl) ?_
    refine lv_iconst (v := 0) hx hb dX10_from_1 (by decide) ?_
    refine lv_iconst (v := 1) hx hb dX10_from_2 (by decide) ?_
    obtain ⟨P_3, HC_3, HW⟩ := HW
    refine g_callz (g_runS (As := [.int x1, .int (0 : Int32), .int (1 : Int32)]) (rest := []) ⟨hx, hb, hml, hown, hts⟩ (m_X10_within l D cy ad h g H.size x1 (0 : Int32) (1 : Int32) P_3 HC_3) (va_cwS 3 hts (gd_S (wm2 193 rfl rfl) (wm2 194 rfl rfl) (wm1 1 rfl rfl) (wm2 195 rfl rfl)) rfl rfl rfl (by decide +kernel) ⟨Nat.le_of_ble_eq_true rfl, Nat.le_of_ble_eq_true rfl⟩) hK hNw hG rfl rfl hl.1 rfl (lv_room (Nat.le_of_ble_eq_true rfl)) dX10_from_3 ⟨Nat.zero_le _, Nat.zero_le _⟩) hG (fun r_3 h_3 g_3 H locs hz hq hG => ?_)
    replace HW := HW r_3 h_3 g_3 hz hq
    refine lv_if_ne (tgt := 12) hx hb dX10_from_6 (by decide) (fun c_6 => ?_) (fun c_6 => ?_)
    · replace HW := HW.1 c_6
      refine lv_aload_n hx hb dX10_from_12 rfl (lv_at hl 0 rfl) ?_
      refine g_getr hx hb hw inG10 hown hK hG gl_0 rfl gk_0 (by decide) 3 (by decide) (by rw [gm_0]; decide) (r := 76) gr_0_3 lk22 dX10_from_13 ?_
      refine lv_iload_n hx hb dX10_from_16 rfl (lv_at hl 1 rfl) ?_
      refine g_zald hx hb hK hG gl_76 gk_76 gn_76 HW.1 dX10_from_17 ?_
      replace HW := HW.2
      refine lv_if_ne (tgt := 24) hx hb dX10_from_18 (by decide) (fun c_18 => ?_) (fun c_18 => ?_)
      · replace HW := HW.1 c_18
        refine lv_aload_n hx hb dX10_from_24 rfl (lv_at hl 0 rfl) ?_
        refine g_getr hx hb hw inG10 hown hK hG gl_0 rfl gk_0 (by decide) 0 (by decide) (by rw [gm_0]; decide) (r := 1) gr_0_0 lk10 dX10_from_25 ?_
        refine lv_aload_n hx hb dX10_from_28 rfl (lv_at hl 0 rfl) ?_
        refine lv_iload_n hx hb dX10_from_29 rfl (lv_at hl 1 rfl) ?_
        obtain ⟨P_30, HC_30, HW⟩ := HW
        refine g_callr (g_runV (As := [.int x1]) (rest := [.ref (ad 1)]) ⟨hx, hb, hml, hown, hts⟩ (m_X10_imageAt l D cy ad h_3 g_3 H.size x1 P_30 HC_30) (cwV 1 hts (gd_V (wm4 212 rfl rfl) (wm4 214 rfl rfl) (wmp3 (q := (yX10_imageAt, 11)) 4 rfl) (wm1 1 rfl rfl) (wm4 215 rfl rfl)) rfl rfl rfl (by decide +kernel) ⟨Nat.le_of_ble_eq_true rfl, Nat.le_of_ble_eq_true rfl⟩) hK hNw hG gl_0 rfl gk_0 (by decide) rfl rfl hl.1 rfl (lv_room (Nat.le_of_ble_eq_true rfl)) dX10_from_30 ⟨Nat.zero_le _, Nat.zero_le _⟩) hG (fun r_30 h_30 g_30 H locs hq hG => ?_)
        replace HW := HW r_30 h_30 g_30 hq
        have hz_30 := HW.1
        replace HW := HW.2
        obtain ⟨P_33, HC_33, HW⟩ := HW
        refine g_callv (g_runV (As := [.ref (ad r_30)]) (rest := []) ⟨hx, hb, hml, hown, hts⟩ (m_X6_copy l D cy ad h_30 g_30 H.size 1 (gs_1) r_30 hz_30 P_33 HC_33) (cwV 1 hts (gd_V (wm4 216 rfl rfl) (wm4 217 rfl rfl) (wm4 218 rfl rfl) (wm1 2 rfl rfl) (wm4 219 rfl rfl)) rfl rfl rfl (by decide +kernel) ⟨Nat.le_of_ble_eq_true rfl, Nat.le_of_ble_eq_true rfl⟩) hK hNw hG gl_1 rfl gk_1 (by decide) rfl rfl hl.1 rfl (lv_room (Nat.le_of_ble_eq_true rfl)) dX10_from_33 ⟨Nat.zero_le _, Nat.zero_le _⟩) hG (fun h_33 g_33 H locs hq hG => ?_)
        replace HW := HW h_33 g_33 hq
        refine lv_aload_n hx hb dX10_from_36 rfl (lv_at hl 0 rfl) ?_
        refine g_getr hx hb hw inG10 hown hK hG gl_0 rfl gk_0 (by decide) 4 (by decide) (by rw [gm_0]; decide) (r := 77) gr_0_4 lk31 dX10_from_37 ?_
        obtain ⟨P_40, HC_40, HW⟩ := HW
        refine g_callv (g_runV (As := []) (rest := []) ⟨hx, hb, hml, hown, hts⟩ (m_X4_read l D cy ad h_33 g_33 H.size  P_40 HC_40) (cwV 0 hts (gd_V (wm2 212 rfl rfl) (wm2 213 rfl rfl) (wm2 214 rfl rfl) (wm1 4 rfl rfl) (wm2 215 rfl rfl)) rfl rfl rfl (by decide +kernel) ⟨Nat.le_of_ble_eq_true rfl, Nat.le_of_ble_eq_true rfl⟩) hK hNw hG gl_77 rfl gk_77 (by decide) rfl rfl hl.1 rfl (lv_room (Nat.le_of_ble_eq_true rfl)) dX10_from_40 ⟨Nat.zero_le _, Nat.zero_le _⟩) hG (fun h_40 g_40 H locs hq hG => ?_)
        replace HW := HW h_40 g_40 hq
        refine lv_iconst (v := 1) hx hb dX10_from_43 (by decide) ?_
        exact W.iret (v := (1 : Int32)) hx hb hr (fun t ht hW => ⟨⟨(1 : Int32), (h_40, g_40), rfl, HW, g_B ht hG⟩, hG.2.2.F ht⟩) hG.2.2.2.2 dX10_from_44
      · replace HW := HW.2 c_18
        refine lv_bipush (v := (-3)) hx hb dX10_from_21 (by decide) ?_
        exact W.iret (v := (-3 : Int32)) hx hb hr (fun t ht hW => ⟨⟨(-3 : Int32), (h_3, g_3), rfl, HW, g_B ht hG⟩, hG.2.2.F ht⟩) hG.2.2.2.2 dX10_from_23
    · replace HW := HW.2 c_6
      refine lv_bipush (v := (-2)) hx hb dX10_from_9 (by decide) ?_
      exact W.iret (v := (-2 : Int32)) hx hb hr (fun t ht hW => ⟨⟨(-2 : Int32), (h_3, g_3), rfl, HW, g_B ht hG⟩, hG.2.2.F ht⟩) hG.2.2.2.2 dX10_from_11
  exact E0 _ _ _ hG hl

def w_X10_count (x1 : Int32) (h : HI) (g : HL) (Q : Int32 → HI → HL → Prop) : Prop :=
  ((x1 = 0 → (∃ P_63 : Int32 → HI → HL → Prop, w_X8_rows 2 h g P_63 ∧ ∀ (r_63 : Int32) (h_63 : HI) (g_63 : HL), P_63 r_63 h_63 g_63 → Q r_63 h_63 g_63)) ∧ (x1 = 1 → (∃ P_74 : Int32 → HI → HL → Prop, w_X8_rows 6 h g P_74 ∧ ∀ (r_74 : Int32) (h_74 : HI) (g_74 : HL), P_74 r_74 h_74 g_74 → Q r_74 h_74 g_74)) ∧ (x1 = 2 → (∃ P_82 : Int32 → HI → HL → Prop, w_X6_deniedSayings 1 h g P_82 ∧ ∀ (r_82 : Int32) (h_82 : HI) (g_82 : HL), P_82 r_82 h_82 g_82 → Q r_82 h_82 g_82)) ∧ (x1 = 3 → (∃ P_93 : Int32 → HI → HL → Prop, w_X8_rows 8 h g P_93 ∧ ∀ (r_93 : Int32) (h_93 : HI) (g_93 : HL), P_93 r_93 h_93 g_93 → Q r_93 h_93 g_93)) ∧ (x1 = 4 → (∃ P_104 : Int32 → HI → HL → Prop, w_X8_rows 10 h g P_104 ∧ ∀ (r_104 : Int32) (h_104 : HI) (g_104 : HL), P_104 r_104 h_104 g_104 → Q r_104 h_104 g_104)) ∧ (x1 = 5 → (∃ P_115 : Int32 → HI → HL → Prop, w_X8_rows 12 h g P_115 ∧ ∀ (r_115 : Int32) (h_115 : HI) (g_115 : HL), P_115 r_115 h_115 g_115 → Q r_115 h_115 g_115)) ∧ (x1 = 6 → (∃ P_126 : Int32 → HI → HL → Prop, w_X8_rows 14 h g P_126 ∧ ∀ (r_126 : Int32) (h_126 : HI) (g_126 : HL), P_126 r_126 h_126 g_126 → Q r_126 h_126 g_126)) ∧ (x1 = 7 → (∃ P_137 : Int32 → HI → HL → Prop, w_X8_rows 18 h g P_137 ∧ ∀ (r_137 : Int32) (h_137 : HI) (g_137 : HL), P_137 r_137 h_137 g_137 → Q r_137 h_137 g_137)) ∧ (x1 = 8 → (∃ P_148 : Int32 → HI → HL → Prop, w_X8_rows 20 h g P_148 ∧ ∀ (r_148 : Int32) (h_148 : HI) (g_148 : HL), P_148 r_148 h_148 g_148 → Q r_148 h_148 g_148)) ∧ (x1 = 9 → (∃ P_159 : Int32 → HI → HL → Prop, w_X8_rows 24 h g P_159 ∧ ∀ (r_159 : Int32) (h_159 : HI) (g_159 : HL), P_159 r_159 h_159 g_159 → Q r_159 h_159 g_159)) ∧ (¬ x1 = 0 → ¬ x1 = 1 → ¬ x1 = 2 → ¬ x1 = 3 → ¬ x1 = 4 → ¬ x1 = 5 → ¬ x1 = 6 → ¬ x1 = 7 → ¬ x1 = 8 → ¬ x1 = 9 → Q (-2 : Int32) h g))
set_option maxHeartbeats 8000000 in
set_option maxRecDepth 100000 in
theorem m_X10_count (l : Launch) (D : va_G) (cy : Nat → ClassId) (ad : Nat → Nat) (h : HI) (g : HL) (sz : Nat) (x1 : Int32) (Q : Int32 → HI → HL → Prop) (HW : w_X10_count x1 h g Q) : Met l yX10_count (wa yX10_count cX10_count 2 (some .int)) ({ frames := 2, cells := 0, slots := 0, locals := 45 }) (va_Pc [.ref (ad 0), .int x1] (gI D cy ad h g sz)) (va_Qi (fun (r : Int32) (u : HI × HL) => Q r u.1 u.2) (gB D cy ad sz) (gA ad sz)) 0 0 (gA ad sz) := by
  refine Met.ofW (cc := cX10_count) (maxL := 2) (ret := (some .int)) (by decide) rfl ?_
  intro p e s m args below meth c s₁ B hml hv
  obtain ⟨hav, hsz, hP, hK, hD0, hNw⟩ := hv
  have hx := B.exec
  have hb := B.bytes
  have hr := B.returns
  have hts := atoms_spec (ws := (wa yX10_count cX10_count 2 (some .int))) B.pre
  have hw := wa_hw hts
  have hown : s.vm.findClass RX10 = some m.cls := findClass_of_methodNamed B.named
  have hlocks := B.notSynchronized
  subst hsz
  have hG : gG D cy ad (gA ad s.heap.size) s.heap h g s.heap [] := ⟨hP, gA_self hD0, va_S.rf⟩
  clear hP hD0
  have lk10 := hw (.fieldLink RX10 10 "OldWorks" "shop" "LOldWorks$Shop;") (wm2 155 rfl rfl)
  have lk85 := hw (.fieldLink RX10 85 "OldWorks$Shop" "parts" "LOldWorks$Table;") (wm1 62 rfl rfl)
  have lk129 := hw (.fieldLink RX10 129 "OldWorks$Shop" "sayings" "LOldWorks$Table;") (wm1 70 rfl rfl)
  have lk153 := hw (.fieldLink RX10 153 "OldWorks$Shop" "chains" "LOldWorks$Table;") (wm1 73 rfl rfl)
  have lk182 := hw (.fieldLink RX10 182 "OldWorks$Shop" "works" "LOldWorks$Table;") (wm1 76 rfl rfl)
  have lk196 := hw (.fieldLink RX10 196 "OldWorks$Shop" "machines" "LOldWorks$Table;") (wm1 79 rfl rfl)
  have lk199 := hw (.fieldLink RX10 199 "OldWorks$Shop" "spares" "LOldWorks$Table;") (wm1 82 rfl rfl)
  have lk229 := hw (.fieldLink RX10 229 "OldWorks$Shop" "loads" "LOldWorks$Table;") (wm1 88 rfl rfl)
  have lk238 := hw (.fieldLink RX10 238 "OldWorks$Shop" "hands" "LOldWorks$Table;") (wm1 91 rfl rfl)
  have lk109 := hw (.fieldLink RX10 109 "OldWorks$Shop" "signs" "LOldWorks$Table;") (wm1 97 rfl rfl)
  rw [show (headSpec (wa yX10_count cX10_count 2 (some .int)) ({ frames := 2, cells := 0, slots := 0, locals := 45 } : Room)).room = ({ frames := 2, cells := 0, slots := 0, locals := 45 } : Room) from rfl]
  have hl := lv_entry ([.ref (ad 0), .int x1]) (n := 2) (Nat.le_of_ble_eq_true rfl)
  rw [show entryFrame m args 2 = entryFrame m ([.ref (ad 0), .int x1] : List Value).toArray 2 from by rw [hav], lg_entry_eq]
  generalize (lg_sl ([.ref (ad 0), .int x1]) ++ List.replicate (2 - (lg_sl ([.ref (ad 0), .int x1])).length) Slot.unset).toArray = ls at hl ⊢
  have hl : lv_has ls 2 [(0, .ref (ad 0)), (1, .int x1)] := hl
  have E0 : ∀ (H : Heap) (locs : List Loc) (ls : Array Slot), gG D cy ad (gA ad s.heap.size) s.heap h g H locs → lv_has ls 2 [(0, .ref (ad 0)), (1, .int x1)] → W p l e ({ frames := 2, cells := 0, slots := 0, locals := 45 } : Room) s m args below meth c H locs 0 0 (MQ below (va_Qi (fun (r : Int32) (u : HI × HL) => Q r u.1 u.2) (gB D cy ad s.heap.size) (gA ad s.heap.size)) args s 0 0 (gA ad s.heap.size)) (F0 m 0 ls []) := by
    intro H locs ls hG hl
    unfold w_X10_count at HW
    refine lv_iload_n hx hb dX10_count_0 rfl (lv_at hl 1 rfl) ?_
    by_cases c_1_0 : x1 = 0
    · replace HW := HW.1 c_1_0
      refine lv_tableIn (tgt := 56) (off := 55) hx hb dX10_count_1 (by rw [c_1_0]; first | done | decide) (by rw [c_1_0]; first | done | decide) (by rw [c_1_0]; first | done | rfl) (by decide) ?_
      refine lv_aload_n hx hb dX10_count_56 rfl (lv_at hl 0 rfl) ?_
      refine g_getr hx hb hw inG10 hown hK hG gl_0 rfl gk_0 (by decide) 0 (by decide) (by rw [gm_0]; decide) (r := 1) gr_0_0 lk10 dX10_count_57 ?_
      refine g_getr hx hb hw inG6 hown hK hG gl_1 rfl gk_1 (by decide) 0 (by decide) (by rw [gm_1]; decide) (r := 2) gr_1_0 lk85 dX10_count_60 ?_
      obtain ⟨P_63, HC_63, HW⟩ := HW
      refine g_calli (g_runV (As := []) (rest := []) ⟨hx, hb, hml, hown, hts⟩ (m_X8_rows l D cy ad h g H.size 2 (gs_2) P_63 HC_63) (cwV 0 hts (gd_V (wm3 19 rfl rfl) (wm2 217 rfl rfl) (wm2 218 rfl rfl) (wm1 3 rfl rfl) (wm2 219 rfl rfl)) rfl rfl rfl (by decide +kernel) ⟨Nat.le_of_ble_eq_true rfl, Nat.le_of_ble_eq_true rfl⟩) hK hNw hG gl_2 rfl gk_2 (by decide) rfl rfl hl.1 rfl (lv_room (Nat.le_of_ble_eq_true rfl)) dX10_count_63 ⟨Nat.zero_le _, Nat.zero_le _⟩) hG (fun r_63 h_63 g_63 H locs hq hG => ?_)
      replace HW := HW r_63 h_63 g_63 hq
      exact W.iret (v := r_63) hx hb hr (fun t ht hW => ⟨⟨r_63, (h_63, g_63), rfl, HW, g_B ht hG⟩, hG.2.2.F ht⟩) hG.2.2.2.2 dX10_count_66
    · by_cases c_1_1 : x1 = 1
      · replace HW := HW.2.1 c_1_1
        refine lv_tableIn (tgt := 67) (off := 66) hx hb dX10_count_1 (by rw [c_1_1]; first | done | decide) (by rw [c_1_1]; first | done | decide) (by rw [c_1_1]; first | done | rfl) (by decide) ?_
        refine lv_aload_n hx hb dX10_count_67 rfl (lv_at hl 0 rfl) ?_
        refine g_getr hx hb hw inG10 hown hK hG gl_0 rfl gk_0 (by decide) 0 (by decide) (by rw [gm_0]; decide) (r := 1) gr_0_0 lk10 dX10_count_68 ?_
        refine g_getr hx hb hw inG6 hown hK hG gl_1 rfl gk_1 (by decide) 2 (by decide) (by rw [gm_1]; decide) (r := 6) gr_1_2 lk129 dX10_count_71 ?_
        obtain ⟨P_74, HC_74, HW⟩ := HW
        refine g_calli (g_runV (As := []) (rest := []) ⟨hx, hb, hml, hown, hts⟩ (m_X8_rows l D cy ad h g H.size 6 (gs_6) P_74 HC_74) (cwV 0 hts (gd_V (wm3 19 rfl rfl) (wm2 217 rfl rfl) (wm2 218 rfl rfl) (wm1 3 rfl rfl) (wm2 219 rfl rfl)) rfl rfl rfl (by decide +kernel) ⟨Nat.le_of_ble_eq_true rfl, Nat.le_of_ble_eq_true rfl⟩) hK hNw hG gl_6 rfl gk_6 (by decide) rfl rfl hl.1 rfl (lv_room (Nat.le_of_ble_eq_true rfl)) dX10_count_74 ⟨Nat.zero_le _, Nat.zero_le _⟩) hG (fun r_74 h_74 g_74 H locs hq hG => ?_)
        replace HW := HW r_74 h_74 g_74 hq
        exact W.iret (v := r_74) hx hb hr (fun t ht hW => ⟨⟨r_74, (h_74, g_74), rfl, HW, g_B ht hG⟩, hG.2.2.F ht⟩) hG.2.2.2.2 dX10_count_77
      · by_cases c_1_2 : x1 = 2
        · replace HW := HW.2.2.1 c_1_2
          refine lv_tableIn (tgt := 78) (off := 77) hx hb dX10_count_1 (by rw [c_1_2]; first | done | decide) (by rw [c_1_2]; first | done | decide) (by rw [c_1_2]; first | done | rfl) (by decide) ?_
          refine lv_aload_n hx hb dX10_count_78 rfl (lv_at hl 0 rfl) ?_
          refine g_getr hx hb hw inG10 hown hK hG gl_0 rfl gk_0 (by decide) 0 (by decide) (by rw [gm_0]; decide) (r := 1) gr_0_0 lk10 dX10_count_79 ?_
          obtain ⟨P_82, HC_82, HW⟩ := HW
          refine g_calli (g_runV (As := []) (rest := []) ⟨hx, hb, hml, hown, hts⟩ (m_X6_deniedSayings l D cy ad h g H.size 1 (gs_1) P_82 HC_82) (cwV 0 hts (gd_V (wm4 233 rfl rfl) (wm4 234 rfl rfl) (wm4 235 rfl rfl) (wm1 2 rfl rfl) (wm4 236 rfl rfl)) rfl rfl rfl (by decide +kernel) ⟨Nat.le_of_ble_eq_true rfl, Nat.le_of_ble_eq_true rfl⟩) hK hNw hG gl_1 rfl gk_1 (by decide) rfl rfl hl.1 rfl (lv_room (Nat.le_of_ble_eq_true rfl)) dX10_count_82 ⟨Nat.zero_le _, Nat.zero_le _⟩) hG (fun r_82 h_82 g_82 H locs hq hG => ?_)
          replace HW := HW r_82 h_82 g_82 hq
          exact W.iret (v := r_82) hx hb hr (fun t ht hW => ⟨⟨r_82, (h_82, g_82), rfl, HW, g_B ht hG⟩, hG.2.2.F ht⟩) hG.2.2.2.2 dX10_count_85
        · by_cases c_1_3 : x1 = 3
          · replace HW := HW.2.2.2.1 c_1_3
            refine lv_tableIn (tgt := 86) (off := 85) hx hb dX10_count_1 (by rw [c_1_3]; first | done | decide) (by rw [c_1_3]; first | done | decide) (by rw [c_1_3]; first | done | rfl) (by decide) ?_
            refine lv_aload_n hx hb dX10_count_86 rfl (lv_at hl 0 rfl) ?_
            refine g_getr hx hb hw inG10 hown hK hG gl_0 rfl gk_0 (by decide) 0 (by decide) (by rw [gm_0]; decide) (r := 1) gr_0_0 lk10 dX10_count_87 ?_
            refine g_getr hx hb hw inG6 hown hK hG gl_1 rfl gk_1 (by decide) 3 (by decide) (by rw [gm_1]; decide) (r := 8) gr_1_3 lk153 dX10_count_90 ?_
            obtain ⟨P_93, HC_93, HW⟩ := HW
            refine g_calli (g_runV (As := []) (rest := []) ⟨hx, hb, hml, hown, hts⟩ (m_X8_rows l D cy ad h g H.size 8 (gs_8) P_93 HC_93) (cwV 0 hts (gd_V (wm3 19 rfl rfl) (wm2 217 rfl rfl) (wm2 218 rfl rfl) (wm1 3 rfl rfl) (wm2 219 rfl rfl)) rfl rfl rfl (by decide +kernel) ⟨Nat.le_of_ble_eq_true rfl, Nat.le_of_ble_eq_true rfl⟩) hK hNw hG gl_8 rfl gk_8 (by decide) rfl rfl hl.1 rfl (lv_room (Nat.le_of_ble_eq_true rfl)) dX10_count_93 ⟨Nat.zero_le _, Nat.zero_le _⟩) hG (fun r_93 h_93 g_93 H locs hq hG => ?_)
            replace HW := HW r_93 h_93 g_93 hq
            exact W.iret (v := r_93) hx hb hr (fun t ht hW => ⟨⟨r_93, (h_93, g_93), rfl, HW, g_B ht hG⟩, hG.2.2.F ht⟩) hG.2.2.2.2 dX10_count_96
          · by_cases c_1_4 : x1 = 4
            · replace HW := HW.2.2.2.2.1 c_1_4
              refine lv_tableIn (tgt := 97) (off := 96) hx hb dX10_count_1 (by rw [c_1_4]; first | done | decide) (by rw [c_1_4]; first | done | decide) (by rw [c_1_4]; first | done | rfl) (by decide) ?_
              refine lv_aload_n hx hb dX10_count_97 rfl (lv_at hl 0 rfl) ?_
              refine g_getr hx hb hw inG10 hown hK hG gl_0 rfl gk_0 (by decide) 0 (by decide) (by rw [gm_0]; decide) (r := 1) gr_0_0 lk10 dX10_count_98 ?_
              refine g_getr hx hb hw inG6 hown hK hG gl_1 rfl gk_1 (by decide) 4 (by decide) (by rw [gm_1]; decide) (r := 10) gr_1_4 lk182 dX10_count_101 ?_
              obtain ⟨P_104, HC_104, HW⟩ := HW
              refine g_calli (g_runV (As := []) (rest := []) ⟨hx, hb, hml, hown, hts⟩ (m_X8_rows l D cy ad h g H.size 10 (gs_10) P_104 HC_104) (cwV 0 hts (gd_V (wm3 19 rfl rfl) (wm2 217 rfl rfl) (wm2 218 rfl rfl) (wm1 3 rfl rfl) (wm2 219 rfl rfl)) rfl rfl rfl (by decide +kernel) ⟨Nat.le_of_ble_eq_true rfl, Nat.le_of_ble_eq_true rfl⟩) hK hNw hG gl_10 rfl gk_10 (by decide) rfl rfl hl.1 rfl (lv_room (Nat.le_of_ble_eq_true rfl)) dX10_count_104 ⟨Nat.zero_le _, Nat.zero_le _⟩) hG (fun r_104 h_104 g_104 H locs hq hG => ?_)
              replace HW := HW r_104 h_104 g_104 hq
              exact W.iret (v := r_104) hx hb hr (fun t ht hW => ⟨⟨r_104, (h_104, g_104), rfl, HW, g_B ht hG⟩, hG.2.2.F ht⟩) hG.2.2.2.2 dX10_count_107
            · by_cases c_1_5 : x1 = 5
              · replace HW := HW.2.2.2.2.2.1 c_1_5
                refine lv_tableIn (tgt := 108) (off := 107) hx hb dX10_count_1 (by rw [c_1_5]; first | done | decide) (by rw [c_1_5]; first | done | decide) (by rw [c_1_5]; first | done | rfl) (by decide) ?_
                refine lv_aload_n hx hb dX10_count_108 rfl (lv_at hl 0 rfl) ?_
                refine g_getr hx hb hw inG10 hown hK hG gl_0 rfl gk_0 (by decide) 0 (by decide) (by rw [gm_0]; decide) (r := 1) gr_0_0 lk10 dX10_count_109 ?_
                refine g_getr hx hb hw inG6 hown hK hG gl_1 rfl gk_1 (by decide) 5 (by decide) (by rw [gm_1]; decide) (r := 12) gr_1_5 lk196 dX10_count_112 ?_
                obtain ⟨P_115, HC_115, HW⟩ := HW
                refine g_calli (g_runV (As := []) (rest := []) ⟨hx, hb, hml, hown, hts⟩ (m_X8_rows l D cy ad h g H.size 12 (gs_12) P_115 HC_115) (cwV 0 hts (gd_V (wm3 19 rfl rfl) (wm2 217 rfl rfl) (wm2 218 rfl rfl) (wm1 3 rfl rfl) (wm2 219 rfl rfl)) rfl rfl rfl (by decide +kernel) ⟨Nat.le_of_ble_eq_true rfl, Nat.le_of_ble_eq_true rfl⟩) hK hNw hG gl_12 rfl gk_12 (by decide) rfl rfl hl.1 rfl (lv_room (Nat.le_of_ble_eq_true rfl)) dX10_count_115 ⟨Nat.zero_le _, Nat.zero_le _⟩) hG (fun r_115 h_115 g_115 H locs hq hG => ?_)
                replace HW := HW r_115 h_115 g_115 hq
                exact W.iret (v := r_115) hx hb hr (fun t ht hW => ⟨⟨r_115, (h_115, g_115), rfl, HW, g_B ht hG⟩, hG.2.2.F ht⟩) hG.2.2.2.2 dX10_count_118
              · by_cases c_1_6 : x1 = 6
                · replace HW := HW.2.2.2.2.2.2.1 c_1_6
                  refine lv_tableIn (tgt := 119) (off := 118) hx hb dX10_count_1 (by rw [c_1_6]; first | done | decide) (by rw [c_1_6]; first | done | decide) (by rw [c_1_6]; first | done | rfl) (by decide) ?_
                  refine lv_aload_n hx hb dX10_count_119 rfl (lv_at hl 0 rfl) ?_
                  refine g_getr hx hb hw inG10 hown hK hG gl_0 rfl gk_0 (by decide) 0 (by decide) (by rw [gm_0]; decide) (r := 1) gr_0_0 lk10 dX10_count_120 ?_
                  refine g_getr hx hb hw inG6 hown hK hG gl_1 rfl gk_1 (by decide) 6 (by decide) (by rw [gm_1]; decide) (r := 14) gr_1_6 lk199 dX10_count_123 ?_
                  obtain ⟨P_126, HC_126, HW⟩ := HW
                  refine g_calli (g_runV (As := []) (rest := []) ⟨hx, hb, hml, hown, hts⟩ (m_X8_rows l D cy ad h g H.size 14 (gs_14) P_126 HC_126) (cwV 0 hts (gd_V (wm3 19 rfl rfl) (wm2 217 rfl rfl) (wm2 218 rfl rfl) (wm1 3 rfl rfl) (wm2 219 rfl rfl)) rfl rfl rfl (by decide +kernel) ⟨Nat.le_of_ble_eq_true rfl, Nat.le_of_ble_eq_true rfl⟩) hK hNw hG gl_14 rfl gk_14 (by decide) rfl rfl hl.1 rfl (lv_room (Nat.le_of_ble_eq_true rfl)) dX10_count_126 ⟨Nat.zero_le _, Nat.zero_le _⟩) hG (fun r_126 h_126 g_126 H locs hq hG => ?_)
                  replace HW := HW r_126 h_126 g_126 hq
                  exact W.iret (v := r_126) hx hb hr (fun t ht hW => ⟨⟨r_126, (h_126, g_126), rfl, HW, g_B ht hG⟩, hG.2.2.F ht⟩) hG.2.2.2.2 dX10_count_129
                · by_cases c_1_7 : x1 = 7
                  · replace HW := HW.2.2.2.2.2.2.2.1 c_1_7
                    refine lv_tableIn (tgt := 130) (off := 129) hx hb dX10_count_1 (by rw [c_1_7]; first | done | decide) (by rw [c_1_7]; first | done | decide) (by rw [c_1_7]; first | done | rfl) (by decide) ?_
                    refine lv_aload_n hx hb dX10_count_130 rfl (lv_at hl 0 rfl) ?_
                    refine g_getr hx hb hw inG10 hown hK hG gl_0 rfl gk_0 (by decide) 0 (by decide) (by rw [gm_0]; decide) (r := 1) gr_0_0 lk10 dX10_count_131 ?_
                    refine g_getr hx hb hw inG6 hown hK hG gl_1 rfl gk_1 (by decide) 8 (by decide) (by rw [gm_1]; decide) (r := 18) gr_1_8 lk229 dX10_count_134 ?_
                    obtain ⟨P_137, HC_137, HW⟩ := HW
                    refine g_calli (g_runV (As := []) (rest := []) ⟨hx, hb, hml, hown, hts⟩ (m_X8_rows l D cy ad h g H.size 18 (gs_18) P_137 HC_137) (cwV 0 hts (gd_V (wm3 19 rfl rfl) (wm2 217 rfl rfl) (wm2 218 rfl rfl) (wm1 3 rfl rfl) (wm2 219 rfl rfl)) rfl rfl rfl (by decide +kernel) ⟨Nat.le_of_ble_eq_true rfl, Nat.le_of_ble_eq_true rfl⟩) hK hNw hG gl_18 rfl gk_18 (by decide) rfl rfl hl.1 rfl (lv_room (Nat.le_of_ble_eq_true rfl)) dX10_count_137 ⟨Nat.zero_le _, Nat.zero_le _⟩) hG (fun r_137 h_137 g_137 H locs hq hG => ?_)
                    replace HW := HW r_137 h_137 g_137 hq
                    exact W.iret (v := r_137) hx hb hr (fun t ht hW => ⟨⟨r_137, (h_137, g_137), rfl, HW, g_B ht hG⟩, hG.2.2.F ht⟩) hG.2.2.2.2 dX10_count_140
                  · by_cases c_1_8 : x1 = 8
                    · replace HW := HW.2.2.2.2.2.2.2.2.1 c_1_8
                      refine lv_tableIn (tgt := 141) (off := 140) hx hb dX10_count_1 (by rw [c_1_8]; first | done | decide) (by rw [c_1_8]; first | done | decide) (by rw [c_1_8]; first | done | rfl) (by decide) ?_
                      refine lv_aload_n hx hb dX10_count_141 rfl (lv_at hl 0 rfl) ?_
                      refine g_getr hx hb hw inG10 hown hK hG gl_0 rfl gk_0 (by decide) 0 (by decide) (by rw [gm_0]; decide) (r := 1) gr_0_0 lk10 dX10_count_142 ?_
                      refine g_getr hx hb hw inG6 hown hK hG gl_1 rfl gk_1 (by decide) 9 (by decide) (by rw [gm_1]; decide) (r := 20) gr_1_9 lk238 dX10_count_145 ?_
                      obtain ⟨P_148, HC_148, HW⟩ := HW
                      refine g_calli (g_runV (As := []) (rest := []) ⟨hx, hb, hml, hown, hts⟩ (m_X8_rows l D cy ad h g H.size 20 (gs_20) P_148 HC_148) (cwV 0 hts (gd_V (wm3 19 rfl rfl) (wm2 217 rfl rfl) (wm2 218 rfl rfl) (wm1 3 rfl rfl) (wm2 219 rfl rfl)) rfl rfl rfl (by decide +kernel) ⟨Nat.le_of_ble_eq_true rfl, Nat.le_of_ble_eq_true rfl⟩) hK hNw hG gl_20 rfl gk_20 (by decide) rfl rfl hl.1 rfl (lv_room (Nat.le_of_ble_eq_true rfl)) dX10_count_148 ⟨Nat.zero_le _, Nat.zero_le _⟩) hG (fun r_148 h_148 g_148 H locs hq hG => ?_)
                      replace HW := HW r_148 h_148 g_148 hq
                      exact W.iret (v := r_148) hx hb hr (fun t ht hW => ⟨⟨r_148, (h_148, g_148), rfl, HW, g_B ht hG⟩, hG.2.2.F ht⟩) hG.2.2.2.2 dX10_count_151
                    · by_cases c_1_9 : x1 = 9
                      · replace HW := HW.2.2.2.2.2.2.2.2.2.1 c_1_9
                        refine lv_tableIn (tgt := 152) (off := 151) hx hb dX10_count_1 (by rw [c_1_9]; first | done | decide) (by rw [c_1_9]; first | done | decide) (by rw [c_1_9]; first | done | rfl) (by decide) ?_
                        refine lv_aload_n hx hb dX10_count_152 rfl (lv_at hl 0 rfl) ?_
                        refine g_getr hx hb hw inG10 hown hK hG gl_0 rfl gk_0 (by decide) 0 (by decide) (by rw [gm_0]; decide) (r := 1) gr_0_0 lk10 dX10_count_153 ?_
                        refine g_getr hx hb hw inG6 hown hK hG gl_1 rfl gk_1 (by decide) 11 (by decide) (by rw [gm_1]; decide) (r := 24) gr_1_11 lk109 dX10_count_156 ?_
                        obtain ⟨P_159, HC_159, HW⟩ := HW
                        refine g_calli (g_runV (As := []) (rest := []) ⟨hx, hb, hml, hown, hts⟩ (m_X8_rows l D cy ad h g H.size 24 (gs_24) P_159 HC_159) (cwV 0 hts (gd_V (wm3 19 rfl rfl) (wm2 217 rfl rfl) (wm2 218 rfl rfl) (wm1 3 rfl rfl) (wm2 219 rfl rfl)) rfl rfl rfl (by decide +kernel) ⟨Nat.le_of_ble_eq_true rfl, Nat.le_of_ble_eq_true rfl⟩) hK hNw hG gl_24 rfl gk_24 (by decide) rfl rfl hl.1 rfl (lv_room (Nat.le_of_ble_eq_true rfl)) dX10_count_159 ⟨Nat.zero_le _, Nat.zero_le _⟩) hG (fun r_159 h_159 g_159 H locs hq hG => ?_)
                        replace HW := HW r_159 h_159 g_159 hq
                        exact W.iret (v := r_159) hx hb hr (fun t ht hW => ⟨⟨r_159, (h_159, g_159), rfl, HW, g_B ht hG⟩, hG.2.2.F ht⟩) hG.2.2.2.2 dX10_count_162
                      · replace HW := HW.2.2.2.2.2.2.2.2.2.2 c_1_0 c_1_1 c_1_2 c_1_3 c_1_4 c_1_5 c_1_6 c_1_7 c_1_8 c_1_9
                        have z_1_0 := g_ne c_1_0 (n := 0) (by decide)
                        have z_1_1 := g_ne c_1_1 (n := 1) (by decide)
                        have z_1_2 := g_ne c_1_2 (n := 2) (by decide)
                        have z_1_3 := g_ne c_1_3 (n := 3) (by decide)
                        have z_1_4 := g_ne c_1_4 (n := 4) (by decide)
                        have z_1_5 := g_ne c_1_5 (n := 5) (by decide)
                        have z_1_6 := g_ne c_1_6 (n := 6) (by decide)
                        have z_1_7 := g_ne c_1_7 (n := 7) (by decide)
                        have z_1_8 := g_ne c_1_8 (n := 8) (by decide)
                        have z_1_9 := g_ne c_1_9 (n := 9) (by decide)
                        refine lv_tableOut (tgt := 163) hx hb dX10_count_1 (by omega) (by decide) ?_
                        refine lv_bipush (v := (-2)) hx hb dX10_count_163 (by decide) ?_
                        exact W.iret (v := (-2 : Int32)) hx hb hr (fun t ht hW => ⟨⟨(-2 : Int32), (h, g), rfl, HW, g_B ht hG⟩, hG.2.2.F ht⟩) hG.2.2.2.2 dX10_count_165
  exact E0 _ _ _ hG hl
