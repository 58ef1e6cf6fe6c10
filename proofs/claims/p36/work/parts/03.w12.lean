section
-- 03.w12
def w_X10_limbs (x1 : Int32) (h : HI) (g : HL) (Q : Int32 → HI → HL → Prop) : Prop :=
  (∃ P_3 : Int32 → HI → HL → Prop, w_X10_within x1 (0 : Int32) (1 : Int32) h g P_3 ∧ ∀ (r_3 : Int32) (h_3 : HI) (g_3 : HL), zb r_3 → P_3 r_3 h_3 g_3 → ((¬ r_3 = 0 → (∃ P_17 : Nat → HI → HL → Prop, w_X1_side x1 h_3 g_3 P_17 ∧ ∀ (r_17 : Nat) (h_17 : HI) (g_17 : HL), P_17 r_17 h_17 g_17 → (isB r_17 ∧ (∃ P_20 : Int32 → HI → HL → Prop, w_X0_rows r_17 h_17 g_17 P_20 ∧ ∀ (r_20 : Int32) (h_20 : HI) (g_20 : HL), P_20 r_20 h_20 g_20 → Q r_20 h_20 g_20)))) ∧ (r_3 = 0 → Q (-2 : Int32) h_3 g_3)))
set_option maxHeartbeats 8000000 in
set_option maxRecDepth 100000 in
theorem m_X10_limbs (l : Launch) (D : va_G) (cy : Nat → ClassId) (ad : Nat → Nat) (h : HI) (g : HL) (sz : Nat) (x1 : Int32) (Q : Int32 → HI → HL → Prop) (HW : w_X10_limbs x1 h g Q) : Met l yX10_limbs (wa yX10_limbs cX10_limbs 2 (some .int)) ({ frames := 1, cells := 0, slots := 0, locals := 22 }) (va_Pc [.ref (ad 0), .int x1] (gI D cy ad h g sz)) (va_Qi (fun (r : Int32) (u : HI × HL) => Q r u.1 u.2) (gB D cy ad sz) (gA ad sz)) 0 0 (gA ad sz) := by
  refine Met.ofW (cc := cX10_limbs) (maxL := 2) (ret := (some .int)) (by decide) rfl ?_
  intro p e s m args below meth c s₁ B hml hv
  obtain ⟨hav, hsz, hP, hK, hD0, hNw⟩ := hv
  have hx := B.exec
  have hb := B.bytes
  have hr := B.returns
  have hts := atoms_spec (ws := (wa yX10_limbs cX10_limbs 2 (some .int))) B.pre
  have hw := wa_hw hts
  have hown : s.vm.findClass RX10 = some m.cls := findClass_of_methodNamed B.named
  have hlocks := B.notSynchronized
  subst hsz
  have hG : gG D cy ad (gA ad s.heap.size) s.heap h g s.heap [] := ⟨hP, gA_self hD0, va_S.rf⟩
  clear hP hD0
  have lk70 := hw (.fieldLink RX10 70 "OldWorks" "breaks" "LOldWorks$Breaks;") (wm2 164 rfl rfl)
  rw [show (headSpec (wa yX10_limbs cX10_limbs 2 (some .int)) ({ frames := 1, cells := 0, slots := 0, locals := 22 } : Room)).room = ({ frames := 1, cells := 0, slots := 0, locals := 22 } : Room) from rfl]
  have hl := lv_entry ([.ref (ad 0), .int x1]) (n := 2) (Nat.le_of_ble_eq_true rfl)
  rw [show entryFrame m args 2 = entryFrame m ([.ref (ad 0), .int x1] : List Value).toArray 2 from by rw [hav], lg_entry_eq]
  generalize (lg_sl ([.ref (ad 0), .int x1]) ++ List.replicate (2 - (lg_sl ([.ref (ad 0), .int x1])).length) Slot.unset).toArray = ls at hl ⊢
  have hl : lv_has ls 2 [(0, .ref (ad 0)), (1, .int x1)] := hl
  have E0 : ∀ (H : Heap) (locs : List Loc) (ls : Array Slot), gG D cy ad (gA ad s.heap.size) s.heap h g H locs → lv_has ls 2 [(0, .ref (ad 0)), (1, .int x1)] → W p l e ({ frames := 1, cells := 0, slots := 0, locals := 22 } : Room) s m args below meth c H locs 0 0 (MQ below (va_Qi (fun (r : Int32) (u : HI × HL) => Q r u.1 u.2) (gB D cy ad s.heap.size) (gA ad s.heap.size)) args s 0 0 (gA ad s.heap.size)) (F0 m 0 ls []) := by
    intro H locs ls hG hl
    unfold w_X10_limbs at HW
    refine lv_iload_n hx hb dX10_limbs_0 rfl (lv_at hl 1 rfl) ?_
    refine lv_iconst (v := 0) hx hb dX10_limbs_1 (by decide) ?_
    refine lv_iconst (v := 1) hx hb dX10_limbs_2 (by decide) ?_
    obtain ⟨P_3, HC_3, HW⟩ := HW
    refine g_callz (g_runS (As := [.int x1, .int (0 : Int32), .int (1 : Int32)]) (rest := []) ⟨hx, hb, hml, hown, hts⟩ (m_X10_within l D cy ad h g H.size x1 (0 : Int32) (1 : Int32) P_3 HC_3) (va_cwS 3 hts (gd_S (wm2 193 rfl rfl) (wm2 194 rfl rfl) (wm1 1 rfl rfl) (wm2 195 rfl rfl)) rfl rfl rfl (by decide +kernel) ⟨Nat.le_of_ble_eq_true rfl, Nat.le_of_ble_eq_true rfl⟩) hK hNw hG rfl rfl hl.1 rfl (lv_room (Nat.le_of_ble_eq_true rfl)) dX10_limbs_3 ⟨Nat.zero_le _, Nat.zero_le _⟩) hG (fun r_3 h_3 g_3 H locs hz hq hG => ?_)
    replace HW := HW r_3 h_3 g_3 hz hq
    refine lv_if_ne (tgt := 12) hx hb dX10_limbs_6 (by decide) (fun c_6 => ?_) (fun c_6 => ?_)
    · replace HW := HW.1 c_6
      refine lv_aload_n hx hb dX10_limbs_12 rfl (lv_at hl 0 rfl) ?_
      refine g_getr hx hb hw inG10 hown hK hG gl_0 rfl gk_0 (by decide) 9 (by decide) (by rw [gm_0]; decide) (r := 109) gr_0_9 lk70 dX10_limbs_13 ?_
      refine lv_iload_n hx hb dX10_limbs_16 rfl (lv_at hl 1 rfl) ?_
      obtain ⟨P_17, HC_17, HW⟩ := HW
      refine g_callr (g_runV (As := [.int x1]) (rest := []) ⟨hx, hb, hml, hown, hts⟩ (m_X1_side l D cy ad h_3 g_3 H.size x1 P_17 HC_17) (cwV 1 hts (gd_V (wm4 84 rfl rfl) (wm4 85 rfl rfl) (wm4 86 rfl rfl) (wm1 10 rfl rfl) (wm4 87 rfl rfl)) rfl rfl rfl (by decide +kernel) ⟨Nat.le_of_ble_eq_true rfl, Nat.le_of_ble_eq_true rfl⟩) hK hNw hG gl_109 rfl gk_109 (by decide) rfl rfl hl.1 rfl (lv_room (Nat.le_of_ble_eq_true rfl)) dX10_limbs_17 ⟨Nat.zero_le _, Nat.zero_le _⟩) hG (fun r_17 h_17 g_17 H locs hq hG => ?_)
      replace HW := HW r_17 h_17 g_17 hq
      have hz_17 := HW.1
      replace HW := HW.2
      obtain ⟨P_20, HC_20, HW⟩ := HW
      refine g_calli (g_runV (As := []) (rest := []) ⟨hx, hb, hml, hown, hts⟩ (m_X0_rows l D cy ad h_17 g_17 H.size r_17 hz_17 P_20 HC_20) (cwV 0 hts (gd_V (wm4 88 rfl rfl) (wm4 89 rfl rfl) (wm4 90 rfl rfl) (wm1 11 rfl rfl) (wm4 91 rfl rfl)) rfl rfl rfl (by decide +kernel) ⟨Nat.le_of_ble_eq_true rfl, Nat.le_of_ble_eq_true rfl⟩) hK hNw hG hz_17.lt rfl hz_17.k (by decide) rfl rfl hl.1 rfl (lv_room (Nat.le_of_ble_eq_true rfl)) dX10_limbs_20 ⟨Nat.zero_le _, Nat.zero_le _⟩) hG (fun r_20 h_20 g_20 H locs hq hG => ?_)
      replace HW := HW r_20 h_20 g_20 hq
      exact W.iret (v := r_20) hx hb hr (fun t ht hW => ⟨⟨r_20, (h_20, g_20), rfl, HW, g_B ht hG⟩, hG.2.2.F ht⟩) hG.2.2.2.2 dX10_limbs_23
    · replace HW := HW.2 c_6
      refine lv_bipush (v := (-2)) hx hb dX10_limbs_9 (by decide) ?_
      exact W.iret (v := (-2 : Int32)) hx hb hr (fun t ht hW => ⟨⟨(-2 : Int32), (h_3, g_3), rfl, HW, g_B ht hG⟩, hG.2.2.F ht⟩) hG.2.2.2.2 dX10_limbs_11
  exact E0 _ _ _ hG hl

def w_X10_limb (x1 : Int32) (x2 : Int32) (h : HI) (g : HL) (Q : Int32 → HI → HL → Prop) : Prop :=
  (∃ P_3 : Int32 → HI → HL → Prop, w_X10_within x1 (0 : Int32) (1 : Int32) h g P_3 ∧ ∀ (r_3 : Int32) (h_3 : HI) (g_3 : HL), zb r_3 → P_3 r_3 h_3 g_3 → ((r_3 = 0 → Q (-2 : Int32) h_3 g_3) ∧ (¬ r_3 = 0 → ((0 ≤ x2 → (∃ P_21 : Nat → HI → HL → Prop, w_X1_side x1 h_3 g_3 P_21 ∧ ∀ (r_21 : Nat) (h_21 : HI) (g_21 : HL), P_21 r_21 h_21 g_21 → (isB r_21 ∧ (∃ P_25 : Int32 → HI → HL → Prop, w_X0_at r_21 x2 h_21 g_21 P_25 ∧ ∀ (r_25 : Int32) (h_25 : HI) (g_25 : HL), P_25 r_25 h_25 g_25 → Q r_25 h_25 g_25)))) ∧ (¬ 0 ≤ x2 → Q (-2 : Int32) h_3 g_3)))))
set_option maxHeartbeats 8000000 in
set_option maxRecDepth 100000 in
theorem m_X10_limb (l : Launch) (D : va_G) (cy : Nat → ClassId) (ad : Nat → Nat) (h : HI) (g : HL) (sz : Nat) (x1 : Int32) (x2 : Int32) (Q : Int32 → HI → HL → Prop) (HW : w_X10_limb x1 x2 h g Q) : Met l yX10_limb (wa yX10_limb cX10_limb 3 (some .int)) ({ frames := 2, cells := 0, slots := 0, locals := 43 }) (va_Pc [.ref (ad 0), .int x1, .int x2] (gI D cy ad h g sz)) (va_Qi (fun (r : Int32) (u : HI × HL) => Q r u.1 u.2) (gB D cy ad sz) (gA ad sz)) 0 0 (gA ad sz) := by
  refine Met.ofW (cc := cX10_limb) (maxL := 3) (ret := (some .int)) (by decide) rfl ?_
  intro p e s m args below meth c s₁ B hml hv
  obtain ⟨hav, hsz, hP, hK, hD0, hNw⟩ := hv
  have hx := B.exec
  have hb := B.bytes
  have hr := B.returns
  have hts := atoms_spec (ws := (wa yX10_limb cX10_limb 3 (some .int))) B.pre
  have hw := wa_hw hts
  have hown : s.vm.findClass RX10 = some m.cls := findClass_of_methodNamed B.named
  have hlocks := B.notSynchronized
  subst hsz
  have hG : gG D cy ad (gA ad s.heap.size) s.heap h g s.heap [] := ⟨hP, gA_self hD0, va_S.rf⟩
  clear hP hD0
  have lk70 := hw (.fieldLink RX10 70 "OldWorks" "breaks" "LOldWorks$Breaks;") (wm2 164 rfl rfl)
  rw [show (headSpec (wa yX10_limb cX10_limb 3 (some .int)) ({ frames := 2, cells := 0, slots := 0, locals := 43 } : Room)).room = ({ frames := 2, cells := 0, slots := 0, locals := 43 } : Room) from rfl]
  have hl := lv_entry ([.ref (ad 0), .int x1, .int x2]) (n := 3) (Nat.le_of_ble_eq_true rfl)
  rw [show entryFrame m args 3 = entryFrame m ([.ref (ad 0), .int x1, .int x2] : List Value).toArray 3 from by rw [hav], lg_entry_eq]
  generalize (lg_sl ([.ref (ad 0), .int x1, .int x2]) ++ List.replicate (3 - (lg_sl ([.ref (ad 0), .int x1, .int x2])).length) Slot.unset).toArray = ls at hl ⊢
  have hl : lv_has ls 3 [(0, .ref (ad 0)), (1, .int x1), (2, .int x2)] := hl
  have E0 : ∀ (H : Heap) (locs : List Loc) (ls : Array Slot), gG D cy ad (gA ad s.heap.size) s.heap h g H locs → lv_has ls 3 [(0, .ref (ad 0)), (1, .int x1), (2, .int x2)] → W p l e ({ frames := 2, cells := 0, slots := 0, locals := 43 } : Room) s m args below meth c H locs 0 0 (MQ below (va_Qi (fun (r : Int32) (u : HI × HL) => Q r u.1 u.2) (gB D cy ad s.heap.size) (gA ad s.heap.size)) args s 0 0 (gA ad s.heap.size)) (F0 m 0 ls []) := by
    intro H locs ls hG hl
    unfold w_X10_limb at HW
    refine lv_iload_n hx hb dX10_limb_0 rfl (lv_at hl 1 rfl) ?_
    refine lv_iconst (v := 0) hx hb dX10_limb_1 (by decide) ?_
    refine lv_iconst (v := 1) hx hb dX10_limb_2 (by decide) ?_
    obtain ⟨P_3, HC_3, HW⟩ := HW
    refine g_callz (g_runS (As := [.int x1, .int (0 : Int32), .int (1 : Int32)]) (rest := []) ⟨hx, hb, hml, hown, hts⟩ (m_X10_within l D cy ad h g H.size x1 (0 : Int32) (1 : Int32) P_3 HC_3) (va_cwS 3 hts (gd_S (wm2 193 rfl rfl) (wm2 194 rfl rfl) (wm1 1 rfl rfl) (wm2 195 rfl rfl)) rfl rfl rfl (by decide +kernel) ⟨Nat.le_of_ble_eq_true rfl, Nat.le_of_ble_eq_true rfl⟩) hK hNw hG rfl rfl hl.1 rfl (lv_room (Nat.le_of_ble_eq_true rfl)) dX10_limb_3 ⟨Nat.zero_le _, Nat.zero_le _⟩) hG (fun r_3 h_3 g_3 H locs hz hq hG => ?_)
    replace HW := HW r_3 h_3 g_3 hz hq
    refine lv_if_eq (tgt := 13) hx hb dX10_limb_6 (by decide) (fun c_6 => ?_) (fun c_6 => ?_)
    · replace HW := HW.1 c_6
      refine lv_bipush (v := (-2)) hx hb dX10_limb_13 (by decide) ?_
      exact W.iret (v := (-2 : Int32)) hx hb hr (fun t ht hW => ⟨⟨(-2 : Int32), (h_3, g_3), rfl, HW, g_B ht hG⟩, hG.2.2.F ht⟩) hG.2.2.2.2 dX10_limb_15
    · replace HW := HW.2 c_6
      refine lv_iload_n hx hb dX10_limb_9 rfl (lv_at hl 2 rfl) ?_
      refine lv_if_ge (tgt := 16) hx hb dX10_limb_10 (by decide) (fun c_10 => ?_) (fun c_10 => ?_)
      · replace HW := HW.1 c_10
        refine lv_aload_n hx hb dX10_limb_16 rfl (lv_at hl 0 rfl) ?_
        refine g_getr hx hb hw inG10 hown hK hG gl_0 rfl gk_0 (by decide) 9 (by decide) (by rw [gm_0]; decide) (r := 109) gr_0_9 lk70 dX10_limb_17 ?_
        refine lv_iload_n hx hb dX10_limb_20 rfl (lv_at hl 1 rfl) ?_
        obtain ⟨P_21, HC_21, HW⟩ := HW
        refine g_callr (g_runV (As := [.int x1]) (rest := []) ⟨hx, hb, hml, hown, hts⟩ (m_X1_side l D cy ad h_3 g_3 H.size x1 P_21 HC_21) (cwV 1 hts (gd_V (wm4 84 rfl rfl) (wm4 85 rfl rfl) (wm4 86 rfl rfl) (wm1 10 rfl rfl) (wm4 87 rfl rfl)) rfl rfl rfl (by decide +kernel) ⟨Nat.le_of_ble_eq_true rfl, Nat.le_of_ble_eq_true rfl⟩) hK hNw hG gl_109 rfl gk_109 (by decide) rfl rfl hl.1 rfl (lv_room (Nat.le_of_ble_eq_true rfl)) dX10_limb_21 ⟨Nat.zero_le _, Nat.zero_le _⟩) hG (fun r_21 h_21 g_21 H locs hq hG => ?_)
        replace HW := HW r_21 h_21 g_21 hq
        have hz_21 := HW.1
        replace HW := HW.2
        refine lv_iload_n hx hb dX10_limb_24 rfl (lv_at hl 2 rfl) ?_
        obtain ⟨P_25, HC_25, HW⟩ := HW
        refine g_calli (g_runV (As := [.int x2]) (rest := []) ⟨hx, hb, hml, hown, hts⟩ (m_X0_at l D cy ad h_21 g_21 H.size r_21 hz_21 x2 P_25 HC_25) (cwV 1 hts (gd_V (wm4 96 rfl rfl) (wm4 97 rfl rfl) (wm4 98 rfl rfl) (wm1 11 rfl rfl) (wm4 99 rfl rfl)) rfl rfl rfl (by decide +kernel) ⟨Nat.le_of_ble_eq_true rfl, Nat.le_of_ble_eq_true rfl⟩) hK hNw hG hz_21.lt rfl hz_21.k (by decide) rfl rfl hl.1 rfl (lv_room (Nat.le_of_ble_eq_true rfl)) dX10_limb_25 ⟨Nat.zero_le _, Nat.zero_le _⟩) hG (fun r_25 h_25 g_25 H locs hq hG => ?_)
        replace HW := HW r_25 h_25 g_25 hq
        exact W.iret (v := r_25) hx hb hr (fun t ht hW => ⟨⟨r_25, (h_25, g_25), rfl, HW, g_B ht hG⟩, hG.2.2.F ht⟩) hG.2.2.2.2 dX10_limb_28
      · replace HW := HW.2 c_10
        refine lv_bipush (v := (-2)) hx hb dX10_limb_13 (by decide) ?_
        exact W.iret (v := (-2 : Int32)) hx hb hr (fun t ht hW => ⟨⟨(-2 : Int32), (h_3, g_3), rfl, HW, g_B ht hG⟩, hG.2.2.F ht⟩) hG.2.2.2.2 dX10_limb_15
  exact E0 _ _ _ hG hl

def j_X10_told_30 (Q : Int32 → HI → HL → Prop) (s1 : Int32) (s2 : Int32) (h : HI) (g : HL) : Prop :=
  (∃ P_32 : Int32 → HI → HL → Prop, w_X8_add 18 s1 s2 (0 : Int32) (0 : Int32) h g P_32 ∧ ∀ (r_32 : Int32) (h_32 : HI) (g_32 : HL), P_32 r_32 h_32 g_32 → ((¬ r_32 = (-4 : Int32) → (∃ P_50 : Int32 → HI → HL → Prop, w_X8_rows 18 h_32 g_32 P_50 ∧ ∀ (r_50 : Int32) (h_50 : HI) (g_50 : HL), P_50 r_50 h_50 g_50 → Q r_50 h_50 g_50)) ∧ (r_32 = (-4 : Int32) → Q (-4 : Int32) h_32 g_32)))
def w_X10_told (x1 : Int32) (x2 : Int32) (h : HI) (g : HL) (Q : Int32 → HI → HL → Prop) : Prop :=
  (∃ P_4 : Int32 → HI → HL → Prop, w_X10_within x1 (0 : Int32) (100 : Int32) h g P_4 ∧ ∀ (r_4 : Int32) (h_4 : HI) (g_4 : HL), zb r_4 → P_4 r_4 h_4 g_4 → ((¬ r_4 = 0 → ((x2 = 0 → j_X10_told_30 Q x1 (0 : Int32) h_4 g_4) ∧ (¬ x2 = 0 → j_X10_told_30 Q x1 (1 : Int32) h_4 g_4))) ∧ (r_4 = 0 → Q (-2 : Int32) h_4 g_4)))
set_option maxHeartbeats 8000000 in
set_option maxRecDepth 100000 in
theorem m_X10_told (l : Launch) (D : va_G) (cy : Nat → ClassId) (ad : Nat → Nat) (h : HI) (g : HL) (sz : Nat) (x1 : Int32) (x2 : Int32) (Q : Int32 → HI → HL → Prop) (HW : w_X10_told x1 x2 h g Q) : Met l yX10_told (wa yX10_told cX10_told 3 (some .int)) ({ frames := 2, cells := 0, slots := 0, locals := 50 }) (va_Pc [.ref (ad 0), .int x1, .int x2] (gI D cy ad h g sz)) (va_Qi (fun (r : Int32) (u : HI × HL) => Q r u.1 u.2) (gB D cy ad sz) (gA ad sz)) 0 0 (gA ad sz) := by
  refine Met.ofW (cc := cX10_told) (maxL := 3) (ret := (some .int)) (by decide) rfl ?_
  intro p e s m args below meth c s₁ B hml hv
  obtain ⟨hav, hsz, hP, hK, hD0, hNw⟩ := hv
  have hx := B.exec
  have hb := B.bytes
  have hr := B.returns
  have hts := atoms_spec (ws := (wa yX10_told cX10_told 3 (some .int))) B.pre
  have hw := wa_hw hts
  have hown : s.vm.findClass RX10 = some m.cls := findClass_of_methodNamed B.named
  have hlocks := B.notSynchronized
  subst hsz
  have hG : gG D cy ad (gA ad s.heap.size) s.heap h g s.heap [] := ⟨hP, gA_self hD0, va_S.rf⟩
  clear hP hD0
  have lk10 := hw (.fieldLink RX10 10 "OldWorks" "shop" "LOldWorks$Shop;") (wm2 155 rfl rfl)
  have lk229 := hw (.fieldLink RX10 229 "OldWorks$Shop" "loads" "LOldWorks$Table;") (wm1 88 rfl rfl)
  rw [show (headSpec (wa yX10_told cX10_told 3 (some .int)) ({ frames := 2, cells := 0, slots := 0, locals := 50 } : Room)).room = ({ frames := 2, cells := 0, slots := 0, locals := 50 } : Room) from rfl]
  have hl := lv_entry ([.ref (ad 0), .int x1, .int x2]) (n := 3) (Nat.le_of_ble_eq_true rfl)
  rw [show entryFrame m args 3 = entryFrame m ([.ref (ad 0), .int x1, .int x2] : List Value).toArray 3 from by rw [hav], lg_entry_eq]
  generalize (lg_sl ([.ref (ad 0), .int x1, .int x2]) ++ List.replicate (3 - (lg_sl ([.ref (ad 0), .int x1, .int x2])).length) Slot.unset).toArray = ls at hl ⊢
  have hl : lv_has ls 3 [(0, .ref (ad 0)), (1, .int x1), (2, .int x2)] := hl
  have B30 : ∀ (s1 : Int32) (s2 : Int32) (h : HI) (g : HL) (H : Heap) (locs : List Loc) (ls : Array Slot), j_X10_told_30 Q s1 s2 h g → gG D cy ad (gA ad s.heap.size) s.heap h g H locs → lv_has ls 3 [(0, .ref (ad 0))] → W p l e ({ frames := 2, cells := 0, slots := 0, locals := 50 } : Room) s m args below meth c H locs 0 0 (MQ below (va_Qi (fun (r : Int32) (u : HI × HL) => Q r u.1 u.2) (gB D cy ad s.heap.size) (gA ad s.heap.size)) args s 0 0 (gA ad s.heap.size)) (F0 m 30 ls [.int s2, .int s1, .ref (ad 18)]) := by
    intro s1 s2 h g H locs ls HW hG hl
    unfold j_X10_told_30 at HW
    refine lv_iconst (v := 0) hx hb dX10_told_30 (by decide) ?_
    refine lv_iconst (v := 0) hx hb dX10_told_31 (by decide) ?_
    obtain ⟨P_32, HC_32, HW⟩ := HW
    refine g_calli (g_runV (As := [.int s1, .int s2, .int (0 : Int32), .int (0 : Int32)]) (rest := []) ⟨hx, hb, hml, hown, hts⟩ (m_X8_add l D cy ad h g H.size 18 (gs_18) s1 s2 (0 : Int32) (0 : Int32) P_32 HC_32) (cwV 4 hts (gd_V (wm2 196 rfl rfl) (wm1 53 rfl rfl) (wm1 54 rfl rfl) (wm1 3 rfl rfl) (wm1 55 rfl rfl)) rfl rfl rfl (by decide +kernel) ⟨Nat.le_of_ble_eq_true rfl, Nat.le_of_ble_eq_true rfl⟩) hK hNw hG gl_18 rfl gk_18 (by decide) rfl rfl hl.1 rfl (lv_room (Nat.le_of_ble_eq_true rfl)) dX10_told_32 ⟨Nat.zero_le _, Nat.zero_le _⟩) hG (fun r_32 h_32 g_32 H locs hq hG => ?_)
    replace HW := HW r_32 h_32 g_32 hq
    refine lv_bipush (v := (-4)) hx hb dX10_told_35 (by decide) ?_
    refine lv_icmp_ne (tgt := 43) hx hb dX10_told_37 (by decide) (fun c_37 => ?_) (fun c_37 => ?_)
    · replace HW := HW.1 c_37
      refine lv_aload_n hx hb dX10_told_43 rfl (lv_at hl 0 rfl) ?_
      refine g_getr hx hb hw inG10 hown hK hG gl_0 rfl gk_0 (by decide) 0 (by decide) (by rw [gm_0]; decide) (r := 1) gr_0_0 lk10 dX10_told_44 ?_
      refine g_getr hx hb hw inG6 hown hK hG gl_1 rfl gk_1 (by decide) 8 (by decide) (by rw [gm_1]; decide) (r := 18) gr_1_8 lk229 dX10_told_47 ?_
      obtain ⟨P_50, HC_50, HW⟩ := HW
      refine g_calli (g_runV (As := []) (rest := []) ⟨hx, hb, hml, hown, hts⟩ (m_X8_rows l D cy ad h_32 g_32 H.size 18 (gs_18) P_50 HC_50) (cwV 0 hts (gd_V (wm3 19 rfl rfl) (wm2 217 rfl rfl) (wm2 218 rfl rfl) (wm1 3 rfl rfl) (wm2 219 rfl rfl)) rfl rfl rfl (by decide +kernel) ⟨Nat.le_of_ble_eq_true rfl, Nat.le_of_ble_eq_true rfl⟩) hK hNw hG gl_18 rfl gk_18 (by decide) rfl rfl hl.1 rfl (lv_room (Nat.le_of_ble_eq_true rfl)) dX10_told_50 ⟨Nat.zero_le _, Nat.zero_le _⟩) hG (fun r_50 h_50 g_50 H locs hq hG => ?_)
      replace HW := HW r_50 h_50 g_50 hq
      exact W.iret (v := r_50) hx hb hr (fun t ht hW => ⟨⟨r_50, (h_50, g_50), rfl, HW, g_B ht hG⟩, hG.2.2.F ht⟩) hG.2.2.2.2 dX10_told_53
    · replace HW := HW.2 c_37
      refine lv_bipush (v := (-4)) hx hb dX10_told_40 (by decide) ?_
      exact W.iret (v := (-4 : Int32)) hx hb hr (fun t ht hW => ⟨⟨(-4 : Int32), (h_32, g_32), rfl, HW, g_B ht hG⟩, hG.2.2.F ht⟩) hG.2.2.2.2 dX10_told_42
  have E0 : ∀ (H : Heap) (locs : List Loc) (ls : Array Slot), gG D cy ad (gA ad s.heap.size) s.heap h g H locs → lv_has ls 3 [(0, .ref (ad 0)), (1, .int x1), (2, .int x2)] → W p l e ({ frames := 2, cells := 0, slots := 0, locals := 50 } : Room) s m args below meth c H locs 0 0 (MQ below (va_Qi (fun (r : Int32) (u : HI × HL) => Q r u.1 u.2) (gB D cy ad s.heap.size) (gA ad s.heap.size)) args s 0 0 (gA ad s.heap.size)) (F0 m 0 ls []) := by
    intro H locs ls hG hl
    unfold w_X10_told at HW
    refine lv_iload_n hx hb dX10_told_0 rfl (lv_at hl 1 rfl) ?_
    refine lv_iconst (v := 0) hx hb dX10_told_1 (by decide) ?_
    refine lv_bipush (v := 100) hx hb dX10_told_2 (by decide) ?_
    obtain ⟨P_4, HC_4, HW⟩ := HW
    refine g_callz (g_runS (As := [.int x1, .int (0 : Int32), .int (100 : Int32)]) (rest := []) ⟨hx, hb, hml, hown, hts⟩ (m_X10_within l D cy ad h g H.size x1 (0 : Int32) (100 : Int32) P_4 HC_4) (va_cwS 3 hts (gd_S (wm2 193 rfl rfl) (wm2 194 rfl rfl) (wm1 1 rfl rfl) (wm2 195 rfl rfl)) rfl rfl rfl (by decide +kernel) ⟨Nat.le_of_ble_eq_true rfl, Nat.le_of_ble_eq_true rfl⟩) hK hNw hG rfl rfl hl.1 rfl (lv_room (Nat.le_of_ble_eq_true rfl)) dX10_told_4 ⟨Nat.zero_le _, Nat.zero_le _⟩) hG (fun r_4 h_4 g_4 H locs hz hq hG => ?_)
    replace HW := HW r_4 h_4 g_4 hz hq
    refine lv_if_ne (tgt := 13) hx hb dX10_told_7 (by decide) (fun c_7 => ?_) (fun c_7 => ?_)
    · replace HW := HW.1 c_7
      refine lv_aload_n hx hb dX10_told_13 rfl (lv_at hl 0 rfl) ?_
      refine g_getr hx hb hw inG10 hown hK hG gl_0 rfl gk_0 (by decide) 0 (by decide) (by rw [gm_0]; decide) (r := 1) gr_0_0 lk10 dX10_told_14 ?_
      refine g_getr hx hb hw inG6 hown hK hG gl_1 rfl gk_1 (by decide) 8 (by decide) (by rw [gm_1]; decide) (r := 18) gr_1_8 lk229 dX10_told_17 ?_
      refine lv_iload_n hx hb dX10_told_20 rfl (lv_at hl 1 rfl) ?_
      refine lv_iload_n hx hb dX10_told_21 rfl (lv_at hl 2 rfl) ?_
      refine lv_if_eq (tgt := 29) hx hb dX10_told_22 (by decide) (fun c_22 => ?_) (fun c_22 => ?_)
      · replace HW := HW.1 c_22
        refine lv_iconst (v := 0) hx hb dX10_told_29 (by decide) ?_
        exact B30 x1 (0 : Int32) h_4 g_4 _ _ _ HW hG (lv_sub hl [0] rfl)
      · replace HW := HW.2 c_22
        refine lv_iconst (v := 1) hx hb dX10_told_25 (by decide) ?_
        refine lv_goto (tgt := 30) hx hb dX10_told_26 (by decide) ?_
        exact B30 x1 (1 : Int32) h_4 g_4 _ _ _ HW hG (lv_sub hl [0] rfl)
    · replace HW := HW.2 c_7
      refine lv_bipush (v := (-2)) hx hb dX10_told_10 (by decide) ?_
      exact W.iret (v := (-2 : Int32)) hx hb hr (fun t ht hW => ⟨⟨(-2 : Int32), (h_4, g_4), rfl, HW, g_B ht hG⟩, hG.2.2.F ht⟩) hG.2.2.2.2 dX10_told_12
  exact E0 _ _ _ hG hl

def w_X10_fitted  (h : HI) (g : HL) (Q : Int32 → HI → HL → Prop) : Prop :=
  (∃ P_4 : Int32 → HI → HL → Prop, w_X1_fit h g P_4 ∧ ∀ (r_4 : Int32) (h_4 : HI) (g_4 : HL), P_4 r_4 h_4 g_4 → Q r_4 h_4 g_4)
set_option maxHeartbeats 8000000 in
set_option maxRecDepth 100000 in
theorem m_X10_fitted (l : Launch) (D : va_G) (cy : Nat → ClassId) (ad : Nat → Nat) (h : HI) (g : HL) (sz : Nat)  (Q : Int32 → HI → HL → Prop) (HW : w_X10_fitted h g Q) : Met l yX10_fitted (wa yX10_fitted cX10_fitted 1 (some .int)) ({ frames := 4, cells := 0, slots := 0, locals := 103 }) (va_Pc [.ref (ad 0)] (gI D cy ad h g sz)) (va_Qi (fun (r : Int32) (u : HI × HL) => Q r u.1 u.2) (gB D cy ad sz) (gA ad sz)) 0 0 (gA ad sz) := by
  refine Met.ofW (cc := cX10_fitted) (maxL := 1) (ret := (some .int)) (by decide) rfl ?_
  intro p e s m args below meth c s₁ B hml hv
  obtain ⟨hav, hsz, hP, hK, hD0, hNw⟩ := hv
  have hx := B.exec
  have hb := B.bytes
  have hr := B.returns
  have hts := atoms_spec (ws := (wa yX10_fitted cX10_fitted 1 (some .int))) B.pre
  have hw := wa_hw hts
  have hown : s.vm.findClass RX10 = some m.cls := findClass_of_methodNamed B.named
  have hlocks := B.notSynchronized
  subst hsz
  have hG : gG D cy ad (gA ad s.heap.size) s.heap h g s.heap [] := ⟨hP, gA_self hD0, va_S.rf⟩
  clear hP hD0
  have lk70 := hw (.fieldLink RX10 70 "OldWorks" "breaks" "LOldWorks$Breaks;") (wm2 164 rfl rfl)
  rw [show (headSpec (wa yX10_fitted cX10_fitted 1 (some .int)) ({ frames := 4, cells := 0, slots := 0, locals := 103 } : Room)).room = ({ frames := 4, cells := 0, slots := 0, locals := 103 } : Room) from rfl]
  have hl := lv_entry ([.ref (ad 0)]) (n := 1) (Nat.le_of_ble_eq_true rfl)
  rw [show entryFrame m args 1 = entryFrame m ([.ref (ad 0)] : List Value).toArray 1 from by rw [hav], lg_entry_eq]
  generalize (lg_sl ([.ref (ad 0)]) ++ List.replicate (1 - (lg_sl ([.ref (ad 0)])).length) Slot.unset).toArray = ls at hl ⊢
  have hl : lv_has ls 1 [(0, .ref (ad 0))] := hl
  have E0 : ∀ (H : Heap) (locs : List Loc) (ls : Array Slot), gG D cy ad (gA ad s.heap.size) s.heap h g H locs → lv_has ls 1 [(0, .ref (ad 0))] → W p l e ({ frames := 4, cells := 0, slots := 0, locals := 103 } : Room) s m args below meth c H locs 0 0 (MQ below (va_Qi (fun (r : Int32) (u : HI × HL) => Q r u.1 u.2) (gB D cy ad s.heap.size) (gA ad s.heap.size)) args s 0 0 (gA ad s.heap.size)) (F0 m 0 ls []) := by
    intro H locs ls hG hl
    unfold w_X10_fitted at HW
    refine lv_aload_n hx hb dX10_fitted_0 rfl (lv_at hl 0 rfl) ?_
    refine g_getr hx hb hw inG10 hown hK hG gl_0 rfl gk_0 (by decide) 9 (by decide) (by rw [gm_0]; decide) (r := 109) gr_0_9 lk70 dX10_fitted_1 ?_
    obtain ⟨P_4, HC_4, HW⟩ := HW
    refine g_calli (g_runV (As := []) (rest := []) ⟨hx, hb, hml, hown, hts⟩ (m_X1_fit l D cy ad h g H.size  P_4 HC_4) (cwV 0 hts (gd_V (wm4 108 rfl rfl) (wm4 109 rfl rfl) (wm4 110 rfl rfl) (wm1 10 rfl rfl) (wm4 111 rfl rfl)) rfl rfl rfl (by decide +kernel) ⟨Nat.le_of_ble_eq_true rfl, Nat.le_of_ble_eq_true rfl⟩) hK hNw hG gl_109 rfl gk_109 (by decide) rfl rfl hl.1 rfl (lv_room (Nat.le_of_ble_eq_true rfl)) dX10_fitted_4 ⟨Nat.zero_le _, Nat.zero_le _⟩) hG (fun r_4 h_4 g_4 H locs hq hG => ?_)
    replace HW := HW r_4 h_4 g_4 hq
    exact W.iret (v := r_4) hx hb hr (fun t ht hW => ⟨⟨r_4, (h_4, g_4), rfl, HW, g_B ht hG⟩, hG.2.2.F ht⟩) hG.2.2.2.2 dX10_fitted_7
  exact E0 _ _ _ hG hl

def j_X10_bear_65 (Q : Int32 → HI → HL → Prop) (x1 : Int32) (x2 : Int32) (x3 : Int32) (x4 : Int32) (s0 : Int32) (h : HI) (g : HL) : Prop :=
  ((¬ s0 = x3 → (∃ P_87 : HI → HL → Prop, w_X8_put 2 x2 (4 : Int32) (x4 ^^^ ((1 : Int32) <<< (x1 &&& 31))) h g P_87 ∧ ∀ (h_87 : HI) (g_87 : HL), P_87 h_87 g_87 → Q (1 : Int32) h_87 g_87)) ∧ (s0 = x3 → Q (-3 : Int32) h g))
def w_X10_bear (x1 : Int32) (x2 : Int32) (x3 : Int32) (h : HI) (g : HL) (Q : Int32 → HI → HL → Prop) : Prop :=
  (∃ P_8 : Int32 → HI → HL → Prop, w_X8_has 2 x1 h g P_8 ∧ ∀ (r_8 : Int32) (h_8 : HI) (g_8 : HL), zb r_8 → P_8 r_8 h_8 g_8 → ((r_8 = 0 → Q (-2 : Int32) h_8 g_8) ∧ (¬ r_8 = 0 → (∃ P_22 : Int32 → HI → HL → Prop, w_X8_has 2 x2 h_8 g_8 P_22 ∧ ∀ (r_22 : Int32) (h_22 : HI) (g_22 : HL), zb r_22 → P_22 r_22 h_22 g_22 → ((r_22 = 0 → Q (-2 : Int32) h_22 g_22) ∧ (¬ r_22 = 0 → ((¬ x1 = x2 → (∃ P_45 : Int32 → HI → HL → Prop, w_X8_at 2 x2 (4 : Int32) h_22 g_22 P_45 ∧ ∀ (r_45 : Int32) (h_45 : HI) (g_45 : HL), P_45 r_45 h_45 g_45 → ((¬ ((r_45 >>> (x1 &&& 31)) &&& (1 : Int32)) = (1 : Int32) → j_X10_bear_65 Q x1 x2 x3 r_45 (0 : Int32) h_45 g_45) ∧ (((r_45 >>> (x1 &&& 31)) &&& (1 : Int32)) = (1 : Int32) → j_X10_bear_65 Q x1 x2 x3 r_45 (1 : Int32) h_45 g_45)))) ∧ (x1 = x2 → Q (-2 : Int32) h_22 g_22))))))))
set_option maxHeartbeats 8000000 in
set_option maxRecDepth 100000 in
theorem m_X10_bear (l : Launch) (D : va_G) (cy : Nat → ClassId) (ad : Nat → Nat) (h : HI) (g : HL) (sz : Nat) (x1 : Int32) (x2 : Int32) (x3 : Int32) (Q : Int32 → HI → HL → Prop) (HW : w_X10_bear x1 x2 x3 h g Q) : Met l yX10_bear (wa yX10_bear cX10_bear 5 (some .int)) ({ frames := 1, cells := 0, slots := 0, locals := 24 }) (va_Pc [.ref (ad 0), .int x1, .int x2, .int x3] (gI D cy ad h g sz)) (va_Qi (fun (r : Int32) (u : HI × HL) => Q r u.1 u.2) (gB D cy ad sz) (gA ad sz)) 0 0 (gA ad sz) := by
  refine Met.ofW (cc := cX10_bear) (maxL := 5) (ret := (some .int)) (by decide) rfl ?_
  intro p e s m args below meth c s₁ B hml hv
  obtain ⟨hav, hsz, hP, hK, hD0, hNw⟩ := hv
  have hx := B.exec
  have hb := B.bytes
  have hr := B.returns
  have hts := atoms_spec (ws := (wa yX10_bear cX10_bear 5 (some .int))) B.pre
  have hw := wa_hw hts
  have hown : s.vm.findClass RX10 = some m.cls := findClass_of_methodNamed B.named
  have hlocks := B.notSynchronized
  subst hsz
  have hG : gG D cy ad (gA ad s.heap.size) s.heap h g s.heap [] := ⟨hP, gA_self hD0, va_S.rf⟩
  clear hP hD0
  have lk10 := hw (.fieldLink RX10 10 "OldWorks" "shop" "LOldWorks$Shop;") (wm2 155 rfl rfl)
  have lk85 := hw (.fieldLink RX10 85 "OldWorks$Shop" "parts" "LOldWorks$Table;") (wm1 62 rfl rfl)
  rw [show (headSpec (wa yX10_bear cX10_bear 5 (some .int)) ({ frames := 1, cells := 0, slots := 0, locals := 24 } : Room)).room = ({ frames := 1, cells := 0, slots := 0, locals := 24 } : Room) from rfl]
  have hl := lv_entry ([.ref (ad 0), .int x1, .int x2, .int x3]) (n := 5) (Nat.le_of_ble_eq_true rfl)
  rw [show entryFrame m args 5 = entryFrame m ([.ref (ad 0), .int x1, .int x2, .int x3] : List Value).toArray 5 from by rw [hav], lg_entry_eq]
  generalize (lg_sl ([.ref (ad 0), .int x1, .int x2, .int x3]) ++ List.replicate (5 - (lg_sl ([.ref (ad 0), .int x1, .int x2, .int x3])).length) Slot.unset).toArray = ls at hl ⊢
  have hl : lv_has ls 5 [(0, .ref (ad 0)), (1, .int x1), (2, .int x2), (3, .int x3)] := hl
  have B65 : ∀ (x1 : Int32) (x2 : Int32) (x3 : Int32) (x4 : Int32) (s0 : Int32) (h : HI) (g : HL) (H : Heap) (locs : List Loc) (ls : Array Slot), j_X10_bear_65 Q x1 x2 x3 x4 s0 h g → gG D cy ad (gA ad s.heap.size) s.heap h g H locs → lv_has ls 5 [(0, .ref (ad 0)), (1, .int x1), (2, .int x2), (3, .int x3), (4, .int x4)] → W p l e ({ frames := 1, cells := 0, slots := 0, locals := 24 } : Room) s m args below meth c H locs 0 0 (MQ below (va_Qi (fun (r : Int32) (u : HI × HL) => Q r u.1 u.2) (gB D cy ad s.heap.size) (gA ad s.heap.size)) args s 0 0 (gA ad s.heap.size)) (F0 m 65 ls [.int s0]) := by
    intro x1 x2 x3 x4 s0 h g H locs ls HW hG hl
    unfold j_X10_bear_65 at HW
    refine lv_iload_n hx hb dX10_bear_65 rfl (lv_at hl 3 rfl) ?_
    refine lv_icmp_ne (tgt := 72) hx hb dX10_bear_66 (by decide) (fun c_66 => ?_) (fun c_66 => ?_)
    · replace HW := HW.1 c_66
      refine lv_aload_n hx hb dX10_bear_72 rfl (lv_at hl 0 rfl) ?_
      refine g_getr hx hb hw inG10 hown hK hG gl_0 rfl gk_0 (by decide) 0 (by decide) (by rw [gm_0]; decide) (r := 1) gr_0_0 lk10 dX10_bear_73 ?_
      refine g_getr hx hb hw inG6 hown hK hG gl_1 rfl gk_1 (by decide) 0 (by decide) (by rw [gm_1]; decide) (r := 2) gr_1_0 lk85 dX10_bear_76 ?_
      refine lv_iload_n hx hb dX10_bear_79 rfl (lv_at hl 2 rfl) ?_
      refine lv_iconst (v := 4) hx hb dX10_bear_80 (by decide) ?_
      refine lv_iload hx hb dX10_bear_81 (lv_at hl 4 rfl) ?_
      refine lv_iconst (v := 1) hx hb dX10_bear_83 (by decide) ?_
      refine lv_iload_n hx hb dX10_bear_84 rfl (lv_at hl 1 rfl) ?_
      refine lv_ishl hx hb dX10_bear_85 ?_
      refine lv_ixor hx hb dX10_bear_86 ?_
      obtain ⟨P_87, HC_87, HW⟩ := HW
      refine g_callv (g_runV (As := [.int x2, .int (4 : Int32), .int (x4 ^^^ ((1 : Int32) <<< (x1 &&& 31)))]) (rest := []) ⟨hx, hb, hml, hown, hts⟩ (m_X8_put l D cy ad h g H.size 2 (gs_2) x2 (4 : Int32) (x4 ^^^ ((1 : Int32) <<< (x1 &&& 31))) P_87 HC_87) (cwV 3 hts (gd_V (wm2 207 rfl rfl) (wm1 57 rfl rfl) (wm1 58 rfl rfl) (wm1 3 rfl rfl) (wm1 59 rfl rfl)) rfl rfl rfl (by decide +kernel) ⟨Nat.le_of_ble_eq_true rfl, Nat.le_of_ble_eq_true rfl⟩) hK hNw hG gl_2 rfl gk_2 (by decide) rfl rfl hl.1 rfl (lv_room (Nat.le_of_ble_eq_true rfl)) dX10_bear_87 ⟨Nat.zero_le _, Nat.zero_le _⟩) hG (fun h_87 g_87 H locs hq hG => ?_)
      replace HW := HW h_87 g_87 hq
      refine lv_iconst (v := 1) hx hb dX10_bear_90 (by decide) ?_
      exact W.iret (v := (1 : Int32)) hx hb hr (fun t ht hW => ⟨⟨(1 : Int32), (h_87, g_87), rfl, HW, g_B ht hG⟩, hG.2.2.F ht⟩) hG.2.2.2.2 dX10_bear_91
    · replace HW := HW.2 c_66
      refine lv_bipush (v := (-3)) hx hb dX10_bear_69 (by decide) ?_
      exact W.iret (v := (-3 : Int32)) hx hb hr (fun t ht hW => ⟨⟨(-3 : Int32), (h, g), rfl, HW, g_B ht hG⟩, hG.2.2.F ht⟩) hG.2.2.2.2 dX10_bear_71
  have E0 : ∀ (H : Heap) (locs : List Loc) (ls : Array Slot), gG D cy ad (gA ad s.heap.size) s.heap h g H locs → lv_has ls 5 [(0, .ref (ad 0)), (1, .int x1), (2, .int x2), (3, .int x3)] → W p l e ({ frames := 1, cells := 0, slots := 0, locals := 24 } : Room) s m args below meth c H locs 0 0 (MQ below (va_Qi (fun (r : Int32) (u : HI × HL) => Q r u.1 u.2) (gB D cy ad s.heap.size) (gA ad s.heap.size)) args s 0 0 (gA ad s.heap.size)) (F0 m 0 ls []) := by
    intro H locs ls hG hl
    unfold w_X10_bear at HW
    refine lv_aload_n hx hb dX10_bear_0 rfl (lv_at hl 0 rfl) ?_
    refine g_getr hx hb hw inG10 hown hK hG gl_0 rfl gk_0 (by decide) 0 (by decide) (by rw [gm_0]; decide) (r := 1) gr_0_0 lk10 dX10_bear_1 ?_
    refine g_getr hx hb hw inG6 hown hK hG gl_1 rfl gk_1 (by decide) 0 (by decide) (by rw [gm_1]; decide) (r := 2) gr_1_0 lk85 dX10_bear_4 ?_
    refine lv_iload_n hx hb dX10_bear_7 rfl (lv_at hl 1 rfl) ?_
    obtain ⟨P_8, HC_8, HW⟩ := HW
    refine g_callz (g_runV (As := [.int x1]) (rest := []) ⟨hx, hb, hml, hown, hts⟩ (m_X8_has l D cy ad h g H.size 2 (gs_2) x1 P_8 HC_8) (cwV 1 hts (gd_V (wm2 201 rfl rfl) (wm2 202 rfl rfl) (wm2 203 rfl rfl) (wm1 3 rfl rfl) (wm2 204 rfl rfl)) rfl rfl rfl (by decide +kernel) ⟨Nat.le_of_ble_eq_true rfl, Nat.le_of_ble_eq_true rfl⟩) hK hNw hG gl_2 rfl gk_2 (by decide) rfl rfl hl.1 rfl (lv_room (Nat.le_of_ble_eq_true rfl)) dX10_bear_8 ⟨Nat.zero_le _, Nat.zero_le _⟩) hG (fun r_8 h_8 g_8 H locs hz hq hG => ?_)
    replace HW := HW r_8 h_8 g_8 hz hq
    refine lv_if_eq (tgt := 33) hx hb dX10_bear_11 (by decide) (fun c_11 => ?_) (fun c_11 => ?_)
    · replace HW := HW.1 c_11
      refine lv_bipush (v := (-2)) hx hb dX10_bear_33 (by decide) ?_
      exact W.iret (v := (-2 : Int32)) hx hb hr (fun t ht hW => ⟨⟨(-2 : Int32), (h_8, g_8), rfl, HW, g_B ht hG⟩, hG.2.2.F ht⟩) hG.2.2.2.2 dX10_bear_35
    · replace HW := HW.2 c_11
      refine lv_aload_n hx hb dX10_bear_14 rfl (lv_at hl 0 rfl) ?_
      refine g_getr hx hb hw inG10 hown hK hG gl_0 rfl gk_0 (by decide) 0 (by decide) (by rw [gm_0]; decide) (r := 1) gr_0_0 lk10 dX10_bear_15 ?_
      refine g_getr hx hb hw inG6 hown hK hG gl_1 rfl gk_1 (by decide) 0 (by decide) (by rw [gm_1]; decide) (r := 2) gr_1_0 lk85 dX10_bear_18 ?_
      refine lv_iload_n hx hb dX10_bear_21 rfl (lv_at hl 2 rfl) ?_
      obtain ⟨P_22, HC_22, HW⟩ := HW
      refine g_callz (g_runV (As := [.int x2]) (rest := []) ⟨hx, hb, hml, hown, hts⟩ (m_X8_has l D cy ad h_8 g_8 H.size 2 (gs_2) x2 P_22 HC_22) (cwV 1 hts (gd_V (wm2 201 rfl rfl) (wm2 202 rfl rfl) (wm2 203 rfl rfl) (wm1 3 rfl rfl) (wm2 204 rfl rfl)) rfl rfl rfl (by decide +kernel) ⟨Nat.le_of_ble_eq_true rfl, Nat.le_of_ble_eq_true rfl⟩) hK hNw hG gl_2 rfl gk_2 (by decide) rfl rfl hl.1 rfl (lv_room (Nat.le_of_ble_eq_true rfl)) dX10_bear_22 ⟨Nat.zero_le _, Nat.zero_le _⟩) hG (fun r_22 h_22 g_22 H locs hz hq hG => ?_)
      replace HW := HW r_22 h_22 g_22 hz hq
      refine lv_if_eq (tgt := 33) hx hb dX10_bear_25 (by decide) (fun c_25 => ?_) (fun c_25 => ?_)
      · replace HW := HW.1 c_25
        refine lv_bipush (v := (-2)) hx hb dX10_bear_33 (by decide) ?_
        exact W.iret (v := (-2 : Int32)) hx hb hr (fun t ht hW => ⟨⟨(-2 : Int32), (h_22, g_22), rfl, HW, g_B ht hG⟩, hG.2.2.F ht⟩) hG.2.2.2.2 dX10_bear_35
      · replace HW := HW.2 c_25
        refine lv_iload_n hx hb dX10_bear_28 rfl (lv_at hl 1 rfl) ?_
        refine lv_iload_n hx hb dX10_bear_29 rfl (lv_at hl 2 rfl) ?_
        refine lv_icmp_ne (tgt := 36) hx hb dX10_bear_30 (by decide) (fun c_30 => ?_) (fun c_30 => ?_)
        · replace HW := HW.1 c_30
          refine lv_aload_n hx hb dX10_bear_36 rfl (lv_at hl 0 rfl) ?_
          refine g_getr hx hb hw inG10 hown hK hG gl_0 rfl gk_0 (by decide) 0 (by decide) (by rw [gm_0]; decide) (r := 1) gr_0_0 lk10 dX10_bear_37 ?_
          refine g_getr hx hb hw inG6 hown hK hG gl_1 rfl gk_1 (by decide) 0 (by decide) (by rw [gm_1]; decide) (r := 2) gr_1_0 lk85 dX10_bear_40 ?_
          refine lv_iload_n hx hb dX10_bear_43 rfl (lv_at hl 2 rfl) ?_
          refine lv_iconst (v := 4) hx hb dX10_bear_44 (by decide) ?_
          obtain ⟨P_45, HC_45, HW⟩ := HW
          refine g_calli (g_runV (As := [.int x2, .int (4 : Int32)]) (rest := []) ⟨hx, hb, hml, hown, hts⟩ (m_X8_at l D cy ad h_22 g_22 H.size 2 (gs_2) x2 (4 : Int32) P_45 HC_45) (cwV 2 hts (gd_V (wm3 69 rfl rfl) (wm2 221 rfl rfl) (wm2 222 rfl rfl) (wm1 3 rfl rfl) (wm2 223 rfl rfl)) rfl rfl rfl (by decide +kernel) ⟨Nat.le_of_ble_eq_true rfl, Nat.le_of_ble_eq_true rfl⟩) hK hNw hG gl_2 rfl gk_2 (by decide) rfl rfl hl.1 rfl (lv_room (Nat.le_of_ble_eq_true rfl)) dX10_bear_45 ⟨Nat.zero_le _, Nat.zero_le _⟩) hG (fun r_45 h_45 g_45 H locs hq hG => ?_)
          replace HW := HW r_45 h_45 g_45 hq
          refine lv_istore (lv' := [(4, .int r_45), (0, .ref (ad 0)), (1, .int x1), (2, .int x2), (3, .int x3)]) hx hb dX10_bear_48 hl (by decide) rfl (fun ls hl => ?_)
          refine lv_iload hx hb dX10_bear_50 (lv_at hl 0 rfl) ?_
          refine lv_iload_n hx hb dX10_bear_52 rfl (lv_at hl 2 rfl) ?_
          refine lv_ishr hx hb dX10_bear_53 ?_
          refine lv_iconst (v := 1) hx hb dX10_bear_54 (by decide) ?_
          refine lv_iand hx hb dX10_bear_55 ?_
          refine lv_iconst (v := 1) hx hb dX10_bear_56 (by decide) ?_
          refine lv_icmp_ne (tgt := 64) hx hb dX10_bear_57 (by decide) (fun c_57 => ?_) (fun c_57 => ?_)
          · replace HW := HW.1 c_57
            refine lv_iconst (v := 0) hx hb dX10_bear_64 (by decide) ?_
            exact B65 x1 x2 x3 r_45 (0 : Int32) h_45 g_45 _ _ _ HW hG (lv_sub hl [1, 2, 3, 4, 0] rfl)
          · replace HW := HW.2 c_57
            refine lv_iconst (v := 1) hx hb dX10_bear_60 (by decide) ?_
            refine lv_goto (tgt := 65) hx hb dX10_bear_61 (by decide) ?_
            exact B65 x1 x2 x3 r_45 (1 : Int32) h_45 g_45 _ _ _ HW hG (lv_sub hl [1, 2, 3, 4, 0] rfl)
        · replace HW := HW.2 c_30
          refine lv_bipush (v := (-2)) hx hb dX10_bear_33 (by decide) ?_
          exact W.iret (v := (-2 : Int32)) hx hb hr (fun t ht hW => ⟨⟨(-2 : Int32), (h_22, g_22), rfl, HW, g_B ht hG⟩, hG.2.2.F ht⟩) hG.2.2.2.2 dX10_bear_35
  exact E0 _ _ _ hG hl

def w_X10_along (x1 : Int32) (h : HI) (g : HL) (Q : Int32 → HI → HL → Prop) : Prop :=
  (∃ P_8 : Int32 → HI → HL → Prop, w_X8_has 2 x1 h g P_8 ∧ ∀ (r_8 : Int32) (h_8 : HI) (g_8 : HL), zb r_8 → P_8 r_8 h_8 g_8 → ((¬ r_8 = 0 → (∃ P_22 : Int32 → HI → HL → Prop, w_X1_reached x1 h_8 g_8 P_22 ∧ ∀ (r_22 : Int32) (h_22 : HI) (g_22 : HL), P_22 r_22 h_22 g_22 → Q r_22 h_22 g_22)) ∧ (r_8 = 0 → Q (-2 : Int32) h_8 g_8)))
set_option maxHeartbeats 8000000 in
set_option maxRecDepth 100000 in
theorem m_X10_along (l : Launch) (D : va_G) (cy : Nat → ClassId) (ad : Nat → Nat) (h : HI) (g : HL) (sz : Nat) (x1 : Int32) (Q : Int32 → HI → HL → Prop) (HW : w_X10_along x1 h g Q) : Met l yX10_along (wa yX10_along cX10_along 2 (some .int)) ({ frames := 2, cells := 0, slots := 0, locals := 48 }) (va_Pc [.ref (ad 0), .int x1] (gI D cy ad h g sz)) (va_Qi (fun (r : Int32) (u : HI × HL) => Q r u.1 u.2) (gB D cy ad sz) (gA ad sz)) 0 0 (gA ad sz) := by
  refine Met.ofW (cc := cX10_along) (maxL := 2) (ret := (some .int)) (by decide) rfl ?_
  intro p e s m args below meth c s₁ B hml hv
  obtain ⟨hav, hsz, hP, hK, hD0, hNw⟩ := hv
  have hx := B.exec
  have hb := B.bytes
  have hr := B.returns
  have hts := atoms_spec (ws := (wa yX10_along cX10_along 2 (some .int))) B.pre
  have hw := wa_hw hts
  have hown : s.vm.findClass RX10 = some m.cls := findClass_of_methodNamed B.named
  have hlocks := B.notSynchronized
  subst hsz
  have hG : gG D cy ad (gA ad s.heap.size) s.heap h g s.heap [] := ⟨hP, gA_self hD0, va_S.rf⟩
  clear hP hD0
  have lk10 := hw (.fieldLink RX10 10 "OldWorks" "shop" "LOldWorks$Shop;") (wm2 155 rfl rfl)
  have lk85 := hw (.fieldLink RX10 85 "OldWorks$Shop" "parts" "LOldWorks$Table;") (wm1 62 rfl rfl)
  have lk70 := hw (.fieldLink RX10 70 "OldWorks" "breaks" "LOldWorks$Breaks;") (wm2 164 rfl rfl)
  rw [show (headSpec (wa yX10_along cX10_along 2 (some .int)) ({ frames := 2, cells := 0, slots := 0, locals := 48 } : Room)).room = ({ frames := 2, cells := 0, slots := 0, locals := 48 } : Room) from rfl]
  have hl := lv_entry ([.ref (ad 0), .int x1]) (n := 2) (Nat.le_of_ble_eq_true rfl)
  rw [show entryFrame m args 2 = entryFrame m ([.ref (ad 0), .int x1] : List Value).toArray 2 from by rw [hav], lg_entry_eq]
  generalize (lg_sl ([.ref (ad 0), .int x1]) ++ List.replicate (2 - (lg_sl ([.ref (ad 0), .int x1])).length) Slot.unset).toArray = ls at hl ⊢
  have hl : lv_has ls 2 [(0, .ref (ad 0)), (1, .int x1)] := hl
  have E0 : ∀ (H : Heap) (locs : List Loc) (ls : Array Slot), gG D cy ad (gA ad s.heap.size) s.heap h g H locs → lv_has ls 2 [(0, .ref (ad 0)), (1, .int x1)] → W p l e ({ frames := 2, cells := 0, slots := 0, locals := 48 } : Room) s m args below meth c H locs 0 0 (MQ below (va_Qi (fun (r : Int32) (u : HI × HL) => Q r u.1 u.2) (gB D cy ad s.heap.size) (gA ad s.heap.size)) args s 0 0 (gA ad s.heap.size)) (F0 m 0 ls []) := by
    intro H locs ls hG hl
    unfold w_X10_along at HW
    refine lv_aload_n hx hb dX10_along_0 rfl (lv_at hl 0 rfl) ?_
    refine g_getr hx hb hw inG10 hown hK hG gl_0 rfl gk_0 (by decide) 0 (by decide) (by rw [gm_0]; decide) (r := 1) gr_0_0 lk10 dX10_along_1 ?_
    refine g_getr hx hb hw inG6 hown hK hG gl_1 rfl gk_1 (by decide) 0 (by decide) (by rw [gm_1]; decide) (r := 2) gr_1_0 lk85 dX10_along_4 ?_
    refine lv_iload_n hx hb dX10_along_7 rfl (lv_at hl 1 rfl) ?_
    obtain ⟨P_8, HC_8, HW⟩ := HW
    refine g_callz (g_runV (As := [.int x1]) (rest := []) ⟨hx, hb, hml, hown, hts⟩ (m_X8_has l D cy ad h g H.size 2 (gs_2) x1 P_8 HC_8) (cwV 1 hts (gd_V (wm2 201 rfl rfl) (wm2 202 rfl rfl) (wm2 203 rfl rfl) (wm1 3 rfl rfl) (wm2 204 rfl rfl)) rfl rfl rfl (by decide +kernel) ⟨Nat.le_of_ble_eq_true rfl, Nat.le_of_ble_eq_true rfl⟩) hK hNw hG gl_2 rfl gk_2 (by decide) rfl rfl hl.1 rfl (lv_room (Nat.le_of_ble_eq_true rfl)) dX10_along_8 ⟨Nat.zero_le _, Nat.zero_le _⟩) hG (fun r_8 h_8 g_8 H locs hz hq hG => ?_)
    replace HW := HW r_8 h_8 g_8 hz hq
    refine lv_if_ne (tgt := 17) hx hb dX10_along_11 (by decide) (fun c_11 => ?_) (fun c_11 => ?_)
    · replace HW := HW.1 c_11
      refine lv_aload_n hx hb dX10_along_17 rfl (lv_at hl 0 rfl) ?_
      refine g_getr hx hb hw inG10 hown hK hG gl_0 rfl gk_0 (by decide) 9 (by decide) (by rw [gm_0]; decide) (r := 109) gr_0_9 lk70 dX10_along_18 ?_
      refine lv_iload_n hx hb dX10_along_21 rfl (lv_at hl 1 rfl) ?_
      obtain ⟨P_22, HC_22, HW⟩ := HW
      refine g_calli (g_runV (As := [.int x1]) (rest := []) ⟨hx, hb, hml, hown, hts⟩ (m_X1_reached l D cy ad h_8 g_8 H.size x1 P_22 HC_22) (cwV 1 hts (gd_V (wm4 134 rfl rfl) (wm4 135 rfl rfl) (wm4 136 rfl rfl) (wm1 10 rfl rfl) (wm4 137 rfl rfl)) rfl rfl rfl (by decide +kernel) ⟨Nat.le_of_ble_eq_true rfl, Nat.le_of_ble_eq_true rfl⟩) hK hNw hG gl_109 rfl gk_109 (by decide) rfl rfl hl.1 rfl (lv_room (Nat.le_of_ble_eq_true rfl)) dX10_along_22 ⟨Nat.zero_le _, Nat.zero_le _⟩) hG (fun r_22 h_22 g_22 H locs hq hG => ?_)
      replace HW := HW r_22 h_22 g_22 hq
      exact W.iret (v := r_22) hx hb hr (fun t ht hW => ⟨⟨r_22, (h_22, g_22), rfl, HW, g_B ht hG⟩, hG.2.2.F ht⟩) hG.2.2.2.2 dX10_along_25
    · replace HW := HW.2 c_11
      refine lv_bipush (v := (-2)) hx hb dX10_along_14 (by decide) ?_
      exact W.iret (v := (-2 : Int32)) hx hb hr (fun t ht hW => ⟨⟨(-2 : Int32), (h_8, g_8), rfl, HW, g_B ht hG⟩, hG.2.2.F ht⟩) hG.2.2.2.2 dX10_along_16
  exact E0 _ _ _ hG hl

def w_X10_hand (x1 : Int32) (x2 : Int32) (h : HI) (g : HL) (Q : Int32 → HI → HL → Prop) : Prop :=
  (∃ P_4 : Int32 → HI → HL → Prop, w_X10_within x1 (0 : Int32) (15 : Int32) h g P_4 ∧ ∀ (r_4 : Int32) (h_4 : HI) (g_4 : HL), zb r_4 → P_4 r_4 h_4 g_4 → ((r_4 = 0 → Q (-2 : Int32) h_4 g_4) ∧ (¬ r_4 = 0 → (∃ P_14 : Int32 → HI → HL → Prop, w_X10_within x2 (0 : Int32) (9 : Int32) h_4 g_4 P_14 ∧ ∀ (r_14 : Int32) (h_14 : HI) (g_14 : HL), zb r_14 → P_14 r_14 h_14 g_14 → ((¬ r_14 = 0 → (∃ P_34 : Int32 → HI → HL → Prop, w_X8_add 20 x1 x2 (0 : Int32) (0 : Int32) h_14 g_14 P_34 ∧ ∀ (r_34 : Int32) (h_34 : HI) (g_34 : HL), P_34 r_34 h_34 g_34 → Q r_34 h_34 g_34)) ∧ (r_14 = 0 → Q (-2 : Int32) h_14 g_14))))))
set_option maxHeartbeats 8000000 in
set_option maxRecDepth 100000 in
theorem m_X10_hand (l : Launch) (D : va_G) (cy : Nat → ClassId) (ad : Nat → Nat) (h : HI) (g : HL) (sz : Nat) (x1 : Int32) (x2 : Int32) (Q : Int32 → HI → HL → Prop) (HW : w_X10_hand x1 x2 h g Q) : Met l yX10_hand (wa yX10_hand cX10_hand 3 (some .int)) ({ frames := 2, cells := 0, slots := 0, locals := 50 }) (va_Pc [.ref (ad 0), .int x1, .int x2] (gI D cy ad h g sz)) (va_Qi (fun (r : Int32) (u : HI × HL) => Q r u.1 u.2) (gB D cy ad sz) (gA ad sz)) 0 0 (gA ad sz) := by
  refine Met.ofW (cc := cX10_hand) (maxL := 3) (ret := (some .int)) (by decide) rfl ?_
  intro p e s m args below meth c s₁ B hml hv
  obtain ⟨hav, hsz, hP, hK, hD0, hNw⟩ := hv
  have hx := B.exec
  have hb := B.bytes
  have hr := B.returns
  have hts := atoms_spec (ws := (wa yX10_hand cX10_hand 3 (some .int))) B.pre
  have hw := wa_hw hts
  have hown : s.vm.findClass RX10 = some m.cls := findClass_of_methodNamed B.named
  have hlocks := B.notSynchronized
  subst hsz
  have hG : gG D cy ad (gA ad s.heap.size) s.heap h g s.heap [] := ⟨hP, gA_self hD0, va_S.rf⟩
  clear hP hD0
  have lk10 := hw (.fieldLink RX10 10 "OldWorks" "shop" "LOldWorks$Shop;") (wm2 155 rfl rfl)
  have lk238 := hw (.fieldLink RX10 238 "OldWorks$Shop" "hands" "LOldWorks$Table;") (wm1 91 rfl rfl)
  rw [show (headSpec (wa yX10_hand cX10_hand 3 (some .int)) ({ frames := 2, cells := 0, slots := 0, locals := 50 } : Room)).room = ({ frames := 2, cells := 0, slots := 0, locals := 50 } : Room) from rfl]
  have hl := lv_entry ([.ref (ad 0), .int x1, .int x2]) (n := 3) (Nat.le_of_ble_eq_true rfl)
  rw [show entryFrame m args 3 = entryFrame m ([.ref (ad 0), .int x1, .int x2] : List Value).toArray 3 from by rw [hav], lg_entry_eq]
  generalize (lg_sl ([.ref (ad 0), .int x1, .int x2]) ++ List.replicate (3 - (lg_sl ([.ref (ad 0), .int x1, .int x2])).length) Slot.unset).toArray = ls at hl ⊢
  have hl : lv_has ls 3 [(0, .ref (ad 0)), (1, .int x1), (2, .int x2)] := hl
  have E0 : ∀ (H : Heap) (locs : List Loc) (ls : Array Slot), gG D cy ad (gA ad s.heap.size) s.heap h g H locs → lv_has ls 3 [(0, .ref (ad 0)), (1, .int x1), (2, .int x2)] → W p l e ({ frames := 2, cells := 0, slots := 0, locals := 50 } : Room) s m args below meth c H locs 0 0 (MQ below (va_Qi (fun (r : Int32) (u : HI × HL) => Q r u.1 u.2) (gB D cy ad s.heap.size) (gA ad s.heap.size)) args s 0 0 (gA ad s.heap.size)) (F0 m 0 ls []) := by
    intro H locs ls hG hl
    unfold w_X10_hand at HW
    refine lv_iload_n hx hb dX10_hand_0 rfl (lv_at hl 1 rfl) ?_
    refine lv_iconst (v := 0) hx hb dX10_hand_1 (by decide) ?_
    refine lv_bipush (v := 15) hx hb dX10_hand_2 (by decide) ?_
    obtain ⟨P_4, HC_4, HW⟩ := HW
    refine g_callz (g_runS (As := [.int x1, .int (0 : Int32), .int (15 : Int32)]) (rest := []) ⟨hx, hb, hml, hown, hts⟩ (m_X10_within l D cy ad h g H.size x1 (0 : Int32) (15 : Int32) P_4 HC_4) (va_cwS 3 hts (gd_S (wm2 193 rfl rfl) (wm2 194 rfl rfl) (wm1 1 rfl rfl) (wm2 195 rfl rfl)) rfl rfl rfl (by decide +kernel) ⟨Nat.le_of_ble_eq_true rfl, Nat.le_of_ble_eq_true rfl⟩) hK hNw hG rfl rfl hl.1 rfl (lv_room (Nat.le_of_ble_eq_true rfl)) dX10_hand_4 ⟨Nat.zero_le _, Nat.zero_le _⟩) hG (fun r_4 h_4 g_4 H locs hz hq hG => ?_)
    replace HW := HW r_4 h_4 g_4 hz hq
    refine lv_if_eq (tgt := 20) hx hb dX10_hand_7 (by decide) (fun c_7 => ?_) (fun c_7 => ?_)
    · replace HW := HW.1 c_7
      refine lv_bipush (v := (-2)) hx hb dX10_hand_20 (by decide) ?_
      exact W.iret (v := (-2 : Int32)) hx hb hr (fun t ht hW => ⟨⟨(-2 : Int32), (h_4, g_4), rfl, HW, g_B ht hG⟩, hG.2.2.F ht⟩) hG.2.2.2.2 dX10_hand_22
    · replace HW := HW.2 c_7
      refine lv_iload_n hx hb dX10_hand_10 rfl (lv_at hl 2 rfl) ?_
      refine lv_iconst (v := 0) hx hb dX10_hand_11 (by decide) ?_
      refine lv_bipush (v := 9) hx hb dX10_hand_12 (by decide) ?_
      obtain ⟨P_14, HC_14, HW⟩ := HW
      refine g_callz (g_runS (As := [.int x2, .int (0 : Int32), .int (9 : Int32)]) (rest := []) ⟨hx, hb, hml, hown, hts⟩ (m_X10_within l D cy ad h_4 g_4 H.size x2 (0 : Int32) (9 : Int32) P_14 HC_14) (va_cwS 3 hts (gd_S (wm2 193 rfl rfl) (wm2 194 rfl rfl) (wm1 1 rfl rfl) (wm2 195 rfl rfl)) rfl rfl rfl (by decide +kernel) ⟨Nat.le_of_ble_eq_true rfl, Nat.le_of_ble_eq_true rfl⟩) hK hNw hG rfl rfl hl.1 rfl (lv_room (Nat.le_of_ble_eq_true rfl)) dX10_hand_14 ⟨Nat.zero_le _, Nat.zero_le _⟩) hG (fun r_14 h_14 g_14 H locs hz hq hG => ?_)
      replace HW := HW r_14 h_14 g_14 hz hq
      refine lv_if_ne (tgt := 23) hx hb dX10_hand_17 (by decide) (fun c_17 => ?_) (fun c_17 => ?_)
      · replace HW := HW.1 c_17
        refine lv_aload_n hx hb dX10_hand_23 rfl (lv_at hl 0 rfl) ?_
        refine g_getr hx hb hw inG10 hown hK hG gl_0 rfl gk_0 (by decide) 0 (by decide) (by rw [gm_0]; decide) (r := 1) gr_0_0 lk10 dX10_hand_24 ?_
        refine g_getr hx hb hw inG6 hown hK hG gl_1 rfl gk_1 (by decide) 9 (by decide) (by rw [gm_1]; decide) (r := 20) gr_1_9 lk238 dX10_hand_27 ?_
        refine lv_iload_n hx hb dX10_hand_30 rfl (lv_at hl 1 rfl) ?_
        refine lv_iload_n hx hb dX10_hand_31 rfl (lv_at hl 2 rfl) ?_
        refine lv_iconst (v := 0) hx hb dX10_hand_32 (by decide) ?_
        refine lv_iconst (v := 0) hx hb dX10_hand_33 (by decide) ?_
        obtain ⟨P_34, HC_34, HW⟩ := HW
        refine g_calli (g_runV (As := [.int x1, .int x2, .int (0 : Int32), .int (0 : Int32)]) (rest := []) ⟨hx, hb, hml, hown, hts⟩ (m_X8_add l D cy ad h_14 g_14 H.size 20 (gs_20) x1 x2 (0 : Int32) (0 : Int32) P_34 HC_34) (cwV 4 hts (gd_V (wm2 196 rfl rfl) (wm1 53 rfl rfl) (wm1 54 rfl rfl) (wm1 3 rfl rfl) (wm1 55 rfl rfl)) rfl rfl rfl (by decide +kernel) ⟨Nat.le_of_ble_eq_true rfl, Nat.le_of_ble_eq_true rfl⟩) hK hNw hG gl_20 rfl gk_20 (by decide) rfl rfl hl.1 rfl (lv_room (Nat.le_of_ble_eq_true rfl)) dX10_hand_34 ⟨Nat.zero_le _, Nat.zero_le _⟩) hG (fun r_34 h_34 g_34 H locs hq hG => ?_)
        replace HW := HW r_34 h_34 g_34 hq
        exact W.iret (v := r_34) hx hb hr (fun t ht hW => ⟨⟨r_34, (h_34, g_34), rfl, HW, g_B ht hG⟩, hG.2.2.F ht⟩) hG.2.2.2.2 dX10_hand_37
      · replace HW := HW.2 c_17
        refine lv_bipush (v := (-2)) hx hb dX10_hand_20 (by decide) ?_
        exact W.iret (v := (-2 : Int32)) hx hb hr (fun t ht hW => ⟨⟨(-2 : Int32), (h_14, g_14), rfl, HW, g_B ht hG⟩, hG.2.2.F ht⟩) hG.2.2.2.2 dX10_hand_22
  exact E0 _ _ _ hG hl

def w_X10_need (x1 : Int32) (x2 : Int32) (h : HI) (g : HL) (Q : Int32 → HI → HL → Prop) : Prop :=
  (∃ P_8 : Int32 → HI → HL → Prop, w_X8_has 22 x1 h g P_8 ∧ ∀ (r_8 : Int32) (h_8 : HI) (g_8 : HL), zb r_8 → P_8 r_8 h_8 g_8 → ((r_8 = 0 → Q (-2 : Int32) h_8 g_8) ∧ (¬ r_8 = 0 → (∃ P_18 : Int32 → HI → HL → Prop, w_X10_within x2 (0 : Int32) (9 : Int32) h_8 g_8 P_18 ∧ ∀ (r_18 : Int32) (h_18 : HI) (g_18 : HL), zb r_18 → P_18 r_18 h_18 g_18 → ((¬ r_18 = 0 → (∃ P_36 : Int32 → HI → HL → Prop, w_X8_at 22 x1 (0 : Int32) h_18 g_18 P_36 ∧ ∀ (r_36 : Int32) (h_36 : HI) (g_36 : HL), P_36 r_36 h_36 g_36 → (∃ P_50 : HI → HL → Prop, w_X8_put 22 x1 (0 : Int32) x2 h_36 g_36 P_50 ∧ ∀ (h_50 : HI) (g_50 : HL), P_50 h_50 g_50 → Q r_36 h_50 g_50))) ∧ (r_18 = 0 → Q (-2 : Int32) h_18 g_18))))))
set_option maxHeartbeats 8000000 in
set_option maxRecDepth 100000 in
theorem m_X10_need (l : Launch) (D : va_G) (cy : Nat → ClassId) (ad : Nat → Nat) (h : HI) (g : HL) (sz : Nat) (x1 : Int32) (x2 : Int32) (Q : Int32 → HI → HL → Prop) (HW : w_X10_need x1 x2 h g Q) : Met l yX10_need (wa yX10_need cX10_need 4 (some .int)) ({ frames := 1, cells := 0, slots := 0, locals := 24 }) (va_Pc [.ref (ad 0), .int x1, .int x2] (gI D cy ad h g sz)) (va_Qi (fun (r : Int32) (u : HI × HL) => Q r u.1 u.2) (gB D cy ad sz) (gA ad sz)) 0 0 (gA ad sz) := by
  refine Met.ofW (cc := cX10_need) (maxL := 4) (ret := (some .int)) (by decide) rfl ?_
  intro p e s m args below meth c s₁ B hml hv
  obtain ⟨hav, hsz, hP, hK, hD0, hNw⟩ := hv
  have hx := B.exec
  have hb := B.bytes
  have hr := B.returns
  have hts := atoms_spec (ws := (wa yX10_need cX10_need 4 (some .int))) B.pre
  have hw := wa_hw hts
  have hown : s.vm.findClass RX10 = some m.cls := findClass_of_methodNamed B.named
  have hlocks := B.notSynchronized
  subst hsz
  have hG : gG D cy ad (gA ad s.heap.size) s.heap h g s.heap [] := ⟨hP, gA_self hD0, va_S.rf⟩
  clear hP hD0
  have lk10 := hw (.fieldLink RX10 10 "OldWorks" "shop" "LOldWorks$Shop;") (wm2 155 rfl rfl)
  have lk241 := hw (.fieldLink RX10 241 "OldWorks$Shop" "runs" "LOldWorks$Table;") (wm1 94 rfl rfl)
  rw [show (headSpec (wa yX10_need cX10_need 4 (some .int)) ({ frames := 1, cells := 0, slots := 0, locals := 24 } : Room)).room = ({ frames := 1, cells := 0, slots := 0, locals := 24 } : Room) from rfl]
  have hl := lv_entry ([.ref (ad 0), .int x1, .int x2]) (n := 4) (Nat.le_of_ble_eq_true rfl)
  rw [show entryFrame m args 4 = entryFrame m ([.ref (ad 0), .int x1, .int x2] : List Value).toArray 4 from by rw [hav], lg_entry_eq]
  generalize (lg_sl ([.ref (ad 0), .int x1, .int x2]) ++ List.replicate (4 - (lg_sl ([.ref (ad 0), .int x1, .int x2])).length) Slot.unset).toArray = ls at hl ⊢
  have hl : lv_has ls 4 [(0, .ref (ad 0)), (1, .int x1), (2, .int x2)] := hl
  have E0 : ∀ (H : Heap) (locs : List Loc) (ls : Array Slot), gG D cy ad (gA ad s.heap.size) s.heap h g H locs → lv_has ls 4 [(0, .ref (ad 0)), (1, .int x1), (2, .int x2)] → W p l e ({ frames := 1, cells := 0, slots := 0, locals := 24 } : Room) s m args below meth c H locs 0 0 (MQ below (va_Qi (fun (r : Int32) (u : HI × HL) => Q r u.1 u.2) (gB D cy ad s.heap.size) (gA ad s.heap.size)) args s 0 0 (gA ad s.heap.size)) (F0 m 0 ls []) := by
    intro H locs ls hG hl
    unfold w_X10_need at HW
    refine lv_aload_n hx hb dX10_need_0 rfl (lv_at hl 0 rfl) ?_
    refine g_getr hx hb hw inG10 hown hK hG gl_0 rfl gk_0 (by decide) 0 (by decide) (by rw [gm_0]; decide) (r := 1) gr_0_0 lk10 dX10_need_1 ?_
    refine g_getr hx hb hw inG6 hown hK hG gl_1 rfl gk_1 (by decide) 10 (by decide) (by rw [gm_1]; decide) (r := 22) gr_1_10 lk241 dX10_need_4 ?_
    refine lv_iload_n hx hb dX10_need_7 rfl (lv_at hl 1 rfl) ?_
    obtain ⟨P_8, HC_8, HW⟩ := HW
    refine g_callz (g_runV (As := [.int x1]) (rest := []) ⟨hx, hb, hml, hown, hts⟩ (m_X8_has l D cy ad h g H.size 22 (gs_22) x1 P_8 HC_8) (cwV 1 hts (gd_V (wm2 201 rfl rfl) (wm2 202 rfl rfl) (wm2 203 rfl rfl) (wm1 3 rfl rfl) (wm2 204 rfl rfl)) rfl rfl rfl (by decide +kernel) ⟨Nat.le_of_ble_eq_true rfl, Nat.le_of_ble_eq_true rfl⟩) hK hNw hG gl_22 rfl gk_22 (by decide) rfl rfl hl.1 rfl (lv_room (Nat.le_of_ble_eq_true rfl)) dX10_need_8 ⟨Nat.zero_le _, Nat.zero_le _⟩) hG (fun r_8 h_8 g_8 H locs hz hq hG => ?_)
    replace HW := HW r_8 h_8 g_8 hz hq
    refine lv_if_eq (tgt := 24) hx hb dX10_need_11 (by decide) (fun c_11 => ?_) (fun c_11 => ?_)
    · replace HW := HW.1 c_11
      refine lv_bipush (v := (-2)) hx hb dX10_need_24 (by decide) ?_
      exact W.iret (v := (-2 : Int32)) hx hb hr (fun t ht hW => ⟨⟨(-2 : Int32), (h_8, g_8), rfl, HW, g_B ht hG⟩, hG.2.2.F ht⟩) hG.2.2.2.2 dX10_need_26
    · replace HW := HW.2 c_11
      refine lv_iload_n hx hb dX10_need_14 rfl (lv_at hl 2 rfl) ?_
      refine lv_iconst (v := 0) hx hb dX10_need_15 (by decide) ?_
      refine lv_bipush (v := 9) hx hb dX10_need_16 (by decide) ?_
      obtain ⟨P_18, HC_18, HW⟩ := HW
      refine g_callz (g_runS (As := [.int x2, .int (0 : Int32), .int (9 : Int32)]) (rest := []) ⟨hx, hb, hml, hown, hts⟩ (m_X10_within l D cy ad h_8 g_8 H.size x2 (0 : Int32) (9 : Int32) P_18 HC_18) (va_cwS 3 hts (gd_S (wm2 193 rfl rfl) (wm2 194 rfl rfl) (wm1 1 rfl rfl) (wm2 195 rfl rfl)) rfl rfl rfl (by decide +kernel) ⟨Nat.le_of_ble_eq_true rfl, Nat.le_of_ble_eq_true rfl⟩) hK hNw hG rfl rfl hl.1 rfl (lv_room (Nat.le_of_ble_eq_true rfl)) dX10_need_18 ⟨Nat.zero_le _, Nat.zero_le _⟩) hG (fun r_18 h_18 g_18 H locs hz hq hG => ?_)
      replace HW := HW r_18 h_18 g_18 hz hq
      refine lv_if_ne (tgt := 27) hx hb dX10_need_21 (by decide) (fun c_21 => ?_) (fun c_21 => ?_)
      · replace HW := HW.1 c_21
        refine lv_aload_n hx hb dX10_need_27 rfl (lv_at hl 0 rfl) ?_
        refine g_getr hx hb hw inG10 hown hK hG gl_0 rfl gk_0 (by decide) 0 (by decide) (by rw [gm_0]; decide) (r := 1) gr_0_0 lk10 dX10_need_28 ?_
        refine g_getr hx hb hw inG6 hown hK hG gl_1 rfl gk_1 (by decide) 10 (by decide) (by rw [gm_1]; decide) (r := 22) gr_1_10 lk241 dX10_need_31 ?_
        refine lv_iload_n hx hb dX10_need_34 rfl (lv_at hl 1 rfl) ?_
        refine lv_iconst (v := 0) hx hb dX10_need_35 (by decide) ?_
        obtain ⟨P_36, HC_36, HW⟩ := HW
        refine g_calli (g_runV (As := [.int x1, .int (0 : Int32)]) (rest := []) ⟨hx, hb, hml, hown, hts⟩ (m_X8_at l D cy ad h_18 g_18 H.size 22 (gs_22) x1 (0 : Int32) P_36 HC_36) (cwV 2 hts (gd_V (wm3 69 rfl rfl) (wm2 221 rfl rfl) (wm2 222 rfl rfl) (wm1 3 rfl rfl) (wm2 223 rfl rfl)) rfl rfl rfl (by decide +kernel) ⟨Nat.le_of_ble_eq_true rfl, Nat.le_of_ble_eq_true rfl⟩) hK hNw hG gl_22 rfl gk_22 (by decide) rfl rfl hl.1 rfl (lv_room (Nat.le_of_ble_eq_true rfl)) dX10_need_36 ⟨Nat.zero_le _, Nat.zero_le _⟩) hG (fun r_36 h_36 g_36 H locs hq hG => ?_)
        replace HW := HW r_36 h_36 g_36 hq
        refine lv_istore_n (lv' := [(3, .int r_36), (0, .ref (ad 0)), (1, .int x1), (2, .int x2)]) hx hb dX10_need_39 rfl hl (by decide) rfl (fun ls hl => ?_)
        refine lv_aload_n hx hb dX10_need_40 rfl (lv_at hl 1 rfl) ?_
        refine g_getr hx hb hw inG10 hown hK hG gl_0 rfl gk_0 (by decide) 0 (by decide) (by rw [gm_0]; decide) (r := 1) gr_0_0 lk10 dX10_need_41 ?_
        refine g_getr hx hb hw inG6 hown hK hG gl_1 rfl gk_1 (by decide) 10 (by decide) (by rw [gm_1]; decide) (r := 22) gr_1_10 lk241 dX10_need_44 ?_
        refine lv_iload_n hx hb dX10_need_47 rfl (lv_at hl 2 rfl) ?_
        refine lv_iconst (v := 0) hx hb dX10_need_48 (by decide) ?_
        refine lv_iload_n hx hb dX10_need_49 rfl (lv_at hl 3 rfl) ?_
        obtain ⟨P_50, HC_50, HW⟩ := HW
        refine g_callv (g_runV (As := [.int x1, .int (0 : Int32), .int x2]) (rest := []) ⟨hx, hb, hml, hown, hts⟩ (m_X8_put l D cy ad h_36 g_36 H.size 22 (gs_22) x1 (0 : Int32) x2 P_50 HC_50) (cwV 3 hts (gd_V (wm2 207 rfl rfl) (wm1 57 rfl rfl) (wm1 58 rfl rfl) (wm1 3 rfl rfl) (wm1 59 rfl rfl)) rfl rfl rfl (by decide +kernel) ⟨Nat.le_of_ble_eq_true rfl, Nat.le_of_ble_eq_true rfl⟩) hK hNw hG gl_22 rfl gk_22 (by decide) rfl rfl hl.1 rfl (lv_room (Nat.le_of_ble_eq_true rfl)) dX10_need_50 ⟨Nat.zero_le _, Nat.zero_le _⟩) hG (fun h_50 g_50 H locs hq hG => ?_)
        replace HW := HW h_50 g_50 hq
        refine lv_iload_n hx hb dX10_need_53 rfl (lv_at hl 0 rfl) ?_
        exact W.iret (v := r_36) hx hb hr (fun t ht hW => ⟨⟨r_36, (h_50, g_50), rfl, HW, g_B ht hG⟩, hG.2.2.F ht⟩) hG.2.2.2.2 dX10_need_54
      · replace HW := HW.2 c_21
        refine lv_bipush (v := (-2)) hx hb dX10_need_24 (by decide) ?_
        exact W.iret (v := (-2 : Int32)) hx hb hr (fun t ht hW => ⟨⟨(-2 : Int32), (h_18, g_18), rfl, HW, g_B ht hG⟩, hG.2.2.F ht⟩) hG.2.2.2.2 dX10_need_26
  exact E0 _ _ _ hG hl

def w_X10_plan (x1 : Int32) (x2 : Int32) (h : HI) (g : HL) (Q : Int32 → HI → HL → Prop) : Prop :=
  (∃ P_4 : Int32 → HI → HL → Prop, w_X10_within x1 (1 : Int32) (8 : Int32) h g P_4 ∧ ∀ (r_4 : Int32) (h_4 : HI) (g_4 : HL), zb r_4 → P_4 r_4 h_4 g_4 → ((r_4 = 0 → Q (-10 : Int32) h_4 g_4) ∧ (¬ r_4 = 0 → (∃ P_15 : Int32 → HI → HL → Prop, w_X10_within x2 (-1 : Int32) (x1 - (1 : Int32)) h_4 g_4 P_15 ∧ ∀ (r_15 : Int32) (h_15 : HI) (g_15 : HL), zb r_15 → P_15 r_15 h_15 g_15 → ((¬ r_15 = 0 → (∃ P_29 : HI → HL → Prop, w_X5_find x1 h_15 g_15 P_29 ∧ ∀ (h_29 : HI) (g_29 : HL), P_29 h_29 g_29 → ((¬ x2 = (-1 : Int32) → (∃ P_50 : Int32 → HI → HL → Prop, w_X5_lessonIn x2 h_29 g_29 P_50 ∧ ∀ (r_50 : Int32) (h_50 : HI) (g_50 : HL), P_50 r_50 h_50 g_50 → ((¬ r_50 = (-1 : Int32) → Q r_50 h_50 g_50) ∧ (r_50 = (-1 : Int32) → Q (-5 : Int32) h_50 g_50)))) ∧ (x2 = (-1 : Int32) → (∃ P_41 : Int32 → HI → HL → Prop, w_X5_mostRuns h_29 g_29 P_41 ∧ ∀ (r_41 : Int32) (h_41 : HI) (g_41 : HL), P_41 r_41 h_41 g_41 → Q r_41 h_41 g_41))))) ∧ (r_15 = 0 → Q (-10 : Int32) h_15 g_15))))))
set_option maxHeartbeats 8000000 in
set_option maxRecDepth 100000 in
theorem m_X10_plan (l : Launch) (D : va_G) (cy : Nat → ClassId) (ad : Nat → Nat) (h : HI) (g : HL) (sz : Nat) (x1 : Int32) (x2 : Int32) (Q : Int32 → HI → HL → Prop) (HW : w_X10_plan x1 x2 h g Q) : Met l yX10_plan (wa yX10_plan cX10_plan 4 (some .int)) ({ frames := 6, cells := 0, slots := 0, locals := 145 }) (va_Pc [.ref (ad 0), .int x1, .int x2] (gI D cy ad h g sz)) (va_Qi (fun (r : Int32) (u : HI × HL) => Q r u.1 u.2) (gB D cy ad sz) (gA ad sz)) 0 0 (gA ad sz) := by
  refine Met.ofW (cc := cX10_plan) (maxL := 4) (ret := (some .int)) (by decide) rfl ?_
  intro p e s m args below meth c s₁ B hml hv
  obtain ⟨hav, hsz, hP, hK, hD0, hNw⟩ := hv
  have hx := B.exec
  have hb := B.bytes
  have hr := B.returns
  have hts := atoms_spec (ws := (wa yX10_plan cX10_plan 4 (some .int))) B.pre
  have hw := wa_hw hts
  have hown : s.vm.findClass RX10 = some m.cls := findClass_of_methodNamed B.named
  have hlocks := B.notSynchronized
  subst hsz
  have hG : gG D cy ad (gA ad s.heap.size) s.heap h g s.heap [] := ⟨hP, gA_self hD0, va_S.rf⟩
  clear hP hD0
  have lk77 := hw (.fieldLink RX10 77 "OldWorks" "plans" "LOldWorks$Plans;") (wm2 165 rfl rfl)
  rw [show (headSpec (wa yX10_plan cX10_plan 4 (some .int)) ({ frames := 6, cells := 0, slots := 0, locals := 145 } : Room)).room = ({ frames := 6, cells := 0, slots := 0, locals := 145 } : Room) from rfl]
  have hl := lv_entry ([.ref (ad 0), .int x1, .int x2]) (n := 4) (Nat.le_of_ble_eq_true rfl)
  rw [show entryFrame m args 4 = entryFrame m ([.ref (ad 0), .int x1, .int x2] : List Value).toArray 4 from by rw [hav], lg_entry_eq]
  generalize (lg_sl ([.ref (ad 0), .int x1, .int x2]) ++ List.replicate (4 - (lg_sl ([.ref (ad 0), .int x1, .int x2])).length) Slot.unset).toArray = ls at hl ⊢
  have hl : lv_has ls 4 [(0, .ref (ad 0)), (1, .int x1), (2, .int x2)] := hl
  have E0 : ∀ (H : Heap) (locs : List Loc) (ls : Array Slot), gG D cy ad (gA ad s.heap.size) s.heap h g H locs → lv_has ls 4 [(0, .ref (ad 0)), (1, .int x1), (2, .int x2)] → W p l e ({ frames := 6, cells := 0, slots := 0, locals := 145 } : Room) s m args below meth c H locs 0 0 (MQ below (va_Qi (fun (r : Int32) (u : HI × HL) => Q r u.1 u.2) (gB D cy ad s.heap.size) (gA ad s.heap.size)) args s 0 0 (gA ad s.heap.size)) (F0 m 0 ls []) := by
    intro H locs ls hG hl
    unfold w_X10_plan at HW
    refine lv_iload_n hx hb dX10_plan_0 rfl (lv_at hl 1 rfl) ?_
    refine lv_iconst (v := 1) hx hb dX10_plan_1 (by decide) ?_
    refine lv_bipush (v := 8) hx hb dX10_plan_2 (by decide) ?_
    obtain ⟨P_4, HC_4, HW⟩ := HW
    refine g_callz (g_runS (As := [.int x1, .int (1 : Int32), .int (8 : Int32)]) (rest := []) ⟨hx, hb, hml, hown, hts⟩ (m_X10_within l D cy ad h g H.size x1 (1 : Int32) (8 : Int32) P_4 HC_4) (va_cwS 3 hts (gd_S (wm2 193 rfl rfl) (wm2 194 rfl rfl) (wm1 1 rfl rfl) (wm2 195 rfl rfl)) rfl rfl rfl (by decide +kernel) ⟨Nat.le_of_ble_eq_true rfl, Nat.le_of_ble_eq_true rfl⟩) hK hNw hG rfl rfl hl.1 rfl (lv_room (Nat.le_of_ble_eq_true rfl)) dX10_plan_4 ⟨Nat.zero_le _, Nat.zero_le _⟩) hG (fun r_4 h_4 g_4 H locs hz hq hG => ?_)
    replace HW := HW r_4 h_4 g_4 hz hq
    refine lv_if_eq (tgt := 21) hx hb dX10_plan_7 (by decide) (fun c_7 => ?_) (fun c_7 => ?_)
    · replace HW := HW.1 c_7
      refine lv_bipush (v := (-10)) hx hb dX10_plan_21 (by decide) ?_
      exact W.iret (v := (-10 : Int32)) hx hb hr (fun t ht hW => ⟨⟨(-10 : Int32), (h_4, g_4), rfl, HW, g_B ht hG⟩, hG.2.2.F ht⟩) hG.2.2.2.2 dX10_plan_23
    · replace HW := HW.2 c_7
      refine lv_iload_n hx hb dX10_plan_10 rfl (lv_at hl 2 rfl) ?_
      refine lv_iconst (v := (-1)) hx hb dX10_plan_11 (by decide) ?_
      refine lv_iload_n hx hb dX10_plan_12 rfl (lv_at hl 1 rfl) ?_
      refine lv_iconst (v := 1) hx hb dX10_plan_13 (by decide) ?_
      refine lv_isub hx hb dX10_plan_14 ?_
      obtain ⟨P_15, HC_15, HW⟩ := HW
      refine g_callz (g_runS (As := [.int x2, .int (-1 : Int32), .int (x1 - (1 : Int32))]) (rest := []) ⟨hx, hb, hml, hown, hts⟩ (m_X10_within l D cy ad h_4 g_4 H.size x2 (-1 : Int32) (x1 - (1 : Int32)) P_15 HC_15) (va_cwS 3 hts (gd_S (wm2 193 rfl rfl) (wm2 194 rfl rfl) (wm1 1 rfl rfl) (wm2 195 rfl rfl)) rfl rfl rfl (by decide +kernel) ⟨Nat.le_of_ble_eq_true rfl, Nat.le_of_ble_eq_true rfl⟩) hK hNw hG rfl rfl hl.1 rfl (lv_room (Nat.le_of_ble_eq_true rfl)) dX10_plan_15 ⟨Nat.zero_le _, Nat.zero_le _⟩) hG (fun r_15 h_15 g_15 H locs hz hq hG => ?_)
      replace HW := HW r_15 h_15 g_15 hz hq
      refine lv_if_ne (tgt := 24) hx hb dX10_plan_18 (by decide) (fun c_18 => ?_) (fun c_18 => ?_)
      · replace HW := HW.1 c_18
        refine lv_aload_n hx hb dX10_plan_24 rfl (lv_at hl 0 rfl) ?_
        refine g_getr hx hb hw inG10 hown hK hG gl_0 rfl gk_0 (by decide) 10 (by decide) (by rw [gm_0]; decide) (r := 118) gr_0_10 lk77 dX10_plan_25 ?_
        refine lv_iload_n hx hb dX10_plan_28 rfl (lv_at hl 1 rfl) ?_
        obtain ⟨P_29, HC_29, HW⟩ := HW
        refine g_callv (g_runV (As := [.int x1]) (rest := []) ⟨hx, hb, hml, hown, hts⟩ (m_X5_find l D cy ad h_15 g_15 H.size x1 P_29 HC_29) (cwV 1 hts (gd_V (wm4 150 rfl rfl) (wm4 151 rfl rfl) (wm4 152 rfl rfl) (wm1 12 rfl rfl) (wm4 153 rfl rfl)) rfl rfl rfl (by decide +kernel) ⟨Nat.le_of_ble_eq_true rfl, Nat.le_of_ble_eq_true rfl⟩) hK hNw hG gl_118 rfl gk_118 (by decide) rfl rfl hl.1 rfl (lv_room (Nat.le_of_ble_eq_true rfl)) dX10_plan_29 ⟨Nat.zero_le _, Nat.zero_le _⟩) hG (fun h_29 g_29 H locs hq hG => ?_)
        replace HW := HW h_29 g_29 hq
        refine lv_iload_n hx hb dX10_plan_32 rfl (lv_at hl 2 rfl) ?_
        refine lv_iconst (v := (-1)) hx hb dX10_plan_33 (by decide) ?_
        refine lv_icmp_ne (tgt := 45) hx hb dX10_plan_34 (by decide) (fun c_34 => ?_) (fun c_34 => ?_)
        · replace HW := HW.1 c_34
          refine lv_aload_n hx hb dX10_plan_45 rfl (lv_at hl 0 rfl) ?_
          refine g_getr hx hb hw inG10 hown hK hG gl_0 rfl gk_0 (by decide) 10 (by decide) (by rw [gm_0]; decide) (r := 118) gr_0_10 lk77 dX10_plan_46 ?_
          refine lv_iload_n hx hb dX10_plan_49 rfl (lv_at hl 2 rfl) ?_
          obtain ⟨P_50, HC_50, HW⟩ := HW
          refine g_calli (g_runV (As := [.int x2]) (rest := []) ⟨hx, hb, hml, hown, hts⟩ (m_X5_lessonIn l D cy ad h_29 g_29 H.size x2 P_50 HC_50) (cwV 1 hts (gd_V (wm4 200 rfl rfl) (wm4 201 rfl rfl) (wm4 202 rfl rfl) (wm1 12 rfl rfl) (wm4 203 rfl rfl)) rfl rfl rfl (by decide +kernel) ⟨Nat.le_of_ble_eq_true rfl, Nat.le_of_ble_eq_true rfl⟩) hK hNw hG gl_118 rfl gk_118 (by decide) rfl rfl hl.1 rfl (lv_room (Nat.le_of_ble_eq_true rfl)) dX10_plan_50 ⟨Nat.zero_le _, Nat.zero_le _⟩) hG (fun r_50 h_50 g_50 H locs hq hG => ?_)
          replace HW := HW r_50 h_50 g_50 hq
          refine lv_istore_n (lv' := [(3, .int r_50), (0, .ref (ad 0)), (1, .int x1), (2, .int x2)]) hx hb dX10_plan_53 rfl hl (by decide) rfl (fun ls hl => ?_)
          refine lv_iload_n hx hb dX10_plan_54 rfl (lv_at hl 0 rfl) ?_
          refine lv_iconst (v := (-1)) hx hb dX10_plan_55 (by decide) ?_
          refine lv_icmp_ne (tgt := 64) hx hb dX10_plan_56 (by decide) (fun c_56 => ?_) (fun c_56 => ?_)
          · replace HW := HW.1 c_56
            refine lv_iload_n hx hb dX10_plan_64 rfl (lv_at hl 0 rfl) ?_
            exact W.iret (v := r_50) hx hb hr (fun t ht hW => ⟨⟨r_50, (h_50, g_50), rfl, HW, g_B ht hG⟩, hG.2.2.F ht⟩) hG.2.2.2.2 dX10_plan_65
          · replace HW := HW.2 c_56
            refine lv_bipush (v := (-5)) hx hb dX10_plan_59 (by decide) ?_
            refine lv_goto (tgt := 65) hx hb dX10_plan_61 (by decide) ?_
            exact W.iret (v := (-5 : Int32)) hx hb hr (fun t ht hW => ⟨⟨(-5 : Int32), (h_50, g_50), rfl, HW, g_B ht hG⟩, hG.2.2.F ht⟩) hG.2.2.2.2 dX10_plan_65
        · replace HW := HW.2 c_34
          refine lv_aload_n hx hb dX10_plan_37 rfl (lv_at hl 0 rfl) ?_
          refine g_getr hx hb hw inG10 hown hK hG gl_0 rfl gk_0 (by decide) 10 (by decide) (by rw [gm_0]; decide) (r := 118) gr_0_10 lk77 dX10_plan_38 ?_
          obtain ⟨P_41, HC_41, HW⟩ := HW
          refine g_calli (g_runV (As := []) (rest := []) ⟨hx, hb, hml, hown, hts⟩ (m_X5_mostRuns l D cy ad h_29 g_29 H.size  P_41 HC_41) (cwV 0 hts (gd_V (wm4 196 rfl rfl) (wm4 197 rfl rfl) (wm4 198 rfl rfl) (wm1 12 rfl rfl) (wm4 199 rfl rfl)) rfl rfl rfl (by decide +kernel) ⟨Nat.le_of_ble_eq_true rfl, Nat.le_of_ble_eq_true rfl⟩) hK hNw hG gl_118 rfl gk_118 (by decide) rfl rfl hl.1 rfl (lv_room (Nat.le_of_ble_eq_true rfl)) dX10_plan_41 ⟨Nat.zero_le _, Nat.zero_le _⟩) hG (fun r_41 h_41 g_41 H locs hq hG => ?_)
          replace HW := HW r_41 h_41 g_41 hq
          exact W.iret (v := r_41) hx hb hr (fun t ht hW => ⟨⟨r_41, (h_41, g_41), rfl, HW, g_B ht hG⟩, hG.2.2.F ht⟩) hG.2.2.2.2 dX10_plan_44
      · replace HW := HW.2 c_18
        refine lv_bipush (v := (-10)) hx hb dX10_plan_21 (by decide) ?_
        exact W.iret (v := (-10 : Int32)) hx hb hr (fun t ht hW => ⟨⟨(-10 : Int32), (h_15, g_15), rfl, HW, g_B ht hG⟩, hG.2.2.F ht⟩) hG.2.2.2.2 dX10_plan_23
  exact E0 _ _ _ hG hl

def j_X10_imageAt_15 (Q : Nat → HI → HL → Prop) (s0 : Nat) (h : HI) (g : HL) : Prop :=
  Q s0 h g
def w_X10_imageAt (x1 : Int32) (h : HI) (g : HL) (Q : Nat → HI → HL → Prop) : Prop :=
  ((¬ x1 = 0 → j_X10_imageAt_15 Q 51 h g) ∧ (x1 = 0 → j_X10_imageAt_15 Q 26 h g))
set_option maxHeartbeats 8000000 in
set_option maxRecDepth 100000 in
theorem m_X10_imageAt (l : Launch) (D : va_G) (cy : Nat → ClassId) (ad : Nat → Nat) (h : HI) (g : HL) (sz : Nat) (x1 : Int32) (Q : Nat → HI → HL → Prop) (HW : w_X10_imageAt x1 h g Q) : Met l yX10_imageAt (wa yX10_imageAt cX10_imageAt 2 (some (.object "OldWorks$Shop"))) ({ frames := 0, cells := 0, slots := 0, locals := 0 }) (va_Pc [.ref (ad 0), .int x1] (gI D cy ad h g sz)) (va_Qr (fun (u : Nat × HI × HL) => Q u.1 u.2.1 u.2.2) (fun (u : Nat × HI × HL) (a : Nat) (t : State) => a = ad u.1 ∧ gB D cy ad sz u.2 t) (gA ad sz)) 0 0 (gA ad sz) := by
  refine Met.ofW (cc := cX10_imageAt) (maxL := 2) (ret := (some (.object "OldWorks$Shop"))) (by decide) rfl ?_
  intro p e s m args below meth c s₁ B hml hv
  obtain ⟨hav, hsz, hP, hK, hD0, hNw⟩ := hv
  have hx := B.exec
  have hb := B.bytes
  have hr := B.returns
  have hts := atoms_spec (ws := (wa yX10_imageAt cX10_imageAt 2 (some (.object "OldWorks$Shop")))) B.pre
  have hw := wa_hw hts
  have hown : s.vm.findClass RX10 = some m.cls := findClass_of_methodNamed B.named
  have hlocks := B.notSynchronized
  subst hsz
  have hG : gG D cy ad (gA ad s.heap.size) s.heap h g s.heap [] := ⟨hP, gA_self hD0, va_S.rf⟩
  clear hP hD0
  have lk19 := hw (.fieldLink RX10 19 "OldWorks" "secondImage" "LOldWorks$Shop;") (wm2 157 rfl rfl)
  have lk16 := hw (.fieldLink RX10 16 "OldWorks" "firstImage" "LOldWorks$Shop;") (wm2 156 rfl rfl)
  rw [show (headSpec (wa yX10_imageAt cX10_imageAt 2 (some (.object "OldWorks$Shop"))) ({ frames := 0, cells := 0, slots := 0, locals := 0 } : Room)).room = ({ frames := 0, cells := 0, slots := 0, locals := 0 } : Room) from rfl]
  have hl := lv_entry ([.ref (ad 0), .int x1]) (n := 2) (Nat.le_of_ble_eq_true rfl)
  rw [show entryFrame m args 2 = entryFrame m ([.ref (ad 0), .int x1] : List Value).toArray 2 from by rw [hav], lg_entry_eq]
  generalize (lg_sl ([.ref (ad 0), .int x1]) ++ List.replicate (2 - (lg_sl ([.ref (ad 0), .int x1])).length) Slot.unset).toArray = ls at hl ⊢
  have hl : lv_has ls 2 [(0, .ref (ad 0)), (1, .int x1)] := hl
  have B15 : ∀ (s0 : Nat) (h : HI) (g : HL) (H : Heap) (locs : List Loc) (ls : Array Slot) (hk_s0 : isS s0), j_X10_imageAt_15 Q s0 h g → gG D cy ad (gA ad s.heap.size) s.heap h g H locs → lv_has ls 2 [] → W p l e ({ frames := 0, cells := 0, slots := 0, locals := 0 } : Room) s m args below meth c H locs 0 0 (MQ below (va_Qr (fun (u : Nat × HI × HL) => Q u.1 u.2.1 u.2.2) (fun (u : Nat × HI × HL) (a : Nat) (t : State) => a = ad u.1 ∧ gB D cy ad s.heap.size u.2 t) (gA ad s.heap.size)) args s 0 0 (gA ad s.heap.size)) (F0 m 15 ls [.ref (ad s0)]) := by
    intro s0 h g H locs ls hk_s0 HW hG hl
    unfold j_X10_imageAt_15 at HW
    exact W.aret (v := .ref (ad s0)) hx hb hr (Or.inl ⟨_, rfl⟩) (Or.inr ⟨_, rfl⟩) (fun t ht hW => ⟨⟨(s0, h, g), ad s0, rfl, HW, rfl, g_B ht hG⟩, hG.2.2.F ht⟩) hG.2.2.2.2 dX10_imageAt_15
  have E0 : ∀ (H : Heap) (locs : List Loc) (ls : Array Slot), gG D cy ad (gA ad s.heap.size) s.heap h g H locs → lv_has ls 2 [(0, .ref (ad 0)), (1, .int x1)] → W p l e ({ frames := 0, cells := 0, slots := 0, locals := 0 } : Room) s m args below meth c H locs 0 0 (MQ below (va_Qr (fun (u : Nat × HI × HL) => Q u.1 u.2.1 u.2.2) (fun (u : Nat × HI × HL) (a : Nat) (t : State) => a = ad u.1 ∧ gB D cy ad s.heap.size u.2 t) (gA ad s.heap.size)) args s 0 0 (gA ad s.heap.size)) (F0 m 0 ls []) := by
    intro H locs ls hG hl
    unfold w_X10_imageAt at HW
    refine lv_iload_n hx hb dX10_imageAt_0 rfl (lv_at hl 1 rfl) ?_
    refine lv_if_ne (tgt := 11) hx hb dX10_imageAt_1 (by decide) (fun c_1 => ?_) (fun c_1 => ?_)
    · replace HW := HW.1 c_1
      refine lv_aload_n hx hb dX10_imageAt_11 rfl (lv_at hl 0 rfl) ?_
      refine g_getr hx hb hw inG10 hown hK hG gl_0 rfl gk_0 (by decide) 2 (by decide) (by rw [gm_0]; decide) (r := 51) gr_0_2 lk19 dX10_imageAt_12 ?_
      exact B15 51 h g _ _ _ gs_51 HW hG (lv_sub hl [] rfl)
    · replace HW := HW.2 c_1
      refine lv_aload_n hx hb dX10_imageAt_4 rfl (lv_at hl 0 rfl) ?_
      refine g_getr hx hb hw inG10 hown hK hG gl_0 rfl gk_0 (by decide) 1 (by decide) (by rw [gm_0]; decide) (r := 26) gr_0_1 lk16 dX10_imageAt_5 ?_
      refine lv_goto (tgt := 15) hx hb dX10_imageAt_8 (by decide) ?_
      exact B15 26 h g _ _ _ gs_26 HW hG (lv_sub hl [] rfl)
  exact E0 _ _ _ hG hl

def w_X10_image (x1 : Int32) (h : HI) (g : HL) (Q : Int32 → HI → HL → Prop) : Prop :=
  (∃ P_3 : Int32 → HI → HL → Prop, w_X10_within x1 (0 : Int32) (1 : Int32) h g P_3 ∧ ∀ (r_3 : Int32) (h_3 : HI) (g_3 : HL), zb r_3 → P_3 r_3 h_3 g_3 → ((¬ r_3 = 0 → (∃ P_14 : Nat → HI → HL → Prop, w_X10_imageAt x1 h_3 g_3 P_14 ∧ ∀ (r_14 : Nat) (h_14 : HI) (g_14 : HL), P_14 r_14 h_14 g_14 → (isS r_14 ∧ (∃ P_21 : HI → HL → Prop, w_X6_copy r_14 1 h_14 g_14 P_21 ∧ ∀ (h_21 : HI) (g_21 : HL), P_21 h_21 g_21 → (vp_in x1 2 ∧ ∀ h_30 : HI, h_30 = hu h_21 76 x1.toNatClampNeg (vp_nar .boolean (1 : Int32)) → Q (1 : Int32) h_30 g_21))))) ∧ (r_3 = 0 → Q (-2 : Int32) h_3 g_3)))
set_option maxHeartbeats 8000000 in
set_option maxRecDepth 100000 in
theorem m_X10_image (l : Launch) (D : va_G) (cy : Nat → ClassId) (ad : Nat → Nat) (h : HI) (g : HL) (sz : Nat) (x1 : Int32) (Q : Int32 → HI → HL → Prop) (HW : w_X10_image x1 h g Q) : Met l yX10_image (wa yX10_image cX10_image 2 (some .int)) ({ frames := 3, cells := 0, slots := 0, locals := 103 }) (va_Pc [.ref (ad 0), .int x1] (gI D cy ad h g sz)) (va_Qi (fun (r : Int32) (u : HI × HL) => Q r u.1 u.2) (gB D cy ad sz) (gA ad sz)) 0 0 (gA ad sz) := by
  refine Met.ofW (cc := cX10_image) (maxL := 2) (ret := (some .int)) (by decide) rfl ?_
  intro p e s m args below meth c s₁ B hml hv
  obtain ⟨hav, hsz, hP, hK, hD0, hNw⟩ := hv
  have hx := B.exec
  have hb := B.bytes
  have hr := B.returns
  have hts := atoms_spec (ws := (wa yX10_image cX10_image 2 (some .int))) B.pre
  have hw := wa_hw hts
  have hown : s.vm.findClass RX10 = some m.cls := findClass_of_methodNamed B.named
  have hlocks := B.notSynchronized
  subst hsz
  have hG : gG D cy ad (gA ad s.heap.size) s.heap h g s.heap [] := ⟨hP, gA_self hD0, va_S.rf⟩
  clear hP hD0
  have lk10 := hw (.fieldLink RX10 10 "OldWorks" "shop" "LOldWorks$Shop;") (wm2 155 rfl rfl)
  have lk22 := hw (.fieldLink RX10 22 "OldWorks" "kept" "[Z") (wm2 158 rfl rfl)
  rw [show (headSpec (wa yX10_image cX10_image 2 (some .int)) ({ frames := 3, cells := 0, slots := 0, locals := 103 } : Room)).room = ({ frames := 3, cells := 0, slots := 0, locals := 103 } : Room) from rfl]
  have hl := lv_entry ([.ref (ad 0), .int x1]) (n := 2) (Nat.le_of_ble_eq_true rfl)
  rw [show entryFrame m args 2 = entryFrame m ([.ref (ad 0), .int x1] : List Value).toArray 2 from by rw [hav], lg_entry_eq]
  generalize (lg_sl ([.ref (ad 0), .int x1]) ++ List.replicate (2 - (lg_sl ([.ref (ad 0), .int x1])).length) Slot.unset).toArray = ls at hl ⊢
  have hl : lv_has ls 2 [(0, .ref (ad 0)), (1, .int x1)] := hl
  have E0 : ∀ (H : Heap) (locs : List Loc) (ls : Array Slot), gG D cy ad (gA ad s.heap.size) s.heap h g H locs → lv_has ls 2 [(0, .ref (ad 0)), (1, .int x1)] → W p l e ({ frames := 3, cells := 0, slots := 0, locals := 103 } : Room) s m args below meth c H locs 0 0 (MQ below (va_Qi (fun (r : Int32) (u : HI × HL) => Q r u.1 u.2) (gB D cy ad s.heap.size) (gA ad s.heap.size)) args s 0 0 (gA ad s.heap.size)) (F0 m 0 ls []) := by
    intro H locs ls hG hl
    unfold w_X10_image at HW
    refine lv_iload_n hx hb dX10_image_0 rfl (lv_at hl 1 rfl) ?_
    refine lv_iconst (v := 0) hx hb dX10_image_1 (by decide) ?_
    refine lv_iconst (v := 1) hx hb dX10_image_2 (by decide) ?_
    obtain ⟨P_3, HC_3, HW⟩ := HW
    refine g_callz (g_runS (As := [.int x1, .int (0 : Int32), .int (1 : Int32)]) (rest := []) ⟨hx, hb, hml, hown, hts⟩ (m_X10_within l D cy ad h g H.size x1 (0 : Int32) (1 : Int32) P_3 HC_3) (va_cwS 3 hts (gd_S (wm2 193 rfl rfl) (wm2 194 rfl rfl) (wm1 1 rfl rfl) (wm2 195 rfl rfl)) rfl rfl rfl (by decide +kernel) ⟨Nat.le_of_ble_eq_true rfl, Nat.le_of_ble_eq_true rfl⟩) hK hNw hG rfl rfl hl.1 rfl (lv_room (Nat.le_of_ble_eq_true rfl)) dX10_image_3 ⟨Nat.zero_le _, Nat.zero_le _⟩) hG (fun r_3 h_3 g_3 H locs hz hq hG => ?_)
    replace HW := HW r_3 h_3 g_3 hz hq
    refine lv_if_ne (tgt := 12) hx hb dX10_image_6 (by decide) (fun c_6 => ?_) (fun c_6 => ?_)
    · replace HW := HW.1 c_6
      refine lv_aload_n hx hb dX10_image_12 rfl (lv_at hl 0 rfl) ?_
      refine lv_iload_n hx hb dX10_image_13 rfl (lv_at hl 1 rfl) ?_
      obtain ⟨P_14, HC_14, HW⟩ := HW
      refine g_callr (g_runV (As := [.int x1]) (rest := []) ⟨hx, hb, hml, hown, hts⟩ (m_X10_imageAt l D cy ad h_3 g_3 H.size x1 P_14 HC_14) (cwV 1 hts (gd_V (wm4 212 rfl rfl) (wm4 214 rfl rfl) (wmp3 (q := (yX10_imageAt, 11)) 4 rfl) (wm1 1 rfl rfl) (wm4 215 rfl rfl)) rfl rfl rfl (by decide +kernel) ⟨Nat.le_of_ble_eq_true rfl, Nat.le_of_ble_eq_true rfl⟩) hK hNw hG gl_0 rfl gk_0 (by decide) rfl rfl hl.1 rfl (lv_room (Nat.le_of_ble_eq_true rfl)) dX10_image_14 ⟨Nat.zero_le _, Nat.zero_le _⟩) hG (fun r_14 h_14 g_14 H locs hq hG => ?_)
      replace HW := HW r_14 h_14 g_14 hq
      have hz_14 := HW.1
      replace HW := HW.2
      refine lv_aload_n hx hb dX10_image_17 rfl (lv_at hl 0 rfl) ?_
      refine g_getr hx hb hw inG10 hown hK hG gl_0 rfl gk_0 (by decide) 0 (by decide) (by rw [gm_0]; decide) (r := 1) gr_0_0 lk10 dX10_image_18 ?_
      obtain ⟨P_21, HC_21, HW⟩ := HW
      refine g_callv (g_runV (As := [.ref (ad 1)]) (rest := []) ⟨hx, hb, hml, hown, hts⟩ (m_X6_copy l D cy ad h_14 g_14 H.size r_14 hz_14 1 (gs_1) P_21 HC_21) (cwV 1 hts (gd_V (wm4 216 rfl rfl) (wm4 217 rfl rfl) (wm4 218 rfl rfl) (wm1 2 rfl rfl) (wm4 219 rfl rfl)) rfl rfl rfl (by decide +kernel) ⟨Nat.le_of_ble_eq_true rfl, Nat.le_of_ble_eq_true rfl⟩) hK hNw hG hz_14.lt rfl hz_14.k (by decide) rfl rfl hl.1 rfl (lv_room (Nat.le_of_ble_eq_true rfl)) dX10_image_21 ⟨Nat.zero_le _, Nat.zero_le _⟩) hG (fun h_21 g_21 H locs hq hG => ?_)
      replace HW := HW h_21 g_21 hq
      refine lv_aload_n hx hb dX10_image_24 rfl (lv_at hl 0 rfl) ?_
      refine g_getr hx hb hw inG10 hown hK hG gl_0 rfl gk_0 (by decide) 3 (by decide) (by rw [gm_0]; decide) (r := 76) gr_0_3 lk22 dX10_image_25 ?_
      refine lv_iload_n hx hb dX10_image_28 rfl (lv_at hl 1 rfl) ?_
      refine lv_iconst (v := 1) hx hb dX10_image_29 (by decide) ?_
      refine g_zast hx hb hK hG gl_76 gk_76 gn_76 HW.1 dX10_image_30 (fun H locs hG => ?_)
      replace HW := HW.2
      obtain ⟨h_30, eh_30⟩ : ∃ y : HI, y = hu h_21 76 x1.toNatClampNeg (vp_nar .boolean (1 : Int32)) := ⟨_, rfl⟩
      rw [← eh_30] at hG
      replace HW := HW h_30 eh_30
      refine lv_iconst (v := 1) hx hb dX10_image_31 (by decide) ?_
      exact W.iret (v := (1 : Int32)) hx hb hr (fun t ht hW => ⟨⟨(1 : Int32), (h_30, g_21), rfl, HW, g_B ht hG⟩, hG.2.2.F ht⟩) hG.2.2.2.2 dX10_image_32
    · replace HW := HW.2 c_6
      refine lv_bipush (v := (-2)) hx hb dX10_image_9 (by decide) ?_
      exact W.iret (v := (-2 : Int32)) hx hb hr (fun t ht hW => ⟨⟨(-2 : Int32), (h_3, g_3), rfl, HW, g_B ht hG⟩, hG.2.2.F ht⟩) hG.2.2.2.2 dX10_image_11
  exact E0 _ _ _ hG hl

def w_X10_from (x1 : Int32) (h : HI) (g : HL) (Q : Int32 → HI → HL → Prop) : Prop :=
  (∃ P_3 : Int32 → HI → HL → Prop, w_X10_within x1 (0 : Int32) (1 : Int32) h g P_3 ∧ ∀ (r_3 : Int32) (h_3 : HI) (g_3 : HL), zb r_3 → P_3 r_3 h_3 g_3 → ((¬ r_3 = 0 → (vp_in x1 2 ∧ ((¬ (h_3 76 x1.toNatClampNeg) = 0 → (∃ P_30 : Nat → HI → HL → Prop, w_X10_imageAt x1 h_3 g_3 P_30 ∧ ∀ (r_30 : Nat) (h_30 : HI) (g_30 : HL), P_30 r_30 h_30 g_30 → (isS r_30 ∧ (∃ P_33 : HI → HL → Prop, w_X6_copy 1 r_30 h_30 g_30 P_33 ∧ ∀ (h_33 : HI) (g_33 : HL), P_33 h_33 g_33 → (∃ P_40 : HI → HL → Prop, w_X4_read h_33 g_33 P_40 ∧ ∀ (h_40 : HI) (g_40 : HL), P_40 h_40 g_40 → Q (1 : Int32) h_40 g_40))))) ∧ ((h_3 76 x1.toNatClampNeg) = 0 → Q (-3 : Int32) h_3 g_3)))) ∧ (r_3 = 0 → Q (-2 : Int32) h_3 g_3)))
set_option maxHeartbeats 8000000 in
set_option maxRecDepth 100000 in
theorem m_X10_from (l : Launch) (D : va_G) (cy : Nat → ClassId) (ad : Nat → Nat) (h : HI) (g : HL) (sz : Nat) (x1 : Int32) (Q : Int32 → HI → HL → Prop) (HW : w_X10_from x1 h g Q) : Met l yX10_from (wa yX10_from cX10_from 2 (some .int)) ({ frames := 5, cells := 0, slots := 0, locals := 110 }) (va_Pc [.ref (ad 0), .int x1] (gI D cy ad h g sz)) (va_Qi (fun (r : Int32) (u : HI × HL) => Q r u.1 u.2) (gB D cy ad sz) (gA ad sz)) 0 0 (gA ad sz) := by
  refine Met.ofW (cc := cX10_from) (maxL := 2) (ret := (some .int)) (by decide) rfl ?_
  intro p e s m args below meth c s₁ B hml hv
  obtain ⟨hav, hsz, hP, hK, hD0, hNw⟩ := hv
  have hx := B.exec
  have hb := B.bytes
  have hr := B.returns
  have hts := atoms_spec (ws := (wa yX10_from cX10_from 2 (some .int))) B.pre
  have hw := wa_hw hts
  have hown : s.vm.findClass RX10 = some m.cls := findClass_of_methodNamed B.named
  have hlocks := B.notSynchronized
  subst hsz
  have hG : gG D cy ad (gA ad s.heap.size) s.heap h g s.heap [] := ⟨hP, gA_self hD0, va_S.rf⟩
  clear hP hD0
  have lk22 := hw (.fieldLink RX10 22 "OldWorks" "kept" "[Z") (wm2 158 rfl rfl)
  have lk10 := hw (.fieldLink RX10 10 "OldWorks" "shop" "LOldWorks$Shop;") (wm2 155 rfl rfl)
  have lk31 := hw (.fieldLink RX10 31 "OldWorks" "law" "LOldWorks$Law;") (wm2 159 rfl rfl)
  rw [show (headSpec (wa yX10_from cX10_from 2 (some .int)) ({ frames := 5, cells := 0, slots := 0, locals := 110 } : Room)).room = ({ frames := 5, cells := 0, slots := 0, locals := 110 } : Room) from rfl]
  have hl := lv_entry ([.ref (ad 0), .int x1]) (n := 2) (Nat.le_of_ble_eq_true rfl)
  rw [show entryFrame m args 2 = entryFrame m ([.ref (ad 0), .int x1] : List Value).toArray 2 from by rw [hav], lg_entry_eq]
  generalize (lg_sl ([.ref (ad 0), .int x1]) ++ List.replicate (2 - (lg_sl ([.ref (ad 0), .int x1])).length) Slot.unset).toArray = ls at hl ⊢
  have hl : lv_has ls 2 [(0, .ref (ad 0)), (1, .int x1)] := hl
  have E0 : ∀ (H : Heap) (locs : List Loc) (ls : Array Slot), gG D cy ad (gA ad s.heap.size) s.heap h g H locs → lv_has ls 2 [(0, .ref (ad 0)), (1, .int x1)] → W p l e ({ frames := 5, cells := 0, slots := 0, locals := 110 } : Room) s m args below meth c H locs 0 0 (MQ below (va_Qi (fun (r : Int32) (u : HI × HL) => Q r u.1 u.2) (gB D cy ad s.heap.size) (gA ad s.heap.size)) args s 0 0 (gA ad s.heap.size)) (F0 m 0 ls []) := by
    intro H locs ls hG hl
    unfold w_X10_from at HW
    refine lv_iload_n hx hb dX10_from_0 rfl (lv_at hl 1 rfl) ?_
    refine lv_iconst (v := 0) hx hb dX10_from_1 (by decide) ?_
    refine lv_iconst (v := 1) hx hb dX10_from_2 (by decide) ?_
    obtain ⟨P_3, HC_3, HW⟩ := HW
    refine g_callz (g_runS (As := [.int x1, .int (0 : Int32), .int (1 : Int32)]) (rest := []) ⟨hx, hb, hml, hown, hts⟩ (m_X10_within l D cy ad h g H.size x1 (0 : Int32) (1 : Int32) P_3 HC_3) (va_cwS 3 hts (gd_S (wm2 193 rfl rfl) (wm2 194 rfl rfl) (wm1 1 rfl rfl) (wm2 195 rfl rfl)) rfl rfl rfl (by decide +kernel) ⟨Nat.le_of_ble_eq_true rfl, Nat.le_of_ble_eq_true rfl⟩) hK hNw hG rfl rfl hl.1 rfl (lv_room (Nat.le_of_ble_eq_true rfl)) dX10_from_3 ⟨Nat.zero_le _, Nat.zero_le _⟩) hG (fun r_3 h_3 g_3 H locs hz hq hG => ?_)
    replace HW := HW r_3 h_3 g_3 hz hq
    refine lv_if_ne (tgt := 12) hx hb dX10_from_6 (by decide) (fun c_6 => ?_) (fun c_6 => ?_)
    · replace HW := HW.1 c_6
      refine lv_aload_n hx hb dX10_from_12 rfl (lv_at hl 0 rfl) ?_
      refine g_getr hx hb hw inG10 hown hK hG gl_0 rfl gk_0 (by decide) 3 (by decide) (by rw [gm_0]; decide) (r := 76) gr_0_3 lk22 dX10_from_13 ?_
      refine lv_iload_n hx hb dX10_from_16 rfl (lv_at hl 1 rfl) ?_
      refine g_zald hx hb hK hG gl_76 gk_76 gn_76 HW.1 dX10_from_17 ?_
      replace HW := HW.2
      refine lv_if_ne (tgt := 24) hx hb dX10_from_18 (by decide) (fun c_18 => ?_) (fun c_18 => ?_)
      · replace HW := HW.1 c_18
        refine lv_aload_n hx hb dX10_from_24 rfl (lv_at hl 0 rfl) ?_
        refine g_getr hx hb hw inG10 hown hK hG gl_0 rfl gk_0 (by decide) 0 (by decide) (by rw [gm_0]; decide) (r := 1) gr_0_0 lk10 dX10_from_25 ?_
        refine lv_aload_n hx hb dX10_from_28 rfl (lv_at hl 0 rfl) ?_
        refine lv_iload_n hx hb dX10_from_29 rfl (lv_at hl 1 rfl) ?_
        obtain ⟨P_30, HC_30, HW⟩ := HW
        refine g_callr (g_runV (As := [.int x1]) (rest := [.ref (ad 1)]) ⟨hx, hb, hml, hown, hts⟩ (m_X10_imageAt l D cy ad h_3 g_3 H.size x1 P_30 HC_30) (cwV 1 hts (gd_V (wm4 212 rfl rfl) (wm4 214 rfl rfl) (wmp3 (q := (yX10_imageAt, 11)) 4 rfl) (wm1 1 rfl rfl) (wm4 215 rfl rfl)) rfl rfl rfl (by decide +kernel) ⟨Nat.le_of_ble_eq_true rfl, Nat.le_of_ble_eq_true rfl⟩) hK hNw hG gl_0 rfl gk_0 (by decide) rfl rfl hl.1 rfl (lv_room (Nat.le_of_ble_eq_true rfl)) dX10_from_30 ⟨Nat.zero_le _, Nat.zero_le _⟩) hG (fun r_30 h_30 g_30 H locs hq hG => ?_)
        replace HW := HW r_30 h_30 g_30 hq
        have hz_30 := HW.1
        replace HW := HW.2
        obtain ⟨P_33, HC_33, HW⟩ := HW
        refine g_callv (g_runV (As := [.ref (ad r_30)]) (rest := []) ⟨hx, hb, hml, hown, hts⟩ (m_X6_copy l D cy ad h_30 g_30 H.size 1 (gs_1) r_30 hz_30 P_33 HC_33) (cwV 1 hts (gd_V (wm4 216 rfl rfl) (wm4 217 rfl rfl) (wm4 218 rfl rfl) (wm1 2 rfl rfl) (wm4 219 rfl rfl)) rfl rfl rfl (by decide +kernel) ⟨Nat.le_of_ble_eq_true rfl, Nat.le_of_ble_eq_true rfl⟩) hK hNw hG gl_1 rfl gk_1 (by decide) rfl rfl hl.1 rfl (lv_room (Nat.le_of_ble_eq_true rfl)) dX10_from_33 ⟨Nat.zero_le _, Nat.zero_le _⟩) hG (fun h_33 g_33 H locs hq hG => ?_)
        replace HW := HW h_33 g_33 hq
        refine lv_aload_n hx hb dX10_from_36 rfl (lv_at hl 0 rfl) ?_
        refine g_getr hx hb hw inG10 hown hK hG gl_0 rfl gk_0 (by decide) 4 (by decide) (by rw [gm_0]; decide) (r := 77) gr_0_4 lk31 dX10_from_37 ?_
        obtain ⟨P_40, HC_40, HW⟩ := HW
        refine g_callv (g_runV (As := []) (rest := []) ⟨hx, hb, hml, hown, hts⟩ (m_X4_read l D cy ad h_33 g_33 H.size  P_40 HC_40) (cwV 0 hts (gd_V (wm2 212 rfl rfl) (wm2 213 rfl rfl) (wm2 214 rfl rfl) (wm1 4 rfl rfl) (wm2 215 rfl rfl)) rfl rfl rfl (by decide +kernel) ⟨Nat.le_of_ble_eq_true rfl, Nat.le_of_ble_eq_true rfl⟩) hK hNw hG gl_77 rfl gk_77 (by decide) rfl rfl hl.1 rfl (lv_room (Nat.le_of_ble_eq_true rfl)) dX10_from_40 ⟨Nat.zero_le _, Nat.zero_le _⟩) hG (fun h_40 g_40 H locs hq hG => ?_)
        replace HW := HW h_40 g_40 hq
        refine lv_iconst (v := 1) hx hb dX10_from_43 (by decide) ?_
        exact W.iret (v := (1 : Int32)) hx hb hr (fun t ht hW => ⟨⟨(1 : Int32), (h_40, g_40), rfl, HW, g_B ht hG⟩, hG.2.2.F ht⟩) hG.2.2.2.2 dX10_from_44
      · replace HW := HW.2 c_18
        refine lv_bipush (v := (-3)) hx hb dX10_from_21 (by decide) ?_
        exact W.iret (v := (-3 : Int32)) hx hb hr (fun t ht hW => ⟨⟨(-3 : Int32), (h_3, g_3), rfl, HW, g_B ht hG⟩, hG.2.2.F ht⟩) hG.2.2.2.2 dX10_from_23
    · replace HW := HW.2 c_6
      refine lv_bipush (v := (-2)) hx hb dX10_from_9 (by decide) ?_
      exact W.iret (v := (-2 : Int32)) hx hb hr (fun t ht hW => ⟨⟨(-2 : Int32), (h_3, g_3), rfl, HW, g_B ht hG⟩, hG.2.2.F ht⟩) hG.2.2.2.2 dX10_from_11
  exact E0 _ _ _ hG hl

def w_X10_count (x1 : Int32) (h : HI) (g : HL) (Q : Int32 → HI → HL → Prop) : Prop :=
  ((x1 = 0 → (∃ P_63 : Int32 → HI → HL → Prop, w_X8_rows 2 h g P_63 ∧ ∀ (r_63 : Int32) (h_63 : HI) (g_63 : HL), P_63 r_63 h_63 g_63 → Q r_63 h_63 g_63)) ∧ (x1 = 1 → (∃ P_74 : Int32 → HI → HL → Prop, w_X8_rows 6 h g P_74 ∧ ∀ (r_74 : Int32) (h_74 : HI) (g_74 : HL), P_74 r_74 h_74 g_74 → Q r_74 h_74 g_74)) ∧ (x1 = 2 → (∃ P_82 : Int32 → HI → HL → Prop, w_X6_deniedSayings 1 h g P_82 ∧ ∀ (r_82 : Int32) (h_82 : HI) (g_82 : HL), P_82 r_82 h_82 g_82 → Q r_82 h_82 g_82)) ∧ (x1 = 3 → (∃ P_93 : Int32 → HI → HL → Prop, w_X8_rows 8 h g P_93 ∧ ∀ (r_93 : Int32) (h_93 : HI) (g_93 : HL), P_93 r_93 h_93 g_93 → Q r_93 h_93 g_93)) ∧ (x1 = 4 → (∃ P_104 : Int32 → HI → HL → Prop, w_X8_rows 10 h g P_104 ∧ ∀ (r_104 : Int32) (h_104 : HI) (g_104 : HL), P_104 r_104 h_104 g_104 → Q r_104 h_104 g_104)) ∧ (x1 = 5 → (∃ P_115 : Int32 → HI → HL → Prop, w_X8_rows 12 h g P_115 ∧ ∀ (r_115 : Int32) (h_115 : HI) (g_115 : HL), P_115 r_115 h_115 g_115 → Q r_115 h_115 g_115)) ∧ (x1 = 6 → (∃ P_126 : Int32 → HI → HL → Prop, w_X8_rows 14 h g P_126 ∧ ∀ (r_126 : Int32) (h_126 : HI) (g_126 : HL), P_126 r_126 h_126 g_126 → Q r_126 h_126 g_126)) ∧ (x1 = 7 → (∃ P_137 : Int32 → HI → HL → Prop, w_X8_rows 18 h g P_137 ∧ ∀ (r_137 : Int32) (h_137 : HI) (g_137 : HL), P_137 r_137 h_137 g_137 → Q r_137 h_137 g_137)) ∧ (x1 = 8 → (∃ P_148 : Int32 → HI → HL → Prop, w_X8_rows 20 h g P_148 ∧ ∀ (r_148 : Int32) (h_148 : HI) (g_148 : HL), P_148 r_148 h_148 g_148 → Q r_148 h_148 g_148)) ∧ (x1 = 9 → (∃ P_159 : Int32 → HI → HL → Prop, w_X8_rows 24 h g P_159 ∧ ∀ (r_159 : Int32) (h_159 : HI) (g_159 : HL), P_159 r_159 h_159 g_159 → Q r_159 h_159 g_159)) ∧ (¬ x1 = 0 → ¬ x1 = 1 → ¬ x1 = 2 → ¬ x1 = 3 → ¬ x1 = 4 → ¬ x1 = 5 → ¬ x1 = 6 → ¬ x1 = 7 → ¬ x1 = 8 → ¬ x1 = 9 → Q (-2 : Int32) h g))
set_option maxHeartbeats 8000000 in
set_option maxRecDepth 100000 in
theorem m_X10_count (l : Launch) (D : va_G) (cy : Nat → ClassId) (ad : Nat → Nat) (h : HI) (g : HL) (sz : Nat) (x1 : Int32) (Q : Int32 → HI → HL → Prop) (HW : w_X10_count x1 h g Q) : Met l yX10_count (wa yX10_count cX10_count 2 (some .int)) ({ frames := 2, cells := 0, slots := 0, locals := 45 }) (va_Pc [.ref (ad 0), .int x1] (gI D cy ad h g sz)) (va_Qi (fun (r : Int32) (u : HI × HL) => Q r u.1 u.2) (gB D cy ad sz) (gA ad sz)) 0 0 (gA ad sz) := by
  refine Met.ofW (cc := cX10_count) (maxL := 2) (ret := (some .int)) (by decide) rfl ?_
  intro p e s m args below meth c s₁ B hml hv
  obtain ⟨hav, hsz, hP, hK, hD0, hNw⟩ := hv
  have hx := B.exec
  have hb := B.bytes
  have hr := B.returns
  have hts := atoms_spec (ws := (wa yX10_count cX10_count 2 (some .int))) B.pre
  have hw := wa_hw hts
  have hown : s.vm.findClass RX10 = some m.cls := findClass_of_methodNamed B.named
  have hlocks := B.notSynchronized
  subst hsz
  have hG : gG D cy ad (gA ad s.heap.size) s.heap h g s.heap [] := ⟨hP, gA_self hD0, va_S.rf⟩
  clear hP hD0
  have lk10 := hw (.fieldLink RX10 10 "OldWorks" "shop" "LOldWorks$Shop;") (wm2 155 rfl rfl)
  have lk85 := hw (.fieldLink RX10 85 "OldWorks$Shop" "parts" "LOldWorks$Table;") (wm1 62 rfl rfl)
  have lk129 := hw (.fieldLink RX10 129 "OldWorks$Shop" "sayings" "LOldWorks$Table;") (wm1 70 rfl rfl)
  have lk153 := hw (.fieldLink RX10 153 "OldWorks$Shop" "chains" "LOldWorks$Table;") (wm1 73 rfl rfl)
  have lk182 := hw (.fieldLink RX10 182 "OldWorks$Shop" "works" "LOldWorks$Table;") (wm1 76 rfl rfl)
  have lk196 := hw (.fieldLink RX10 196 "OldWorks$Shop" "machines" "LOldWorks$Table;") (wm1 79 rfl rfl)
  have lk199 := hw (.fieldLink RX10 199 "OldWorks$Shop" "spares" "LOldWorks$Table;") (wm1 82 rfl rfl)
  have lk229 := hw (.fieldLink RX10 229 "OldWorks$Shop" "loads" "LOldWorks$Table;") (wm1 88 rfl rfl)
  have lk238 := hw (.fieldLink RX10 238 "OldWorks$Shop" "hands" "LOldWorks$Table;") (wm1 91 rfl rfl)
  have lk109 := hw (.fieldLink RX10 109 "OldWorks$Shop" "signs" "LOldWorks$Table;") (wm1 97 rfl rfl)
  rw [show (headSpec (wa yX10_count cX10_count 2 (some .int)) ({ frames := 2, cells := 0, slots := 0, locals := 45 } : Room)).room = ({ frames := 2, cells := 0, slots := 0, locals := 45 } : Room) from rfl]
  have hl := lv_entry ([.ref (ad 0), .int x1]) (n := 2) (Nat.le_of_ble_eq_true rfl)
  rw [show entryFrame m args 2 = entryFrame m ([.ref (ad 0), .int x1] : List Value).toArray 2 from by rw [hav], lg_entry_eq]
  generalize (lg_sl ([.ref (ad 0), .int x1]) ++ List.replicate (2 - (lg_sl ([.ref (ad 0), .int x1])).length) Slot.unset).toArray = ls at hl ⊢
  have hl : lv_has ls 2 [(0, .ref (ad 0)), (1, .int x1)] := hl
  have E0 : ∀ (H : Heap) (locs : List Loc) (ls : Array Slot), gG D cy ad (gA ad s.heap.size) s.heap h g H locs → lv_has ls 2 [(0, .ref (ad 0)), (1, .int x1)] → W p l e ({ frames := 2, cells := 0, slots := 0, locals := 45 } : Room) s m args below meth c H locs 0 0 (MQ below (va_Qi (fun (r : Int32) (u : HI × HL) => Q r u.1 u.2) (gB D cy ad s.heap.size) (gA ad s.heap.size)) args s 0 0 (gA ad s.heap.size)) (F0 m 0 ls []) := by
    intro H locs ls hG hl
    unfold w_X10_count at HW
    refine lv_iload_n hx hb dX10_count_0 rfl (lv_at hl 1 rfl) ?_
    by_cases c_1_0 : x1 = 0
    · replace HW := HW.1 c_1_0
      refine lv_tableIn (tgt := 56) (off := 55) hx hb dX10_count_1 (by rw [c_1_0]; first | done | decide) (by rw [c_1_0]; first | done | decide) (by rw [c_1_0]; first | done | rfl) (by decide) ?_
      refine lv_aload_n hx hb dX10_count_56 rfl (lv_at hl 0 rfl) ?_
      refine g_getr hx hb hw inG10 hown hK hG gl_0 rfl gk_0 (by decide) 0 (by decide) (by rw [gm_0]; decide) (r := 1) gr_0_0 lk10 dX10_count_57 ?_
      refine g_getr hx hb hw inG6 hown hK hG gl_1 rfl gk_1 (by decide) 0 (by decide) (by rw [gm_1]; decide) (r := 2) gr_1_0 lk85 dX10_count_60 ?_
      obtain ⟨P_63, HC_63, HW⟩ := HW
      refine g_calli (g_runV (As := []) (rest := []) ⟨hx, hb, hml, hown, hts⟩ (m_X8_rows l D cy ad h g H.size 2 (gs_2) P_63 HC_63) (cwV 0 hts (gd_V (wm3 19 rfl rfl) (wm2 217 rfl rfl) (wm2 218 rfl rfl) (wm1 3 rfl rfl) (wm2 219 rfl rfl)) rfl rfl rfl (by decide +kernel) ⟨Nat.le_of_ble_eq_true rfl, Nat.le_of_ble_eq_true rfl⟩) hK hNw hG gl_2 rfl gk_2 (by decide) rfl rfl hl.1 rfl (lv_room (Nat.le_of_ble_eq_true rfl)) dX10_count_63 ⟨Nat.zero_le _, Nat.zero_le _⟩) hG (fun r_63 h_63 g_63 H locs hq hG => ?_)
      replace HW := HW r_63 h_63 g_63 hq
      exact W.iret (v := r_63) hx hb hr (fun t ht hW => ⟨⟨r_63, (h_63, g_63), rfl, HW, g_B ht hG⟩, hG.2.2.F ht⟩) hG.2.2.2.2 dX10_count_66
    · by_cases c_1_1 : x1 = 1
      · replace HW := HW.2.1 c_1_1
        refine lv_tableIn (tgt := 67) (off := 66) hx hb dX10_count_1 (by rw [c_1_1]; first | done | decide) (by rw [c_1_1]; first | done | decide) (by rw [c_1_1]; first | done | rfl) (by decide) ?_
        refine lv_aload_n hx hb dX10_count_67 rfl (lv_at hl 0 rfl) ?_
        refine g_getr hx hb hw inG10 hown hK hG gl_0 rfl gk_0 (by decide) 0 (by decide) (by rw [gm_0]; decide) (r := 1) gr_0_0 lk10 dX10_count_68 ?_
        refine g_getr hx hb hw inG6 hown hK hG gl_1 rfl gk_1 (by decide) 2 (by decide) (by rw [gm_1]; decide) (r := 6) gr_1_2 lk129 dX10_count_71 ?_
        obtain ⟨P_74, HC_74, HW⟩ := HW
        refine g_calli (g_runV (As := []) (rest := []) ⟨hx, hb, hml, hown, hts⟩ (m_X8_rows l D cy ad h g H.size 6 (gs_6) P_74 HC_74) (cwV 0 hts (gd_V (wm3 19 rfl rfl) (wm2 217 rfl rfl) (wm2 218 rfl rfl) (wm1 3 rfl rfl) (wm2 219 rfl rfl)) rfl rfl rfl (by decide +kernel) ⟨Nat.le_of_ble_eq_true rfl, Nat.le_of_ble_eq_true rfl⟩) hK hNw hG gl_6 rfl gk_6 (by decide) rfl rfl hl.1 rfl (lv_room (Nat.le_of_ble_eq_true rfl)) dX10_count_74 ⟨Nat.zero_le _, Nat.zero_le _⟩) hG (fun r_74 h_74 g_74 H locs hq hG => ?_)
        replace HW := HW r_74 h_74 g_74 hq
        exact W.iret (v := r_74) hx hb hr (fun t ht hW => ⟨⟨r_74, (h_74, g_74), rfl, HW, g_B ht hG⟩, hG.2.2.F ht⟩) hG.2.2.2.2 dX10_count_77
      · by_cases c_1_2 : x1 = 2
        · replace HW := HW.2.2.1 c_1_2
          refine lv_tableIn (tgt := 78) (off := 77) hx hb dX10_count_1 (by rw [c_1_2]; first | done | decide) (by rw [c_1_2]; first | done | decide) (by rw [c_1_2]; first | done | rfl) (by decide) ?_
          refine lv_aload_n hx hb dX10_count_78 rfl (lv_at hl 0 rfl) ?_
          refine g_getr hx hb hw inG10 hown hK hG gl_0 rfl gk_0 (by decide) 0 (by decide) (by rw [gm_0]; decide) (r := 1) gr_0_0 lk10 dX10_count_79 ?_
          obtain ⟨P_82, HC_82, HW⟩ := HW
          refine g_calli (g_runV (As := []) (rest := []) ⟨hx, hb, hml, hown, hts⟩ (m_X6_deniedSayings l D cy ad h g H.size 1 (gs_1) P_82 HC_82) (cwV 0 hts (gd_V (wm4 233 rfl rfl) (wm4 234 rfl rfl) (wm4 235 rfl rfl) (wm1 2 rfl rfl) (wm4 236 rfl rfl)) rfl rfl rfl (by decide +kernel) ⟨Nat.le_of_ble_eq_true rfl, Nat.le_of_ble_eq_true rfl⟩) hK hNw hG gl_1 rfl gk_1 (by decide) rfl rfl hl.1 rfl (lv_room (Nat.le_of_ble_eq_true rfl)) dX10_count_82 ⟨Nat.zero_le _, Nat.zero_le _⟩) hG (fun r_82 h_82 g_82 H locs hq hG => ?_)
          replace HW := HW r_82 h_82 g_82 hq
          exact W.iret (v := r_82) hx hb hr (fun t ht hW => ⟨⟨r_82, (h_82, g_82), rfl, HW, g_B ht hG⟩, hG.2.2.F ht⟩) hG.2.2.2.2 dX10_count_85
        · by_cases c_1_3 : x1 = 3
          · replace HW := HW.2.2.2.1 c_1_3
            refine lv_tableIn (tgt := 86) (off := 85) hx hb dX10_count_1 (by rw [c_1_3]; first | done | decide) (by rw [c_1_3]; first | done | decide) (by rw [c_1_3]; first | done | rfl) (by decide) ?_
            refine lv_aload_n hx hb dX10_count_86 rfl (lv_at hl 0 rfl) ?_
            refine g_getr hx hb hw inG10 hown hK hG gl_0 rfl gk_0 (by decide) 0 (by decide) (by rw [gm_0]; decide) (r := 1) gr_0_0 lk10 dX10_count_87 ?_
            refine g_getr hx hb hw inG6 hown hK hG gl_1 rfl gk_1 (by decide) 3 (by decide) (by rw [gm_1]; decide) (r := 8) gr_1_3 lk153 dX10_count_90 ?_
            obtain ⟨P_93, HC_93, HW⟩ := HW
            refine g_calli (g_runV (As := []) (rest := []) ⟨hx, hb, hml, hown, hts⟩ (m_X8_rows l D cy ad h g H.size 8 (gs_8) P_93 HC_93) (cwV 0 hts (gd_V (wm3 19 rfl rfl) (wm2 217 rfl rfl) (wm2 218 rfl rfl) (wm1 3 rfl rfl) (wm2 219 rfl rfl)) rfl rfl rfl (by decide +kernel) ⟨Nat.le_of_ble_eq_true rfl, Nat.le_of_ble_eq_true rfl⟩) hK hNw hG gl_8 rfl gk_8 (by decide) rfl rfl hl.1 rfl (lv_room (Nat.le_of_ble_eq_true rfl)) dX10_count_93 ⟨Nat.zero_le _, Nat.zero_le _⟩) hG (fun r_93 h_93 g_93 H locs hq hG => ?_)
            replace HW := HW r_93 h_93 g_93 hq
            exact W.iret (v := r_93) hx hb hr (fun t ht hW => ⟨⟨r_93, (h_93, g_93), rfl, HW, g_B ht hG⟩, hG.2.2.F ht⟩) hG.2.2.2.2 dX10_count_96
          · by_cases c_1_4 : x1 = 4
            · replace HW := HW.2.2.2.2.1 c_1_4
              refine lv_tableIn (tgt := 97) (off := 96) hx hb dX10_count_1 (by rw [c_1_4]; first | done | decide) (by rw [c_1_4]; first | done | decide) (by rw [c_1_4]; first | done | rfl) (by decide) ?_
              refine lv_aload_n hx hb dX10_count_97 rfl (lv_at hl 0 rfl) ?_
              refine g_getr hx hb hw inG10 hown hK hG gl_0 rfl gk_0 (by decide) 0 (by decide) (by rw [gm_0]; decide) (r := 1) gr_0_0 lk10 dX10_count_98 ?_
              refine g_getr hx hb hw inG6 hown hK hG gl_1 rfl gk_1 (by decide) 4 (by decide) (by rw [gm_1]; decide) (r := 10) gr_1_4 lk182 dX10_count_101 ?_
              obtain ⟨P_104, HC_104, HW⟩ := HW
              refine g_calli (g_runV (As := []) (rest := []) ⟨hx, hb, hml, hown, hts⟩ (m_X8_rows l D cy ad h g H.size 10 (gs_10) P_104 HC_104) (cwV 0 hts (gd_V (wm3 19 rfl rfl) (wm2 217 rfl rfl) (wm2 218 rfl rfl) (wm1 3 rfl rfl) (wm2 219 rfl rfl)) rfl rfl rfl (by decide +kernel) ⟨Nat.le_of_ble_eq_true rfl, Nat.le_of_ble_eq_true rfl⟩) hK hNw hG gl_10 rfl gk_10 (by decide) rfl rfl hl.1 rfl (lv_room (Nat.le_of_ble_eq_true rfl)) dX10_count_104 ⟨Nat.zero_le _, Nat.zero_le _⟩) hG (fun r_104 h_104 g_104 H locs hq hG => ?_)
              replace HW := HW r_104 h_104 g_104 hq
              exact W.iret (v := r_104) hx hb hr (fun t ht hW => ⟨⟨r_104, (h_104, g_104), rfl, HW, g_B ht hG⟩, hG.2.2.F ht⟩) hG.2.2.2.2 dX10_count_107
            · by_cases c_1_5 : x1 = 5
              · replace HW := HW.2.2.2.2.2.1 c_1_5
                refine lv_tableIn (tgt := 108) (off := 107) hx hb dX10_count_1 (by rw [c_1_5]; first | done | decide) (by rw [c_1_5]; first | done | decide) (by rw [c_1_5]; first | done | rfl) (by decide) ?_
                refine lv_aload_n hx hb dX10_count_108 rfl (lv_at hl 0 rfl) ?_
                refine g_getr hx hb hw inG10 hown hK hG gl_0 rfl gk_0 (by decide) 0 (by decide) (by rw [gm_0]; decide) (r := 1) gr_0_0 lk10 dX10_count_109 ?_
                refine g_getr hx hb hw inG6 hown hK hG gl_1 rfl gk_1 (by decide) 5 (by decide) (by rw [gm_1]; decide) (r := 12) gr_1_5 lk196 dX10_count_112 ?_
                obtain ⟨P_115, HC_115, HW⟩ := HW
                refine g_calli (g_runV (As := []) (rest := []) ⟨hx, hb, hml, hown, hts⟩ (m_X8_rows l D cy ad h g H.size 12 (gs_12) P_115 HC_115) (cwV 0 hts (gd_V (wm3 19 rfl rfl) (wm2 217 rfl rfl) (wm2 218 rfl rfl) (wm1 3 rfl rfl) (wm2 219 rfl rfl)) rfl rfl rfl (by decide +kernel) ⟨Nat.le_of_ble_eq_true rfl, Nat.le_of_ble_eq_true rfl⟩) hK hNw hG gl_12 rfl gk_12 (by decide) rfl rfl hl.1 rfl (lv_room (Nat.le_of_ble_eq_true rfl)) dX10_count_115 ⟨Nat.zero_le _, Nat.zero_le _⟩) hG (fun r_115 h_115 g_115 H locs hq hG => ?_)
                replace HW := HW r_115 h_115 g_115 hq
                exact W.iret (v := r_115) hx hb hr (fun t ht hW => ⟨⟨r_115, (h_115, g_115), rfl, HW, g_B ht hG⟩, hG.2.2.F ht⟩) hG.2.2.2.2 dX10_count_118
              · by_cases c_1_6 : x1 = 6
                · replace HW := HW.2.2.2.2.2.2.1 c_1_6
                  refine lv_tableIn (tgt := 119) (off := 118) hx hb dX10_count_1 (by rw [c_1_6]; first | done | decide) (by rw [c_1_6]; first | done | decide) (by rw [c_1_6]; first | done | rfl) (by decide) ?_
                  refine lv_aload_n hx hb dX10_count_119 rfl (lv_at hl 0 rfl) ?_
                  refine g_getr hx hb hw inG10 hown hK hG gl_0 rfl gk_0 (by decide) 0 (by decide) (by rw [gm_0]; decide) (r := 1) gr_0_0 lk10 dX10_count_120 ?_
                  refine g_getr hx hb hw inG6 hown hK hG gl_1 rfl gk_1 (by decide) 6 (by decide) (by rw [gm_1]; decide) (r := 14) gr_1_6 lk199 dX10_count_123 ?_
                  obtain ⟨P_126, HC_126, HW⟩ := HW
                  refine g_calli (g_runV (As := []) (rest := []) ⟨hx, hb, hml, hown, hts⟩ (m_X8_rows l D cy ad h g H.size 14 (gs_14) P_126 HC_126) (cwV 0 hts (gd_V (wm3 19 rfl rfl) (wm2 217 rfl rfl) (wm2 218 rfl rfl) (wm1 3 rfl rfl) (wm2 219 rfl rfl)) rfl rfl rfl (by decide +kernel) ⟨Nat.le_of_ble_eq_true rfl, Nat.le_of_ble_eq_true rfl⟩) hK hNw hG gl_14 rfl gk_14 (by decide) rfl rfl hl.1 rfl (lv_room (Nat.le_of_ble_eq_true rfl)) dX10_count_126 ⟨Nat.zero_le _, Nat.zero_le _⟩) hG (fun r_126 h_126 g_126 H locs hq hG => ?_)
                  replace HW := HW r_126 h_126 g_126 hq
                  exact W.iret (v := r_126) hx hb hr (fun t ht hW => ⟨⟨r_126, (h_126, g_126), rfl, HW, g_B ht hG⟩, hG.2.2.F ht⟩) hG.2.2.2.2 dX10_count_129
                · by_cases c_1_7 : x1 = 7
                  · replace HW := HW.2.2.2.2.2.2.2.1 c_1_7
                    refine lv_tableIn (tgt := 130) (off := 129) hx hb dX10_count_1 (by rw [c_1_7]; first | done | decide) (by rw [c_1_7]; first | done | decide) (by rw [c_1_7]; first | done | rfl) (by decide) ?_
                    refine lv_aload_n hx hb dX10_count_130 rfl (lv_at hl 0 rfl) ?_
                    refine g_getr hx hb hw inG10 hown hK hG gl_0 rfl gk_0 (by decide) 0 (by decide) (by rw [gm_0]; decide) (r := 1) gr_0_0 lk10 dX10_count_131 ?_
                    refine g_getr hx hb hw inG6 hown hK hG gl_1 rfl gk_1 (by decide) 8 (by decide) (by rw [gm_1]; decide) (r := 18) gr_1_8 lk229 dX10_count_134 ?_
                    obtain ⟨P_137, HC_137, HW⟩ := HW
                    refine g_calli (g_runV (As := []) (rest := []) ⟨hx, hb, hml, hown, hts⟩ (m_X8_rows l D cy ad h g H.size 18 (gs_18) P_137 HC_137) (cwV 0 hts (gd_V (wm3 19 rfl rfl) (wm2 217 rfl rfl) (wm2 218 rfl rfl) (wm1 3 rfl rfl) (wm2 219 rfl rfl)) rfl rfl rfl (by decide +kernel) ⟨Nat.le_of_ble_eq_true rfl, Nat.le_of_ble_eq_true rfl⟩) hK hNw hG gl_18 rfl gk_18 (by decide) rfl rfl hl.1 rfl (lv_room (Nat.le_of_ble_eq_true rfl)) dX10_count_137 ⟨Nat.zero_le _, Nat.zero_le _⟩) hG (fun r_137 h_137 g_137 H locs hq hG => ?_)
                    replace HW := HW r_137 h_137 g_137 hq
                    exact W.iret (v := r_137) hx hb hr (fun t ht hW => ⟨⟨r_137, (h_137, g_137), rfl, HW, g_B ht hG⟩, hG.2.2.F ht⟩) hG.2.2.2.2 dX10_count_140
                  · by_cases c_1_8 : x1 = 8
                    · replace HW := HW.2.2.2.2.2.2.2.2.1 c_1_8
                      refine lv_tableIn (tgt := 141) (off := 140) hx hb dX10_count_1 (by rw [c_1_8]; first | done | decide) (by rw [c_1_8]; first | done | decide) (by rw [c_1_8]; first | done | rfl) (by decide) ?_
                      refine lv_aload_n hx hb dX10_count_141 rfl (lv_at hl 0 rfl) ?_
                      refine g_getr hx hb hw inG10 hown hK hG gl_0 rfl gk_0 (by decide) 0 (by decide) (by rw [gm_0]; decide) (r := 1) gr_0_0 lk10 dX10_count_142 ?_
                      refine g_getr hx hb hw inG6 hown hK hG gl_1 rfl gk_1 (by decide) 9 (by decide) (by rw [gm_1]; decide) (r := 20) gr_1_9 lk238 dX10_count_145 ?_
                      obtain ⟨P_148, HC_148, HW⟩ := HW
                      refine g_calli (g_runV (As := []) (rest := []) ⟨hx, hb, hml, hown, hts⟩ (m_X8_rows l D cy ad h g H.size 20 (gs_20) P_148 HC_148) (cwV 0 hts (gd_V (wm3 19 rfl rfl) (wm2 217 rfl rfl) (wm2 218 rfl rfl) (wm1 3 rfl rfl) (wm2 219 rfl rfl)) rfl rfl rfl (by decide +kernel) ⟨Nat.le_of_ble_eq_true rfl, Nat.le_of_ble_eq_true rfl⟩) hK hNw hG gl_20 rfl gk_20 (by decide) rfl rfl hl.1 rfl (lv_room (Nat.le_of_ble_eq_true rfl)) dX10_count_148 ⟨Nat.zero_le _, Nat.zero_le _⟩) hG (fun r_148 h_148 g_148 H locs hq hG => ?_)
                      replace HW := HW r_148 h_148 g_148 hq
                      exact W.iret (v := r_148) hx hb hr (fun t ht hW => ⟨⟨r_148, (h_148, g_148), rfl, HW, g_B ht hG⟩, hG.2.2.F ht⟩) hG.2.2.2.2 dX10_count_151
                    · by_cases c_1_9 : x1 = 9
                      · replace HW := HW.2.2.2.2.2.2.2.2.2.1 c_1_9
                        refine lv_tableIn (tgt := 152) (off := 151) hx hb dX10_count_1 (by rw [c_1_9]; first | done | decide) (by rw [c_1_9]; first | done | decide) (by rw [c_1_9]; first | done | rfl) (by decide) ?_
                        refine lv_aload_n hx hb dX10_count_152 rfl (lv_at hl 0 rfl) ?_
                        refine g_getr hx hb hw inG10 hown hK hG gl_0 rfl gk_0 (by decide) 0 (by decide) (by rw [gm_0]; decide) (r := 1) gr_0_0 lk10 dX10_count_153 ?_
                        refine g_getr hx hb hw inG6 hown hK hG gl_1 rfl gk_1 (by decide) 11 (by decide) (by rw [gm_1]; decide) (r := 24) gr_1_11 lk109 dX10_count_156 ?_
                        obtain ⟨P_159, HC_159, HW⟩ := HW
                        refine g_calli (g_runV (As := []) (rest := []) ⟨hx, hb, hml, hown, hts⟩ (m_X8_rows l D cy ad h g H.size 24 (gs_24) P_159 HC_159) (cwV 0 hts (gd_V (wm3 19 rfl rfl) (wm2 217 rfl rfl) (wm2 218 rfl rfl) (wm1 3 rfl rfl) (wm2 219 rfl rfl)) rfl rfl rfl (by decide +kernel) ⟨Nat.le_of_ble_eq_true rfl, Nat.le_of_ble_eq_true rfl⟩) hK hNw hG gl_24 rfl gk_24 (by decide) rfl rfl hl.1 rfl (lv_room (Nat.le_of_ble_eq_true rfl)) dX10_count_159 ⟨Nat.zero_le _, Nat.zero_le _⟩) hG (fun r_159 h_159 g_159 H locs hq hG => ?_)
                        replace HW := HW r_159 h_159 g_159 hq
                        exact W.iret (v := r_159) hx hb hr (fun t ht hW => ⟨⟨r_159, (h_159, g_159), rfl, HW, g_B ht hG⟩, hG.2.2.F ht⟩) hG.2.2.2.2 dX10_count_162
                      · replace HW := HW.2.2.2.2.2.2.2.2.2.2 c_1_0 c_1_1 c_1_2 c_1_3 c_1_4 c_1_5 c_1_6 c_1_7 c_1_8 c_1_9
                        have z_1_0 := g_ne c_1_0 (n := 0) (by decide)
                        have z_1_1 := g_ne c_1_1 (n := 1) (by decide)
                        have z_1_2 := g_ne c_1_2 (n := 2) (by decide)
                        have z_1_3 := g_ne c_1_3 (n := 3) (by decide)
                        have z_1_4 := g_ne c_1_4 (n := 4) (by decide)
                        have z_1_5 := g_ne c_1_5 (n := 5) (by decide)
                        have z_1_6 := g_ne c_1_6 (n := 6) (by decide)
                        have z_1_7 := g_ne c_1_7 (n := 7) (by decide)
                        have z_1_8 := g_ne c_1_8 (n := 8) (by decide)
                        have z_1_9 := g_ne c_1_9 (n := 9) (by decide)
                        refine lv_tableOut (tgt := 163) hx hb dX10_count_1 (by omega) (by decide) ?_
                        refine lv_bipush (v := (-2)) hx hb dX10_count_163 (by decide) ?_
                        exact W.iret (v := (-2 : Int32)) hx hb hr (fun t ht hW => ⟨⟨(-2 : Int32), (h, g), rfl, HW, g_B ht hG⟩, hG.2.2.F ht⟩) hG.2.2.2.2 dX10_count_165
  exact E0 _ _ _ hG hl
end
section
-- 03.w13
def b_X10_withRow_6 (o2 : Nat) (Q : Int64 → HI → HL → Prop) (K6 : Int32 → Int32 → Int64 → Int32 → HI → HL → Prop) (x3 : Int32) (x4 : Int32) (x5 : Int64) (x7 : Int32) (h : HI) (g : HL) : Prop :=
  ((x4 ≤ x7 → Q x5 h g) ∧ (¬ x4 ≤ x7 → (∃ P_23 : Int32 → HI → HL → Prop, w_X8_at o2 x3 x7 h g P_23 ∧ ∀ (r_23 : Int32) (h_23 : HI) (g_23 : HL), P_23 r_23 h_23 g_23 → (∀ x5_28 : Int64, x5_28 = (((31 : Int64) * x5) + ((r_23).toInt64)) → (∀ x7_30 : Int32, x7_30 = (x7 + 1) → K6 x3 x4 x5_28 x7_30 h_23 g_23)))))
def F_X10_withRow_6 (o2 : Nat) (Q : Int64 → HI → HL → Prop) (K : Int32 × Int32 × Int64 × Int32 × HI × HL → Prop) (q : Int32 × Int32 × Int64 × Int32 × HI × HL) : Prop := b_X10_withRow_6 o2 Q (fun x3 x4 x5 x7 h g => K (x3, x4, x5, x7, h, g)) q.1 q.2.1 q.2.2.1 q.2.2.2.1 q.2.2.2.2.1 q.2.2.2.2.2
def w_X10_withRow (x0 : Int64) (o2 : Nat) (x3 : Int32) (x4 : Int32) (h : HI) (g : HL) (Q : Int64 → HI → HL → Prop) : Prop :=
  lpE (F_X10_withRow_6 o2 Q) (x3, x4, x0, (0 : Int32), h, g)
set_option maxHeartbeats 8000000 in
set_option maxRecDepth 100000 in
theorem m_X10_withRow (l : Launch) (D : va_G) (cy : Nat → ClassId) (ad : Nat → Nat) (h : HI) (g : HL) (sz : Nat) (x0 : Int64) (o2 : Nat) (hT2 : isT o2) (x3 : Int32) (x4 : Int32) (Q : Int64 → HI → HL → Prop) (HW : w_X10_withRow x0 o2 x3 x4 h g Q) : Met l yX10_withRow (wa yX10_withRow cX10_withRow 8 (some .long)) ({ frames := 1, cells := 0, slots := 0, locals := 23 }) (va_Pc [.long x0, .ref (ad o2), .int x3, .int x4] (gI D cy ad h g sz)) (va_Ql (fun (r : Int64) (u : HI × HL) => Q r u.1 u.2) (gB D cy ad sz) (gA ad sz)) 0 0 (gA ad sz) := by
  refine Met.ofW (cc := cX10_withRow) (maxL := 8) (ret := (some .long)) (by decide) rfl ?_
  intro p e s m args below meth c s₁ B hml hv
  obtain ⟨hav, hsz, hP, hK, hD0, hNw⟩ := hv
  have hx := B.exec
  have hb := B.bytes
  have hr := B.returns
  have hts := atoms_spec (ws := (wa yX10_withRow cX10_withRow 8 (some .long))) B.pre
  have hw := wa_hw hts
  have hown : s.vm.findClass RX10 = some m.cls := findClass_of_methodNamed B.named
  have hlocks := B.notSynchronized
  subst hsz
  have hG : gG D cy ad (gA ad s.heap.size) s.heap h g s.heap [] := ⟨hP, gA_self hD0, va_S.rf⟩
  clear hP hD0
  have cn263 := hw (.constantLong RX10 263 (31)) (wm5 3 rfl rfl)
  rw [show (headSpec (wa yX10_withRow cX10_withRow 8 (some .long)) ({ frames := 1, cells := 0, slots := 0, locals := 23 } : Room)).room = ({ frames := 1, cells := 0, slots := 0, locals := 23 } : Room) from rfl]
  have hl := lv_entry ([.long x0, .ref (ad o2), .int x3, .int x4]) (n := 8) (Nat.le_of_ble_eq_true rfl)
  rw [show entryFrame m args 8 = entryFrame m ([.long x0, .ref (ad o2), .int x3, .int x4] : List Value).toArray 8 from by rw [hav], lg_entry_eq]
  generalize (lg_sl ([.long x0, .ref (ad o2), .int x3, .int x4]) ++ List.replicate (8 - (lg_sl ([.long x0, .ref (ad o2), .int x3, .int x4])).length) Slot.unset).toArray = ls at hl ⊢
  have hl : lv_has ls 8 [(0, .long x0), (2, .ref (ad o2)), (3, .int x3), (4, .int x4)] := hl
  have L6 : ∀ (n : Nat) (x3 : Int32) (x4 : Int32) (x5 : Int64) (x7 : Int32) (h : HI) (g : HL) (H : Heap) (locs : List Loc) (ls : Array Slot), lpN (F_X10_withRow_6 o2 Q) n (x3, x4, x5, x7, h, g) → gG D cy ad (gA ad s.heap.size) s.heap h g H locs → lv_has ls 8 [(2, .ref (ad o2)), (3, .int x3), (4, .int x4), (5, .long x5), (7, .int x7)] → W p l e ({ frames := 1, cells := 0, slots := 0, locals := 23 } : Room) s m args below meth c H locs 0 0 (MQ below (va_Ql (fun (r : Int64) (u : HI × HL) => Q r u.1 u.2) (gB D cy ad s.heap.size) (gA ad s.heap.size)) args s 0 0 (gA ad s.heap.size)) (F0 m 6 ls []) := by
    intro n
    induction n with
    | zero => intro x3 x4 x5 x7 h g H locs ls HW; exact HW.elim
    | succ n ih =>
      intro x3 x4 x5 x7 h g H locs ls HW hG hl
      have HW : b_X10_withRow_6 o2 Q (fun x3 x4 x5 x7 h g => lpN (F_X10_withRow_6 o2 Q) n (x3, x4, x5, x7, h, g)) x3 x4 x5 x7 h g := HW
      generalize hKe : (fun (x3 : Int32) (x4 : Int32) (x5 : Int64) (x7 : Int32) (h : HI) (g : HL) => lpN (F_X10_withRow_6 o2 Q) n (x3, x4, x5, x7, h, g)) = K6 at HW
      have hK6 : ∀ (x3 : Int32) (x4 : Int32) (x5 : Int64) (x7 : Int32) (h : HI) (g : HL) (H : Heap) (locs : List Loc) (ls : Array Slot), K6 x3 x4 x5 x7 h g → gG D cy ad (gA ad s.heap.size) s.heap h g H locs → lv_has ls 8 [(2, .ref (ad o2)), (3, .int x3), (4, .int x4), (5, .long x5), (7, .int x7)] → W p l e ({ frames := 1, cells := 0, slots := 0, locals := 23 } : Room) s m args below meth c H locs 0 0 (MQ below (va_Ql (fun (r : Int64) (u : HI × HL) => Q r u.1 u.2) (gB D cy ad s.heap.size) (gA ad s.heap.size)) args s 0 0 (gA ad s.heap.size)) (F0 m 6 ls []) := by subst hKe; exact ih
      clear ih
      clear hKe
      unfold b_X10_withRow_6 at HW
      refine lv_iload hx hb dX10_withRow_6 (lv_at hl 4 rfl) ?_
      refine lv_iload hx hb dX10_withRow_8 (lv_at hl 2 rfl) ?_
      refine lv_icmp_ge (tgt := 36) hx hb dX10_withRow_10 (by decide) (fun c_10 => ?_) (fun c_10 => ?_)
      · replace HW := HW.1 c_10
        refine lv_lload hx hb dX10_withRow_36 (lv_at hl 3 rfl) ?_
        exact W.lret (v := x5) hx hb hr (fun t ht hW => ⟨⟨x5, (h, g), rfl, HW, g_B ht hG⟩, hG.2.2.F ht⟩) hG.2.2.2.2 dX10_withRow_38
      · replace HW := HW.2 c_10
        refine lv_ldc2 (v := 31) hx hb hown cn263 dX10_withRow_13 ?_
        refine lv_lload hx hb dX10_withRow_16 (lv_at hl 3 rfl) ?_
        refine lv_lmul hx hb dX10_withRow_18 ?_
        refine lv_aload_n hx hb dX10_withRow_19 rfl (lv_at hl 0 rfl) ?_
        refine lv_iload_n hx hb dX10_withRow_20 rfl (lv_at hl 1 rfl) ?_
        refine lv_iload hx hb dX10_withRow_21 (lv_at hl 4 rfl) ?_
        obtain ⟨P_23, HC_23, HW⟩ := HW
        refine g_calli (g_runV (As := [.int x3, .int x7]) (rest := [.long ((31 : Int64) * x5)]) ⟨hx, hb, hml, hown, hts⟩ (m_X8_at l D cy ad h g H.size o2 hT2 x3 x7 P_23 HC_23) (cwV 2 hts (gd_V (wm3 69 rfl rfl) (wm2 221 rfl rfl) (wm2 222 rfl rfl) (wm1 3 rfl rfl) (wm2 223 rfl rfl)) rfl rfl rfl (by decide +kernel) ⟨Nat.le_of_ble_eq_true rfl, Nat.le_of_ble_eq_true rfl⟩) hK hNw hG hT2.lt rfl hT2.k (by decide) rfl rfl hl.1 rfl (lv_room (Nat.le_of_ble_eq_true rfl)) dX10_withRow_23 ⟨Nat.zero_le _, Nat.zero_le _⟩) hG (fun r_23 h_23 g_23 H locs hq hG => ?_)
        replace HW := HW r_23 h_23 g_23 hq
        refine lv_i2l hx hb dX10_withRow_26 rfl ?_
        refine lv_ladd hx hb dX10_withRow_27 ?_
        refine lv_topl (fun x5_28 ex5_28 => ?_)
        replace HW := HW x5_28 ex5_28
        refine lv_lstore (lv' := [(5, .long x5_28), (2, .ref (ad o2)), (3, .int x3), (4, .int x4), (7, .int x7)]) hx hb dX10_withRow_28 hl (by decide) rfl (fun ls hl => ?_)
        obtain ⟨x7_30, ex7_30⟩ : ∃ y : Int32, y = (x7 + 1) := ⟨_, rfl⟩
        replace HW := HW x7_30 ex7_30
        refine lv_iinc (v := x7_30) (lv' := [(7, .int x7_30), (5, .long x5_28), (2, .ref (ad o2)), (3, .int x3), (4, .int x4)]) hx hb dX10_withRow_30 hl (k := 4) rfl (by rw [ex7_30]; rfl) (by decide) rfl (fun ls hl => ?_)
        refine lv_goto (tgt := 6) hx hb dX10_withRow_33 (by decide) ?_
        exact hK6 x3 x4 x5_28 x7_30 h_23 g_23 _ _ _ HW hG (lv_sub hl [2, 3, 4, 1, 0] rfl)
  have E0 : ∀ (H : Heap) (locs : List Loc) (ls : Array Slot), gG D cy ad (gA ad s.heap.size) s.heap h g H locs → lv_has ls 8 [(0, .long x0), (2, .ref (ad o2)), (3, .int x3), (4, .int x4)] → W p l e ({ frames := 1, cells := 0, slots := 0, locals := 23 } : Room) s m args below meth c H locs 0 0 (MQ below (va_Ql (fun (r : Int64) (u : HI × HL) => Q r u.1 u.2) (gB D cy ad s.heap.size) (gA ad s.heap.size)) args s 0 0 (gA ad s.heap.size)) (F0 m 0 ls []) := by
    intro H locs ls hG hl
    unfold w_X10_withRow at HW
    refine lv_lload_n hx hb dX10_withRow_0 rfl (lv_at hl 0 rfl) ?_
    refine lv_lstore (lv' := [(5, .long x0), (0, .long x0), (2, .ref (ad o2)), (3, .int x3), (4, .int x4)]) hx hb dX10_withRow_1 hl (by decide) rfl (fun ls hl => ?_)
    refine lv_iconst (v := 0) hx hb dX10_withRow_3 (by decide) ?_
    refine lv_istore (lv' := [(7, .int (0 : Int32)), (5, .long x0), (0, .long x0), (2, .ref (ad o2)), (3, .int x3), (4, .int x4)]) hx hb dX10_withRow_4 hl (by decide) rfl (fun ls hl => ?_)
    obtain ⟨n_6, HW⟩ := HW
    exact L6 n_6 x3 x4 x0 (0 : Int32) h g _ _ _ HW hG (lv_sub hl [3, 4, 5, 1, 0] rfl)
  exact E0 _ _ _ hG hl

def b_X10_withParts_47 (Q : Int64 → HI → HL → Prop) (K5 : Int64 → Int32 → HI → HL → Prop) (K47 : Int64 → Int32 → Int32 → HI → HL → Prop) (x3 : Int64) (x5 : Int32) (x6 : Int32) (h : HI) (g : HL) : Prop :=
  (((3 : Int32) ≤ x6 → (∃ P_87 : Int32 → HI → HL → Prop, w_X1_reached x5 h g P_87 ∧ ∀ (r_87 : Int32) (h_87 : HI) (g_87 : HL), P_87 r_87 h_87 g_87 → (∀ x3_92 : Int64, x3_92 = (((31 : Int64) * x3) + ((r_87).toInt64)) → (∀ x5_93 : Int32, x5_93 = (x5 + 1) → K5 x3_92 x5_93 h_87 g_87)))) ∧ (¬ (3 : Int32) ≤ x6 → (∃ P_64 : Int32 → HI → HL → Prop, w_X7_answer x6 h g P_64 ∧ ∀ (r_64 : Int32) (h_64 : HI) (g_64 : HL), P_64 r_64 h_64 g_64 → (∀ x3_69 : Int64, x3_69 = (((31 : Int64) * x3) + ((r_64).toInt64)) → (∀ x6_70 : Int32, x6_70 = (x6 + 1) → K47 x3_69 x5 x6_70 h_64 g_64)))))
def F_X10_withParts_47 (Q : Int64 → HI → HL → Prop) (K5 : Int64 → Int32 → HI → HL → Prop) (K : Int64 × Int32 × Int32 × HI × HL → Prop) (q : Int64 × Int32 × Int32 × HI × HL) : Prop := b_X10_withParts_47 Q K5 (fun x3 x5 x6 h g => K (x3, x5, x6, h, g)) q.1 q.2.1 q.2.2.1 q.2.2.2.1 q.2.2.2.2
def b_X10_withParts_5 (Q : Int64 → HI → HL → Prop) (K5 : Int64 → Int32 → HI → HL → Prop) (x3 : Int64) (x5 : Int32) (h : HI) (g : HL) : Prop :=
  (∃ P_14 : Int32 → HI → HL → Prop, w_X8_rows 2 h g P_14 ∧ ∀ (r_14 : Int32) (h_14 : HI) (g_14 : HL), P_14 r_14 h_14 g_14 → ((r_14 ≤ x5 → Q x3 h_14 g_14) ∧ (¬ r_14 ≤ x5 → (∃ P_31 : Int64 → HI → HL → Prop, w_X10_withRow x3 2 x5 (4 : Int32) h_14 g_14 P_31 ∧ ∀ (r_31 : Int64) (h_31 : HI) (g_31 : HL), P_31 r_31 h_31 g_31 → (∃ P_41 : HI → HL → Prop, w_X7_find x5 h_31 g_31 P_41 ∧ ∀ (h_41 : HI) (g_41 : HL), P_41 h_41 g_41 → lpE (F_X10_withParts_47 Q K5) (r_31, x5, (0 : Int32), h_41, g_41))))))
def F_X10_withParts_5 (Q : Int64 → HI → HL → Prop) (K : Int64 × Int32 × HI × HL → Prop) (q : Int64 × Int32 × HI × HL) : Prop := b_X10_withParts_5 Q (fun x3 x5 h g => K (x3, x5, h, g)) q.1 q.2.1 q.2.2.1 q.2.2.2
def w_X10_withParts (x1 : Int64) (h : HI) (g : HL) (Q : Int64 → HI → HL → Prop) : Prop :=
  lpE (F_X10_withParts_5 Q) (x1, (0 : Int32), h, g)
set_option maxHeartbeats 8000000 in
set_option maxRecDepth 100000 in
theorem m_X10_withParts (l : Launch) (D : va_G) (cy : Nat → ClassId) (ad : Nat → Nat) (h : HI) (g : HL) (sz : Nat) (x1 : Int64) (Q : Int64 → HI → HL → Prop) (HW : w_X10_withParts x1 h g Q) : Met l yX10_withParts (wa yX10_withParts cX10_withParts 7 (some .long)) ({ frames := 5, cells := 0, slots := 0, locals := 124 }) (va_Pc [.ref (ad 0), .long x1] (gI D cy ad h g sz)) (va_Ql (fun (r : Int64) (u : HI × HL) => Q r u.1 u.2) (gB D cy ad sz) (gA ad sz)) 0 0 (gA ad sz) := by
  refine Met.ofW (cc := cX10_withParts) (maxL := 7) (ret := (some .long)) (by decide) rfl ?_
  intro p e s m args below meth c s₁ B hml hv
  obtain ⟨hav, hsz, hP, hK, hD0, hNw⟩ := hv
  have hx := B.exec
  have hb := B.bytes
  have hr := B.returns
  have hts := atoms_spec (ws := (wa yX10_withParts cX10_withParts 7 (some .long))) B.pre
  have hw := wa_hw hts
  have hown : s.vm.findClass RX10 = some m.cls := findClass_of_methodNamed B.named
  have hlocks := B.notSynchronized
  subst hsz
  have hG : gG D cy ad (gA ad s.heap.size) s.heap h g s.heap [] := ⟨hP, gA_self hD0, va_S.rf⟩
  clear hP hD0
  have lk10 := hw (.fieldLink RX10 10 "OldWorks" "shop" "LOldWorks$Shop;") (wm2 155 rfl rfl)
  have lk85 := hw (.fieldLink RX10 85 "OldWorks$Shop" "parts" "LOldWorks$Table;") (wm1 62 rfl rfl)
  have lk40 := hw (.fieldLink RX10 40 "OldWorks" "sizes" "LOldWorks$Sizes;") (wm2 160 rfl rfl)
  have cn263 := hw (.constantLong RX10 263 (31)) (wm5 3 rfl rfl)
  have lk70 := hw (.fieldLink RX10 70 "OldWorks" "breaks" "LOldWorks$Breaks;") (wm2 164 rfl rfl)
  rw [show (headSpec (wa yX10_withParts cX10_withParts 7 (some .long)) ({ frames := 5, cells := 0, slots := 0, locals := 124 } : Room)).room = ({ frames := 5, cells := 0, slots := 0, locals := 124 } : Room) from rfl]
  have hl := lv_entry ([.ref (ad 0), .long x1]) (n := 7) (Nat.le_of_ble_eq_true rfl)
  rw [show entryFrame m args 7 = entryFrame m ([.ref (ad 0), .long x1] : List Value).toArray 7 from by rw [hav], lg_entry_eq]
  generalize (lg_sl ([.ref (ad 0), .long x1]) ++ List.replicate (7 - (lg_sl ([.ref (ad 0), .long x1])).length) Slot.unset).toArray = ls at hl ⊢
  have hl : lv_has ls 7 [(0, .ref (ad 0)), (1, .long x1)] := hl
  have L47 : ∀ (K5 : Int64 → Int32 → HI → HL → Prop) (hK5 : ∀ (x3 : Int64) (x5 : Int32) (h : HI) (g : HL) (H : Heap) (locs : List Loc) (ls : Array Slot), K5 x3 x5 h g → gG D cy ad (gA ad s.heap.size) s.heap h g H locs → lv_has ls 7 [(0, .ref (ad 0)), (3, .long x3), (5, .int x5)] → W p l e ({ frames := 5, cells := 0, slots := 0, locals := 124 } : Room) s m args below meth c H locs 0 0 (MQ below (va_Ql (fun (r : Int64) (u : HI × HL) => Q r u.1 u.2) (gB D cy ad s.heap.size) (gA ad s.heap.size)) args s 0 0 (gA ad s.heap.size)) (F0 m 5 ls [])) (n : Nat) (x3 : Int64) (x5 : Int32) (x6 : Int32) (h : HI) (g : HL) (H : Heap) (locs : List Loc) (ls : Array Slot), lpN (F_X10_withParts_47 Q K5) n (x3, x5, x6, h, g) → gG D cy ad (gA ad s.heap.size) s.heap h g H locs → lv_has ls 7 [(0, .ref (ad 0)), (3, .long x3), (5, .int x5), (6, .int x6)] → W p l e ({ frames := 5, cells := 0, slots := 0, locals := 124 } : Room) s m args below meth c H locs 0 0 (MQ below (va_Ql (fun (r : Int64) (u : HI × HL) => Q r u.1 u.2) (gB D cy ad s.heap.size) (gA ad s.heap.size)) args s 0 0 (gA ad s.heap.size)) (F0 m 47 ls []) := by
    intro K5 hK5 n
    induction n with
    | zero => intro x3 x5 x6 h g H locs ls HW; exact HW.elim
    | succ n ih =>
      intro x3 x5 x6 h g H locs ls HW hG hl
      have HW : b_X10_withParts_47 Q K5 (fun x3 x5 x6 h g => lpN (F_X10_withParts_47 Q K5) n (x3, x5, x6, h, g)) x3 x5 x6 h g := HW
      generalize hKe : (fun (x3 : Int64) (x5 : Int32) (x6 : Int32) (h : HI) (g : HL) => lpN (F_X10_withParts_47 Q K5) n (x3, x5, x6, h, g)) = K47 at HW
      have hK47 : ∀ (x3 : Int64) (x5 : Int32) (x6 : Int32) (h : HI) (g : HL) (H : Heap) (locs : List Loc) (ls : Array Slot), K47 x3 x5 x6 h g → gG D cy ad (gA ad s.heap.size) s.heap h g H locs → lv_has ls 7 [(0, .ref (ad 0)), (3, .long x3), (5, .int x5), (6, .int x6)] → W p l e ({ frames := 5, cells := 0, slots := 0, locals := 124 } : Room) s m args below meth c H locs 0 0 (MQ below (va_Ql (fun (r : Int64) (u : HI × HL) => Q r u.1 u.2) (gB D cy ad s.heap.size) (gA ad s.heap.size)) args s 0 0 (gA ad s.heap.size)) (F0 m 47 ls []) := by subst hKe; exact ih
      clear ih
      clear hKe
      unfold b_X10_withParts_47 at HW
      refine lv_iload hx hb dX10_withParts_47 (lv_at hl 3 rfl) ?_
      refine lv_iconst (v := 3) hx hb dX10_withParts_49 (by decide) ?_
      refine lv_icmp_ge (tgt := 76) hx hb dX10_withParts_50 (by decide) (fun c_50 => ?_) (fun c_50 => ?_)
      · replace HW := HW.1 c_50
        refine lv_ldc2 (v := 31) hx hb hown cn263 dX10_withParts_76 ?_
        refine lv_lload_n hx hb dX10_withParts_79 rfl (lv_at hl 1 rfl) ?_
        refine lv_lmul hx hb dX10_withParts_80 ?_
        refine lv_aload_n hx hb dX10_withParts_81 rfl (lv_at hl 0 rfl) ?_
        refine g_getr hx hb hw inG10 hown hK hG gl_0 rfl gk_0 (by decide) 9 (by decide) (by rw [gm_0]; decide) (r := 109) gr_0_9 lk70 dX10_withParts_82 ?_
        refine lv_iload hx hb dX10_withParts_85 (lv_at hl 2 rfl) ?_
        obtain ⟨P_87, HC_87, HW⟩ := HW
        refine g_calli (g_runV (As := [.int x5]) (rest := [.long ((31 : Int64) * x3)]) ⟨hx, hb, hml, hown, hts⟩ (m_X1_reached l D cy ad h g H.size x5 P_87 HC_87) (cwV 1 hts (gd_V (wm4 134 rfl rfl) (wm4 135 rfl rfl) (wm4 136 rfl rfl) (wm1 10 rfl rfl) (wm4 137 rfl rfl)) rfl rfl rfl (by decide +kernel) ⟨Nat.le_of_ble_eq_true rfl, Nat.le_of_ble_eq_true rfl⟩) hK hNw hG gl_109 rfl gk_109 (by decide) rfl rfl hl.1 rfl (lv_room (Nat.le_of_ble_eq_true rfl)) dX10_withParts_87 ⟨Nat.zero_le _, Nat.zero_le _⟩) hG (fun r_87 h_87 g_87 H locs hq hG => ?_)
        replace HW := HW r_87 h_87 g_87 hq
        refine lv_i2l hx hb dX10_withParts_90 rfl ?_
        refine lv_ladd hx hb dX10_withParts_91 ?_
        refine lv_topl (fun x3_92 ex3_92 => ?_)
        replace HW := HW x3_92 ex3_92
        refine lv_lstore_n (lv' := [(3, .long x3_92), (0, .ref (ad 0)), (5, .int x5), (6, .int x6)]) hx hb dX10_withParts_92 rfl hl (by decide) rfl (fun ls hl => ?_)
        obtain ⟨x5_93, ex5_93⟩ : ∃ y : Int32, y = (x5 + 1) := ⟨_, rfl⟩
        replace HW := HW x5_93 ex5_93
        refine lv_iinc (v := x5_93) (lv' := [(5, .int x5_93), (3, .long x3_92), (0, .ref (ad 0)), (6, .int x6)]) hx hb dX10_withParts_93 hl (k := 2) rfl (by rw [ex5_93]; rfl) (by decide) rfl (fun ls hl => ?_)
        refine lv_goto (tgt := 5) hx hb dX10_withParts_96 (by decide) ?_
        exact hK5 x3_92 x5_93 h_87 g_87 _ _ _ HW hG (lv_sub hl [2, 1, 0] rfl)
      · replace HW := HW.2 c_50
        refine lv_ldc2 (v := 31) hx hb hown cn263 dX10_withParts_53 ?_
        refine lv_lload_n hx hb dX10_withParts_56 rfl (lv_at hl 1 rfl) ?_
        refine lv_lmul hx hb dX10_withParts_57 ?_
        refine lv_aload_n hx hb dX10_withParts_58 rfl (lv_at hl 0 rfl) ?_
        refine g_getr hx hb hw inG10 hown hK hG gl_0 rfl gk_0 (by decide) 5 (by decide) (by rw [gm_0]; decide) (r := 81) gr_0_5 lk40 dX10_withParts_59 ?_
        refine lv_iload hx hb dX10_withParts_62 (lv_at hl 3 rfl) ?_
        obtain ⟨P_64, HC_64, HW⟩ := HW
        refine g_calli (g_runV (As := [.int x6]) (rest := [.long ((31 : Int64) * x3)]) ⟨hx, hb, hml, hown, hts⟩ (m_X7_answer l D cy ad h g H.size x6 P_64 HC_64) (cwV 1 hts (gd_V (wm3 105 rfl rfl) (wm3 106 rfl rfl) (wm3 107 rfl rfl) (wm1 5 rfl rfl) (wm3 108 rfl rfl)) rfl rfl rfl (by decide +kernel) ⟨Nat.le_of_ble_eq_true rfl, Nat.le_of_ble_eq_true rfl⟩) hK hNw hG gl_81 rfl gk_81 (by decide) rfl rfl hl.1 rfl (lv_room (Nat.le_of_ble_eq_true rfl)) dX10_withParts_64 ⟨Nat.zero_le _, Nat.zero_le _⟩) hG (fun r_64 h_64 g_64 H locs hq hG => ?_)
        replace HW := HW r_64 h_64 g_64 hq
        refine lv_i2l hx hb dX10_withParts_67 rfl ?_
        refine lv_ladd hx hb dX10_withParts_68 ?_
        refine lv_topl (fun x3_69 ex3_69 => ?_)
        replace HW := HW x3_69 ex3_69
        refine lv_lstore_n (lv' := [(3, .long x3_69), (0, .ref (ad 0)), (5, .int x5), (6, .int x6)]) hx hb dX10_withParts_69 rfl hl (by decide) rfl (fun ls hl => ?_)
        obtain ⟨x6_70, ex6_70⟩ : ∃ y : Int32, y = (x6 + 1) := ⟨_, rfl⟩
        replace HW := HW x6_70 ex6_70
        refine lv_iinc (v := x6_70) (lv' := [(6, .int x6_70), (3, .long x3_69), (0, .ref (ad 0)), (5, .int x5)]) hx hb dX10_withParts_70 hl (k := 3) rfl (by rw [ex6_70]; rfl) (by decide) rfl (fun ls hl => ?_)
        refine lv_goto (tgt := 47) hx hb dX10_withParts_73 (by decide) ?_
        exact hK47 x3_69 x5 x6_70 h_64 g_64 _ _ _ HW hG (lv_sub hl [2, 1, 3, 0] rfl)
  have L5 : ∀ (n : Nat) (x3 : Int64) (x5 : Int32) (h : HI) (g : HL) (H : Heap) (locs : List Loc) (ls : Array Slot), lpN (F_X10_withParts_5 Q) n (x3, x5, h, g) → gG D cy ad (gA ad s.heap.size) s.heap h g H locs → lv_has ls 7 [(0, .ref (ad 0)), (3, .long x3), (5, .int x5)] → W p l e ({ frames := 5, cells := 0, slots := 0, locals := 124 } : Room) s m args below meth c H locs 0 0 (MQ below (va_Ql (fun (r : Int64) (u : HI × HL) => Q r u.1 u.2) (gB D cy ad s.heap.size) (gA ad s.heap.size)) args s 0 0 (gA ad s.heap.size)) (F0 m 5 ls []) := by
    intro n
    induction n with
    | zero => intro x3 x5 h g H locs ls HW; exact HW.elim
    | succ n ih =>
      intro x3 x5 h g H locs ls HW hG hl
      have HW : b_X10_withParts_5 Q (fun x3 x5 h g => lpN (F_X10_withParts_5 Q) n (x3, x5, h, g)) x3 x5 h g := HW
      generalize hKe : (fun (x3 : Int64) (x5 : Int32) (h : HI) (g : HL) => lpN (F_X10_withParts_5 Q) n (x3, x5, h, g)) = K5 at HW
      have hK5 : ∀ (x3 : Int64) (x5 : Int32) (h : HI) (g : HL) (H : Heap) (locs : List Loc) (ls : Array Slot), K5 x3 x5 h g → gG D cy ad (gA ad s.heap.size) s.heap h g H locs → lv_has ls 7 [(0, .ref (ad 0)), (3, .long x3), (5, .int x5)] → W p l e ({ frames := 5, cells := 0, slots := 0, locals := 124 } : Room) s m args below meth c H locs 0 0 (MQ below (va_Ql (fun (r : Int64) (u : HI × HL) => Q r u.1 u.2) (gB D cy ad s.heap.size) (gA ad s.heap.size)) args s 0 0 (gA ad s.heap.size)) (F0 m 5 ls []) := by subst hKe; exact ih
      clear ih
      clear hKe
      unfold b_X10_withParts_5 at HW
      refine lv_iload hx hb dX10_withParts_5 (lv_at hl 2 rfl) ?_
      refine lv_aload_n hx hb dX10_withParts_7 rfl (lv_at hl 0 rfl) ?_
      refine g_getr hx hb hw inG10 hown hK hG gl_0 rfl gk_0 (by decide) 0 (by decide) (by rw [gm_0]; decide) (r := 1) gr_0_0 lk10 dX10_withParts_8 ?_
      refine g_getr hx hb hw inG6 hown hK hG gl_1 rfl gk_1 (by decide) 0 (by decide) (by rw [gm_1]; decide) (r := 2) gr_1_0 lk85 dX10_withParts_11 ?_
      obtain ⟨P_14, HC_14, HW⟩ := HW
      refine g_calli (g_runV (As := []) (rest := [.int x5]) ⟨hx, hb, hml, hown, hts⟩ (m_X8_rows l D cy ad h g H.size 2 (gs_2) P_14 HC_14) (cwV 0 hts (gd_V (wm3 19 rfl rfl) (wm2 217 rfl rfl) (wm2 218 rfl rfl) (wm1 3 rfl rfl) (wm2 219 rfl rfl)) rfl rfl rfl (by decide +kernel) ⟨Nat.le_of_ble_eq_true rfl, Nat.le_of_ble_eq_true rfl⟩) hK hNw hG gl_2 rfl gk_2 (by decide) rfl rfl hl.1 rfl (lv_room (Nat.le_of_ble_eq_true rfl)) dX10_withParts_14 ⟨Nat.zero_le _, Nat.zero_le _⟩) hG (fun r_14 h_14 g_14 H locs hq hG => ?_)
      replace HW := HW r_14 h_14 g_14 hq
      refine lv_icmp_ge (tgt := 99) hx hb dX10_withParts_17 (by decide) (fun c_17 => ?_) (fun c_17 => ?_)
      · replace HW := HW.1 c_17
        refine lv_lload_n hx hb dX10_withParts_99 rfl (lv_at hl 1 rfl) ?_
        exact W.lret (v := x3) hx hb hr (fun t ht hW => ⟨⟨x3, (h_14, g_14), rfl, HW, g_B ht hG⟩, hG.2.2.F ht⟩) hG.2.2.2.2 dX10_withParts_100
      · replace HW := HW.2 c_17
        refine lv_lload_n hx hb dX10_withParts_20 rfl (lv_at hl 1 rfl) ?_
        refine lv_aload_n hx hb dX10_withParts_21 rfl (lv_at hl 0 rfl) ?_
        refine g_getr hx hb hw inG10 hown hK hG gl_0 rfl gk_0 (by decide) 0 (by decide) (by rw [gm_0]; decide) (r := 1) gr_0_0 lk10 dX10_withParts_22 ?_
        refine g_getr hx hb hw inG6 hown hK hG gl_1 rfl gk_1 (by decide) 0 (by decide) (by rw [gm_1]; decide) (r := 2) gr_1_0 lk85 dX10_withParts_25 ?_
        refine lv_iload hx hb dX10_withParts_28 (lv_at hl 2 rfl) ?_
        refine lv_iconst (v := 4) hx hb dX10_withParts_30 (by decide) ?_
        obtain ⟨P_31, HC_31, HW⟩ := HW
        refine g_calll (g_runS (As := [.long x3, .ref (ad 2), .int x5, .int (4 : Int32)]) (rest := []) ⟨hx, hb, hml, hown, hts⟩ (m_X10_withRow l D cy ad h_14 g_14 H.size x3 2 (gs_2) x5 (4 : Int32) P_31 HC_31) (va_cwS 4 hts (gd_S (wm5 9 rfl rfl) (wm5 10 rfl rfl) (wm1 1 rfl rfl) (wm5 11 rfl rfl)) rfl rfl rfl (by decide +kernel) ⟨Nat.le_of_ble_eq_true rfl, Nat.le_of_ble_eq_true rfl⟩) hK hNw hG rfl rfl hl.1 rfl (lv_room (Nat.le_of_ble_eq_true rfl)) dX10_withParts_31 ⟨Nat.zero_le _, Nat.zero_le _⟩) hG (fun r_31 h_31 g_31 H locs hq hG => ?_)
        replace HW := HW r_31 h_31 g_31 hq
        refine lv_lstore_n (lv' := [(3, .long r_31), (0, .ref (ad 0)), (5, .int x5)]) hx hb dX10_withParts_34 rfl hl (by decide) rfl (fun ls hl => ?_)
        refine lv_aload_n hx hb dX10_withParts_35 rfl (lv_at hl 1 rfl) ?_
        refine g_getr hx hb hw inG10 hown hK hG gl_0 rfl gk_0 (by decide) 5 (by decide) (by rw [gm_0]; decide) (r := 81) gr_0_5 lk40 dX10_withParts_36 ?_
        refine lv_iload hx hb dX10_withParts_39 (lv_at hl 2 rfl) ?_
        obtain ⟨P_41, HC_41, HW⟩ := HW
        refine g_callv (g_runV (As := [.int x5]) (rest := []) ⟨hx, hb, hml, hown, hts⟩ (m_X7_find l D cy ad h_31 g_31 H.size x5 P_41 HC_41) (cwV 1 hts (gd_V (wm3 74 rfl rfl) (wm3 75 rfl rfl) (wm3 76 rfl rfl) (wm1 5 rfl rfl) (wm3 77 rfl rfl)) rfl rfl rfl (by decide +kernel) ⟨Nat.le_of_ble_eq_true rfl, Nat.le_of_ble_eq_true rfl⟩) hK hNw hG gl_81 rfl gk_81 (by decide) rfl rfl hl.1 rfl (lv_room (Nat.le_of_ble_eq_true rfl)) dX10_withParts_41 ⟨Nat.zero_le _, Nat.zero_le _⟩) hG (fun h_41 g_41 H locs hq hG => ?_)
        replace HW := HW h_41 g_41 hq
        refine lv_iconst (v := 0) hx hb dX10_withParts_44 (by decide) ?_
        refine lv_istore (lv' := [(6, .int (0 : Int32)), (3, .long r_31), (0, .ref (ad 0)), (5, .int x5)]) hx hb dX10_withParts_45 hl (by decide) rfl (fun ls hl => ?_)
        obtain ⟨n_47, HW⟩ := HW
        exact L47 K5 hK5 n_47 r_31 x5 (0 : Int32) h_41 g_41 _ _ _ HW hG (lv_sub hl [2, 1, 3, 0] rfl)
  have E0 : ∀ (H : Heap) (locs : List Loc) (ls : Array Slot), gG D cy ad (gA ad s.heap.size) s.heap h g H locs → lv_has ls 7 [(0, .ref (ad 0)), (1, .long x1)] → W p l e ({ frames := 5, cells := 0, slots := 0, locals := 124 } : Room) s m args below meth c H locs 0 0 (MQ below (va_Ql (fun (r : Int64) (u : HI × HL) => Q r u.1 u.2) (gB D cy ad s.heap.size) (gA ad s.heap.size)) args s 0 0 (gA ad s.heap.size)) (F0 m 0 ls []) := by
    intro H locs ls hG hl
    unfold w_X10_withParts at HW
    refine lv_lload_n hx hb dX10_withParts_0 rfl (lv_at hl 1 rfl) ?_
    refine lv_lstore_n (lv' := [(3, .long x1), (0, .ref (ad 0)), (1, .long x1)]) hx hb dX10_withParts_1 rfl hl (by decide) rfl (fun ls hl => ?_)
    refine lv_iconst (v := 0) hx hb dX10_withParts_2 (by decide) ?_
    refine lv_istore (lv' := [(5, .int (0 : Int32)), (3, .long x1), (0, .ref (ad 0)), (1, .long x1)]) hx hb dX10_withParts_3 hl (by decide) rfl (fun ls hl => ?_)
    obtain ⟨n_5, HW⟩ := HW
    exact L5 n_5 x1 (0 : Int32) h g _ _ _ HW hG (lv_sub hl [2, 1, 0] rfl)
  exact E0 _ _ _ hG hl

def b_X10_withTable_6 (o2 : Nat) (Q : Int64 → HI → HL → Prop) (K6 : Int32 → Int64 → Int32 → HI → HL → Prop) (x3 : Int32) (x4 : Int64) (x6 : Int32) (h : HI) (g : HL) : Prop :=
  (∃ P_9 : Int32 → HI → HL → Prop, w_X8_rows o2 h g P_9 ∧ ∀ (r_9 : Int32) (h_9 : HI) (g_9 : HL), P_9 r_9 h_9 g_9 → ((r_9 ≤ x6 → Q x4 h_9 g_9) ∧ (¬ r_9 ≤ x6 → (∃ P_21 : Int64 → HI → HL → Prop, w_X10_withRow x4 o2 x6 x3 h_9 g_9 P_21 ∧ ∀ (r_21 : Int64) (h_21 : HI) (g_21 : HL), P_21 r_21 h_21 g_21 → (∀ x6_26 : Int32, x6_26 = (x6 + 1) → K6 x3 r_21 x6_26 h_21 g_21)))))
def F_X10_withTable_6 (o2 : Nat) (Q : Int64 → HI → HL → Prop) (K : Int32 × Int64 × Int32 × HI × HL → Prop) (q : Int32 × Int64 × Int32 × HI × HL) : Prop := b_X10_withTable_6 o2 Q (fun x3 x4 x6 h g => K (x3, x4, x6, h, g)) q.1 q.2.1 q.2.2.1 q.2.2.2.1 q.2.2.2.2
def w_X10_withTable (x0 : Int64) (o2 : Nat) (x3 : Int32) (h : HI) (g : HL) (Q : Int64 → HI → HL → Prop) : Prop :=
  lpE (F_X10_withTable_6 o2 Q) (x3, x0, (0 : Int32), h, g)
set_option maxHeartbeats 8000000 in
set_option maxRecDepth 100000 in
theorem m_X10_withTable (l : Launch) (D : va_G) (cy : Nat → ClassId) (ad : Nat → Nat) (h : HI) (g : HL) (sz : Nat) (x0 : Int64) (o2 : Nat) (hT2 : isT o2) (x3 : Int32) (Q : Int64 → HI → HL → Prop) (HW : w_X10_withTable x0 o2 x3 h g Q) : Met l yX10_withTable (wa yX10_withTable cX10_withTable 7 (some .long)) ({ frames := 2, cells := 0, slots := 0, locals := 50 }) (va_Pc [.long x0, .ref (ad o2), .int x3] (gI D cy ad h g sz)) (va_Ql (fun (r : Int64) (u : HI × HL) => Q r u.1 u.2) (gB D cy ad sz) (gA ad sz)) 0 0 (gA ad sz) := by
  refine Met.ofW (cc := cX10_withTable) (maxL := 7) (ret := (some .long)) (by decide) rfl ?_
  intro p e s m args below meth c s₁ B hml hv
  obtain ⟨hav, hsz, hP, hK, hD0, hNw⟩ := hv
  have hx := B.exec
  have hb := B.bytes
  have hr := B.returns
  have hts := atoms_spec (ws := (wa yX10_withTable cX10_withTable 7 (some .long))) B.pre
  have hw := wa_hw hts
  have hown : s.vm.findClass RX10 = some m.cls := findClass_of_methodNamed B.named
  have hlocks := B.notSynchronized
  subst hsz
  have hG : gG D cy ad (gA ad s.heap.size) s.heap h g s.heap [] := ⟨hP, gA_self hD0, va_S.rf⟩
  clear hP hD0
  rw [show (headSpec (wa yX10_withTable cX10_withTable 7 (some .long)) ({ frames := 2, cells := 0, slots := 0, locals := 50 } : Room)).room = ({ frames := 2, cells := 0, slots := 0, locals := 50 } : Room) from rfl]
  have hl := lv_entry ([.long x0, .ref (ad o2), .int x3]) (n := 7) (Nat.le_of_ble_eq_true rfl)
  rw [show entryFrame m args 7 = entryFrame m ([.long x0, .ref (ad o2), .int x3] : List Value).toArray 7 from by rw [hav], lg_entry_eq]
  generalize (lg_sl ([.long x0, .ref (ad o2), .int x3]) ++ List.replicate (7 - (lg_sl ([.long x0, .ref (ad o2), .int x3])).length) Slot.unset).toArray = ls at hl ⊢
  have hl : lv_has ls 7 [(0, .long x0), (2, .ref (ad o2)), (3, .int x3)] := hl
  have L6 : ∀ (n : Nat) (x3 : Int32) (x4 : Int64) (x6 : Int32) (h : HI) (g : HL) (H : Heap) (locs : List Loc) (ls : Array Slot), lpN (F_X10_withTable_6 o2 Q) n (x3, x4, x6, h, g) → gG D cy ad (gA ad s.heap.size) s.heap h g H locs → lv_has ls 7 [(2, .ref (ad o2)), (3, .int x3), (4, .long x4), (6, .int x6)] → W p l e ({ frames := 2, cells := 0, slots := 0, locals := 50 } : Room) s m args below meth c H locs 0 0 (MQ below (va_Ql (fun (r : Int64) (u : HI × HL) => Q r u.1 u.2) (gB D cy ad s.heap.size) (gA ad s.heap.size)) args s 0 0 (gA ad s.heap.size)) (F0 m 6 ls []) := by
    intro n
    induction n with
    | zero => intro x3 x4 x6 h g H locs ls HW; exact HW.elim
    | succ n ih =>
      intro x3 x4 x6 h g H locs ls HW hG hl
      have HW : b_X10_withTable_6 o2 Q (fun x3 x4 x6 h g => lpN (F_X10_withTable_6 o2 Q) n (x3, x4, x6, h, g)) x3 x4 x6 h g := HW
      generalize hKe : (fun (x3 : Int32) (x4 : Int64) (x6 : Int32) (h : HI) (g : HL) => lpN (F_X10_withTable_6 o2 Q) n (x3, x4, x6, h, g)) = K6 at HW
      have hK6 : ∀ (x3 : Int32) (x4 : Int64) (x6 : Int32) (h : HI) (g : HL) (H : Heap) (locs : List Loc) (ls : Array Slot), K6 x3 x4 x6 h g → gG D cy ad (gA ad s.heap.size) s.heap h g H locs → lv_has ls 7 [(2, .ref (ad o2)), (3, .int x3), (4, .long x4), (6, .int x6)] → W p l e ({ frames := 2, cells := 0, slots := 0, locals := 50 } : Room) s m args below meth c H locs 0 0 (MQ below (va_Ql (fun (r : Int64) (u : HI × HL) => Q r u.1 u.2) (gB D cy ad s.heap.size) (gA ad s.heap.size)) args s 0 0 (gA ad s.heap.size)) (F0 m 6 ls []) := by subst hKe; exact ih
      clear ih
      clear hKe
      unfold b_X10_withTable_6 at HW
      refine lv_iload hx hb dX10_withTable_6 (lv_at hl 3 rfl) ?_
      refine lv_aload_n hx hb dX10_withTable_8 rfl (lv_at hl 0 rfl) ?_
      obtain ⟨P_9, HC_9, HW⟩ := HW
      refine g_calli (g_runV (As := []) (rest := [.int x6]) ⟨hx, hb, hml, hown, hts⟩ (m_X8_rows l D cy ad h g H.size o2 hT2 P_9 HC_9) (cwV 0 hts (gd_V (wm3 19 rfl rfl) (wm2 217 rfl rfl) (wm2 218 rfl rfl) (wm1 3 rfl rfl) (wm2 219 rfl rfl)) rfl rfl rfl (by decide +kernel) ⟨Nat.le_of_ble_eq_true rfl, Nat.le_of_ble_eq_true rfl⟩) hK hNw hG hT2.lt rfl hT2.k (by decide) rfl rfl hl.1 rfl (lv_room (Nat.le_of_ble_eq_true rfl)) dX10_withTable_9 ⟨Nat.zero_le _, Nat.zero_le _⟩) hG (fun r_9 h_9 g_9 H locs hq hG => ?_)
      replace HW := HW r_9 h_9 g_9 hq
      refine lv_icmp_ge (tgt := 32) hx hb dX10_withTable_12 (by decide) (fun c_12 => ?_) (fun c_12 => ?_)
      · replace HW := HW.1 c_12
        refine lv_lload hx hb dX10_withTable_32 (lv_at hl 2 rfl) ?_
        exact W.lret (v := x4) hx hb hr (fun t ht hW => ⟨⟨x4, (h_9, g_9), rfl, HW, g_B ht hG⟩, hG.2.2.F ht⟩) hG.2.2.2.2 dX10_withTable_34
      · replace HW := HW.2 c_12
        refine lv_lload hx hb dX10_withTable_15 (lv_at hl 2 rfl) ?_
        refine lv_aload_n hx hb dX10_withTable_17 rfl (lv_at hl 0 rfl) ?_
        refine lv_iload hx hb dX10_withTable_18 (lv_at hl 3 rfl) ?_
        refine lv_iload_n hx hb dX10_withTable_20 rfl (lv_at hl 1 rfl) ?_
        obtain ⟨P_21, HC_21, HW⟩ := HW
        refine g_calll (g_runS (As := [.long x4, .ref (ad o2), .int x6, .int x3]) (rest := []) ⟨hx, hb, hml, hown, hts⟩ (m_X10_withRow l D cy ad h_9 g_9 H.size x4 o2 hT2 x6 x3 P_21 HC_21) (va_cwS 4 hts (gd_S (wm5 9 rfl rfl) (wm5 10 rfl rfl) (wm1 1 rfl rfl) (wm5 11 rfl rfl)) rfl rfl rfl (by decide +kernel) ⟨Nat.le_of_ble_eq_true rfl, Nat.le_of_ble_eq_true rfl⟩) hK hNw hG rfl rfl hl.1 rfl (lv_room (Nat.le_of_ble_eq_true rfl)) dX10_withTable_21 ⟨Nat.zero_le _, Nat.zero_le _⟩) hG (fun r_21 h_21 g_21 H locs hq hG => ?_)
        replace HW := HW r_21 h_21 g_21 hq
        refine lv_lstore (lv' := [(4, .long r_21), (2, .ref (ad o2)), (3, .int x3), (6, .int x6)]) hx hb dX10_withTable_24 hl (by decide) rfl (fun ls hl => ?_)
        obtain ⟨x6_26, ex6_26⟩ : ∃ y : Int32, y = (x6 + 1) := ⟨_, rfl⟩
        replace HW := HW x6_26 ex6_26
        refine lv_iinc (v := x6_26) (lv' := [(6, .int x6_26), (4, .long r_21), (2, .ref (ad o2)), (3, .int x3)]) hx hb dX10_withTable_26 hl (k := 3) rfl (by rw [ex6_26]; rfl) (by decide) rfl (fun ls hl => ?_)
        refine lv_goto (tgt := 6) hx hb dX10_withTable_29 (by decide) ?_
        exact hK6 x3 r_21 x6_26 h_21 g_21 _ _ _ HW hG (lv_sub hl [2, 3, 1, 0] rfl)
  have E0 : ∀ (H : Heap) (locs : List Loc) (ls : Array Slot), gG D cy ad (gA ad s.heap.size) s.heap h g H locs → lv_has ls 7 [(0, .long x0), (2, .ref (ad o2)), (3, .int x3)] → W p l e ({ frames := 2, cells := 0, slots := 0, locals := 50 } : Room) s m args below meth c H locs 0 0 (MQ below (va_Ql (fun (r : Int64) (u : HI × HL) => Q r u.1 u.2) (gB D cy ad s.heap.size) (gA ad s.heap.size)) args s 0 0 (gA ad s.heap.size)) (F0 m 0 ls []) := by
    intro H locs ls hG hl
    unfold w_X10_withTable at HW
    refine lv_lload_n hx hb dX10_withTable_0 rfl (lv_at hl 0 rfl) ?_
    refine lv_lstore (lv' := [(4, .long x0), (0, .long x0), (2, .ref (ad o2)), (3, .int x3)]) hx hb dX10_withTable_1 hl (by decide) rfl (fun ls hl => ?_)
    refine lv_iconst (v := 0) hx hb dX10_withTable_3 (by decide) ?_
    refine lv_istore (lv' := [(6, .int (0 : Int32)), (4, .long x0), (0, .long x0), (2, .ref (ad o2)), (3, .int x3)]) hx hb dX10_withTable_4 hl (by decide) rfl (fun ls hl => ?_)
    obtain ⟨n_6, HW⟩ := HW
    exact L6 n_6 x3 x0 (0 : Int32) h g _ _ _ HW hG (lv_sub hl [3, 4, 1, 0] rfl)
  exact E0 _ _ _ hG hl

def b_X10_withChains_5 (Q : Int64 → HI → HL → Prop) (K5 : Int64 → Int32 → HI → HL → Prop) (x3 : Int64) (x5 : Int32) (h : HI) (g : HL) : Prop :=
  (∃ P_14 : Int32 → HI → HL → Prop, w_X8_rows 8 h g P_14 ∧ ∀ (r_14 : Int32) (h_14 : HI) (g_14 : HL), P_14 r_14 h_14 g_14 → ((r_14 ≤ x5 → Q x3 h_14 g_14) ∧ (¬ r_14 ≤ x5 → (∃ P_42 : Int32 → HI → HL → Prop, w_X8_at 8 x5 (2 : Int32) h_14 g_14 P_42 ∧ ∀ (r_42 : Int32) (h_42 : HI) (g_42 : HL), P_42 r_42 h_42 g_42 → (∃ P_47 : Int64 → HI → HL → Prop, w_X10_withRow x3 8 x5 ((3 : Int32) + ((2 : Int32) * r_42)) h_42 g_42 P_47 ∧ ∀ (r_47 : Int64) (h_47 : HI) (g_47 : HL), P_47 r_47 h_47 g_47 → (∀ x5_51 : Int32, x5_51 = (x5 + 1) → K5 r_47 x5_51 h_47 g_47))))))
def F_X10_withChains_5 (Q : Int64 → HI → HL → Prop) (K : Int64 × Int32 × HI × HL → Prop) (q : Int64 × Int32 × HI × HL) : Prop := b_X10_withChains_5 Q (fun x3 x5 h g => K (x3, x5, h, g)) q.1 q.2.1 q.2.2.1 q.2.2.2
def w_X10_withChains (x1 : Int64) (h : HI) (g : HL) (Q : Int64 → HI → HL → Prop) : Prop :=
  lpE (F_X10_withChains_5 Q) (x1, (0 : Int32), h, g)
set_option maxHeartbeats 8000000 in
set_option maxRecDepth 100000 in
theorem m_X10_withChains (l : Launch) (D : va_G) (cy : Nat → ClassId) (ad : Nat → Nat) (h : HI) (g : HL) (sz : Nat) (x1 : Int64) (Q : Int64 → HI → HL → Prop) (HW : w_X10_withChains x1 h g Q) : Met l yX10_withChains (wa yX10_withChains cX10_withChains 6 (some .long)) ({ frames := 2, cells := 0, slots := 0, locals := 50 }) (va_Pc [.ref (ad 0), .long x1] (gI D cy ad h g sz)) (va_Ql (fun (r : Int64) (u : HI × HL) => Q r u.1 u.2) (gB D cy ad sz) (gA ad sz)) 0 0 (gA ad sz) := by
  refine Met.ofW (cc := cX10_withChains) (maxL := 6) (ret := (some .long)) (by decide) rfl ?_
  intro p e s m args below meth c s₁ B hml hv
  obtain ⟨hav, hsz, hP, hK, hD0, hNw⟩ := hv
  have hx := B.exec
  have hb := B.bytes
  have hr := B.returns
  have hts := atoms_spec (ws := (wa yX10_withChains cX10_withChains 6 (some .long))) B.pre
  have hw := wa_hw hts
  have hown : s.vm.findClass RX10 = some m.cls := findClass_of_methodNamed B.named
  have hlocks := B.notSynchronized
  subst hsz
  have hG : gG D cy ad (gA ad s.heap.size) s.heap h g s.heap [] := ⟨hP, gA_self hD0, va_S.rf⟩
  clear hP hD0
  have lk10 := hw (.fieldLink RX10 10 "OldWorks" "shop" "LOldWorks$Shop;") (wm2 155 rfl rfl)
  have lk153 := hw (.fieldLink RX10 153 "OldWorks$Shop" "chains" "LOldWorks$Table;") (wm1 73 rfl rfl)
  rw [show (headSpec (wa yX10_withChains cX10_withChains 6 (some .long)) ({ frames := 2, cells := 0, slots := 0, locals := 50 } : Room)).room = ({ frames := 2, cells := 0, slots := 0, locals := 50 } : Room) from rfl]
  have hl := lv_entry ([.ref (ad 0), .long x1]) (n := 6) (Nat.le_of_ble_eq_true rfl)
  rw [show entryFrame m args 6 = entryFrame m ([.ref (ad 0), .long x1] : List Value).toArray 6 from by rw [hav], lg_entry_eq]
  generalize (lg_sl ([.ref (ad 0), .long x1]) ++ List.replicate (6 - (lg_sl ([.ref (ad 0), .long x1])).length) Slot.unset).toArray = ls at hl ⊢
  have hl : lv_has ls 6 [(0, .ref (ad 0)), (1, .long x1)] := hl
  have L5 : ∀ (n : Nat) (x3 : Int64) (x5 : Int32) (h : HI) (g : HL) (H : Heap) (locs : List Loc) (ls : Array Slot), lpN (F_X10_withChains_5 Q) n (x3, x5, h, g) → gG D cy ad (gA ad s.heap.size) s.heap h g H locs → lv_has ls 6 [(0, .ref (ad 0)), (3, .long x3), (5, .int x5)] → W p l e ({ frames := 2, cells := 0, slots := 0, locals := 50 } : Room) s m args below meth c H locs 0 0 (MQ below (va_Ql (fun (r : Int64) (u : HI × HL) => Q r u.1 u.2) (gB D cy ad s.heap.size) (gA ad s.heap.size)) args s 0 0 (gA ad s.heap.size)) (F0 m 5 ls []) := by
    intro n
    induction n with
    | zero => intro x3 x5 h g H locs ls HW; exact HW.elim
    | succ n ih =>
      intro x3 x5 h g H locs ls HW hG hl
      have HW : b_X10_withChains_5 Q (fun x3 x5 h g => lpN (F_X10_withChains_5 Q) n (x3, x5, h, g)) x3 x5 h g := HW
      generalize hKe : (fun (x3 : Int64) (x5 : Int32) (h : HI) (g : HL) => lpN (F_X10_withChains_5 Q) n (x3, x5, h, g)) = K5 at HW
      have hK5 : ∀ (x3 : Int64) (x5 : Int32) (h : HI) (g : HL) (H : Heap) (locs : List Loc) (ls : Array Slot), K5 x3 x5 h g → gG D cy ad (gA ad s.heap.size) s.heap h g H locs → lv_has ls 6 [(0, .ref (ad 0)), (3, .long x3), (5, .int x5)] → W p l e ({ frames := 2, cells := 0, slots := 0, locals := 50 } : Room) s m args below meth c H locs 0 0 (MQ below (va_Ql (fun (r : Int64) (u : HI × HL) => Q r u.1 u.2) (gB D cy ad s.heap.size) (gA ad s.heap.size)) args s 0 0 (gA ad s.heap.size)) (F0 m 5 ls []) := by subst hKe; exact ih
      clear ih
      clear hKe
      unfold b_X10_withChains_5 at HW
      refine lv_iload hx hb dX10_withChains_5 (lv_at hl 2 rfl) ?_
      refine lv_aload_n hx hb dX10_withChains_7 rfl (lv_at hl 0 rfl) ?_
      refine g_getr hx hb hw inG10 hown hK hG gl_0 rfl gk_0 (by decide) 0 (by decide) (by rw [gm_0]; decide) (r := 1) gr_0_0 lk10 dX10_withChains_8 ?_
      refine g_getr hx hb hw inG6 hown hK hG gl_1 rfl gk_1 (by decide) 3 (by decide) (by rw [gm_1]; decide) (r := 8) gr_1_3 lk153 dX10_withChains_11 ?_
      obtain ⟨P_14, HC_14, HW⟩ := HW
      refine g_calli (g_runV (As := []) (rest := [.int x5]) ⟨hx, hb, hml, hown, hts⟩ (m_X8_rows l D cy ad h g H.size 8 (gs_8) P_14 HC_14) (cwV 0 hts (gd_V (wm3 19 rfl rfl) (wm2 217 rfl rfl) (wm2 218 rfl rfl) (wm1 3 rfl rfl) (wm2 219 rfl rfl)) rfl rfl rfl (by decide +kernel) ⟨Nat.le_of_ble_eq_true rfl, Nat.le_of_ble_eq_true rfl⟩) hK hNw hG gl_8 rfl gk_8 (by decide) rfl rfl hl.1 rfl (lv_room (Nat.le_of_ble_eq_true rfl)) dX10_withChains_14 ⟨Nat.zero_le _, Nat.zero_le _⟩) hG (fun r_14 h_14 g_14 H locs hq hG => ?_)
      replace HW := HW r_14 h_14 g_14 hq
      refine lv_icmp_ge (tgt := 57) hx hb dX10_withChains_17 (by decide) (fun c_17 => ?_) (fun c_17 => ?_)
      · replace HW := HW.1 c_17
        refine lv_lload_n hx hb dX10_withChains_57 rfl (lv_at hl 1 rfl) ?_
        exact W.lret (v := x3) hx hb hr (fun t ht hW => ⟨⟨x3, (h_14, g_14), rfl, HW, g_B ht hG⟩, hG.2.2.F ht⟩) hG.2.2.2.2 dX10_withChains_58
      · replace HW := HW.2 c_17
        refine lv_lload_n hx hb dX10_withChains_20 rfl (lv_at hl 1 rfl) ?_
        refine lv_aload_n hx hb dX10_withChains_21 rfl (lv_at hl 0 rfl) ?_
        refine g_getr hx hb hw inG10 hown hK hG gl_0 rfl gk_0 (by decide) 0 (by decide) (by rw [gm_0]; decide) (r := 1) gr_0_0 lk10 dX10_withChains_22 ?_
        refine g_getr hx hb hw inG6 hown hK hG gl_1 rfl gk_1 (by decide) 3 (by decide) (by rw [gm_1]; decide) (r := 8) gr_1_3 lk153 dX10_withChains_25 ?_
        refine lv_iload hx hb dX10_withChains_28 (lv_at hl 2 rfl) ?_
        refine lv_iconst (v := 3) hx hb dX10_withChains_30 (by decide) ?_
        refine lv_iconst (v := 2) hx hb dX10_withChains_31 (by decide) ?_
        refine lv_aload_n hx hb dX10_withChains_32 rfl (lv_at hl 0 rfl) ?_
        refine g_getr hx hb hw inG10 hown hK hG gl_0 rfl gk_0 (by decide) 0 (by decide) (by rw [gm_0]; decide) (r := 1) gr_0_0 lk10 dX10_withChains_33 ?_
        refine g_getr hx hb hw inG6 hown hK hG gl_1 rfl gk_1 (by decide) 3 (by decide) (by rw [gm_1]; decide) (r := 8) gr_1_3 lk153 dX10_withChains_36 ?_
        refine lv_iload hx hb dX10_withChains_39 (lv_at hl 2 rfl) ?_
        refine lv_iconst (v := 2) hx hb dX10_withChains_41 (by decide) ?_
        obtain ⟨P_42, HC_42, HW⟩ := HW
        refine g_calli (g_runV (As := [.int x5, .int (2 : Int32)]) (rest := [.int (2 : Int32), .int (3 : Int32), .int x5, .ref (ad 8), .long x3]) ⟨hx, hb, hml, hown, hts⟩ (m_X8_at l D cy ad h_14 g_14 H.size 8 (gs_8) x5 (2 : Int32) P_42 HC_42) (cwV 2 hts (gd_V (wm3 69 rfl rfl) (wm2 221 rfl rfl) (wm2 222 rfl rfl) (wm1 3 rfl rfl) (wm2 223 rfl rfl)) rfl rfl rfl (by decide +kernel) ⟨Nat.le_of_ble_eq_true rfl, Nat.le_of_ble_eq_true rfl⟩) hK hNw hG gl_8 rfl gk_8 (by decide) rfl rfl hl.1 rfl (lv_room (Nat.le_of_ble_eq_true rfl)) dX10_withChains_42 ⟨Nat.zero_le _, Nat.zero_le _⟩) hG (fun r_42 h_42 g_42 H locs hq hG => ?_)
        replace HW := HW r_42 h_42 g_42 hq
        refine lv_imul hx hb dX10_withChains_45 ?_
        refine lv_iadd hx hb dX10_withChains_46 ?_
        obtain ⟨P_47, HC_47, HW⟩ := HW
        refine g_calll (g_runS (As := [.long x3, .ref (ad 8), .int x5, .int ((3 : Int32) + ((2 : Int32) * r_42))]) (rest := []) ⟨hx, hb, hml, hown, hts⟩ (m_X10_withRow l D cy ad h_42 g_42 H.size x3 8 (gs_8) x5 ((3 : Int32) + ((2 : Int32) * r_42)) P_47 HC_47) (va_cwS 4 hts (gd_S (wm5 9 rfl rfl) (wm5 10 rfl rfl) (wm1 1 rfl rfl) (wm5 11 rfl rfl)) rfl rfl rfl (by decide +kernel) ⟨Nat.le_of_ble_eq_true rfl, Nat.le_of_ble_eq_true rfl⟩) hK hNw hG rfl rfl hl.1 rfl (lv_room (Nat.le_of_ble_eq_true rfl)) dX10_withChains_47 ⟨Nat.zero_le _, Nat.zero_le _⟩) hG (fun r_47 h_47 g_47 H locs hq hG => ?_)
        replace HW := HW r_47 h_47 g_47 hq
        refine lv_lstore_n (lv' := [(3, .long r_47), (0, .ref (ad 0)), (5, .int x5)]) hx hb dX10_withChains_50 rfl hl (by decide) rfl (fun ls hl => ?_)
        obtain ⟨x5_51, ex5_51⟩ : ∃ y : Int32, y = (x5 + 1) := ⟨_, rfl⟩
        replace HW := HW x5_51 ex5_51
        refine lv_iinc (v := x5_51) (lv' := [(5, .int x5_51), (3, .long r_47), (0, .ref (ad 0))]) hx hb dX10_withChains_51 hl (k := 2) rfl (by rw [ex5_51]; rfl) (by decide) rfl (fun ls hl => ?_)
        refine lv_goto (tgt := 5) hx hb dX10_withChains_54 (by decide) ?_
        exact hK5 r_47 x5_51 h_47 g_47 _ _ _ HW hG (lv_sub hl [2, 1, 0] rfl)
  have E0 : ∀ (H : Heap) (locs : List Loc) (ls : Array Slot), gG D cy ad (gA ad s.heap.size) s.heap h g H locs → lv_has ls 6 [(0, .ref (ad 0)), (1, .long x1)] → W p l e ({ frames := 2, cells := 0, slots := 0, locals := 50 } : Room) s m args below meth c H locs 0 0 (MQ below (va_Ql (fun (r : Int64) (u : HI × HL) => Q r u.1 u.2) (gB D cy ad s.heap.size) (gA ad s.heap.size)) args s 0 0 (gA ad s.heap.size)) (F0 m 0 ls []) := by
    intro H locs ls hG hl
    unfold w_X10_withChains at HW
    refine lv_lload_n hx hb dX10_withChains_0 rfl (lv_at hl 1 rfl) ?_
    refine lv_lstore_n (lv' := [(3, .long x1), (0, .ref (ad 0)), (1, .long x1)]) hx hb dX10_withChains_1 rfl hl (by decide) rfl (fun ls hl => ?_)
    refine lv_iconst (v := 0) hx hb dX10_withChains_2 (by decide) ?_
    refine lv_istore (lv' := [(5, .int (0 : Int32)), (3, .long x1), (0, .ref (ad 0)), (1, .long x1)]) hx hb dX10_withChains_3 hl (by decide) rfl (fun ls hl => ?_)
    obtain ⟨n_5, HW⟩ := HW
    exact L5 n_5 x1 (0 : Int32) h g _ _ _ HW hG (lv_sub hl [2, 1, 0] rfl)
  exact E0 _ _ _ hG hl

def b_X10_digest_6 (Q : Int64 → HI → HL → Prop) (K6 : Int64 → Int32 → HI → HL → Prop) (x1 : Int64) (x3 : Int32) (h : HI) (g : HL) : Prop :=
  (((10 : Int32) ≤ x3 → (∃ P_33 : Int64 → HI → HL → Prop, w_X10_withParts x1 h g P_33 ∧ ∀ (r_33 : Int64) (h_33 : HI) (g_33 : HL), P_33 r_33 h_33 g_33 → (∃ P_46 : Int64 → HI → HL → Prop, w_X10_withTable r_33 4 (3 : Int32) h_33 g_33 P_46 ∧ ∀ (r_46 : Int64) (h_46 : HI) (g_46 : HL), P_46 r_46 h_46 g_46 → (∃ P_60 : Int64 → HI → HL → Prop, w_X10_withTable r_46 6 (6 : Int32) h_46 g_46 P_60 ∧ ∀ (r_60 : Int64) (h_60 : HI) (g_60 : HL), P_60 r_60 h_60 g_60 → (∃ P_66 : Int64 → HI → HL → Prop, w_X10_withChains r_60 h_60 g_60 P_66 ∧ ∀ (r_66 : Int64) (h_66 : HI) (g_66 : HL), P_66 r_66 h_66 g_66 → (∃ P_79 : Int64 → HI → HL → Prop, w_X10_withTable r_66 10 (4 : Int32) h_66 g_66 P_79 ∧ ∀ (r_79 : Int64) (h_79 : HI) (g_79 : HL), P_79 r_79 h_79 g_79 → (∃ P_92 : Int64 → HI → HL → Prop, w_X10_withTable r_79 12 (1 : Int32) h_79 g_79 P_92 ∧ ∀ (r_92 : Int64) (h_92 : HI) (g_92 : HL), P_92 r_92 h_92 g_92 → (∃ P_105 : Int64 → HI → HL → Prop, w_X10_withTable r_92 14 (3 : Int32) h_92 g_92 P_105 ∧ ∀ (r_105 : Int64) (h_105 : HI) (g_105 : HL), P_105 r_105 h_105 g_105 → (∃ P_118 : Int64 → HI → HL → Prop, w_X10_withTable r_105 16 (2 : Int32) h_105 g_105 P_118 ∧ ∀ (r_118 : Int64) (h_118 : HI) (g_118 : HL), P_118 r_118 h_118 g_118 → (∃ P_131 : Int64 → HI → HL → Prop, w_X10_withTable r_118 18 (2 : Int32) h_118 g_118 P_131 ∧ ∀ (r_131 : Int64) (h_131 : HI) (g_131 : HL), P_131 r_131 h_131 g_131 → (∃ P_144 : Int64 → HI → HL → Prop, w_X10_withTable r_131 20 (2 : Int32) h_131 g_131 P_144 ∧ ∀ (r_144 : Int64) (h_144 : HI) (g_144 : HL), P_144 r_144 h_144 g_144 → (∃ P_157 : Int64 → HI → HL → Prop, w_X10_withTable r_144 22 (1 : Int32) h_144 g_144 P_157 ∧ ∀ (r_157 : Int64) (h_157 : HI) (g_157 : HL), P_157 r_157 h_157 g_157 → (∃ P_170 : Int64 → HI → HL → Prop, w_X10_withTable r_157 24 (1 : Int32) h_157 g_157 P_170 ∧ ∀ (r_170 : Int64) (h_170 : HI) (g_170 : HL), P_170 r_170 h_170 g_170 → Q r_170 h_170 g_170))))))))))))) ∧ (¬ (10 : Int32) ≤ x3 → (∃ P_19 : Int32 → HI → HL → Prop, w_X10_count x3 h g P_19 ∧ ∀ (r_19 : Int32) (h_19 : HI) (g_19 : HL), P_19 r_19 h_19 g_19 → (∀ x1_24 : Int64, x1_24 = (((31 : Int64) * x1) + ((r_19).toInt64)) → (∀ x3_25 : Int32, x3_25 = (x3 + 1) → K6 x1_24 x3_25 h_19 g_19)))))
def F_X10_digest_6 (Q : Int64 → HI → HL → Prop) (K : Int64 × Int32 × HI × HL → Prop) (q : Int64 × Int32 × HI × HL) : Prop := b_X10_digest_6 Q (fun x1 x3 h g => K (x1, x3, h, g)) q.1 q.2.1 q.2.2.1 q.2.2.2
def w_X10_digest  (h : HI) (g : HL) (Q : Int64 → HI → HL → Prop) : Prop :=
  lpE (F_X10_digest_6 Q) ((383 : Int64), (0 : Int32), h, g)
set_option maxHeartbeats 8000000 in
set_option maxRecDepth 100000 in
theorem m_X10_digest (l : Launch) (D : va_G) (cy : Nat → ClassId) (ad : Nat → Nat) (h : HI) (g : HL) (sz : Nat)  (Q : Int64 → HI → HL → Prop) (HW : w_X10_digest h g Q) : Met l yX10_digest (wa yX10_digest cX10_digest 4 (some .long)) ({ frames := 6, cells := 0, slots := 0, locals := 150 }) (va_Pc [.ref (ad 0)] (gI D cy ad h g sz)) (va_Ql (fun (r : Int64) (u : HI × HL) => Q r u.1 u.2) (gB D cy ad sz) (gA ad sz)) 0 0 (gA ad sz) := by
  refine Met.ofW (cc := cX10_digest) (maxL := 4) (ret := (some .long)) (by decide) rfl ?_
  intro p e s m args below meth c s₁ B hml hv
  obtain ⟨hav, hsz, hP, hK, hD0, hNw⟩ := hv
  have hx := B.exec
  have hb := B.bytes
  have hr := B.returns
  have hts := atoms_spec (ws := (wa yX10_digest cX10_digest 4 (some .long))) B.pre
  have hw := wa_hw hts
  have hown : s.vm.findClass RX10 = some m.cls := findClass_of_methodNamed B.named
  have hlocks := B.notSynchronized
  subst hsz
  have hG : gG D cy ad (gA ad s.heap.size) s.heap h g s.heap [] := ⟨hP, gA_self hD0, va_S.rf⟩
  clear hP hD0
  have cn261 := hw (.constantLong RX10 261 (383)) (wm5 2 rfl rfl)
  have lk10 := hw (.fieldLink RX10 10 "OldWorks" "shop" "LOldWorks$Shop;") (wm2 155 rfl rfl)
  have lk95 := hw (.fieldLink RX10 95 "OldWorks$Shop" "families" "LOldWorks$Table;") (wm1 66 rfl rfl)
  have lk129 := hw (.fieldLink RX10 129 "OldWorks$Shop" "sayings" "LOldWorks$Table;") (wm1 70 rfl rfl)
  have lk182 := hw (.fieldLink RX10 182 "OldWorks$Shop" "works" "LOldWorks$Table;") (wm1 76 rfl rfl)
  have lk196 := hw (.fieldLink RX10 196 "OldWorks$Shop" "machines" "LOldWorks$Table;") (wm1 79 rfl rfl)
  have lk199 := hw (.fieldLink RX10 199 "OldWorks$Shop" "spares" "LOldWorks$Table;") (wm1 82 rfl rfl)
  have lk210 := hw (.fieldLink RX10 210 "OldWorks$Shop" "odds" "LOldWorks$Table;") (wm1 85 rfl rfl)
  have lk229 := hw (.fieldLink RX10 229 "OldWorks$Shop" "loads" "LOldWorks$Table;") (wm1 88 rfl rfl)
  have lk238 := hw (.fieldLink RX10 238 "OldWorks$Shop" "hands" "LOldWorks$Table;") (wm1 91 rfl rfl)
  have lk241 := hw (.fieldLink RX10 241 "OldWorks$Shop" "runs" "LOldWorks$Table;") (wm1 94 rfl rfl)
  have lk109 := hw (.fieldLink RX10 109 "OldWorks$Shop" "signs" "LOldWorks$Table;") (wm1 97 rfl rfl)
  have cn263 := hw (.constantLong RX10 263 (31)) (wm5 3 rfl rfl)
  rw [show (headSpec (wa yX10_digest cX10_digest 4 (some .long)) ({ frames := 6, cells := 0, slots := 0, locals := 150 } : Room)).room = ({ frames := 6, cells := 0, slots := 0, locals := 150 } : Room) from rfl]
  have hl := lv_entry ([.ref (ad 0)]) (n := 4) (Nat.le_of_ble_eq_true rfl)
  rw [show entryFrame m args 4 = entryFrame m ([.ref (ad 0)] : List Value).toArray 4 from by rw [hav], lg_entry_eq]
  generalize (lg_sl ([.ref (ad 0)]) ++ List.replicate (4 - (lg_sl ([.ref (ad 0)])).length) Slot.unset).toArray = ls at hl ⊢
  have hl : lv_has ls 4 [(0, .ref (ad 0))] := hl
  have L6 : ∀ (n : Nat) (x1 : Int64) (x3 : Int32) (h : HI) (g : HL) (H : Heap) (locs : List Loc) (ls : Array Slot), lpN (F_X10_digest_6 Q) n (x1, x3, h, g) → gG D cy ad (gA ad s.heap.size) s.heap h g H locs → lv_has ls 4 [(0, .ref (ad 0)), (1, .long x1), (3, .int x3)] → W p l e ({ frames := 6, cells := 0, slots := 0, locals := 150 } : Room) s m args below meth c H locs 0 0 (MQ below (va_Ql (fun (r : Int64) (u : HI × HL) => Q r u.1 u.2) (gB D cy ad s.heap.size) (gA ad s.heap.size)) args s 0 0 (gA ad s.heap.size)) (F0 m 6 ls []) := by
    intro n
    induction n with
    | zero => intro x1 x3 h g H locs ls HW; exact HW.elim
    | succ n ih =>
      intro x1 x3 h g H locs ls HW hG hl
      have HW : b_X10_digest_6 Q (fun x1 x3 h g => lpN (F_X10_digest_6 Q) n (x1, x3, h, g)) x1 x3 h g := HW
      generalize hKe : (fun (x1 : Int64) (x3 : Int32) (h : HI) (g : HL) => lpN (F_X10_digest_6 Q) n (x1, x3, h, g)) = K6 at HW
      have hK6 : ∀ (x1 : Int64) (x3 : Int32) (h : HI) (g : HL) (H : Heap) (locs : List Loc) (ls : Array Slot), K6 x1 x3 h g → gG D cy ad (gA ad s.heap.size) s.heap h g H locs → lv_has ls 4 [(0, .ref (ad 0)), (1, .long x1), (3, .int x3)] → W p l e ({ frames := 6, cells := 0, slots := 0, locals := 150 } : Room) s m args below meth c H locs 0 0 (MQ below (va_Ql (fun (r : Int64) (u : HI × HL) => Q r u.1 u.2) (gB D cy ad s.heap.size) (gA ad s.heap.size)) args s 0 0 (gA ad s.heap.size)) (F0 m 6 ls []) := by subst hKe; exact ih
      clear ih
      clear hKe
      unfold b_X10_digest_6 at HW
      refine lv_iload_n hx hb dX10_digest_6 rfl (lv_at hl 2 rfl) ?_
      refine lv_bipush (v := 10) hx hb dX10_digest_7 (by decide) ?_
      refine lv_icmp_ge (tgt := 31) hx hb dX10_digest_9 (by decide) (fun c_9 => ?_) (fun c_9 => ?_)
      · replace HW := HW.1 c_9
        refine lv_aload_n hx hb dX10_digest_31 rfl (lv_at hl 0 rfl) ?_
        refine lv_lload_n hx hb dX10_digest_32 rfl (lv_at hl 1 rfl) ?_
        obtain ⟨P_33, HC_33, HW⟩ := HW
        refine g_calll (g_runV (As := [.long x1]) (rest := []) ⟨hx, hb, hml, hown, hts⟩ (m_X10_withParts l D cy ad h g H.size x1 P_33 HC_33) (cwV 1 hts (gd_V (wm5 5 rfl rfl) (wm5 7 rfl rfl) (wmp3 (q := (yX10_withParts, 11)) 5 rfl) (wm1 1 rfl rfl) (wm5 8 rfl rfl)) rfl rfl rfl (by decide +kernel) ⟨Nat.le_of_ble_eq_true rfl, Nat.le_of_ble_eq_true rfl⟩) hK hNw hG gl_0 rfl gk_0 (by decide) rfl rfl hl.1 rfl (lv_room (Nat.le_of_ble_eq_true rfl)) dX10_digest_33 ⟨Nat.zero_le _, Nat.zero_le _⟩) hG (fun r_33 h_33 g_33 H locs hq hG => ?_)
        replace HW := HW r_33 h_33 g_33 hq
        refine lv_lstore_n (lv' := [(1, .long r_33), (0, .ref (ad 0)), (3, .int x3)]) hx hb dX10_digest_36 rfl hl (by decide) rfl (fun ls hl => ?_)
        refine lv_lload_n hx hb dX10_digest_37 rfl (lv_at hl 0 rfl) ?_
        refine lv_aload_n hx hb dX10_digest_38 rfl (lv_at hl 1 rfl) ?_
        refine g_getr hx hb hw inG10 hown hK hG gl_0 rfl gk_0 (by decide) 0 (by decide) (by rw [gm_0]; decide) (r := 1) gr_0_0 lk10 dX10_digest_39 ?_
        refine g_getr hx hb hw inG6 hown hK hG gl_1 rfl gk_1 (by decide) 1 (by decide) (by rw [gm_1]; decide) (r := 4) gr_1_1 lk95 dX10_digest_42 ?_
        refine lv_iconst (v := 3) hx hb dX10_digest_45 (by decide) ?_
        obtain ⟨P_46, HC_46, HW⟩ := HW
        refine g_calll (g_runS (As := [.long r_33, .ref (ad 4), .int (3 : Int32)]) (rest := []) ⟨hx, hb, hml, hown, hts⟩ (m_X10_withTable l D cy ad h_33 g_33 H.size r_33 4 (gs_4) (3 : Int32) P_46 HC_46) (va_cwS 3 hts (gd_S (wm5 12 rfl rfl) (wm5 13 rfl rfl) (wm1 1 rfl rfl) (wm5 14 rfl rfl)) rfl rfl rfl (by decide +kernel) ⟨Nat.le_of_ble_eq_true rfl, Nat.le_of_ble_eq_true rfl⟩) hK hNw hG rfl rfl hl.1 rfl (lv_room (Nat.le_of_ble_eq_true rfl)) dX10_digest_46 ⟨Nat.zero_le _, Nat.zero_le _⟩) hG (fun r_46 h_46 g_46 H locs hq hG => ?_)
        replace HW := HW r_46 h_46 g_46 hq
        refine lv_lstore_n (lv' := [(1, .long r_46), (0, .ref (ad 0)), (3, .int x3)]) hx hb dX10_digest_49 rfl hl (by decide) rfl (fun ls hl => ?_)
        refine lv_lload_n hx hb dX10_digest_50 rfl (lv_at hl 0 rfl) ?_
        refine lv_aload_n hx hb dX10_digest_51 rfl (lv_at hl 1 rfl) ?_
        refine g_getr hx hb hw inG10 hown hK hG gl_0 rfl gk_0 (by decide) 0 (by decide) (by rw [gm_0]; decide) (r := 1) gr_0_0 lk10 dX10_digest_52 ?_
        refine g_getr hx hb hw inG6 hown hK hG gl_1 rfl gk_1 (by decide) 2 (by decide) (by rw [gm_1]; decide) (r := 6) gr_1_2 lk129 dX10_digest_55 ?_
        refine lv_bipush (v := 6) hx hb dX10_digest_58 (by decide) ?_
        obtain ⟨P_60, HC_60, HW⟩ := HW
        refine g_calll (g_runS (As := [.long r_46, .ref (ad 6), .int (6 : Int32)]) (rest := []) ⟨hx, hb, hml, hown, hts⟩ (m_X10_withTable l D cy ad h_46 g_46 H.size r_46 6 (gs_6) (6 : Int32) P_60 HC_60) (va_cwS 3 hts (gd_S (wm5 12 rfl rfl) (wm5 13 rfl rfl) (wm1 1 rfl rfl) (wm5 14 rfl rfl)) rfl rfl rfl (by decide +kernel) ⟨Nat.le_of_ble_eq_true rfl, Nat.le_of_ble_eq_true rfl⟩) hK hNw hG rfl rfl hl.1 rfl (lv_room (Nat.le_of_ble_eq_true rfl)) dX10_digest_60 ⟨Nat.zero_le _, Nat.zero_le _⟩) hG (fun r_60 h_60 g_60 H locs hq hG => ?_)
        replace HW := HW r_60 h_60 g_60 hq
        refine lv_lstore_n (lv' := [(1, .long r_60), (0, .ref (ad 0)), (3, .int x3)]) hx hb dX10_digest_63 rfl hl (by decide) rfl (fun ls hl => ?_)
        refine lv_aload_n hx hb dX10_digest_64 rfl (lv_at hl 1 rfl) ?_
        refine lv_lload_n hx hb dX10_digest_65 rfl (lv_at hl 0 rfl) ?_
        obtain ⟨P_66, HC_66, HW⟩ := HW
        refine g_calll (g_runV (As := [.long r_60]) (rest := []) ⟨hx, hb, hml, hown, hts⟩ (m_X10_withChains l D cy ad h_60 g_60 H.size r_60 P_66 HC_66) (cwV 1 hts (gd_V (wm5 15 rfl rfl) (wm5 17 rfl rfl) (wmp3 (q := (yX10_withChains, 11)) 6 rfl) (wm1 1 rfl rfl) (wm5 18 rfl rfl)) rfl rfl rfl (by decide +kernel) ⟨Nat.le_of_ble_eq_true rfl, Nat.le_of_ble_eq_true rfl⟩) hK hNw hG gl_0 rfl gk_0 (by decide) rfl rfl hl.1 rfl (lv_room (Nat.le_of_ble_eq_true rfl)) dX10_digest_66 ⟨Nat.zero_le _, Nat.zero_le _⟩) hG (fun r_66 h_66 g_66 H locs hq hG => ?_)
        replace HW := HW r_66 h_66 g_66 hq
        refine lv_lstore_n (lv' := [(1, .long r_66), (0, .ref (ad 0)), (3, .int x3)]) hx hb dX10_digest_69 rfl hl (by decide) rfl (fun ls hl => ?_)
        refine lv_lload_n hx hb dX10_digest_70 rfl (lv_at hl 0 rfl) ?_
        refine lv_aload_n hx hb dX10_digest_71 rfl (lv_at hl 1 rfl) ?_
        refine g_getr hx hb hw inG10 hown hK hG gl_0 rfl gk_0 (by decide) 0 (by decide) (by rw [gm_0]; decide) (r := 1) gr_0_0 lk10 dX10_digest_72 ?_
        refine g_getr hx hb hw inG6 hown hK hG gl_1 rfl gk_1 (by decide) 4 (by decide) (by rw [gm_1]; decide) (r := 10) gr_1_4 lk182 dX10_digest_75 ?_
        refine lv_iconst (v := 4) hx hb dX10_digest_78 (by decide) ?_
        obtain ⟨P_79, HC_79, HW⟩ := HW
        refine g_calll (g_runS (As := [.long r_66, .ref (ad 10), .int (4 : Int32)]) (rest := []) ⟨hx, hb, hml, hown, hts⟩ (m_X10_withTable l D cy ad h_66 g_66 H.size r_66 10 (gs_10) (4 : Int32) P_79 HC_79) (va_cwS 3 hts (gd_S (wm5 12 rfl rfl) (wm5 13 rfl rfl) (wm1 1 rfl rfl) (wm5 14 rfl rfl)) rfl rfl rfl (by decide +kernel) ⟨Nat.le_of_ble_eq_true rfl, Nat.le_of_ble_eq_true rfl⟩) hK hNw hG rfl rfl hl.1 rfl (lv_room (Nat.le_of_ble_eq_true rfl)) dX10_digest_79 ⟨Nat.zero_le _, Nat.zero_le _⟩) hG (fun r_79 h_79 g_79 H locs hq hG => ?_)
        replace HW := HW r_79 h_79 g_79 hq
        refine lv_lstore_n (lv' := [(1, .long r_79), (0, .ref (ad 0)), (3, .int x3)]) hx hb dX10_digest_82 rfl hl (by decide) rfl (fun ls hl => ?_)
        refine lv_lload_n hx hb dX10_digest_83 rfl (lv_at hl 0 rfl) ?_
        refine lv_aload_n hx hb dX10_digest_84 rfl (lv_at hl 1 rfl) ?_
        refine g_getr hx hb hw inG10 hown hK hG gl_0 rfl gk_0 (by decide) 0 (by decide) (by rw [gm_0]; decide) (r := 1) gr_0_0 lk10 dX10_digest_85 ?_
        refine g_getr hx hb hw inG6 hown hK hG gl_1 rfl gk_1 (by decide) 5 (by decide) (by rw [gm_1]; decide) (r := 12) gr_1_5 lk196 dX10_digest_88 ?_
        refine lv_iconst (v := 1) hx hb dX10_digest_91 (by decide) ?_
        obtain ⟨P_92, HC_92, HW⟩ := HW
        refine g_calll (g_runS (As := [.long r_79, .ref (ad 12), .int (1 : Int32)]) (rest := []) ⟨hx, hb, hml, hown, hts⟩ (m_X10_withTable l D cy ad h_79 g_79 H.size r_79 12 (gs_12) (1 : Int32) P_92 HC_92) (va_cwS 3 hts (gd_S (wm5 12 rfl rfl) (wm5 13 rfl rfl) (wm1 1 rfl rfl) (wm5 14 rfl rfl)) rfl rfl rfl (by decide +kernel) ⟨Nat.le_of_ble_eq_true rfl, Nat.le_of_ble_eq_true rfl⟩) hK hNw hG rfl rfl hl.1 rfl (lv_room (Nat.le_of_ble_eq_true rfl)) dX10_digest_92 ⟨Nat.zero_le _, Nat.zero_le _⟩) hG (fun r_92 h_92 g_92 H locs hq hG => ?_)
        replace HW := HW r_92 h_92 g_92 hq
        refine lv_lstore_n (lv' := [(1, .long r_92), (0, .ref (ad 0)), (3, .int x3)]) hx hb dX10_digest_95 rfl hl (by decide) rfl (fun ls hl => ?_)
        refine lv_lload_n hx hb dX10_digest_96 rfl (lv_at hl 0 rfl) ?_
        refine lv_aload_n hx hb dX10_digest_97 rfl (lv_at hl 1 rfl) ?_
        refine g_getr hx hb hw inG10 hown hK hG gl_0 rfl gk_0 (by decide) 0 (by decide) (by rw [gm_0]; decide) (r := 1) gr_0_0 lk10 dX10_digest_98 ?_
        refine g_getr hx hb hw inG6 hown hK hG gl_1 rfl gk_1 (by decide) 6 (by decide) (by rw [gm_1]; decide) (r := 14) gr_1_6 lk199 dX10_digest_101 ?_
        refine lv_iconst (v := 3) hx hb dX10_digest_104 (by decide) ?_
        obtain ⟨P_105, HC_105, HW⟩ := HW
        refine g_calll (g_runS (As := [.long r_92, .ref (ad 14), .int (3 : Int32)]) (rest := []) ⟨hx, hb, hml, hown, hts⟩ (m_X10_withTable l D cy ad h_92 g_92 H.size r_92 14 (gs_14) (3 : Int32) P_105 HC_105) (va_cwS 3 hts (gd_S (wm5 12 rfl rfl) (wm5 13 rfl rfl) (wm1 1 rfl rfl) (wm5 14 rfl rfl)) rfl rfl rfl (by decide +kernel) ⟨Nat.le_of_ble_eq_true rfl, Nat.le_of_ble_eq_true rfl⟩) hK hNw hG rfl rfl hl.1 rfl (lv_room (Nat.le_of_ble_eq_true rfl)) dX10_digest_105 ⟨Nat.zero_le _, Nat.zero_le _⟩) hG (fun r_105 h_105 g_105 H locs hq hG => ?_)
        replace HW := HW r_105 h_105 g_105 hq
        refine lv_lstore_n (lv' := [(1, .long r_105), (0, .ref (ad 0)), (3, .int x3)]) hx hb dX10_digest_108 rfl hl (by decide) rfl (fun ls hl => ?_)
        refine lv_lload_n hx hb dX10_digest_109 rfl (lv_at hl 0 rfl) ?_
        refine lv_aload_n hx hb dX10_digest_110 rfl (lv_at hl 1 rfl) ?_
        refine g_getr hx hb hw inG10 hown hK hG gl_0 rfl gk_0 (by decide) 0 (by decide) (by rw [gm_0]; decide) (r := 1) gr_0_0 lk10 dX10_digest_111 ?_
        refine g_getr hx hb hw inG6 hown hK hG gl_1 rfl gk_1 (by decide) 7 (by decide) (by rw [gm_1]; decide) (r := 16) gr_1_7 lk210 dX10_digest_114 ?_
        refine lv_iconst (v := 2) hx hb dX10_digest_117 (by decide) ?_
        obtain ⟨P_118, HC_118, HW⟩ := HW
        refine g_calll (g_runS (As := [.long r_105, .ref (ad 16), .int (2 : Int32)]) (rest := []) ⟨hx, hb, hml, hown, hts⟩ (m_X10_withTable l D cy ad h_105 g_105 H.size r_105 16 (gs_16) (2 : Int32) P_118 HC_118) (va_cwS 3 hts (gd_S (wm5 12 rfl rfl) (wm5 13 rfl rfl) (wm1 1 rfl rfl) (wm5 14 rfl rfl)) rfl rfl rfl (by decide +kernel) ⟨Nat.le_of_ble_eq_true rfl, Nat.le_of_ble_eq_true rfl⟩) hK hNw hG rfl rfl hl.1 rfl (lv_room (Nat.le_of_ble_eq_true rfl)) dX10_digest_118 ⟨Nat.zero_le _, Nat.zero_le _⟩) hG (fun r_118 h_118 g_118 H locs hq hG => ?_)
        replace HW := HW r_118 h_118 g_118 hq
        refine lv_lstore_n (lv' := [(1, .long r_118), (0, .ref (ad 0)), (3, .int x3)]) hx hb dX10_digest_121 rfl hl (by decide) rfl (fun ls hl => ?_)
        refine lv_lload_n hx hb dX10_digest_122 rfl (lv_at hl 0 rfl) ?_
        refine lv_aload_n hx hb dX10_digest_123 rfl (lv_at hl 1 rfl) ?_
        refine g_getr hx hb hw inG10 hown hK hG gl_0 rfl gk_0 (by decide) 0 (by decide) (by rw [gm_0]; decide) (r := 1) gr_0_0 lk10 dX10_digest_124 ?_
        refine g_getr hx hb hw inG6 hown hK hG gl_1 rfl gk_1 (by decide) 8 (by decide) (by rw [gm_1]; decide) (r := 18) gr_1_8 lk229 dX10_digest_127 ?_
        refine lv_iconst (v := 2) hx hb dX10_digest_130 (by decide) ?_
        obtain ⟨P_131, HC_131, HW⟩ := HW
        refine g_calll (g_runS (As := [.long r_118, .ref (ad 18), .int (2 : Int32)]) (rest := []) ⟨hx, hb, hml, hown, hts⟩ (m_X10_withTable l D cy ad h_118 g_118 H.size r_118 18 (gs_18) (2 : Int32) P_131 HC_131) (va_cwS 3 hts (gd_S (wm5 12 rfl rfl) (wm5 13 rfl rfl) (wm1 1 rfl rfl) (wm5 14 rfl rfl)) rfl rfl rfl (by decide +kernel) ⟨Nat.le_of_ble_eq_true rfl, Nat.le_of_ble_eq_true rfl⟩) hK hNw hG rfl rfl hl.1 rfl (lv_room (Nat.le_of_ble_eq_true rfl)) dX10_digest_131 ⟨Nat.zero_le _, Nat.zero_le _⟩) hG (fun r_131 h_131 g_131 H locs hq hG => ?_)
        replace HW := HW r_131 h_131 g_131 hq
        refine lv_lstore_n (lv' := [(1, .long r_131), (0, .ref (ad 0)), (3, .int x3)]) hx hb dX10_digest_134 rfl hl (by decide) rfl (fun ls hl => ?_)
        refine lv_lload_n hx hb dX10_digest_135 rfl (lv_at hl 0 rfl) ?_
        refine lv_aload_n hx hb dX10_digest_136 rfl (lv_at hl 1 rfl) ?_
        refine g_getr hx hb hw inG10 hown hK hG gl_0 rfl gk_0 (by decide) 0 (by decide) (by rw [gm_0]; decide) (r := 1) gr_0_0 lk10 dX10_digest_137 ?_
        refine g_getr hx hb hw inG6 hown hK hG gl_1 rfl gk_1 (by decide) 9 (by decide) (by rw [gm_1]; decide) (r := 20) gr_1_9 lk238 dX10_digest_140 ?_
        refine lv_iconst (v := 2) hx hb dX10_digest_143 (by decide) ?_
        obtain ⟨P_144, HC_144, HW⟩ := HW
        refine g_calll (g_runS (As := [.long r_131, .ref (ad 20), .int (2 : Int32)]) (rest := []) ⟨hx, hb, hml, hown, hts⟩ (m_X10_withTable l D cy ad h_131 g_131 H.size r_131 20 (gs_20) (2 : Int32) P_144 HC_144) (va_cwS 3 hts (gd_S (wm5 12 rfl rfl) (wm5 13 rfl rfl) (wm1 1 rfl rfl) (wm5 14 rfl rfl)) rfl rfl rfl (by decide +kernel) ⟨Nat.le_of_ble_eq_true rfl, Nat.le_of_ble_eq_true rfl⟩) hK hNw hG rfl rfl hl.1 rfl (lv_room (Nat.le_of_ble_eq_true rfl)) dX10_digest_144 ⟨Nat.zero_le _, Nat.zero_le _⟩) hG (fun r_144 h_144 g_144 H locs hq hG => ?_)
        replace HW := HW r_144 h_144 g_144 hq
        refine lv_lstore_n (lv' := [(1, .long r_144), (0, .ref (ad 0)), (3, .int x3)]) hx hb dX10_digest_147 rfl hl (by decide) rfl (fun ls hl => ?_)
        refine lv_lload_n hx hb dX10_digest_148 rfl (lv_at hl 0 rfl) ?_
        refine lv_aload_n hx hb dX10_digest_149 rfl (lv_at hl 1 rfl) ?_
        refine g_getr hx hb hw inG10 hown hK hG gl_0 rfl gk_0 (by decide) 0 (by decide) (by rw [gm_0]; decide) (r := 1) gr_0_0 lk10 dX10_digest_150 ?_
        refine g_getr hx hb hw inG6 hown hK hG gl_1 rfl gk_1 (by decide) 10 (by decide) (by rw [gm_1]; decide) (r := 22) gr_1_10 lk241 dX10_digest_153 ?_
        refine lv_iconst (v := 1) hx hb dX10_digest_156 (by decide) ?_
        obtain ⟨P_157, HC_157, HW⟩ := HW
        refine g_calll (g_runS (As := [.long r_144, .ref (ad 22), .int (1 : Int32)]) (rest := []) ⟨hx, hb, hml, hown, hts⟩ (m_X10_withTable l D cy ad h_144 g_144 H.size r_144 22 (gs_22) (1 : Int32) P_157 HC_157) (va_cwS 3 hts (gd_S (wm5 12 rfl rfl) (wm5 13 rfl rfl) (wm1 1 rfl rfl) (wm5 14 rfl rfl)) rfl rfl rfl (by decide +kernel) ⟨Nat.le_of_ble_eq_true rfl, Nat.le_of_ble_eq_true rfl⟩) hK hNw hG rfl rfl hl.1 rfl (lv_room (Nat.le_of_ble_eq_true rfl)) dX10_digest_157 ⟨Nat.zero_le _, Nat.zero_le _⟩) hG (fun r_157 h_157 g_157 H locs hq hG => ?_)
        replace HW := HW r_157 h_157 g_157 hq
        refine lv_lstore_n (lv' := [(1, .long r_157), (0, .ref (ad 0)), (3, .int x3)]) hx hb dX10_digest_160 rfl hl (by decide) rfl (fun ls hl => ?_)
        refine lv_lload_n hx hb dX10_digest_161 rfl (lv_at hl 0 rfl) ?_
        refine lv_aload_n hx hb dX10_digest_162 rfl (lv_at hl 1 rfl) ?_
        refine g_getr hx hb hw inG10 hown hK hG gl_0 rfl gk_0 (by decide) 0 (by decide) (by rw [gm_0]; decide) (r := 1) gr_0_0 lk10 dX10_digest_163 ?_
        refine g_getr hx hb hw inG6 hown hK hG gl_1 rfl gk_1 (by decide) 11 (by decide) (by rw [gm_1]; decide) (r := 24) gr_1_11 lk109 dX10_digest_166 ?_
        refine lv_iconst (v := 1) hx hb dX10_digest_169 (by decide) ?_
        obtain ⟨P_170, HC_170, HW⟩ := HW
        refine g_calll (g_runS (As := [.long r_157, .ref (ad 24), .int (1 : Int32)]) (rest := []) ⟨hx, hb, hml, hown, hts⟩ (m_X10_withTable l D cy ad h_157 g_157 H.size r_157 24 (gs_24) (1 : Int32) P_170 HC_170) (va_cwS 3 hts (gd_S (wm5 12 rfl rfl) (wm5 13 rfl rfl) (wm1 1 rfl rfl) (wm5 14 rfl rfl)) rfl rfl rfl (by decide +kernel) ⟨Nat.le_of_ble_eq_true rfl, Nat.le_of_ble_eq_true rfl⟩) hK hNw hG rfl rfl hl.1 rfl (lv_room (Nat.le_of_ble_eq_true rfl)) dX10_digest_170 ⟨Nat.zero_le _, Nat.zero_le _⟩) hG (fun r_170 h_170 g_170 H locs hq hG => ?_)
        replace HW := HW r_170 h_170 g_170 hq
        exact W.lret (v := r_170) hx hb hr (fun t ht hW => ⟨⟨r_170, (h_170, g_170), rfl, HW, g_B ht hG⟩, hG.2.2.F ht⟩) hG.2.2.2.2 dX10_digest_173
      · replace HW := HW.2 c_9
        refine lv_ldc2 (v := 31) hx hb hown cn263 dX10_digest_12 ?_
        refine lv_lload_n hx hb dX10_digest_15 rfl (lv_at hl 1 rfl) ?_
        refine lv_lmul hx hb dX10_digest_16 ?_
        refine lv_aload_n hx hb dX10_digest_17 rfl (lv_at hl 0 rfl) ?_
        refine lv_iload_n hx hb dX10_digest_18 rfl (lv_at hl 2 rfl) ?_
        obtain ⟨P_19, HC_19, HW⟩ := HW
        refine g_calli (g_runV (As := [.int x3]) (rest := [.long ((31 : Int64) * x1)]) ⟨hx, hb, hml, hown, hts⟩ (m_X10_count l D cy ad h g H.size x3 P_19 HC_19) (cwV 1 hts (gd_V (wm5 4 rfl rfl) (wm4 230 rfl rfl) (wm4 231 rfl rfl) (wm1 1 rfl rfl) (wm4 232 rfl rfl)) rfl rfl rfl (by decide +kernel) ⟨Nat.le_of_ble_eq_true rfl, Nat.le_of_ble_eq_true rfl⟩) hK hNw hG gl_0 rfl gk_0 (by decide) rfl rfl hl.1 rfl (lv_room (Nat.le_of_ble_eq_true rfl)) dX10_digest_19 ⟨Nat.zero_le _, Nat.zero_le _⟩) hG (fun r_19 h_19 g_19 H locs hq hG => ?_)
        replace HW := HW r_19 h_19 g_19 hq
        refine lv_i2l hx hb dX10_digest_22 rfl ?_
        refine lv_ladd hx hb dX10_digest_23 ?_
        refine lv_topl (fun x1_24 ex1_24 => ?_)
        replace HW := HW x1_24 ex1_24
        refine lv_lstore_n (lv' := [(1, .long x1_24), (0, .ref (ad 0)), (3, .int x3)]) hx hb dX10_digest_24 rfl hl (by decide) rfl (fun ls hl => ?_)
        obtain ⟨x3_25, ex3_25⟩ : ∃ y : Int32, y = (x3 + 1) := ⟨_, rfl⟩
        replace HW := HW x3_25 ex3_25
        refine lv_iinc (v := x3_25) (lv' := [(3, .int x3_25), (1, .long x1_24), (0, .ref (ad 0))]) hx hb dX10_digest_25 hl (k := 2) rfl (by rw [ex3_25]; rfl) (by decide) rfl (fun ls hl => ?_)
        refine lv_goto (tgt := 6) hx hb dX10_digest_28 (by decide) ?_
        exact hK6 x1_24 x3_25 h_19 g_19 _ _ _ HW hG (lv_sub hl [2, 1, 0] rfl)
  have E0 : ∀ (H : Heap) (locs : List Loc) (ls : Array Slot), gG D cy ad (gA ad s.heap.size) s.heap h g H locs → lv_has ls 4 [(0, .ref (ad 0))] → W p l e ({ frames := 6, cells := 0, slots := 0, locals := 150 } : Room) s m args below meth c H locs 0 0 (MQ below (va_Ql (fun (r : Int64) (u : HI × HL) => Q r u.1 u.2) (gB D cy ad s.heap.size) (gA ad s.heap.size)) args s 0 0 (gA ad s.heap.size)) (F0 m 0 ls []) := by
    intro H locs ls hG hl
    unfold w_X10_digest at HW
    refine lv_ldc2 (v := 383) hx hb hown cn261 dX10_digest_0 ?_
    refine lv_lstore_n (lv' := [(1, .long (383 : Int64)), (0, .ref (ad 0))]) hx hb dX10_digest_3 rfl hl (by decide) rfl (fun ls hl => ?_)
    refine lv_iconst (v := 0) hx hb dX10_digest_4 (by decide) ?_
    refine lv_istore_n (lv' := [(3, .int (0 : Int32)), (1, .long (383 : Int64)), (0, .ref (ad 0))]) hx hb dX10_digest_5 rfl hl (by decide) rfl (fun ls hl => ?_)
    obtain ⟨n_6, HW⟩ := HW
    exact L6 n_6 (383 : Int64) (0 : Int32) h g _ _ _ HW hG (lv_sub hl [2, 1, 0] rfl)
  exact E0 _ _ _ hG hl

def w_X11_in (x0 : Int64) (x2 : Int64) (x4 : Int64) (h : HI) (g : HL) (Q : Int32 → HI → HL → Prop) : Prop :=
  (((lg_cmp x0 x2) < 0 → Q (0 : Int32) h g) ∧ (¬ (lg_cmp x0 x2) < 0 → ((0 < (lg_cmp x0 x4) → Q (0 : Int32) h g) ∧ (¬ 0 < (lg_cmp x0 x4) → Q (1 : Int32) h g))))
set_option maxHeartbeats 8000000 in
set_option maxRecDepth 100000 in
theorem m_X11_in (l : Launch) (D : va_G) (cy : Nat → ClassId) (ad : Nat → Nat) (h : HI) (g : HL) (sz : Nat) (x0 : Int64) (x2 : Int64) (x4 : Int64) (Q : Int32 → HI → HL → Prop) (HW : w_X11_in x0 x2 x4 h g Q) : Met l yX11_in (wa yX11_in cX11_in 6 (some .boolean)) ({ frames := 0, cells := 0, slots := 0, locals := 0 }) (va_Pc [.long x0, .long x2, .long x4] (gI D cy ad h g sz)) (va_Qi (fun (r : Int32) (u : HI × HL) => zb r ∧ Q r u.1 u.2) (gB D cy ad sz) (gA ad sz)) 0 0 (gA ad sz) := by
  refine Met.ofW (cc := cX11_in) (maxL := 6) (ret := (some .boolean)) (by decide) rfl ?_
  intro p e s m args below meth c s₁ B hml hv
  obtain ⟨hav, hsz, hP, hK, hD0, hNw⟩ := hv
  have hx := B.exec
  have hb := B.bytes
  have hr := B.returns
  have hts := atoms_spec (ws := (wa yX11_in cX11_in 6 (some .boolean))) B.pre
  have hw := wa_hw hts
  have hown : s.vm.findClass RX11 = some m.cls := findClass_of_methodNamed B.named
  have hlocks := B.notSynchronized
  subst hsz
  have hG : gG D cy ad (gA ad s.heap.size) s.heap h g s.heap [] := ⟨hP, gA_self hD0, va_S.rf⟩
  clear hP hD0
  rw [show (headSpec (wa yX11_in cX11_in 6 (some .boolean)) ({ frames := 0, cells := 0, slots := 0, locals := 0 } : Room)).room = ({ frames := 0, cells := 0, slots := 0, locals := 0 } : Room) from rfl]
  have hl := lv_entry ([.long x0, .long x2, .long x4]) (n := 6) (Nat.le_of_ble_eq_true rfl)
  rw [show entryFrame m args 6 = entryFrame m ([.long x0, .long x2, .long x4] : List Value).toArray 6 from by rw [hav], lg_entry_eq]
  generalize (lg_sl ([.long x0, .long x2, .long x4]) ++ List.replicate (6 - (lg_sl ([.long x0, .long x2, .long x4])).length) Slot.unset).toArray = ls at hl ⊢
  have hl : lv_has ls 6 [(0, .long x0), (2, .long x2), (4, .long x4)] := hl
  have E0 : ∀ (H : Heap) (locs : List Loc) (ls : Array Slot), gG D cy ad (gA ad s.heap.size) s.heap h g H locs → lv_has ls 6 [(0, .long x0), (2, .long x2), (4, .long x4)] → W p l e ({ frames := 0, cells := 0, slots := 0, locals := 0 } : Room) s m args below meth c H locs 0 0 (MQ below (va_Qi (fun (r : Int32) (u : HI × HL) => zb r ∧ Q r u.1 u.2) (gB D cy ad s.heap.size) (gA ad s.heap.size)) args s 0 0 (gA ad s.heap.size)) (F0 m 0 ls []) := by
    intro H locs ls hG hl
    unfold w_X11_in at HW
    refine lv_lload_n hx hb dX11_in_0 rfl (lv_at hl 0 rfl) ?_
    refine lv_lload_n hx hb dX11_in_1 rfl (lv_at hl 1 rfl) ?_
    refine W.lcmp hx hb dX11_in_2 ?_
    refine lv_if_lt (tgt := 17) hx hb dX11_in_3 (by decide) (fun c_3 => ?_) (fun c_3 => ?_)
    · replace HW := HW.1 c_3
      refine lv_iconst (v := 0) hx hb dX11_in_17 (by decide) ?_
      exact W.zret (v := (0 : Int32)) hx hb hr rfl (fun t ht hW => ⟨⟨(0 : Int32), (h, g), rfl, ⟨Or.inl rfl, HW⟩, g_B ht hG⟩, hG.2.2.F ht⟩) hG.2.2.2.2 dX11_in_18
    · replace HW := HW.2 c_3
      refine lv_lload_n hx hb dX11_in_6 rfl (lv_at hl 0 rfl) ?_
      refine lv_lload hx hb dX11_in_7 (lv_at hl 2 rfl) ?_
      refine W.lcmp hx hb dX11_in_9 ?_
      refine lv_if_gt (tgt := 17) hx hb dX11_in_10 (by decide) (fun c_10 => ?_) (fun c_10 => ?_)
      · replace HW := HW.1 c_10
        refine lv_iconst (v := 0) hx hb dX11_in_17 (by decide) ?_
        exact W.zret (v := (0 : Int32)) hx hb hr rfl (fun t ht hW => ⟨⟨(0 : Int32), (h, g), rfl, ⟨Or.inl rfl, HW⟩, g_B ht hG⟩, hG.2.2.F ht⟩) hG.2.2.2.2 dX11_in_18
      · replace HW := HW.2 c_10
        refine lv_iconst (v := 1) hx hb dX11_in_13 (by decide) ?_
        refine lv_goto (tgt := 18) hx hb dX11_in_14 (by decide) ?_
        exact W.zret (v := (1 : Int32)) hx hb hr rfl (fun t ht hW => ⟨⟨(1 : Int32), (h, g), rfl, ⟨Or.inr rfl, HW⟩, g_B ht hG⟩, hG.2.2.F ht⟩) hG.2.2.2.2 dX11_in_18
  exact E0 _ _ _ hG hl

def w_X11_is (x1 : Int32) (x2 : Int32) (h : HI) (g : HL) (Q : Int32 → HI → HL → Prop) : Prop :=
  (vp_in x1 887 ∧ (∃ P_12 : Int32 → HI → HL → Prop, w_X11_in ((x2).toInt64) (0 : Int64) ((((h 136 x1.toNatClampNeg) - (1 : Int32))).toInt64) h g P_12 ∧ ∀ (r_12 : Int32) (h_12 : HI) (g_12 : HL), zb r_12 → P_12 r_12 h_12 g_12 → (zb r_12 ∧ Q r_12 h_12 g_12)))
set_option maxHeartbeats 8000000 in
set_option maxRecDepth 100000 in
theorem m_X11_is (l : Launch) (D : va_G) (cy : Nat → ClassId) (ad : Nat → Nat) (h : HI) (g : HL) (sz : Nat) (x1 : Int32) (x2 : Int32) (Q : Int32 → HI → HL → Prop) (HW : w_X11_is x1 x2 h g Q) : Met l yX11_is (wa yX11_is cX11_is 3 (some .boolean)) ({ frames := 1, cells := 0, slots := 0, locals := 25 }) (va_Pc [.ref (ad 135), .int x1, .int x2] (gI D cy ad h g sz)) (va_Qi (fun (r : Int32) (u : HI × HL) => zb r ∧ Q r u.1 u.2) (gB D cy ad sz) (gA ad sz)) 0 0 (gA ad sz) := by
  refine Met.ofW (cc := cX11_is) (maxL := 3) (ret := (some .boolean)) (by decide) rfl ?_
  intro p e s m args below meth c s₁ B hml hv
  obtain ⟨hav, hsz, hP, hK, hD0, hNw⟩ := hv
  have hx := B.exec
  have hb := B.bytes
  have hr := B.returns
  have hts := atoms_spec (ws := (wa yX11_is cX11_is 3 (some .boolean))) B.pre
  have hw := wa_hw hts
  have hown : s.vm.findClass RX11 = some m.cls := findClass_of_methodNamed B.named
  have hlocks := B.notSynchronized
  subst hsz
  have hG : gG D cy ad (gA ad s.heap.size) s.heap h g s.heap [] := ⟨hP, gA_self hD0, va_S.rf⟩
  clear hP hD0
  have lk7 := hw (.fieldLink RX11 7 "OldWorksModel" "st" "[I") (wm5 27 rfl rfl)
  rw [show (headSpec (wa yX11_is cX11_is 3 (some .boolean)) ({ frames := 1, cells := 0, slots := 0, locals := 25 } : Room)).room = ({ frames := 1, cells := 0, slots := 0, locals := 25 } : Room) from rfl]
  have hl := lv_entry ([.ref (ad 135), .int x1, .int x2]) (n := 3) (Nat.le_of_ble_eq_true rfl)
  rw [show entryFrame m args 3 = entryFrame m ([.ref (ad 135), .int x1, .int x2] : List Value).toArray 3 from by rw [hav], lg_entry_eq]
  generalize (lg_sl ([.ref (ad 135), .int x1, .int x2]) ++ List.replicate (3 - (lg_sl ([.ref (ad 135), .int x1, .int x2])).length) Slot.unset).toArray = ls at hl ⊢
  have hl : lv_has ls 3 [(0, .ref (ad 135)), (1, .int x1), (2, .int x2)] := hl
  have E0 : ∀ (H : Heap) (locs : List Loc) (ls : Array Slot), gG D cy ad (gA ad s.heap.size) s.heap h g H locs → lv_has ls 3 [(0, .ref (ad 135)), (1, .int x1), (2, .int x2)] → W p l e ({ frames := 1, cells := 0, slots := 0, locals := 25 } : Room) s m args below meth c H locs 0 0 (MQ below (va_Qi (fun (r : Int32) (u : HI × HL) => zb r ∧ Q r u.1 u.2) (gB D cy ad s.heap.size) (gA ad s.heap.size)) args s 0 0 (gA ad s.heap.size)) (F0 m 0 ls []) := by
    intro H locs ls hG hl
    unfold w_X11_is at HW
    refine lv_iload_n hx hb dX11_is_0 rfl (lv_at hl 2 rfl) ?_
    refine lv_i2l hx hb dX11_is_1 rfl ?_
    refine lv_lconst (v := 0) hx hb dX11_is_2 (by decide) ?_
    refine lv_aload_n hx hb dX11_is_3 rfl (lv_at hl 0 rfl) ?_
    refine g_getr hx hb hw inG11 hown hK hG gl_135 rfl gk_135 (by decide) 0 (by decide) (by rw [gm_135]; decide) (r := 136) gr_135_0 lk7 dX11_is_4 ?_
    refine lv_iload_n hx hb dX11_is_7 rfl (lv_at hl 1 rfl) ?_
    refine g_iald hx hb hK hG gl_136 gk_136 gn_136 HW.1 dX11_is_8 ?_
    replace HW := HW.2
    refine lv_iconst (v := 1) hx hb dX11_is_9 (by decide) ?_
    refine lv_isub hx hb dX11_is_10 ?_
    refine lv_i2l hx hb dX11_is_11 rfl ?_
    obtain ⟨P_12, HC_12, HW⟩ := HW
    refine g_callz (g_runS (As := [.long ((x2).toInt64), .long (0 : Int64), .long ((((h 136 x1.toNatClampNeg) - (1 : Int32))).toInt64)]) (rest := []) ⟨hx, hb, hml, hown, hts⟩ (m_X11_in l D cy ad h g H.size ((x2).toInt64) (0 : Int64) ((((h 136 x1.toNatClampNeg) - (1 : Int32))).toInt64) P_12 HC_12) (va_cwS 3 hts (gd_S (wm5 111 rfl rfl) (wm5 112 rfl rfl) (wm1 13 rfl rfl) (wm5 113 rfl rfl)) rfl rfl rfl (by decide +kernel) ⟨Nat.le_of_ble_eq_true rfl, Nat.le_of_ble_eq_true rfl⟩) hK hNw hG rfl rfl hl.1 rfl (lv_room (Nat.le_of_ble_eq_true rfl)) dX11_is_12 ⟨Nat.zero_le _, Nat.zero_le _⟩) hG (fun r_12 h_12 g_12 H locs hz hq hG => ?_)
    replace HW := HW r_12 h_12 g_12 hz hq
    exact W.zret (v := r_12) hx hb hr (zb_n HW.1) (fun t ht hW => ⟨⟨r_12, (h_12, g_12), rfl, HW, g_B ht hG⟩, hG.2.2.F ht⟩) hG.2.2.2.2 dX11_is_15
  exact E0 _ _ _ hG hl

def w_X11_one (x1 : Int32) (h : HI) (g : HL) (Q : Int32 → HI → HL → Prop) : Prop :=
  (vp_in x1 887 ∧ (vp_in x1 887 ∧ ∀ h_9 : HI, h_9 = hu h 136 x1.toNatClampNeg ((h 136 x1.toNatClampNeg) + (1 : Int32)) → (vp_in x1 887 ∧ Q ((h_9 136 x1.toNatClampNeg) - (1 : Int32)) h_9 g)))
set_option maxHeartbeats 8000000 in
set_option maxRecDepth 100000 in
theorem m_X11_one (l : Launch) (D : va_G) (cy : Nat → ClassId) (ad : Nat → Nat) (h : HI) (g : HL) (sz : Nat) (x1 : Int32) (Q : Int32 → HI → HL → Prop) (HW : w_X11_one x1 h g Q) : Met l yX11_one (wa yX11_one cX11_one 2 (some .int)) ({ frames := 0, cells := 0, slots := 0, locals := 0 }) (va_Pc [.ref (ad 135), .int x1] (gI D cy ad h g sz)) (va_Qi (fun (r : Int32) (u : HI × HL) => Q r u.1 u.2) (gB D cy ad sz) (gA ad sz)) 0 0 (gA ad sz) := by
  refine Met.ofW (cc := cX11_one) (maxL := 2) (ret := (some .int)) (by decide) rfl ?_
  intro p e s m args below meth c s₁ B hml hv
  obtain ⟨hav, hsz, hP, hK, hD0, hNw⟩ := hv
  have hx := B.exec
  have hb := B.bytes
  have hr := B.returns
  have hts := atoms_spec (ws := (wa yX11_one cX11_one 2 (some .int))) B.pre
  have hw := wa_hw hts
  have hown : s.vm.findClass RX11 = some m.cls := findClass_of_methodNamed B.named
  have hlocks := B.notSynchronized
  subst hsz
  have hG : gG D cy ad (gA ad s.heap.size) s.heap h g s.heap [] := ⟨hP, gA_self hD0, va_S.rf⟩
  clear hP hD0
  have lk7 := hw (.fieldLink RX11 7 "OldWorksModel" "st" "[I") (wm5 27 rfl rfl)
  rw [show (headSpec (wa yX11_one cX11_one 2 (some .int)) ({ frames := 0, cells := 0, slots := 0, locals := 0 } : Room)).room = ({ frames := 0, cells := 0, slots := 0, locals := 0 } : Room) from rfl]
  have hl := lv_entry ([.ref (ad 135), .int x1]) (n := 2) (Nat.le_of_ble_eq_true rfl)
  rw [show entryFrame m args 2 = entryFrame m ([.ref (ad 135), .int x1] : List Value).toArray 2 from by rw [hav], lg_entry_eq]
  generalize (lg_sl ([.ref (ad 135), .int x1]) ++ List.replicate (2 - (lg_sl ([.ref (ad 135), .int x1])).length) Slot.unset).toArray = ls at hl ⊢
  have hl : lv_has ls 2 [(0, .ref (ad 135)), (1, .int x1)] := hl
  have E0 : ∀ (H : Heap) (locs : List Loc) (ls : Array Slot), gG D cy ad (gA ad s.heap.size) s.heap h g H locs → lv_has ls 2 [(0, .ref (ad 135)), (1, .int x1)] → W p l e ({ frames := 0, cells := 0, slots := 0, locals := 0 } : Room) s m args below meth c H locs 0 0 (MQ below (va_Qi (fun (r : Int32) (u : HI × HL) => Q r u.1 u.2) (gB D cy ad s.heap.size) (gA ad s.heap.size)) args s 0 0 (gA ad s.heap.size)) (F0 m 0 ls []) := by
    intro H locs ls hG hl
    unfold w_X11_one at HW
    refine lv_aload_n hx hb dX11_one_0 rfl (lv_at hl 0 rfl) ?_
    refine g_getr hx hb hw inG11 hown hK hG gl_135 rfl gk_135 (by decide) 0 (by decide) (by rw [gm_135]; decide) (r := 136) gr_135_0 lk7 dX11_one_1 ?_
    refine lv_iload_n hx hb dX11_one_4 rfl (lv_at hl 1 rfl) ?_
    refine lv_dup2_11 hx hb dX11_one_5 rfl rfl ?_
    refine g_iald hx hb hK hG gl_136 gk_136 gn_136 HW.1 dX11_one_6 ?_
    replace HW := HW.2
    refine lv_iconst (v := 1) hx hb dX11_one_7 (by decide) ?_
    refine lv_iadd hx hb dX11_one_8 ?_
    refine g_iast hx hb hK hG gl_136 gk_136 gn_136 HW.1 dX11_one_9 (fun H locs hG => ?_)
    replace HW := HW.2
    obtain ⟨h_9, eh_9⟩ : ∃ y : HI, y = hu h 136 x1.toNatClampNeg ((h 136 x1.toNatClampNeg) + (1 : Int32)) := ⟨_, rfl⟩
    rw [← eh_9] at hG
    replace HW := HW h_9 eh_9
    refine lv_aload_n hx hb dX11_one_10 rfl (lv_at hl 0 rfl) ?_
    refine g_getr hx hb hw inG11 hown hK hG gl_135 rfl gk_135 (by decide) 0 (by decide) (by rw [gm_135]; decide) (r := 136) gr_135_0 lk7 dX11_one_11 ?_
    refine lv_iload_n hx hb dX11_one_14 rfl (lv_at hl 1 rfl) ?_
    refine g_iald hx hb hK hG gl_136 gk_136 gn_136 HW.1 dX11_one_15 ?_
    replace HW := HW.2
    refine lv_iconst (v := 1) hx hb dX11_one_16 (by decide) ?_
    refine lv_isub hx hb dX11_one_17 ?_
    exact W.iret (v := ((h_9 136 x1.toNatClampNeg) - (1 : Int32))) hx hb hr (fun t ht hW => ⟨⟨((h_9 136 x1.toNatClampNeg) - (1 : Int32)), (h_9, g), rfl, HW, g_B ht hG⟩, hG.2.2.F ht⟩) hG.2.2.2.2 dX11_one_18
  exact E0 _ _ _ hG hl

def w_X11_puts (x1 : Int32) (x2 : Int32) (h : HI) (g : HL) (Q : Int32 → HI → HL → Prop) : Prop :=
  (vp_in x1 887 ∧ (∀ x3_6 : Int32, x3_6 = (h 136 x1.toNatClampNeg) → (vp_in x1 887 ∧ ∀ h_13 : HI, h_13 = hu h 136 x1.toNatClampNeg x2 → Q x3_6 h_13 g)))
set_option maxHeartbeats 8000000 in
set_option maxRecDepth 100000 in
theorem m_X11_puts (l : Launch) (D : va_G) (cy : Nat → ClassId) (ad : Nat → Nat) (h : HI) (g : HL) (sz : Nat) (x1 : Int32) (x2 : Int32) (Q : Int32 → HI → HL → Prop) (HW : w_X11_puts x1 x2 h g Q) : Met l yX11_puts (wa yX11_puts cX11_puts 4 (some .int)) ({ frames := 0, cells := 0, slots := 0, locals := 0 }) (va_Pc [.ref (ad 135), .int x1, .int x2] (gI D cy ad h g sz)) (va_Qi (fun (r : Int32) (u : HI × HL) => Q r u.1 u.2) (gB D cy ad sz) (gA ad sz)) 0 0 (gA ad sz) := by
  refine Met.ofW (cc := cX11_puts) (maxL := 4) (ret := (some .int)) (by decide) rfl ?_
  intro p e s m args below meth c s₁ B hml hv
  obtain ⟨hav, hsz, hP, hK, hD0, hNw⟩ := hv
  have hx := B.exec
  have hb := B.bytes
  have hr := B.returns
  have hts := atoms_spec (ws := (wa yX11_puts cX11_puts 4 (some .int))) B.pre
  have hw := wa_hw hts
  have hown : s.vm.findClass RX11 = some m.cls := findClass_of_methodNamed B.named
  have hlocks := B.notSynchronized
  subst hsz
  have hG : gG D cy ad (gA ad s.heap.size) s.heap h g s.heap [] := ⟨hP, gA_self hD0, va_S.rf⟩
  clear hP hD0
  have lk7 := hw (.fieldLink RX11 7 "OldWorksModel" "st" "[I") (wm5 27 rfl rfl)
  rw [show (headSpec (wa yX11_puts cX11_puts 4 (some .int)) ({ frames := 0, cells := 0, slots := 0, locals := 0 } : Room)).room = ({ frames := 0, cells := 0, slots := 0, locals := 0 } : Room) from rfl]
  have hl := lv_entry ([.ref (ad 135), .int x1, .int x2]) (n := 4) (Nat.le_of_ble_eq_true rfl)
  rw [show entryFrame m args 4 = entryFrame m ([.ref (ad 135), .int x1, .int x2] : List Value).toArray 4 from by rw [hav], lg_entry_eq]
  generalize (lg_sl ([.ref (ad 135), .int x1, .int x2]) ++ List.replicate (4 - (lg_sl ([.ref (ad 135), .int x1, .int x2])).length) Slot.unset).toArray = ls at hl ⊢
  have hl : lv_has ls 4 [(0, .ref (ad 135)), (1, .int x1), (2, .int x2)] := hl
  have E0 : ∀ (H : Heap) (locs : List Loc) (ls : Array Slot), gG D cy ad (gA ad s.heap.size) s.heap h g H locs → lv_has ls 4 [(0, .ref (ad 135)), (1, .int x1), (2, .int x2)] → W p l e ({ frames := 0, cells := 0, slots := 0, locals := 0 } : Room) s m args below meth c H locs 0 0 (MQ below (va_Qi (fun (r : Int32) (u : HI × HL) => Q r u.1 u.2) (gB D cy ad s.heap.size) (gA ad s.heap.size)) args s 0 0 (gA ad s.heap.size)) (F0 m 0 ls []) := by
    intro H locs ls hG hl
    unfold w_X11_puts at HW
    refine lv_aload_n hx hb dX11_puts_0 rfl (lv_at hl 0 rfl) ?_
    refine g_getr hx hb hw inG11 hown hK hG gl_135 rfl gk_135 (by decide) 0 (by decide) (by rw [gm_135]; decide) (r := 136) gr_135_0 lk7 dX11_puts_1 ?_
    refine lv_iload_n hx hb dX11_puts_4 rfl (lv_at hl 1 rfl) ?_
    refine g_iald hx hb hK hG gl_136 gk_136 gn_136 HW.1 dX11_puts_5 ?_
    replace HW := HW.2
    refine lv_topi (fun x3_6 ex3_6 => ?_)
    replace HW := HW x3_6 ex3_6
    refine lv_istore_n (lv' := [(3, .int x3_6), (0, .ref (ad 135)), (1, .int x1), (2, .int x2)]) hx hb dX11_puts_6 rfl hl (by decide) rfl (fun ls hl => ?_)
    refine lv_aload_n hx hb dX11_puts_7 rfl (lv_at hl 1 rfl) ?_
    refine g_getr hx hb hw inG11 hown hK hG gl_135 rfl gk_135 (by decide) 0 (by decide) (by rw [gm_135]; decide) (r := 136) gr_135_0 lk7 dX11_puts_8 ?_
    refine lv_iload_n hx hb dX11_puts_11 rfl (lv_at hl 2 rfl) ?_
    refine lv_iload_n hx hb dX11_puts_12 rfl (lv_at hl 3 rfl) ?_
    refine g_iast hx hb hK hG gl_136 gk_136 gn_136 HW.1 dX11_puts_13 (fun H locs hG => ?_)
    replace HW := HW.2
    obtain ⟨h_13, eh_13⟩ : ∃ y : HI, y = hu h 136 x1.toNatClampNeg x2 := ⟨_, rfl⟩
    rw [← eh_13] at hG
    replace HW := HW h_13 eh_13
    refine lv_iload_n hx hb dX11_puts_14 rfl (lv_at hl 0 rfl) ?_
    exact W.iret (v := x3_6) hx hb hr (fun t ht hW => ⟨⟨x3_6, (h_13, g), rfl, HW, g_B ht hG⟩, hG.2.2.F ht⟩) hG.2.2.2.2 dX11_puts_15
  exact E0 _ _ _ hG hl

def w_X11_isYear (x0 : Int32) (h : HI) (g : HL) (Q : Int32 → HI → HL → Prop) : Prop :=
  (∃ P_6 : Int32 → HI → HL → Prop, w_X11_in ((x0).toInt64) (0 : Int64) (99 : Int64) h g P_6 ∧ ∀ (r_6 : Int32) (h_6 : HI) (g_6 : HL), zb r_6 → P_6 r_6 h_6 g_6 → (zb r_6 ∧ Q r_6 h_6 g_6))
set_option maxHeartbeats 8000000 in
set_option maxRecDepth 100000 in
theorem m_X11_isYear (l : Launch) (D : va_G) (cy : Nat → ClassId) (ad : Nat → Nat) (h : HI) (g : HL) (sz : Nat) (x0 : Int32) (Q : Int32 → HI → HL → Prop) (HW : w_X11_isYear x0 h g Q) : Met l yX11_isYear (wa yX11_isYear cX11_isYear 1 (some .boolean)) ({ frames := 1, cells := 0, slots := 0, locals := 25 }) (va_Pc [.int x0] (gI D cy ad h g sz)) (va_Qi (fun (r : Int32) (u : HI × HL) => zb r ∧ Q r u.1 u.2) (gB D cy ad sz) (gA ad sz)) 0 0 (gA ad sz) := by
  refine Met.ofW (cc := cX11_isYear) (maxL := 1) (ret := (some .boolean)) (by decide) rfl ?_
  intro p e s m args below meth c s₁ B hml hv
  obtain ⟨hav, hsz, hP, hK, hD0, hNw⟩ := hv
  have hx := B.exec
  have hb := B.bytes
  have hr := B.returns
  have hts := atoms_spec (ws := (wa yX11_isYear cX11_isYear 1 (some .boolean))) B.pre
  have hw := wa_hw hts
  have hown : s.vm.findClass RX11 = some m.cls := findClass_of_methodNamed B.named
  have hlocks := B.notSynchronized
  subst hsz
  have hG : gG D cy ad (gA ad s.heap.size) s.heap h g s.heap [] := ⟨hP, gA_self hD0, va_S.rf⟩
  clear hP hD0
  have cn57 := hw (.constantLong RX11 57 (99)) (wm5 117 rfl rfl)
  rw [show (headSpec (wa yX11_isYear cX11_isYear 1 (some .boolean)) ({ frames := 1, cells := 0, slots := 0, locals := 25 } : Room)).room = ({ frames := 1, cells := 0, slots := 0, locals := 25 } : Room) from rfl]
  have hl := lv_entry ([.int x0]) (n := 1) (Nat.le_of_ble_eq_true rfl)
  rw [show entryFrame m args 1 = entryFrame m ([.int x0] : List Value).toArray 1 from by rw [hav], lg_entry_eq]
  generalize (lg_sl ([.int x0]) ++ List.replicate (1 - (lg_sl ([.int x0])).length) Slot.unset).toArray = ls at hl ⊢
  have hl : lv_has ls 1 [(0, .int x0)] := hl
  have E0 : ∀ (H : Heap) (locs : List Loc) (ls : Array Slot), gG D cy ad (gA ad s.heap.size) s.heap h g H locs → lv_has ls 1 [(0, .int x0)] → W p l e ({ frames := 1, cells := 0, slots := 0, locals := 25 } : Room) s m args below meth c H locs 0 0 (MQ below (va_Qi (fun (r : Int32) (u : HI × HL) => zb r ∧ Q r u.1 u.2) (gB D cy ad s.heap.size) (gA ad s.heap.size)) args s 0 0 (gA ad s.heap.size)) (F0 m 0 ls []) := by
    intro H locs ls hG hl
    unfold w_X11_isYear at HW
    refine lv_iload_n hx hb dX11_isYear_0 rfl (lv_at hl 0 rfl) ?_
    refine lv_i2l hx hb dX11_isYear_1 rfl ?_
    refine lv_lconst (v := 0) hx hb dX11_isYear_2 (by decide) ?_
    refine lv_ldc2 (v := 99) hx hb hown cn57 dX11_isYear_3 ?_
    obtain ⟨P_6, HC_6, HW⟩ := HW
    refine g_callz (g_runS (As := [.long ((x0).toInt64), .long (0 : Int64), .long (99 : Int64)]) (rest := []) ⟨hx, hb, hml, hown, hts⟩ (m_X11_in l D cy ad h g H.size ((x0).toInt64) (0 : Int64) (99 : Int64) P_6 HC_6) (va_cwS 3 hts (gd_S (wm5 111 rfl rfl) (wm5 112 rfl rfl) (wm1 13 rfl rfl) (wm5 113 rfl rfl)) rfl rfl rfl (by decide +kernel) ⟨Nat.le_of_ble_eq_true rfl, Nat.le_of_ble_eq_true rfl⟩) hK hNw hG rfl rfl hl.1 rfl (lv_room (Nat.le_of_ble_eq_true rfl)) dX11_isYear_6 ⟨Nat.zero_le _, Nat.zero_le _⟩) hG (fun r_6 h_6 g_6 H locs hz hq hG => ?_)
    replace HW := HW r_6 h_6 g_6 hz hq
    exact W.zret (v := r_6) hx hb hr (zb_n HW.1) (fun t ht hW => ⟨⟨r_6, (h_6, g_6), rfl, HW, g_B ht hG⟩, hG.2.2.F ht⟩) hG.2.2.2.2 dX11_isYear_9
  exact E0 _ _ _ hG hl

def w_X11_partOf (x1 : Int32) (x2 : Int32) (h : HI) (g : HL) (Q : Int32 → HI → HL → Prop) : Prop :=
  (vp_in (((20 : Int32) + ((5 : Int32) * x1)) + x2) 887 ∧ Q (h 136 (((20 : Int32) + ((5 : Int32) * x1)) + x2).toNatClampNeg) h g)
set_option maxHeartbeats 8000000 in
set_option maxRecDepth 100000 in
theorem m_X11_partOf (l : Launch) (D : va_G) (cy : Nat → ClassId) (ad : Nat → Nat) (h : HI) (g : HL) (sz : Nat) (x1 : Int32) (x2 : Int32) (Q : Int32 → HI → HL → Prop) (HW : w_X11_partOf x1 x2 h g Q) : Met l yX11_partOf (wa yX11_partOf cX11_partOf 3 (some .int)) ({ frames := 0, cells := 0, slots := 0, locals := 0 }) (va_Pc [.ref (ad 135), .int x1, .int x2] (gI D cy ad h g sz)) (va_Qi (fun (r : Int32) (u : HI × HL) => Q r u.1 u.2) (gB D cy ad sz) (gA ad sz)) 0 0 (gA ad sz) := by
  refine Met.ofW (cc := cX11_partOf) (maxL := 3) (ret := (some .int)) (by decide) rfl ?_
  intro p e s m args below meth c s₁ B hml hv
  obtain ⟨hav, hsz, hP, hK, hD0, hNw⟩ := hv
  have hx := B.exec
  have hb := B.bytes
  have hr := B.returns
  have hts := atoms_spec (ws := (wa yX11_partOf cX11_partOf 3 (some .int))) B.pre
  have hw := wa_hw hts
  have hown : s.vm.findClass RX11 = some m.cls := findClass_of_methodNamed B.named
  have hlocks := B.notSynchronized
  subst hsz
  have hG : gG D cy ad (gA ad s.heap.size) s.heap h g s.heap [] := ⟨hP, gA_self hD0, va_S.rf⟩
  clear hP hD0
  have lk7 := hw (.fieldLink RX11 7 "OldWorksModel" "st" "[I") (wm5 27 rfl rfl)
  rw [show (headSpec (wa yX11_partOf cX11_partOf 3 (some .int)) ({ frames := 0, cells := 0, slots := 0, locals := 0 } : Room)).room = ({ frames := 0, cells := 0, slots := 0, locals := 0 } : Room) from rfl]
  have hl := lv_entry ([.ref (ad 135), .int x1, .int x2]) (n := 3) (Nat.le_of_ble_eq_true rfl)
  rw [show entryFrame m args 3 = entryFrame m ([.ref (ad 135), .int x1, .int x2] : List Value).toArray 3 from by rw [hav], lg_entry_eq]
  generalize (lg_sl ([.ref (ad 135), .int x1, .int x2]) ++ List.replicate (3 - (lg_sl ([.ref (ad 135), .int x1, .int x2])).length) Slot.unset).toArray = ls at hl ⊢
  have hl : lv_has ls 3 [(0, .ref (ad 135)), (1, .int x1), (2, .int x2)] := hl
  have E0 : ∀ (H : Heap) (locs : List Loc) (ls : Array Slot), gG D cy ad (gA ad s.heap.size) s.heap h g H locs → lv_has ls 3 [(0, .ref (ad 135)), (1, .int x1), (2, .int x2)] → W p l e ({ frames := 0, cells := 0, slots := 0, locals := 0 } : Room) s m args below meth c H locs 0 0 (MQ below (va_Qi (fun (r : Int32) (u : HI × HL) => Q r u.1 u.2) (gB D cy ad s.heap.size) (gA ad s.heap.size)) args s 0 0 (gA ad s.heap.size)) (F0 m 0 ls []) := by
    intro H locs ls hG hl
    unfold w_X11_partOf at HW
    refine lv_aload_n hx hb dX11_partOf_0 rfl (lv_at hl 0 rfl) ?_
    refine g_getr hx hb hw inG11 hown hK hG gl_135 rfl gk_135 (by decide) 0 (by decide) (by rw [gm_135]; decide) (r := 136) gr_135_0 lk7 dX11_partOf_1 ?_
    refine lv_bipush (v := 20) hx hb dX11_partOf_4 (by decide) ?_
    refine lv_iconst (v := 5) hx hb dX11_partOf_6 (by decide) ?_
    refine lv_iload_n hx hb dX11_partOf_7 rfl (lv_at hl 1 rfl) ?_
    refine lv_imul hx hb dX11_partOf_8 ?_
    refine lv_iadd hx hb dX11_partOf_9 ?_
    refine lv_iload_n hx hb dX11_partOf_10 rfl (lv_at hl 2 rfl) ?_
    refine lv_iadd hx hb dX11_partOf_11 ?_
    refine g_iald hx hb hK hG gl_136 gk_136 gn_136 HW.1 dX11_partOf_12 ?_
    replace HW := HW.2
    exact W.iret (v := (h 136 (((20 : Int32) + ((5 : Int32) * x1)) + x2).toNatClampNeg)) hx hb hr (fun t ht hW => ⟨⟨(h 136 (((20 : Int32) + ((5 : Int32) * x1)) + x2).toNatClampNeg), (h, g), rfl, HW, g_B ht hG⟩, hG.2.2.F ht⟩) hG.2.2.2.2 dX11_partOf_13
  exact E0 _ _ _ hG hl

def w_X11_part (x1 : Int32) (x2 : Int32) (x3 : Int32) (x4 : Int32) (h : HI) (g : HL) (Q : Int32 → HI → HL → Prop) : Prop :=
  (∃ P_6 : Int32 → HI → HL → Prop, w_X11_in ((x1).toInt64) (0 : Int64) (100 : Int64) h g P_6 ∧ ∀ (r_6 : Int32) (h_6 : HI) (g_6 : HL), zb r_6 → P_6 r_6 h_6 g_6 → ((r_6 = 0 → Q (-2 : Int32) h_6 g_6) ∧ (¬ r_6 = 0 → (∃ P_18 : Int32 → HI → HL → Prop, w_X11_in ((x2).toInt64) (1 : Int64) (100 : Int64) h_6 g_6 P_18 ∧ ∀ (r_18 : Int32) (h_18 : HI) (g_18 : HL), zb r_18 → P_18 r_18 h_18 g_18 → ((r_18 = 0 → Q (-2 : Int32) h_18 g_18) ∧ (¬ r_18 = 0 → (∃ P_25 : Int32 → HI → HL → Prop, w_X11_isYear x3 h_18 g_18 P_25 ∧ ∀ (r_25 : Int32) (h_25 : HI) (g_25 : HL), zb r_25 → P_25 r_25 h_25 g_25 → ((r_25 = 0 → Q (-2 : Int32) h_25 g_25) ∧ (¬ r_25 = 0 → (∃ P_40 : Int32 → HI → HL → Prop, w_X11_in ((x4).toInt64) (-1 : Int64) (3 : Int64) h_25 g_25 P_40 ∧ ∀ (r_40 : Int32) (h_40 : HI) (g_40 : HL), zb r_40 → P_40 r_40 h_40 g_40 → ((¬ r_40 = 0 → (vp_in (0 : Int32) 887 ∧ ((¬ (h_40 136 (0 : Int32).toNatClampNeg) = (24 : Int32) → (vp_in (0 : Int32) 887 ∧ (∀ x5_74 : Int32, x5_74 = ((20 : Int32) + ((5 : Int32) * (h_40 136 (0 : Int32).toNatClampNeg))) → (vp_in x5_74 887 ∧ ∀ h_83 : HI, h_83 = hu h_40 136 x5_74.toNatClampNeg x1 → (vp_in (x5_74 + (1 : Int32)) 887 ∧ ∀ h_93 : HI, h_93 = hu h_83 136 (x5_74 + (1 : Int32)).toNatClampNeg x2 → (vp_in (x5_74 + (2 : Int32)) 887 ∧ ∀ h_103 : HI, h_103 = hu h_93 136 (x5_74 + (2 : Int32)).toNatClampNeg x3 → (vp_in (x5_74 + (3 : Int32)) 887 ∧ ∀ h_114 : HI, h_114 = hu h_103 136 (x5_74 + (3 : Int32)).toNatClampNeg x4 → (vp_in (x5_74 + (4 : Int32)) 887 ∧ ∀ h_124 : HI, h_124 = hu h_114 136 (x5_74 + (4 : Int32)).toNatClampNeg (0 : Int32) → (∃ P_127 : Int32 → HI → HL → Prop, w_X11_one (0 : Int32) h_124 g_40 P_127 ∧ ∀ (r_127 : Int32) (h_127 : HI) (g_127 : HL), P_127 r_127 h_127 g_127 → Q r_127 h_127 g_127))))))))) ∧ ((h_40 136 (0 : Int32).toNatClampNeg) = (24 : Int32) → Q (-4 : Int32) h_40 g_40)))) ∧ (r_40 = 0 → Q (-2 : Int32) h_40 g_40))))))))))))
set_option maxHeartbeats 8000000 in
set_option maxRecDepth 100000 in
theorem m_X11_part (l : Launch) (D : va_G) (cy : Nat → ClassId) (ad : Nat → Nat) (h : HI) (g : HL) (sz : Nat) (x1 : Int32) (x2 : Int32) (x3 : Int32) (x4 : Int32) (Q : Int32 → HI → HL → Prop) (HW : w_X11_part x1 x2 x3 x4 h g Q) : Met l yX11_part (wa yX11_part cX11_part 6 (some .int)) ({ frames := 2, cells := 0, slots := 0, locals := 45 }) (va_Pc [.ref (ad 135), .int x1, .int x2, .int x3, .int x4] (gI D cy ad h g sz)) (va_Qi (fun (r : Int32) (u : HI × HL) => Q r u.1 u.2) (gB D cy ad sz) (gA ad sz)) 0 0 (gA ad sz) := by
  refine Met.ofW (cc := cX11_part) (maxL := 6) (ret := (some .int)) (by decide) rfl ?_
  intro p e s m args below meth c s₁ B hml hv
  obtain ⟨hav, hsz, hP, hK, hD0, hNw⟩ := hv
  have hx := B.exec
  have hb := B.bytes
  have hr := B.returns
  have hts := atoms_spec (ws := (wa yX11_part cX11_part 6 (some .int))) B.pre
  have hw := wa_hw hts
  have hown : s.vm.findClass RX11 = some m.cls := findClass_of_methodNamed B.named
  have hlocks := B.notSynchronized
  subst hsz
  have hG : gG D cy ad (gA ad s.heap.size) s.heap h g s.heap [] := ⟨hP, gA_self hD0, va_S.rf⟩
  clear hP hD0
  have cn59 := hw (.constantLong RX11 59 (100)) (wm5 110 rfl rfl)
  have cn65 := hw (.constantLong RX11 65 (-1)) (wm5 118 rfl rfl)
  have cn67 := hw (.constantLong RX11 67 (3)) (wm5 119 rfl rfl)
  have lk7 := hw (.fieldLink RX11 7 "OldWorksModel" "st" "[I") (wm5 27 rfl rfl)
  rw [show (headSpec (wa yX11_part cX11_part 6 (some .int)) ({ frames := 2, cells := 0, slots := 0, locals := 45 } : Room)).room = ({ frames := 2, cells := 0, slots := 0, locals := 45 } : Room) from rfl]
  have hl := lv_entry ([.ref (ad 135), .int x1, .int x2, .int x3, .int x4]) (n := 6) (Nat.le_of_ble_eq_true rfl)
  rw [show entryFrame m args 6 = entryFrame m ([.ref (ad 135), .int x1, .int x2, .int x3, .int x4] : List Value).toArray 6 from by rw [hav], lg_entry_eq]
  generalize (lg_sl ([.ref (ad 135), .int x1, .int x2, .int x3, .int x4]) ++ List.replicate (6 - (lg_sl ([.ref (ad 135), .int x1, .int x2, .int x3, .int x4])).length) Slot.unset).toArray = ls at hl ⊢
  have hl : lv_has ls 6 [(0, .ref (ad 135)), (1, .int x1), (2, .int x2), (3, .int x3), (4, .int x4)] := hl
  have E0 : ∀ (H : Heap) (locs : List Loc) (ls : Array Slot), gG D cy ad (gA ad s.heap.size) s.heap h g H locs → lv_has ls 6 [(0, .ref (ad 135)), (1, .int x1), (2, .int x2), (3, .int x3), (4, .int x4)] → W p l e ({ frames := 2, cells := 0, slots := 0, locals := 45 } : Room) s m args below meth c H locs 0 0 (MQ below (va_Qi (fun (r : Int32) (u : HI × HL) => Q r u.1 u.2) (gB D cy ad s.heap.size) (gA ad s.heap.size)) args s 0 0 (gA ad s.heap.size)) (F0 m 0 ls []) := by
    intro H locs ls hG hl
    unfold w_X11_part at HW
    refine lv_iload_n hx hb dX11_part_0 rfl (lv_at hl 1 rfl) ?_
    refine lv_i2l hx hb dX11_part_1 rfl ?_
    refine lv_lconst (v := 0) hx hb dX11_part_2 (by decide) ?_
    refine lv_ldc2 (v := 100) hx hb hown cn59 dX11_part_3 ?_
    obtain ⟨P_6, HC_6, HW⟩ := HW
    refine g_callz (g_runS (As := [.long ((x1).toInt64), .long (0 : Int64), .long (100 : Int64)]) (rest := []) ⟨hx, hb, hml, hown, hts⟩ (m_X11_in l D cy ad h g H.size ((x1).toInt64) (0 : Int64) (100 : Int64) P_6 HC_6) (va_cwS 3 hts (gd_S (wm5 111 rfl rfl) (wm5 112 rfl rfl) (wm1 13 rfl rfl) (wm5 113 rfl rfl)) rfl rfl rfl (by decide +kernel) ⟨Nat.le_of_ble_eq_true rfl, Nat.le_of_ble_eq_true rfl⟩) hK hNw hG rfl rfl hl.1 rfl (lv_room (Nat.le_of_ble_eq_true rfl)) dX11_part_6 ⟨Nat.zero_le _, Nat.zero_le _⟩) hG (fun r_6 h_6 g_6 H locs hz hq hG => ?_)
    replace HW := HW r_6 h_6 g_6 hz hq
    refine lv_if_eq (tgt := 46) hx hb dX11_part_9 (by decide) (fun c_9 => ?_) (fun c_9 => ?_)
    · replace HW := HW.1 c_9
      refine lv_bipush (v := (-2)) hx hb dX11_part_46 (by decide) ?_
      exact W.iret (v := (-2 : Int32)) hx hb hr (fun t ht hW => ⟨⟨(-2 : Int32), (h_6, g_6), rfl, HW, g_B ht hG⟩, hG.2.2.F ht⟩) hG.2.2.2.2 dX11_part_48
    · replace HW := HW.2 c_9
      refine lv_iload_n hx hb dX11_part_12 rfl (lv_at hl 2 rfl) ?_
      refine lv_i2l hx hb dX11_part_13 rfl ?_
      refine lv_lconst (v := 1) hx hb dX11_part_14 (by decide) ?_
      refine lv_ldc2 (v := 100) hx hb hown cn59 dX11_part_15 ?_
      obtain ⟨P_18, HC_18, HW⟩ := HW
      refine g_callz (g_runS (As := [.long ((x2).toInt64), .long (1 : Int64), .long (100 : Int64)]) (rest := []) ⟨hx, hb, hml, hown, hts⟩ (m_X11_in l D cy ad h_6 g_6 H.size ((x2).toInt64) (1 : Int64) (100 : Int64) P_18 HC_18) (va_cwS 3 hts (gd_S (wm5 111 rfl rfl) (wm5 112 rfl rfl) (wm1 13 rfl rfl) (wm5 113 rfl rfl)) rfl rfl rfl (by decide +kernel) ⟨Nat.le_of_ble_eq_true rfl, Nat.le_of_ble_eq_true rfl⟩) hK hNw hG rfl rfl hl.1 rfl (lv_room (Nat.le_of_ble_eq_true rfl)) dX11_part_18 ⟨Nat.zero_le _, Nat.zero_le _⟩) hG (fun r_18 h_18 g_18 H locs hz hq hG => ?_)
      replace HW := HW r_18 h_18 g_18 hz hq
      refine lv_if_eq (tgt := 46) hx hb dX11_part_21 (by decide) (fun c_21 => ?_) (fun c_21 => ?_)
      · replace HW := HW.1 c_21
        refine lv_bipush (v := (-2)) hx hb dX11_part_46 (by decide) ?_
        exact W.iret (v := (-2 : Int32)) hx hb hr (fun t ht hW => ⟨⟨(-2 : Int32), (h_18, g_18), rfl, HW, g_B ht hG⟩, hG.2.2.F ht⟩) hG.2.2.2.2 dX11_part_48
      · replace HW := HW.2 c_21
        refine lv_iload_n hx hb dX11_part_24 rfl (lv_at hl 3 rfl) ?_
        obtain ⟨P_25, HC_25, HW⟩ := HW
        refine g_callz (g_runS (As := [.int x3]) (rest := []) ⟨hx, hb, hml, hown, hts⟩ (m_X11_isYear l D cy ad h_18 g_18 H.size x3 P_25 HC_25) (va_cwS 1 hts (gd_S (wm5 114 rfl rfl) (wm5 115 rfl rfl) (wm1 13 rfl rfl) (wm5 116 rfl rfl)) rfl rfl rfl (by decide +kernel) ⟨Nat.le_of_ble_eq_true rfl, Nat.le_of_ble_eq_true rfl⟩) hK hNw hG rfl rfl hl.1 rfl (lv_room (Nat.le_of_ble_eq_true rfl)) dX11_part_25 ⟨Nat.zero_le _, Nat.zero_le _⟩) hG (fun r_25 h_25 g_25 H locs hz hq hG => ?_)
        replace HW := HW r_25 h_25 g_25 hz hq
        refine lv_if_eq (tgt := 46) hx hb dX11_part_28 (by decide) (fun c_28 => ?_) (fun c_28 => ?_)
        · replace HW := HW.1 c_28
          refine lv_bipush (v := (-2)) hx hb dX11_part_46 (by decide) ?_
          exact W.iret (v := (-2 : Int32)) hx hb hr (fun t ht hW => ⟨⟨(-2 : Int32), (h_25, g_25), rfl, HW, g_B ht hG⟩, hG.2.2.F ht⟩) hG.2.2.2.2 dX11_part_48
        · replace HW := HW.2 c_28
          refine lv_iload hx hb dX11_part_31 (lv_at hl 4 rfl) ?_
          refine lv_i2l hx hb dX11_part_33 rfl ?_
          refine lv_ldc2 (v := (-1)) hx hb hown cn65 dX11_part_34 ?_
          refine lv_ldc2 (v := 3) hx hb hown cn67 dX11_part_37 ?_
          obtain ⟨P_40, HC_40, HW⟩ := HW
          refine g_callz (g_runS (As := [.long ((x4).toInt64), .long (-1 : Int64), .long (3 : Int64)]) (rest := []) ⟨hx, hb, hml, hown, hts⟩ (m_X11_in l D cy ad h_25 g_25 H.size ((x4).toInt64) (-1 : Int64) (3 : Int64) P_40 HC_40) (va_cwS 3 hts (gd_S (wm5 111 rfl rfl) (wm5 112 rfl rfl) (wm1 13 rfl rfl) (wm5 113 rfl rfl)) rfl rfl rfl (by decide +kernel) ⟨Nat.le_of_ble_eq_true rfl, Nat.le_of_ble_eq_true rfl⟩) hK hNw hG rfl rfl hl.1 rfl (lv_room (Nat.le_of_ble_eq_true rfl)) dX11_part_40 ⟨Nat.zero_le _, Nat.zero_le _⟩) hG (fun r_40 h_40 g_40 H locs hz hq hG => ?_)
          replace HW := HW r_40 h_40 g_40 hz hq
          refine lv_if_ne (tgt := 49) hx hb dX11_part_43 (by decide) (fun c_43 => ?_) (fun c_43 => ?_)
          · replace HW := HW.1 c_43
            refine lv_aload_n hx hb dX11_part_49 rfl (lv_at hl 0 rfl) ?_
            refine g_getr hx hb hw inG11 hown hK hG gl_135 rfl gk_135 (by decide) 0 (by decide) (by rw [gm_135]; decide) (r := 136) gr_135_0 lk7 dX11_part_50 ?_
            refine lv_iconst (v := 0) hx hb dX11_part_53 (by decide) ?_
            refine g_iald hx hb hK hG gl_136 gk_136 gn_136 HW.1 dX11_part_54 ?_
            replace HW := HW.2
            refine lv_bipush (v := 24) hx hb dX11_part_55 (by decide) ?_
            refine lv_icmp_ne (tgt := 63) hx hb dX11_part_57 (by decide) (fun c_57 => ?_) (fun c_57 => ?_)
            · replace HW := HW.1 c_57
              refine lv_bipush (v := 20) hx hb dX11_part_63 (by decide) ?_
              refine lv_iconst (v := 5) hx hb dX11_part_65 (by decide) ?_
              refine lv_aload_n hx hb dX11_part_66 rfl (lv_at hl 0 rfl) ?_
              refine g_getr hx hb hw inG11 hown hK hG gl_135 rfl gk_135 (by decide) 0 (by decide) (by rw [gm_135]; decide) (r := 136) gr_135_0 lk7 dX11_part_67 ?_
              refine lv_iconst (v := 0) hx hb dX11_part_70 (by decide) ?_
              refine g_iald hx hb hK hG gl_136 gk_136 gn_136 HW.1 dX11_part_71 ?_
              replace HW := HW.2
              refine lv_imul hx hb dX11_part_72 ?_
              refine lv_iadd hx hb dX11_part_73 ?_
              refine lv_topi (fun x5_74 ex5_74 => ?_)
              replace HW := HW x5_74 ex5_74
              refine lv_istore (lv' := [(5, .int x5_74), (0, .ref (ad 135)), (1, .int x1), (2, .int x2), (3, .int x3), (4, .int x4)]) hx hb dX11_part_74 hl (by decide) rfl (fun ls hl => ?_)
              refine lv_aload_n hx hb dX11_part_76 rfl (lv_at hl 1 rfl) ?_
              refine g_getr hx hb hw inG11 hown hK hG gl_135 rfl gk_135 (by decide) 0 (by decide) (by rw [gm_135]; decide) (r := 136) gr_135_0 lk7 dX11_part_77 ?_
              refine lv_iload hx hb dX11_part_80 (lv_at hl 0 rfl) ?_
              refine lv_iload_n hx hb dX11_part_82 rfl (lv_at hl 2 rfl) ?_
              refine g_iast hx hb hK hG gl_136 gk_136 gn_136 HW.1 dX11_part_83 (fun H locs hG => ?_)
              replace HW := HW.2
              obtain ⟨h_83, eh_83⟩ : ∃ y : HI, y = hu h_40 136 x5_74.toNatClampNeg x1 := ⟨_, rfl⟩
              rw [← eh_83] at hG
              replace HW := HW h_83 eh_83
              refine lv_aload_n hx hb dX11_part_84 rfl (lv_at hl 1 rfl) ?_
              refine g_getr hx hb hw inG11 hown hK hG gl_135 rfl gk_135 (by decide) 0 (by decide) (by rw [gm_135]; decide) (r := 136) gr_135_0 lk7 dX11_part_85 ?_
              refine lv_iload hx hb dX11_part_88 (lv_at hl 0 rfl) ?_
              refine lv_iconst (v := 1) hx hb dX11_part_90 (by decide) ?_
              refine lv_iadd hx hb dX11_part_91 ?_
              refine lv_iload_n hx hb dX11_part_92 rfl (lv_at hl 3 rfl) ?_
              refine g_iast hx hb hK hG gl_136 gk_136 gn_136 HW.1 dX11_part_93 (fun H locs hG => ?_)
              replace HW := HW.2
              obtain ⟨h_93, eh_93⟩ : ∃ y : HI, y = hu h_83 136 (x5_74 + (1 : Int32)).toNatClampNeg x2 := ⟨_, rfl⟩
              rw [← eh_93] at hG
              replace HW := HW h_93 eh_93
              refine lv_aload_n hx hb dX11_part_94 rfl (lv_at hl 1 rfl) ?_
              refine g_getr hx hb hw inG11 hown hK hG gl_135 rfl gk_135 (by decide) 0 (by decide) (by rw [gm_135]; decide) (r := 136) gr_135_0 lk7 dX11_part_95 ?_
              refine lv_iload hx hb dX11_part_98 (lv_at hl 0 rfl) ?_
              refine lv_iconst (v := 2) hx hb dX11_part_100 (by decide) ?_
              refine lv_iadd hx hb dX11_part_101 ?_
              refine lv_iload_n hx hb dX11_part_102 rfl (lv_at hl 4 rfl) ?_
              refine g_iast hx hb hK hG gl_136 gk_136 gn_136 HW.1 dX11_part_103 (fun H locs hG => ?_)
              replace HW := HW.2
              obtain ⟨h_103, eh_103⟩ : ∃ y : HI, y = hu h_93 136 (x5_74 + (2 : Int32)).toNatClampNeg x3 := ⟨_, rfl⟩
              rw [← eh_103] at hG
              replace HW := HW h_103 eh_103
              refine lv_aload_n hx hb dX11_part_104 rfl (lv_at hl 1 rfl) ?_
              refine g_getr hx hb hw inG11 hown hK hG gl_135 rfl gk_135 (by decide) 0 (by decide) (by rw [gm_135]; decide) (r := 136) gr_135_0 lk7 dX11_part_105 ?_
              refine lv_iload hx hb dX11_part_108 (lv_at hl 0 rfl) ?_
              refine lv_iconst (v := 3) hx hb dX11_part_110 (by decide) ?_
              refine lv_iadd hx hb dX11_part_111 ?_
              refine lv_iload hx hb dX11_part_112 (lv_at hl 5 rfl) ?_
              refine g_iast hx hb hK hG gl_136 gk_136 gn_136 HW.1 dX11_part_114 (fun H locs hG => ?_)
              replace HW := HW.2
              obtain ⟨h_114, eh_114⟩ : ∃ y : HI, y = hu h_103 136 (x5_74 + (3 : Int32)).toNatClampNeg x4 := ⟨_, rfl⟩
              rw [← eh_114] at hG
              replace HW := HW h_114 eh_114
              refine lv_aload_n hx hb dX11_part_115 rfl (lv_at hl 1 rfl) ?_
              refine g_getr hx hb hw inG11 hown hK hG gl_135 rfl gk_135 (by decide) 0 (by decide) (by rw [gm_135]; decide) (r := 136) gr_135_0 lk7 dX11_part_116 ?_
              refine lv_iload hx hb dX11_part_119 (lv_at hl 0 rfl) ?_
              refine lv_iconst (v := 4) hx hb dX11_part_121 (by decide) ?_
              refine lv_iadd hx hb dX11_part_122 ?_
              refine lv_iconst (v := 0) hx hb dX11_part_123 (by decide) ?_
              refine g_iast hx hb hK hG gl_136 gk_136 gn_136 HW.1 dX11_part_124 (fun H locs hG => ?_)
              replace HW := HW.2
              obtain ⟨h_124, eh_124⟩ : ∃ y : HI, y = hu h_114 136 (x5_74 + (4 : Int32)).toNatClampNeg (0 : Int32) := ⟨_, rfl⟩
              rw [← eh_124] at hG
              replace HW := HW h_124 eh_124
              refine lv_aload_n hx hb dX11_part_125 rfl (lv_at hl 1 rfl) ?_
              refine lv_iconst (v := 0) hx hb dX11_part_126 (by decide) ?_
              obtain ⟨P_127, HC_127, HW⟩ := HW
              refine g_calli (g_runV (As := [.int (0 : Int32)]) (rest := []) ⟨hx, hb, hml, hown, hts⟩ (m_X11_one l D cy ad h_124 g_40 H.size (0 : Int32) P_127 HC_127) (cwV 1 hts (gd_V (wm5 120 rfl rfl) (wm5 122 rfl rfl) (wmp3 (q := (yX11_one, 26)) 7 rfl) (wm1 13 rfl rfl) (wm5 123 rfl rfl)) rfl rfl rfl (by decide +kernel) ⟨Nat.le_of_ble_eq_true rfl, Nat.le_of_ble_eq_true rfl⟩) hK hNw hG gl_135 rfl gk_135 (by decide) rfl rfl hl.1 rfl (lv_room (Nat.le_of_ble_eq_true rfl)) dX11_part_127 ⟨Nat.zero_le _, Nat.zero_le _⟩) hG (fun r_127 h_127 g_127 H locs hq hG => ?_)
              replace HW := HW r_127 h_127 g_127 hq
              exact W.iret (v := r_127) hx hb hr (fun t ht hW => ⟨⟨r_127, (h_127, g_127), rfl, HW, g_B ht hG⟩, hG.2.2.F ht⟩) hG.2.2.2.2 dX11_part_130
            · replace HW := HW.2 c_57
              refine lv_bipush (v := (-4)) hx hb dX11_part_60 (by decide) ?_
              exact W.iret (v := (-4 : Int32)) hx hb hr (fun t ht hW => ⟨⟨(-4 : Int32), (h_40, g_40), rfl, HW, g_B ht hG⟩, hG.2.2.F ht⟩) hG.2.2.2.2 dX11_part_62
          · replace HW := HW.2 c_43
            refine lv_bipush (v := (-2)) hx hb dX11_part_46 (by decide) ?_
            exact W.iret (v := (-2 : Int32)) hx hb hr (fun t ht hW => ⟨⟨(-2 : Int32), (h_40, g_40), rfl, HW, g_B ht hG⟩, hG.2.2.F ht⟩) hG.2.2.2.2 dX11_part_48
  exact E0 _ _ _ hG hl
end
section
-- 03.w14
def w_X11_isSize (x0 : Int32) (h : HI) (g : HL) (Q : Int32 → HI → HL → Prop) : Prop :=
  (∃ P_6 : Int32 → HI → HL → Prop, w_X11_in ((x0).toInt64) (1 : Int64) (100000 : Int64) h g P_6 ∧ ∀ (r_6 : Int32) (h_6 : HI) (g_6 : HL), zb r_6 → P_6 r_6 h_6 g_6 → (zb r_6 ∧ Q r_6 h_6 g_6))
set_option maxHeartbeats 8000000 in
set_option maxRecDepth 100000 in
theorem m_X11_isSize (l : Launch) (D : va_G) (cy : Nat → ClassId) (ad : Nat → Nat) (h : HI) (g : HL) (sz : Nat) (x0 : Int32) (Q : Int32 → HI → HL → Prop) (HW : w_X11_isSize x0 h g Q) : Met l yX11_isSize (wa yX11_isSize cX11_isSize 1 (some .boolean)) ({ frames := 1, cells := 0, slots := 0, locals := 25 }) (va_Pc [.int x0] (gI D cy ad h g sz)) (va_Qi (fun (r : Int32) (u : HI × HL) => zb r ∧ Q r u.1 u.2) (gB D cy ad sz) (gA ad sz)) 0 0 (gA ad sz) := by
  refine Met.ofW (cc := cX11_isSize) (maxL := 1) (ret := (some .boolean)) (by decide) rfl ?_
  intro p e s m args below meth c s₁ B hml hv
  obtain ⟨hav, hsz, hP, hK, hD0, hNw⟩ := hv
  have hx := B.exec
  have hb := B.bytes
  have hr := B.returns
  have hts := atoms_spec (ws := (wa yX11_isSize cX11_isSize 1 (some .boolean))) B.pre
  have hw := wa_hw hts
  have hown : s.vm.findClass RX11 = some m.cls := findClass_of_methodNamed B.named
  have hlocks := B.notSynchronized
  subst hsz
  have hG : gG D cy ad (gA ad s.heap.size) s.heap h g s.heap [] := ⟨hP, gA_self hD0, va_S.rf⟩
  clear hP hD0
  have cn73 := hw (.constantLong RX11 73 (100000)) (wm5 131 rfl rfl)
  rw [show (headSpec (wa yX11_isSize cX11_isSize 1 (some .boolean)) ({ frames := 1, cells := 0, slots := 0, locals := 25 } : Room)).room = ({ frames := 1, cells := 0, slots := 0, locals := 25 } : Room) from rfl]
  have hl := lv_entry ([.int x0]) (n := 1) (Nat.le_of_ble_eq_true rfl)
  rw [show entryFrame m args 1 = entryFrame m ([.int x0] : List Value).toArray 1 from by rw [hav], lg_entry_eq]
  generalize (lg_sl ([.int x0]) ++ List.replicate (1 - (lg_sl ([.int x0])).length) Slot.unset).toArray = ls at hl ⊢
  have hl : lv_has ls 1 [(0, .int x0)] := hl
  have E0 : ∀ (H : Heap) (locs : List Loc) (ls : Array Slot), gG D cy ad (gA ad s.heap.size) s.heap h g H locs → lv_has ls 1 [(0, .int x0)] → W p l e ({ frames := 1, cells := 0, slots := 0, locals := 25 } : Room) s m args below meth c H locs 0 0 (MQ below (va_Qi (fun (r : Int32) (u : HI × HL) => zb r ∧ Q r u.1 u.2) (gB D cy ad s.heap.size) (gA ad s.heap.size)) args s 0 0 (gA ad s.heap.size)) (F0 m 0 ls []) := by
    intro H locs ls hG hl
    unfold w_X11_isSize at HW
    refine lv_iload_n hx hb dX11_isSize_0 rfl (lv_at hl 0 rfl) ?_
    refine lv_i2l hx hb dX11_isSize_1 rfl ?_
    refine lv_lconst (v := 1) hx hb dX11_isSize_2 (by decide) ?_
    refine lv_ldc2 (v := 100000) hx hb hown cn73 dX11_isSize_3 ?_
    obtain ⟨P_6, HC_6, HW⟩ := HW
    refine g_callz (g_runS (As := [.long ((x0).toInt64), .long (1 : Int64), .long (100000 : Int64)]) (rest := []) ⟨hx, hb, hml, hown, hts⟩ (m_X11_in l D cy ad h g H.size ((x0).toInt64) (1 : Int64) (100000 : Int64) P_6 HC_6) (va_cwS 3 hts (gd_S (wm5 111 rfl rfl) (wm5 112 rfl rfl) (wm1 13 rfl rfl) (wm5 113 rfl rfl)) rfl rfl rfl (by decide +kernel) ⟨Nat.le_of_ble_eq_true rfl, Nat.le_of_ble_eq_true rfl⟩) hK hNw hG rfl rfl hl.1 rfl (lv_room (Nat.le_of_ble_eq_true rfl)) dX11_isSize_6 ⟨Nat.zero_le _, Nat.zero_le _⟩) hG (fun r_6 h_6 g_6 H locs hz hq hG => ?_)
    replace HW := HW r_6 h_6 g_6 hz hq
    exact W.zret (v := r_6) hx hb hr (zb_n HW.1) (fun t ht hW => ⟨⟨r_6, (h_6, g_6), rfl, HW, g_B ht hG⟩, hG.2.2.F ht⟩) hG.2.2.2.2 dX11_isSize_9
  exact E0 _ _ _ hG hl

def w_X11_family (x1 : Int32) (x2 : Int32) (x3 : Int32) (x4 : Int32) (h : HI) (g : HL) (Q : Int32 → HI → HL → Prop) : Prop :=
  (∃ P_6 : Int32 → HI → HL → Prop, w_X11_in ((x1).toInt64) (0 : Int64) (3 : Int64) h g P_6 ∧ ∀ (r_6 : Int32) (h_6 : HI) (g_6 : HL), zb r_6 → P_6 r_6 h_6 g_6 → ((r_6 = 0 → Q (-2 : Int32) h_6 g_6) ∧ (¬ r_6 = 0 → (∃ P_13 : Int32 → HI → HL → Prop, w_X11_isSize x2 h_6 g_6 P_13 ∧ ∀ (r_13 : Int32) (h_13 : HI) (g_13 : HL), zb r_13 → P_13 r_13 h_13 g_13 → ((r_13 = 0 → Q (-2 : Int32) h_13 g_13) ∧ (¬ r_13 = 0 → (∃ P_20 : Int32 → HI → HL → Prop, w_X11_isSize x3 h_13 g_13 P_20 ∧ ∀ (r_20 : Int32) (h_20 : HI) (g_20 : HL), zb r_20 → P_20 r_20 h_20 g_20 → ((r_20 = 0 → Q (-2 : Int32) h_20 g_20) ∧ (¬ r_20 = 0 → (∃ P_28 : Int32 → HI → HL → Prop, w_X11_isSize x4 h_20 g_20 P_28 ∧ ∀ (r_28 : Int32) (h_28 : HI) (g_28 : HL), zb r_28 → P_28 r_28 h_28 g_28 → ((r_28 = 0 → Q (-2 : Int32) h_28 g_28) ∧ (¬ r_28 = 0 → (((lg_cmp (((x2).toInt64) + ((((x4).toInt64) - (1 : Int64)) * ((x3).toInt64))) (100000 : Int64)) ≤ 0 → (vp_in ((140 : Int32) + ((3 : Int32) * x1)) 887 ∧ ∀ h_67 : HI, h_67 = hu h_28 136 ((140 : Int32) + ((3 : Int32) * x1)).toNatClampNeg x2 → (vp_in (((140 : Int32) + ((3 : Int32) * x1)) + (1 : Int32)) 887 ∧ ∀ h_82 : HI, h_82 = hu h_67 136 (((140 : Int32) + ((3 : Int32) * x1)) + (1 : Int32)).toNatClampNeg x3 → (vp_in (((140 : Int32) + ((3 : Int32) * x1)) + (2 : Int32)) 887 ∧ ∀ h_98 : HI, h_98 = hu h_82 136 (((140 : Int32) + ((3 : Int32) * x1)) + (2 : Int32)).toNatClampNeg x4 → Q (1 : Int32) h_98 g_28)))) ∧ (¬ (lg_cmp (((x2).toInt64) + ((((x4).toInt64) - (1 : Int64)) * ((x3).toInt64))) (100000 : Int64)) ≤ 0 → Q (-2 : Int32) h_28 g_28))))))))))))))
set_option maxHeartbeats 8000000 in
set_option maxRecDepth 100000 in
theorem m_X11_family (l : Launch) (D : va_G) (cy : Nat → ClassId) (ad : Nat → Nat) (h : HI) (g : HL) (sz : Nat) (x1 : Int32) (x2 : Int32) (x3 : Int32) (x4 : Int32) (Q : Int32 → HI → HL → Prop) (HW : w_X11_family x1 x2 x3 x4 h g Q) : Met l yX11_family (wa yX11_family cX11_family 5 (some .int)) ({ frames := 2, cells := 0, slots := 0, locals := 45 }) (va_Pc [.ref (ad 135), .int x1, .int x2, .int x3, .int x4] (gI D cy ad h g sz)) (va_Qi (fun (r : Int32) (u : HI × HL) => Q r u.1 u.2) (gB D cy ad sz) (gA ad sz)) 0 0 (gA ad sz) := by
  refine Met.ofW (cc := cX11_family) (maxL := 5) (ret := (some .int)) (by decide) rfl ?_
  intro p e s m args below meth c s₁ B hml hv
  obtain ⟨hav, hsz, hP, hK, hD0, hNw⟩ := hv
  have hx := B.exec
  have hb := B.bytes
  have hr := B.returns
  have hts := atoms_spec (ws := (wa yX11_family cX11_family 5 (some .int))) B.pre
  have hw := wa_hw hts
  have hown : s.vm.findClass RX11 = some m.cls := findClass_of_methodNamed B.named
  have hlocks := B.notSynchronized
  subst hsz
  have hG : gG D cy ad (gA ad s.heap.size) s.heap h g s.heap [] := ⟨hP, gA_self hD0, va_S.rf⟩
  clear hP hD0
  have cn67 := hw (.constantLong RX11 67 (3)) (wm5 119 rfl rfl)
  have cn73 := hw (.constantLong RX11 73 (100000)) (wm5 131 rfl rfl)
  have lk7 := hw (.fieldLink RX11 7 "OldWorksModel" "st" "[I") (wm5 27 rfl rfl)
  rw [show (headSpec (wa yX11_family cX11_family 5 (some .int)) ({ frames := 2, cells := 0, slots := 0, locals := 45 } : Room)).room = ({ frames := 2, cells := 0, slots := 0, locals := 45 } : Room) from rfl]
  have hl := lv_entry ([.ref (ad 135), .int x1, .int x2, .int x3, .int x4]) (n := 5) (Nat.le_of_ble_eq_true rfl)
  rw [show entryFrame m args 5 = entryFrame m ([.ref (ad 135), .int x1, .int x2, .int x3, .int x4] : List Value).toArray 5 from by rw [hav], lg_entry_eq]
  generalize (lg_sl ([.ref (ad 135), .int x1, .int x2, .int x3, .int x4]) ++ List.replicate (5 - (lg_sl ([.ref (ad 135), .int x1, .int x2, .int x3, .int x4])).length) Slot.unset).toArray = ls at hl ⊢
  have hl : lv_has ls 5 [(0, .ref (ad 135)), (1, .int x1), (2, .int x2), (3, .int x3), (4, .int x4)] := hl
  have E0 : ∀ (H : Heap) (locs : List Loc) (ls : Array Slot), gG D cy ad (gA ad s.heap.size) s.heap h g H locs → lv_has ls 5 [(0, .ref (ad 135)), (1, .int x1), (2, .int x2), (3, .int x3), (4, .int x4)] → W p l e ({ frames := 2, cells := 0, slots := 0, locals := 45 } : Room) s m args below meth c H locs 0 0 (MQ below (va_Qi (fun (r : Int32) (u : HI × HL) => Q r u.1 u.2) (gB D cy ad s.heap.size) (gA ad s.heap.size)) args s 0 0 (gA ad s.heap.size)) (F0 m 0 ls []) := by
    intro H locs ls hG hl
    unfold w_X11_family at HW
    refine lv_iload_n hx hb dX11_family_0 rfl (lv_at hl 1 rfl) ?_
    refine lv_i2l hx hb dX11_family_1 rfl ?_
    refine lv_lconst (v := 0) hx hb dX11_family_2 (by decide) ?_
    refine lv_ldc2 (v := 3) hx hb hown cn67 dX11_family_3 ?_
    obtain ⟨P_6, HC_6, HW⟩ := HW
    refine g_callz (g_runS (As := [.long ((x1).toInt64), .long (0 : Int64), .long (3 : Int64)]) (rest := []) ⟨hx, hb, hml, hown, hts⟩ (m_X11_in l D cy ad h g H.size ((x1).toInt64) (0 : Int64) (3 : Int64) P_6 HC_6) (va_cwS 3 hts (gd_S (wm5 111 rfl rfl) (wm5 112 rfl rfl) (wm1 13 rfl rfl) (wm5 113 rfl rfl)) rfl rfl rfl (by decide +kernel) ⟨Nat.le_of_ble_eq_true rfl, Nat.le_of_ble_eq_true rfl⟩) hK hNw hG rfl rfl hl.1 rfl (lv_room (Nat.le_of_ble_eq_true rfl)) dX11_family_6 ⟨Nat.zero_le _, Nat.zero_le _⟩) hG (fun r_6 h_6 g_6 H locs hz hq hG => ?_)
    replace HW := HW r_6 h_6 g_6 hz hq
    refine lv_if_eq (tgt := 52) hx hb dX11_family_9 (by decide) (fun c_9 => ?_) (fun c_9 => ?_)
    · replace HW := HW.1 c_9
      refine lv_bipush (v := (-2)) hx hb dX11_family_52 (by decide) ?_
      exact W.iret (v := (-2 : Int32)) hx hb hr (fun t ht hW => ⟨⟨(-2 : Int32), (h_6, g_6), rfl, HW, g_B ht hG⟩, hG.2.2.F ht⟩) hG.2.2.2.2 dX11_family_54
    · replace HW := HW.2 c_9
      refine lv_iload_n hx hb dX11_family_12 rfl (lv_at hl 2 rfl) ?_
      obtain ⟨P_13, HC_13, HW⟩ := HW
      refine g_callz (g_runS (As := [.int x2]) (rest := []) ⟨hx, hb, hml, hown, hts⟩ (m_X11_isSize l D cy ad h_6 g_6 H.size x2 P_13 HC_13) (va_cwS 1 hts (gd_S (wm5 128 rfl rfl) (wm5 129 rfl rfl) (wm1 13 rfl rfl) (wm5 130 rfl rfl)) rfl rfl rfl (by decide +kernel) ⟨Nat.le_of_ble_eq_true rfl, Nat.le_of_ble_eq_true rfl⟩) hK hNw hG rfl rfl hl.1 rfl (lv_room (Nat.le_of_ble_eq_true rfl)) dX11_family_13 ⟨Nat.zero_le _, Nat.zero_le _⟩) hG (fun r_13 h_13 g_13 H locs hz hq hG => ?_)
      replace HW := HW r_13 h_13 g_13 hz hq
      refine lv_if_eq (tgt := 52) hx hb dX11_family_16 (by decide) (fun c_16 => ?_) (fun c_16 => ?_)
      · replace HW := HW.1 c_16
        refine lv_bipush (v := (-2)) hx hb dX11_family_52 (by decide) ?_
        exact W.iret (v := (-2 : Int32)) hx hb hr (fun t ht hW => ⟨⟨(-2 : Int32), (h_13, g_13), rfl, HW, g_B ht hG⟩, hG.2.2.F ht⟩) hG.2.2.2.2 dX11_family_54
      · replace HW := HW.2 c_16
        refine lv_iload_n hx hb dX11_family_19 rfl (lv_at hl 3 rfl) ?_
        obtain ⟨P_20, HC_20, HW⟩ := HW
        refine g_callz (g_runS (As := [.int x3]) (rest := []) ⟨hx, hb, hml, hown, hts⟩ (m_X11_isSize l D cy ad h_13 g_13 H.size x3 P_20 HC_20) (va_cwS 1 hts (gd_S (wm5 128 rfl rfl) (wm5 129 rfl rfl) (wm1 13 rfl rfl) (wm5 130 rfl rfl)) rfl rfl rfl (by decide +kernel) ⟨Nat.le_of_ble_eq_true rfl, Nat.le_of_ble_eq_true rfl⟩) hK hNw hG rfl rfl hl.1 rfl (lv_room (Nat.le_of_ble_eq_true rfl)) dX11_family_20 ⟨Nat.zero_le _, Nat.zero_le _⟩) hG (fun r_20 h_20 g_20 H locs hz hq hG => ?_)
        replace HW := HW r_20 h_20 g_20 hz hq
        refine lv_if_eq (tgt := 52) hx hb dX11_family_23 (by decide) (fun c_23 => ?_) (fun c_23 => ?_)
        · replace HW := HW.1 c_23
          refine lv_bipush (v := (-2)) hx hb dX11_family_52 (by decide) ?_
          exact W.iret (v := (-2 : Int32)) hx hb hr (fun t ht hW => ⟨⟨(-2 : Int32), (h_20, g_20), rfl, HW, g_B ht hG⟩, hG.2.2.F ht⟩) hG.2.2.2.2 dX11_family_54
        · replace HW := HW.2 c_23
          refine lv_iload hx hb dX11_family_26 (lv_at hl 4 rfl) ?_
          obtain ⟨P_28, HC_28, HW⟩ := HW
          refine g_callz (g_runS (As := [.int x4]) (rest := []) ⟨hx, hb, hml, hown, hts⟩ (m_X11_isSize l D cy ad h_20 g_20 H.size x4 P_28 HC_28) (va_cwS 1 hts (gd_S (wm5 128 rfl rfl) (wm5 129 rfl rfl) (wm1 13 rfl rfl) (wm5 130 rfl rfl)) rfl rfl rfl (by decide +kernel) ⟨Nat.le_of_ble_eq_true rfl, Nat.le_of_ble_eq_true rfl⟩) hK hNw hG rfl rfl hl.1 rfl (lv_room (Nat.le_of_ble_eq_true rfl)) dX11_family_28 ⟨Nat.zero_le _, Nat.zero_le _⟩) hG (fun r_28 h_28 g_28 H locs hz hq hG => ?_)
          replace HW := HW r_28 h_28 g_28 hz hq
          refine lv_if_eq (tgt := 52) hx hb dX11_family_31 (by decide) (fun c_31 => ?_) (fun c_31 => ?_)
          · replace HW := HW.1 c_31
            refine lv_bipush (v := (-2)) hx hb dX11_family_52 (by decide) ?_
            exact W.iret (v := (-2 : Int32)) hx hb hr (fun t ht hW => ⟨⟨(-2 : Int32), (h_28, g_28), rfl, HW, g_B ht hG⟩, hG.2.2.F ht⟩) hG.2.2.2.2 dX11_family_54
          · replace HW := HW.2 c_31
            refine lv_iload_n hx hb dX11_family_34 rfl (lv_at hl 2 rfl) ?_
            refine lv_i2l hx hb dX11_family_35 rfl ?_
            refine lv_iload hx hb dX11_family_36 (lv_at hl 4 rfl) ?_
            refine lv_i2l hx hb dX11_family_38 rfl ?_
            refine lv_lconst (v := 1) hx hb dX11_family_39 (by decide) ?_
            refine lv_lsub hx hb dX11_family_40 ?_
            refine lv_iload_n hx hb dX11_family_41 rfl (lv_at hl 3 rfl) ?_
            refine lv_i2l hx hb dX11_family_42 rfl ?_
            refine lv_lmul hx hb dX11_family_43 ?_
            refine lv_ladd hx hb dX11_family_44 ?_
            refine lv_ldc2 (v := 100000) hx hb hown cn73 dX11_family_45 ?_
            refine W.lcmp hx hb dX11_family_48 ?_
            refine lv_if_le (tgt := 55) hx hb dX11_family_49 (by decide) (fun c_49 => ?_) (fun c_49 => ?_)
            · replace HW := HW.1 c_49
              refine lv_aload_n hx hb dX11_family_55 rfl (lv_at hl 0 rfl) ?_
              refine g_getr hx hb hw inG11 hown hK hG gl_135 rfl gk_135 (by decide) 0 (by decide) (by rw [gm_135]; decide) (r := 136) gr_135_0 lk7 dX11_family_56 ?_
              refine lv_sipush (v := 140) hx hb dX11_family_59 (by decide) ?_
              refine lv_iconst (v := 3) hx hb dX11_family_62 (by decide) ?_
              refine lv_iload_n hx hb dX11_family_63 rfl (lv_at hl 1 rfl) ?_
              refine lv_imul hx hb dX11_family_64 ?_
              refine lv_iadd hx hb dX11_family_65 ?_
              refine lv_iload_n hx hb dX11_family_66 rfl (lv_at hl 2 rfl) ?_
              refine g_iast hx hb hK hG gl_136 gk_136 gn_136 HW.1 dX11_family_67 (fun H locs hG => ?_)
              replace HW := HW.2
              obtain ⟨h_67, eh_67⟩ : ∃ y : HI, y = hu h_28 136 ((140 : Int32) + ((3 : Int32) * x1)).toNatClampNeg x2 := ⟨_, rfl⟩
              rw [← eh_67] at hG
              replace HW := HW h_67 eh_67
              refine lv_aload_n hx hb dX11_family_68 rfl (lv_at hl 0 rfl) ?_
              refine g_getr hx hb hw inG11 hown hK hG gl_135 rfl gk_135 (by decide) 0 (by decide) (by rw [gm_135]; decide) (r := 136) gr_135_0 lk7 dX11_family_69 ?_
              refine lv_sipush (v := 140) hx hb dX11_family_72 (by decide) ?_
              refine lv_iconst (v := 3) hx hb dX11_family_75 (by decide) ?_
              refine lv_iload_n hx hb dX11_family_76 rfl (lv_at hl 1 rfl) ?_
              refine lv_imul hx hb dX11_family_77 ?_
              refine lv_iadd hx hb dX11_family_78 ?_
              refine lv_iconst (v := 1) hx hb dX11_family_79 (by decide) ?_
              refine lv_iadd hx hb dX11_family_80 ?_
              refine lv_iload_n hx hb dX11_family_81 rfl (lv_at hl 3 rfl) ?_
              refine g_iast hx hb hK hG gl_136 gk_136 gn_136 HW.1 dX11_family_82 (fun H locs hG => ?_)
              replace HW := HW.2
              obtain ⟨h_82, eh_82⟩ : ∃ y : HI, y = hu h_67 136 (((140 : Int32) + ((3 : Int32) * x1)) + (1 : Int32)).toNatClampNeg x3 := ⟨_, rfl⟩
              rw [← eh_82] at hG
              replace HW := HW h_82 eh_82
              refine lv_aload_n hx hb dX11_family_83 rfl (lv_at hl 0 rfl) ?_
              refine g_getr hx hb hw inG11 hown hK hG gl_135 rfl gk_135 (by decide) 0 (by decide) (by rw [gm_135]; decide) (r := 136) gr_135_0 lk7 dX11_family_84 ?_
              refine lv_sipush (v := 140) hx hb dX11_family_87 (by decide) ?_
              refine lv_iconst (v := 3) hx hb dX11_family_90 (by decide) ?_
              refine lv_iload_n hx hb dX11_family_91 rfl (lv_at hl 1 rfl) ?_
              refine lv_imul hx hb dX11_family_92 ?_
              refine lv_iadd hx hb dX11_family_93 ?_
              refine lv_iconst (v := 2) hx hb dX11_family_94 (by decide) ?_
              refine lv_iadd hx hb dX11_family_95 ?_
              refine lv_iload hx hb dX11_family_96 (lv_at hl 4 rfl) ?_
              refine g_iast hx hb hK hG gl_136 gk_136 gn_136 HW.1 dX11_family_98 (fun H locs hG => ?_)
              replace HW := HW.2
              obtain ⟨h_98, eh_98⟩ : ∃ y : HI, y = hu h_82 136 (((140 : Int32) + ((3 : Int32) * x1)) + (2 : Int32)).toNatClampNeg x4 := ⟨_, rfl⟩
              rw [← eh_98] at hG
              replace HW := HW h_98 eh_98
              refine lv_iconst (v := 1) hx hb dX11_family_99 (by decide) ?_
              exact W.iret (v := (1 : Int32)) hx hb hr (fun t ht hW => ⟨⟨(1 : Int32), (h_98, g_28), rfl, HW, g_B ht hG⟩, hG.2.2.F ht⟩) hG.2.2.2.2 dX11_family_100
            · replace HW := HW.2 c_49
              refine lv_bipush (v := (-2)) hx hb dX11_family_52 (by decide) ?_
              exact W.iret (v := (-2 : Int32)) hx hb hr (fun t ht hW => ⟨⟨(-2 : Int32), (h_28, g_28), rfl, HW, g_B ht hG⟩, hG.2.2.F ht⟩) hG.2.2.2.2 dX11_family_54
  exact E0 _ _ _ hG hl

def w_X11_emits (x1 : Int32) (x2 : Int32) (h : HI) (g : HL) (Q : HI → HL → Prop) : Prop :=
  (vp_in (h 135 3) 70 ∧ ∀ h_9 : HI, h_9 = hu h 139 (h 135 3).toNatClampNeg x1 → (vp_in (h_9 135 3) 70 ∧ ∀ h_19 : HI, h_19 = hu h_9 140 (h_9 135 3).toNatClampNeg x2 → (∀ h_27 : HI, h_27 = hu h_19 135 3 ((h_19 135 3) + (1 : Int32)) → Q h_27 g)))
set_option maxHeartbeats 8000000 in
set_option maxRecDepth 100000 in
theorem m_X11_emits (l : Launch) (D : va_G) (cy : Nat → ClassId) (ad : Nat → Nat) (h : HI) (g : HL) (sz : Nat) (x1 : Int32) (x2 : Int32) (Q : HI → HL → Prop) (HW : w_X11_emits x1 x2 h g Q) : Met l yX11_emits (wa yX11_emits cX11_emits 3 none) ({ frames := 0, cells := 0, slots := 0, locals := 0 }) (va_Pc [.ref (ad 135), .int x1, .int x2] (gI D cy ad h g sz)) (va_Qv (fun (u : HI × HL) => Q u.1 u.2) (gB D cy ad sz) (gA ad sz)) 0 0 (gA ad sz) := by
  refine Met.ofW (cc := cX11_emits) (maxL := 3) (ret := none) (by decide) rfl ?_
  intro p e s m args below meth c s₁ B hml hv
  obtain ⟨hav, hsz, hP, hK, hD0, hNw⟩ := hv
  have hx := B.exec
  have hb := B.bytes
  have hr := B.returns
  have hts := atoms_spec (ws := (wa yX11_emits cX11_emits 3 none)) B.pre
  have hw := wa_hw hts
  have hown : s.vm.findClass RX11 = some m.cls := findClass_of_methodNamed B.named
  have hlocks := B.notSynchronized
  subst hsz
  have hG : gG D cy ad (gA ad s.heap.size) s.heap h g s.heap [] := ⟨hP, gA_self hD0, va_S.rf⟩
  clear hP hD0
  have lk20 := hw (.fieldLink RX11 20 "OldWorksModel" "step" "[I") (wm5 31 rfl rfl)
  have lk78 := hw (.fieldLink RX11 78 "OldWorksModel" "steps" "I") (wm5 30 rfl rfl)
  have lk23 := hw (.fieldLink RX11 23 "OldWorksModel" "with" "[I") (wm5 32 rfl rfl)
  rw [show (headSpec (wa yX11_emits cX11_emits 3 none) ({ frames := 0, cells := 0, slots := 0, locals := 0 } : Room)).room = ({ frames := 0, cells := 0, slots := 0, locals := 0 } : Room) from rfl]
  have hl := lv_entry ([.ref (ad 135), .int x1, .int x2]) (n := 3) (Nat.le_of_ble_eq_true rfl)
  rw [show entryFrame m args 3 = entryFrame m ([.ref (ad 135), .int x1, .int x2] : List Value).toArray 3 from by rw [hav], lg_entry_eq]
  generalize (lg_sl ([.ref (ad 135), .int x1, .int x2]) ++ List.replicate (3 - (lg_sl ([.ref (ad 135), .int x1, .int x2])).length) Slot.unset).toArray = ls at hl ⊢
  have hl : lv_has ls 3 [(0, .ref (ad 135)), (1, .int x1), (2, .int x2)] := hl
  have E0 : ∀ (H : Heap) (locs : List Loc) (ls : Array Slot), gG D cy ad (gA ad s.heap.size) s.heap h g H locs → lv_has ls 3 [(0, .ref (ad 135)), (1, .int x1), (2, .int x2)] → W p l e ({ frames := 0, cells := 0, slots := 0, locals := 0 } : Room) s m args below meth c H locs 0 0 (MQ below (va_Qv (fun (u : HI × HL) => Q u.1 u.2) (gB D cy ad s.heap.size) (gA ad s.heap.size)) args s 0 0 (gA ad s.heap.size)) (F0 m 0 ls []) := by
    intro H locs ls hG hl
    unfold w_X11_emits at HW
    refine lv_aload_n hx hb dX11_emits_0 rfl (lv_at hl 0 rfl) ?_
    refine g_getr hx hb hw inG11 hown hK hG gl_135 rfl gk_135 (by decide) 4 (by decide) (by rw [gm_135]; decide) (r := 139) gr_135_4 lk20 dX11_emits_1 ?_
    refine lv_aload_n hx hb dX11_emits_4 rfl (lv_at hl 0 rfl) ?_
    refine g_geti hx hb hw inG11 hown hK hG gl_135 rfl gk_135 (by decide) 3 (by decide) (by rw [gm_135]; decide) gr_135_3 lk78 dX11_emits_5 ?_
    refine lv_iload_n hx hb dX11_emits_8 rfl (lv_at hl 1 rfl) ?_
    refine g_iast hx hb hK hG gl_139 gk_139 gn_139 HW.1 dX11_emits_9 (fun H locs hG => ?_)
    replace HW := HW.2
    obtain ⟨h_9, eh_9⟩ : ∃ y : HI, y = hu h 139 (h 135 3).toNatClampNeg x1 := ⟨_, rfl⟩
    rw [← eh_9] at hG
    replace HW := HW h_9 eh_9
    refine lv_aload_n hx hb dX11_emits_10 rfl (lv_at hl 0 rfl) ?_
    refine g_getr hx hb hw inG11 hown hK hG gl_135 rfl gk_135 (by decide) 5 (by decide) (by rw [gm_135]; decide) (r := 140) gr_135_5 lk23 dX11_emits_11 ?_
    refine lv_aload_n hx hb dX11_emits_14 rfl (lv_at hl 0 rfl) ?_
    refine g_geti hx hb hw inG11 hown hK hG gl_135 rfl gk_135 (by decide) 3 (by decide) (by rw [gm_135]; decide) gr_135_3 lk78 dX11_emits_15 ?_
    refine lv_iload_n hx hb dX11_emits_18 rfl (lv_at hl 2 rfl) ?_
    refine g_iast hx hb hK hG gl_140 gk_140 gn_140 HW.1 dX11_emits_19 (fun H locs hG => ?_)
    replace HW := HW.2
    obtain ⟨h_19, eh_19⟩ : ∃ y : HI, y = hu h_9 140 (h_9 135 3).toNatClampNeg x2 := ⟨_, rfl⟩
    rw [← eh_19] at hG
    replace HW := HW h_19 eh_19
    refine lv_aload_n hx hb dX11_emits_20 rfl (lv_at hl 0 rfl) ?_
    refine lv_dup hx hb dX11_emits_21 rfl ?_
    refine g_geti hx hb hw inG11 hown hK hG gl_135 rfl gk_135 (by decide) 3 (by decide) (by rw [gm_135]; decide) gr_135_3 lk78 dX11_emits_22 ?_
    refine lv_iconst (v := 1) hx hb dX11_emits_25 (by decide) ?_
    refine lv_iadd hx hb dX11_emits_26 ?_
    refine g_put hx hb hw inG11 tyX11 tyX11_ok nmX11 hown hK hG gl_135 rfl gk_135 (by decide) 3 (by decide) (by rw [gm_135]; decide) gr_135_3 rfl (ty := .int) (by decide +kernel) rfl rfl lk78 dX11_emits_27 (fun H locs hG => ?_)
    obtain ⟨h_27, eh_27⟩ : ∃ y : HI, y = hu h_19 135 3 ((h_19 135 3) + (1 : Int32)) := ⟨_, rfl⟩
    rw [← eh_27] at hG
    replace HW := HW h_27 eh_27
    exact W.vret hx hb hr (fun t ht hW => ⟨⟨(h_27, g), rfl, HW, g_B ht hG⟩, hG.2.2.F ht⟩) hG.2.2.2.2 dX11_emits_30
  exact E0 _ _ _ hG hl

def w_X11_holds (x0 : Int32) (h : HI) (g : HL) (Q : Int32 → HI → HL → Prop) : Prop :=
  ((x0 = 2 → Q (6 : Int32) h g) ∧ (x0 = 3 → Q (6 : Int32) h g) ∧ (x0 = 4 → Q (5 : Int32) h g) ∧ (x0 = 5 → Q (5 : Int32) h g) ∧ (x0 = 6 → Q (4 : Int32) h g) ∧ (x0 = 7 → Q (4 : Int32) h g) ∧ (x0 = 8 → Q (3 : Int32) h g) ∧ (x0 = 9 → Q (3 : Int32) h g) ∧ (x0 = 10 → Q (3 : Int32) h g) ∧ (x0 = 11 → Q (2 : Int32) h g) ∧ (x0 = 12 → Q (1 : Int32) h g) ∧ (¬ x0 = 2 → ¬ x0 = 3 → ¬ x0 = 4 → ¬ x0 = 5 → ¬ x0 = 6 → ¬ x0 = 7 → ¬ x0 = 8 → ¬ x0 = 9 → ¬ x0 = 10 → ¬ x0 = 11 → ¬ x0 = 12 → Q (0 : Int32) h g))
set_option maxHeartbeats 8000000 in
set_option maxRecDepth 100000 in
theorem m_X11_holds (l : Launch) (D : va_G) (cy : Nat → ClassId) (ad : Nat → Nat) (h : HI) (g : HL) (sz : Nat) (x0 : Int32) (Q : Int32 → HI → HL → Prop) (HW : w_X11_holds x0 h g Q) : Met l yX11_holds (wa yX11_holds cX11_holds 1 (some .int)) ({ frames := 0, cells := 0, slots := 0, locals := 0 }) (va_Pc [.int x0] (gI D cy ad h g sz)) (va_Qi (fun (r : Int32) (u : HI × HL) => Q r u.1 u.2) (gB D cy ad sz) (gA ad sz)) 0 0 (gA ad sz) := by
  refine Met.ofW (cc := cX11_holds) (maxL := 1) (ret := (some .int)) (by decide) rfl ?_
  intro p e s m args below meth c s₁ B hml hv
  obtain ⟨hav, hsz, hP, hK, hD0, hNw⟩ := hv
  have hx := B.exec
  have hb := B.bytes
  have hr := B.returns
  have hts := atoms_spec (ws := (wa yX11_holds cX11_holds 1 (some .int))) B.pre
  have hw := wa_hw hts
  have hown : s.vm.findClass RX11 = some m.cls := findClass_of_methodNamed B.named
  have hlocks := B.notSynchronized
  subst hsz
  have hG : gG D cy ad (gA ad s.heap.size) s.heap h g s.heap [] := ⟨hP, gA_self hD0, va_S.rf⟩
  clear hP hD0
  rw [show (headSpec (wa yX11_holds cX11_holds 1 (some .int)) ({ frames := 0, cells := 0, slots := 0, locals := 0 } : Room)).room = ({ frames := 0, cells := 0, slots := 0, locals := 0 } : Room) from rfl]
  have hl := lv_entry ([.int x0]) (n := 1) (Nat.le_of_ble_eq_true rfl)
  rw [show entryFrame m args 1 = entryFrame m ([.int x0] : List Value).toArray 1 from by rw [hav], lg_entry_eq]
  generalize (lg_sl ([.int x0]) ++ List.replicate (1 - (lg_sl ([.int x0])).length) Slot.unset).toArray = ls at hl ⊢
  have hl : lv_has ls 1 [(0, .int x0)] := hl
  have E0 : ∀ (H : Heap) (locs : List Loc) (ls : Array Slot), gG D cy ad (gA ad s.heap.size) s.heap h g H locs → lv_has ls 1 [(0, .int x0)] → W p l e ({ frames := 0, cells := 0, slots := 0, locals := 0 } : Room) s m args below meth c H locs 0 0 (MQ below (va_Qi (fun (r : Int32) (u : HI × HL) => Q r u.1 u.2) (gB D cy ad s.heap.size) (gA ad s.heap.size)) args s 0 0 (gA ad s.heap.size)) (F0 m 0 ls []) := by
    intro H locs ls hG hl
    unfold w_X11_holds at HW
    refine lv_iload_n hx hb dX11_holds_0 rfl (lv_at hl 0 rfl) ?_
    by_cases c_1_0 : x0 = 2
    · replace HW := HW.1 c_1_0
      refine lv_tableIn (tgt := 60) (off := 59) hx hb dX11_holds_1 (by rw [c_1_0]; first | done | decide) (by rw [c_1_0]; first | done | decide) (by rw [c_1_0]; first | done | rfl) (by decide) ?_
      refine lv_bipush (v := 6) hx hb dX11_holds_60 (by decide) ?_
      exact W.iret (v := (6 : Int32)) hx hb hr (fun t ht hW => ⟨⟨(6 : Int32), (h, g), rfl, HW, g_B ht hG⟩, hG.2.2.F ht⟩) hG.2.2.2.2 dX11_holds_62
    · by_cases c_1_1 : x0 = 3
      · replace HW := HW.2.1 c_1_1
        refine lv_tableIn (tgt := 63) (off := 62) hx hb dX11_holds_1 (by rw [c_1_1]; first | done | decide) (by rw [c_1_1]; first | done | decide) (by rw [c_1_1]; first | done | rfl) (by decide) ?_
        refine lv_bipush (v := 6) hx hb dX11_holds_63 (by decide) ?_
        exact W.iret (v := (6 : Int32)) hx hb hr (fun t ht hW => ⟨⟨(6 : Int32), (h, g), rfl, HW, g_B ht hG⟩, hG.2.2.F ht⟩) hG.2.2.2.2 dX11_holds_65
      · by_cases c_1_2 : x0 = 4
        · replace HW := HW.2.2.1 c_1_2
          refine lv_tableIn (tgt := 66) (off := 65) hx hb dX11_holds_1 (by rw [c_1_2]; first | done | decide) (by rw [c_1_2]; first | done | decide) (by rw [c_1_2]; first | done | rfl) (by decide) ?_
          refine lv_iconst (v := 5) hx hb dX11_holds_66 (by decide) ?_
          exact W.iret (v := (5 : Int32)) hx hb hr (fun t ht hW => ⟨⟨(5 : Int32), (h, g), rfl, HW, g_B ht hG⟩, hG.2.2.F ht⟩) hG.2.2.2.2 dX11_holds_67
        · by_cases c_1_3 : x0 = 5
          · replace HW := HW.2.2.2.1 c_1_3
            refine lv_tableIn (tgt := 68) (off := 67) hx hb dX11_holds_1 (by rw [c_1_3]; first | done | decide) (by rw [c_1_3]; first | done | decide) (by rw [c_1_3]; first | done | rfl) (by decide) ?_
            refine lv_iconst (v := 5) hx hb dX11_holds_68 (by decide) ?_
            exact W.iret (v := (5 : Int32)) hx hb hr (fun t ht hW => ⟨⟨(5 : Int32), (h, g), rfl, HW, g_B ht hG⟩, hG.2.2.F ht⟩) hG.2.2.2.2 dX11_holds_69
          · by_cases c_1_4 : x0 = 6
            · replace HW := HW.2.2.2.2.1 c_1_4
              refine lv_tableIn (tgt := 70) (off := 69) hx hb dX11_holds_1 (by rw [c_1_4]; first | done | decide) (by rw [c_1_4]; first | done | decide) (by rw [c_1_4]; first | done | rfl) (by decide) ?_
              refine lv_iconst (v := 4) hx hb dX11_holds_70 (by decide) ?_
              exact W.iret (v := (4 : Int32)) hx hb hr (fun t ht hW => ⟨⟨(4 : Int32), (h, g), rfl, HW, g_B ht hG⟩, hG.2.2.F ht⟩) hG.2.2.2.2 dX11_holds_71
            · by_cases c_1_5 : x0 = 7
              · replace HW := HW.2.2.2.2.2.1 c_1_5
                refine lv_tableIn (tgt := 72) (off := 71) hx hb dX11_holds_1 (by rw [c_1_5]; first | done | decide) (by rw [c_1_5]; first | done | decide) (by rw [c_1_5]; first | done | rfl) (by decide) ?_
                refine lv_iconst (v := 4) hx hb dX11_holds_72 (by decide) ?_
                exact W.iret (v := (4 : Int32)) hx hb hr (fun t ht hW => ⟨⟨(4 : Int32), (h, g), rfl, HW, g_B ht hG⟩, hG.2.2.F ht⟩) hG.2.2.2.2 dX11_holds_73
              · by_cases c_1_6 : x0 = 8
                · replace HW := HW.2.2.2.2.2.2.1 c_1_6
                  refine lv_tableIn (tgt := 74) (off := 73) hx hb dX11_holds_1 (by rw [c_1_6]; first | done | decide) (by rw [c_1_6]; first | done | decide) (by rw [c_1_6]; first | done | rfl) (by decide) ?_
                  refine lv_iconst (v := 3) hx hb dX11_holds_74 (by decide) ?_
                  exact W.iret (v := (3 : Int32)) hx hb hr (fun t ht hW => ⟨⟨(3 : Int32), (h, g), rfl, HW, g_B ht hG⟩, hG.2.2.F ht⟩) hG.2.2.2.2 dX11_holds_75
                · by_cases c_1_7 : x0 = 9
                  · replace HW := HW.2.2.2.2.2.2.2.1 c_1_7
                    refine lv_tableIn (tgt := 76) (off := 75) hx hb dX11_holds_1 (by rw [c_1_7]; first | done | decide) (by rw [c_1_7]; first | done | decide) (by rw [c_1_7]; first | done | rfl) (by decide) ?_
                    refine lv_iconst (v := 3) hx hb dX11_holds_76 (by decide) ?_
                    exact W.iret (v := (3 : Int32)) hx hb hr (fun t ht hW => ⟨⟨(3 : Int32), (h, g), rfl, HW, g_B ht hG⟩, hG.2.2.F ht⟩) hG.2.2.2.2 dX11_holds_77
                  · by_cases c_1_8 : x0 = 10
                    · replace HW := HW.2.2.2.2.2.2.2.2.1 c_1_8
                      refine lv_tableIn (tgt := 78) (off := 77) hx hb dX11_holds_1 (by rw [c_1_8]; first | done | decide) (by rw [c_1_8]; first | done | decide) (by rw [c_1_8]; first | done | rfl) (by decide) ?_
                      refine lv_iconst (v := 3) hx hb dX11_holds_78 (by decide) ?_
                      exact W.iret (v := (3 : Int32)) hx hb hr (fun t ht hW => ⟨⟨(3 : Int32), (h, g), rfl, HW, g_B ht hG⟩, hG.2.2.F ht⟩) hG.2.2.2.2 dX11_holds_79
                    · by_cases c_1_9 : x0 = 11
                      · replace HW := HW.2.2.2.2.2.2.2.2.2.1 c_1_9
                        refine lv_tableIn (tgt := 80) (off := 79) hx hb dX11_holds_1 (by rw [c_1_9]; first | done | decide) (by rw [c_1_9]; first | done | decide) (by rw [c_1_9]; first | done | rfl) (by decide) ?_
                        refine lv_iconst (v := 2) hx hb dX11_holds_80 (by decide) ?_
                        exact W.iret (v := (2 : Int32)) hx hb hr (fun t ht hW => ⟨⟨(2 : Int32), (h, g), rfl, HW, g_B ht hG⟩, hG.2.2.F ht⟩) hG.2.2.2.2 dX11_holds_81
                      · by_cases c_1_10 : x0 = 12
                        · replace HW := HW.2.2.2.2.2.2.2.2.2.2.1 c_1_10
                          refine lv_tableIn (tgt := 82) (off := 81) hx hb dX11_holds_1 (by rw [c_1_10]; first | done | decide) (by rw [c_1_10]; first | done | decide) (by rw [c_1_10]; first | done | rfl) (by decide) ?_
                          refine lv_iconst (v := 1) hx hb dX11_holds_82 (by decide) ?_
                          exact W.iret (v := (1 : Int32)) hx hb hr (fun t ht hW => ⟨⟨(1 : Int32), (h, g), rfl, HW, g_B ht hG⟩, hG.2.2.F ht⟩) hG.2.2.2.2 dX11_holds_83
                        · replace HW := HW.2.2.2.2.2.2.2.2.2.2.2 c_1_0 c_1_1 c_1_2 c_1_3 c_1_4 c_1_5 c_1_6 c_1_7 c_1_8 c_1_9 c_1_10
                          have z_1_0 := g_ne c_1_0 (n := 2) (by decide)
                          have z_1_1 := g_ne c_1_1 (n := 3) (by decide)
                          have z_1_2 := g_ne c_1_2 (n := 4) (by decide)
                          have z_1_3 := g_ne c_1_3 (n := 5) (by decide)
                          have z_1_4 := g_ne c_1_4 (n := 6) (by decide)
                          have z_1_5 := g_ne c_1_5 (n := 7) (by decide)
                          have z_1_6 := g_ne c_1_6 (n := 8) (by decide)
                          have z_1_7 := g_ne c_1_7 (n := 9) (by decide)
                          have z_1_8 := g_ne c_1_8 (n := 10) (by decide)
                          have z_1_9 := g_ne c_1_9 (n := 11) (by decide)
                          have z_1_10 := g_ne c_1_10 (n := 12) (by decide)
                          refine lv_tableOut (tgt := 84) hx hb dX11_holds_1 (by omega) (by decide) ?_
                          refine lv_iconst (v := 0) hx hb dX11_holds_84 (by decide) ?_
                          exact W.iret (v := (0 : Int32)) hx hb hr (fun t ht hW => ⟨⟨(0 : Int32), (h, g), rfl, HW, g_B ht hG⟩, hG.2.2.F ht⟩) hG.2.2.2.2 dX11_holds_85
  exact E0 _ _ _ hG hl

def b_X11_settles_0 (Q : HI → HL → Prop) (K0 : Int32 → HI → HL → Prop) (x1 : Int32) (h : HI) (g : HL) : Prop :=
  (((h 135 6) ≤ 0 → Q h g) ∧ (¬ (h 135 6) ≤ 0 → (vp_in ((h 135 6) - (1 : Int32)) 70 ∧ (∃ P_18 : Int32 → HI → HL → Prop, w_X11_holds (h 141 ((h 135 6) - (1 : Int32)).toNatClampNeg) h g P_18 ∧ ∀ (r_18 : Int32) (h_18 : HI) (g_18 : HL), P_18 r_18 h_18 g_18 → ((r_18 < x1 → Q h_18 g_18) ∧ (¬ r_18 < x1 → (∀ h_32 : HI, h_32 = hu h_18 135 6 ((h_18 135 6) - (1 : Int32)) → (vp_in (h_32 135 6) 70 ∧ (∃ P_46 : HI → HL → Prop, w_X11_emits (h_32 141 (h_32 135 6).toNatClampNeg) (0 : Int32) h_32 g_18 P_46 ∧ ∀ (h_46 : HI) (g_46 : HL), P_46 h_46 g_46 → K0 x1 h_46 g_46)))))))))
def F_X11_settles_0 (Q : HI → HL → Prop) (K : Int32 × HI × HL → Prop) (q : Int32 × HI × HL) : Prop := b_X11_settles_0 Q (fun x1 h g => K (x1, h, g)) q.1 q.2.1 q.2.2
def w_X11_settles (x1 : Int32) (h : HI) (g : HL) (Q : HI → HL → Prop) : Prop :=
  lpE (F_X11_settles_0 Q) (x1, h, g)
set_option maxHeartbeats 8000000 in
set_option maxRecDepth 100000 in
theorem m_X11_settles (l : Launch) (D : va_G) (cy : Nat → ClassId) (ad : Nat → Nat) (h : HI) (g : HL) (sz : Nat) (x1 : Int32) (Q : HI → HL → Prop) (HW : w_X11_settles x1 h g Q) : Met l yX11_settles (wa yX11_settles cX11_settles 2 none) ({ frames := 1, cells := 0, slots := 0, locals := 22 }) (va_Pc [.ref (ad 135), .int x1] (gI D cy ad h g sz)) (va_Qv (fun (u : HI × HL) => Q u.1 u.2) (gB D cy ad sz) (gA ad sz)) 0 0 (gA ad sz) := by
  refine Met.ofW (cc := cX11_settles) (maxL := 2) (ret := none) (by decide) rfl ?_
  intro p e s m args below meth c s₁ B hml hv
  obtain ⟨hav, hsz, hP, hK, hD0, hNw⟩ := hv
  have hx := B.exec
  have hb := B.bytes
  have hr := B.returns
  have hts := atoms_spec (ws := (wa yX11_settles cX11_settles 2 none)) B.pre
  have hw := wa_hw hts
  have hown : s.vm.findClass RX11 = some m.cls := findClass_of_methodNamed B.named
  have hlocks := B.notSynchronized
  subst hsz
  have hG : gG D cy ad (gA ad s.heap.size) s.heap h g s.heap [] := ⟨hP, gA_self hD0, va_S.rf⟩
  clear hP hD0
  have lk82 := hw (.fieldLink RX11 82 "OldWorksModel" "waiting" "I") (wm5 33 rfl rfl)
  have lk26 := hw (.fieldLink RX11 26 "OldWorksModel" "waits" "[I") (wm5 34 rfl rfl)
  rw [show (headSpec (wa yX11_settles cX11_settles 2 none) ({ frames := 1, cells := 0, slots := 0, locals := 22 } : Room)).room = ({ frames := 1, cells := 0, slots := 0, locals := 22 } : Room) from rfl]
  have hl := lv_entry ([.ref (ad 135), .int x1]) (n := 2) (Nat.le_of_ble_eq_true rfl)
  rw [show entryFrame m args 2 = entryFrame m ([.ref (ad 135), .int x1] : List Value).toArray 2 from by rw [hav], lg_entry_eq]
  generalize (lg_sl ([.ref (ad 135), .int x1]) ++ List.replicate (2 - (lg_sl ([.ref (ad 135), .int x1])).length) Slot.unset).toArray = ls at hl ⊢
  have hl : lv_has ls 2 [(0, .ref (ad 135)), (1, .int x1)] := hl
  have L0 : ∀ (n : Nat) (x1 : Int32) (h : HI) (g : HL) (H : Heap) (locs : List Loc) (ls : Array Slot), lpN (F_X11_settles_0 Q) n (x1, h, g) → gG D cy ad (gA ad s.heap.size) s.heap h g H locs → lv_has ls 2 [(0, .ref (ad 135)), (1, .int x1)] → W p l e ({ frames := 1, cells := 0, slots := 0, locals := 22 } : Room) s m args below meth c H locs 0 0 (MQ below (va_Qv (fun (u : HI × HL) => Q u.1 u.2) (gB D cy ad s.heap.size) (gA ad s.heap.size)) args s 0 0 (gA ad s.heap.size)) (F0 m 0 ls []) := by
    intro n
    induction n with
    | zero => intro x1 h g H locs ls HW; exact HW.elim
    | succ n ih =>
      intro x1 h g H locs ls HW hG hl
      have HW : b_X11_settles_0 Q (fun x1 h g => lpN (F_X11_settles_0 Q) n (x1, h, g)) x1 h g := HW
      generalize hKe : (fun (x1 : Int32) (h : HI) (g : HL) => lpN (F_X11_settles_0 Q) n (x1, h, g)) = K0 at HW
      have hK0 : ∀ (x1 : Int32) (h : HI) (g : HL) (H : Heap) (locs : List Loc) (ls : Array Slot), K0 x1 h g → gG D cy ad (gA ad s.heap.size) s.heap h g H locs → lv_has ls 2 [(0, .ref (ad 135)), (1, .int x1)] → W p l e ({ frames := 1, cells := 0, slots := 0, locals := 22 } : Room) s m args below meth c H locs 0 0 (MQ below (va_Qv (fun (u : HI × HL) => Q u.1 u.2) (gB D cy ad s.heap.size) (gA ad s.heap.size)) args s 0 0 (gA ad s.heap.size)) (F0 m 0 ls []) := by subst hKe; exact ih
      clear ih
      clear hKe
      unfold b_X11_settles_0 at HW
      refine lv_aload_n hx hb dX11_settles_0 rfl (lv_at hl 0 rfl) ?_
      refine g_geti hx hb hw inG11 hown hK hG gl_135 rfl gk_135 (by decide) 6 (by decide) (by rw [gm_135]; decide) gr_135_6 lk82 dX11_settles_1 ?_
      refine lv_if_le (tgt := 52) hx hb dX11_settles_4 (by decide) (fun c_4 => ?_) (fun c_4 => ?_)
      · replace HW := HW.1 c_4
        exact W.vret hx hb hr (fun t ht hW => ⟨⟨(h, g), rfl, HW, g_B ht hG⟩, hG.2.2.F ht⟩) hG.2.2.2.2 dX11_settles_52
      · replace HW := HW.2 c_4
        refine lv_aload_n hx hb dX11_settles_7 rfl (lv_at hl 0 rfl) ?_
        refine g_getr hx hb hw inG11 hown hK hG gl_135 rfl gk_135 (by decide) 7 (by decide) (by rw [gm_135]; decide) (r := 141) gr_135_7 lk26 dX11_settles_8 ?_
        refine lv_aload_n hx hb dX11_settles_11 rfl (lv_at hl 0 rfl) ?_
        refine g_geti hx hb hw inG11 hown hK hG gl_135 rfl gk_135 (by decide) 6 (by decide) (by rw [gm_135]; decide) gr_135_6 lk82 dX11_settles_12 ?_
        refine lv_iconst (v := 1) hx hb dX11_settles_15 (by decide) ?_
        refine lv_isub hx hb dX11_settles_16 ?_
        refine g_iald hx hb hK hG gl_141 gk_141 gn_141 HW.1 dX11_settles_17 ?_
        replace HW := HW.2
        obtain ⟨P_18, HC_18, HW⟩ := HW
        refine g_calli (g_runS (As := [.int (h 141 ((h 135 6) - (1 : Int32)).toNatClampNeg)]) (rest := []) ⟨hx, hb, hml, hown, hts⟩ (m_X11_holds l D cy ad h g H.size (h 141 ((h 135 6) - (1 : Int32)).toNatClampNeg) P_18 HC_18) (va_cwS 1 hts (gd_S (wm5 157 rfl rfl) (wm5 158 rfl rfl) (wm1 13 rfl rfl) (wm5 159 rfl rfl)) rfl rfl rfl (by decide +kernel) ⟨Nat.le_of_ble_eq_true rfl, Nat.le_of_ble_eq_true rfl⟩) hK hNw hG rfl rfl hl.1 rfl (lv_room (Nat.le_of_ble_eq_true rfl)) dX11_settles_18 ⟨Nat.zero_le _, Nat.zero_le _⟩) hG (fun r_18 h_18 g_18 H locs hq hG => ?_)
        replace HW := HW r_18 h_18 g_18 hq
        refine lv_iload_n hx hb dX11_settles_21 rfl (lv_at hl 1 rfl) ?_
        refine lv_icmp_lt (tgt := 52) hx hb dX11_settles_22 (by decide) (fun c_22 => ?_) (fun c_22 => ?_)
        · replace HW := HW.1 c_22
          exact W.vret hx hb hr (fun t ht hW => ⟨⟨(h_18, g_18), rfl, HW, g_B ht hG⟩, hG.2.2.F ht⟩) hG.2.2.2.2 dX11_settles_52
        · replace HW := HW.2 c_22
          refine lv_aload_n hx hb dX11_settles_25 rfl (lv_at hl 0 rfl) ?_
          refine lv_dup hx hb dX11_settles_26 rfl ?_
          refine g_geti hx hb hw inG11 hown hK hG gl_135 rfl gk_135 (by decide) 6 (by decide) (by rw [gm_135]; decide) gr_135_6 lk82 dX11_settles_27 ?_
          refine lv_iconst (v := 1) hx hb dX11_settles_30 (by decide) ?_
          refine lv_isub hx hb dX11_settles_31 ?_
          refine g_put hx hb hw inG11 tyX11 tyX11_ok nmX11 hown hK hG gl_135 rfl gk_135 (by decide) 6 (by decide) (by rw [gm_135]; decide) gr_135_6 rfl (ty := .int) (by decide +kernel) rfl rfl lk82 dX11_settles_32 (fun H locs hG => ?_)
          obtain ⟨h_32, eh_32⟩ : ∃ y : HI, y = hu h_18 135 6 ((h_18 135 6) - (1 : Int32)) := ⟨_, rfl⟩
          rw [← eh_32] at hG
          replace HW := HW h_32 eh_32
          refine lv_aload_n hx hb dX11_settles_35 rfl (lv_at hl 0 rfl) ?_
          refine lv_aload_n hx hb dX11_settles_36 rfl (lv_at hl 0 rfl) ?_
          refine g_getr hx hb hw inG11 hown hK hG gl_135 rfl gk_135 (by decide) 7 (by decide) (by rw [gm_135]; decide) (r := 141) gr_135_7 lk26 dX11_settles_37 ?_
          refine lv_aload_n hx hb dX11_settles_40 rfl (lv_at hl 0 rfl) ?_
          refine g_geti hx hb hw inG11 hown hK hG gl_135 rfl gk_135 (by decide) 6 (by decide) (by rw [gm_135]; decide) gr_135_6 lk82 dX11_settles_41 ?_
          refine g_iald hx hb hK hG gl_141 gk_141 gn_141 HW.1 dX11_settles_44 ?_
          replace HW := HW.2
          refine lv_iconst (v := 0) hx hb dX11_settles_45 (by decide) ?_
          obtain ⟨P_46, HC_46, HW⟩ := HW
          refine g_callv (g_runV (As := [.int (h_32 141 (h_32 135 6).toNatClampNeg), .int (0 : Int32)]) (rest := []) ⟨hx, hb, hml, hown, hts⟩ (m_X11_emits l D cy ad h_32 g_18 H.size (h_32 141 (h_32 135 6).toNatClampNeg) (0 : Int32) P_46 HC_46) (cwV 2 hts (gd_V (wm5 160 rfl rfl) (wm5 162 rfl rfl) (wmp3 (q := (yX11_emits, 26)) 11 rfl) (wm1 13 rfl rfl) (wm5 163 rfl rfl)) rfl rfl rfl (by decide +kernel) ⟨Nat.le_of_ble_eq_true rfl, Nat.le_of_ble_eq_true rfl⟩) hK hNw hG gl_135 rfl gk_135 (by decide) rfl rfl hl.1 rfl (lv_room (Nat.le_of_ble_eq_true rfl)) dX11_settles_46 ⟨Nat.zero_le _, Nat.zero_le _⟩) hG (fun h_46 g_46 H locs hq hG => ?_)
          replace HW := HW h_46 g_46 hq
          refine lv_goto (tgt := 0) hx hb dX11_settles_49 (by decide) ?_
          exact hK0 x1 h_46 g_46 _ _ _ HW hG (lv_sub hl [0, 1] rfl)
  have E0 : ∀ (H : Heap) (locs : List Loc) (ls : Array Slot), gG D cy ad (gA ad s.heap.size) s.heap h g H locs → lv_has ls 2 [(0, .ref (ad 135)), (1, .int x1)] → W p l e ({ frames := 1, cells := 0, slots := 0, locals := 22 } : Room) s m args below meth c H locs 0 0 (MQ below (va_Qv (fun (u : HI × HL) => Q u.1 u.2) (gB D cy ad s.heap.size) (gA ad s.heap.size)) args s 0 0 (gA ad s.heap.size)) (F0 m 0 ls []) := by
    intro H locs ls hG hl
    unfold w_X11_settles at HW
    obtain ⟨n_0, HW⟩ := HW
    exact L0 n_0 x1 h g _ _ _ HW hG (lv_sub hl [0, 1] rfl)
  exact E0 _ _ _ hG hl

def w_X11_waitsWith (x1 : Int32) (h : HI) (g : HL) (Q : HI → HL → Prop) : Prop :=
  (vp_in (h 135 6) 70 ∧ ∀ h_9 : HI, h_9 = hu h 141 (h 135 6).toNatClampNeg x1 → (∀ h_17 : HI, h_17 = hu h_9 135 6 ((h_9 135 6) + (1 : Int32)) → Q h_17 g))
set_option maxHeartbeats 8000000 in
set_option maxRecDepth 100000 in
theorem m_X11_waitsWith (l : Launch) (D : va_G) (cy : Nat → ClassId) (ad : Nat → Nat) (h : HI) (g : HL) (sz : Nat) (x1 : Int32) (Q : HI → HL → Prop) (HW : w_X11_waitsWith x1 h g Q) : Met l yX11_waitsWith (wa yX11_waitsWith cX11_waitsWith 2 none) ({ frames := 0, cells := 0, slots := 0, locals := 0 }) (va_Pc [.ref (ad 135), .int x1] (gI D cy ad h g sz)) (va_Qv (fun (u : HI × HL) => Q u.1 u.2) (gB D cy ad sz) (gA ad sz)) 0 0 (gA ad sz) := by
  refine Met.ofW (cc := cX11_waitsWith) (maxL := 2) (ret := none) (by decide) rfl ?_
  intro p e s m args below meth c s₁ B hml hv
  obtain ⟨hav, hsz, hP, hK, hD0, hNw⟩ := hv
  have hx := B.exec
  have hb := B.bytes
  have hr := B.returns
  have hts := atoms_spec (ws := (wa yX11_waitsWith cX11_waitsWith 2 none)) B.pre
  have hw := wa_hw hts
  have hown : s.vm.findClass RX11 = some m.cls := findClass_of_methodNamed B.named
  have hlocks := B.notSynchronized
  subst hsz
  have hG : gG D cy ad (gA ad s.heap.size) s.heap h g s.heap [] := ⟨hP, gA_self hD0, va_S.rf⟩
  clear hP hD0
  have lk26 := hw (.fieldLink RX11 26 "OldWorksModel" "waits" "[I") (wm5 34 rfl rfl)
  have lk82 := hw (.fieldLink RX11 82 "OldWorksModel" "waiting" "I") (wm5 33 rfl rfl)
  rw [show (headSpec (wa yX11_waitsWith cX11_waitsWith 2 none) ({ frames := 0, cells := 0, slots := 0, locals := 0 } : Room)).room = ({ frames := 0, cells := 0, slots := 0, locals := 0 } : Room) from rfl]
  have hl := lv_entry ([.ref (ad 135), .int x1]) (n := 2) (Nat.le_of_ble_eq_true rfl)
  rw [show entryFrame m args 2 = entryFrame m ([.ref (ad 135), .int x1] : List Value).toArray 2 from by rw [hav], lg_entry_eq]
  generalize (lg_sl ([.ref (ad 135), .int x1]) ++ List.replicate (2 - (lg_sl ([.ref (ad 135), .int x1])).length) Slot.unset).toArray = ls at hl ⊢
  have hl : lv_has ls 2 [(0, .ref (ad 135)), (1, .int x1)] := hl
  have E0 : ∀ (H : Heap) (locs : List Loc) (ls : Array Slot), gG D cy ad (gA ad s.heap.size) s.heap h g H locs → lv_has ls 2 [(0, .ref (ad 135)), (1, .int x1)] → W p l e ({ frames := 0, cells := 0, slots := 0, locals := 0 } : Room) s m args below meth c H locs 0 0 (MQ below (va_Qv (fun (u : HI × HL) => Q u.1 u.2) (gB D cy ad s.heap.size) (gA ad s.heap.size)) args s 0 0 (gA ad s.heap.size)) (F0 m 0 ls []) := by
    intro H locs ls hG hl
    unfold w_X11_waitsWith at HW
    refine lv_aload_n hx hb dX11_waitsWith_0 rfl (lv_at hl 0 rfl) ?_
    refine g_getr hx hb hw inG11 hown hK hG gl_135 rfl gk_135 (by decide) 7 (by decide) (by rw [gm_135]; decide) (r := 141) gr_135_7 lk26 dX11_waitsWith_1 ?_
    refine lv_aload_n hx hb dX11_waitsWith_4 rfl (lv_at hl 0 rfl) ?_
    refine g_geti hx hb hw inG11 hown hK hG gl_135 rfl gk_135 (by decide) 6 (by decide) (by rw [gm_135]; decide) gr_135_6 lk82 dX11_waitsWith_5 ?_
    refine lv_iload_n hx hb dX11_waitsWith_8 rfl (lv_at hl 1 rfl) ?_
    refine g_iast hx hb hK hG gl_141 gk_141 gn_141 HW.1 dX11_waitsWith_9 (fun H locs hG => ?_)
    replace HW := HW.2
    obtain ⟨h_9, eh_9⟩ : ∃ y : HI, y = hu h 141 (h 135 6).toNatClampNeg x1 := ⟨_, rfl⟩
    rw [← eh_9] at hG
    replace HW := HW h_9 eh_9
    refine lv_aload_n hx hb dX11_waitsWith_10 rfl (lv_at hl 0 rfl) ?_
    refine lv_dup hx hb dX11_waitsWith_11 rfl ?_
    refine g_geti hx hb hw inG11 hown hK hG gl_135 rfl gk_135 (by decide) 6 (by decide) (by rw [gm_135]; decide) gr_135_6 lk82 dX11_waitsWith_12 ?_
    refine lv_iconst (v := 1) hx hb dX11_waitsWith_15 (by decide) ?_
    refine lv_iadd hx hb dX11_waitsWith_16 ?_
    refine g_put hx hb hw inG11 tyX11 tyX11_ok nmX11 hown hK hG gl_135 rfl gk_135 (by decide) 6 (by decide) (by rw [gm_135]; decide) gr_135_6 rfl (ty := .int) (by decide +kernel) rfl rfl lk82 dX11_waitsWith_17 (fun H locs hG => ?_)
    obtain ⟨h_17, eh_17⟩ : ∃ y : HI, y = hu h_9 135 6 ((h_9 135 6) + (1 : Int32)) := ⟨_, rfl⟩
    rw [← eh_17] at hG
    replace HW := HW h_17 eh_17
    exact W.vret hx hb hr (fun t ht hW => ⟨⟨(h_17, g), rfl, HW, g_B ht hG⟩, hG.2.2.F ht⟩) hG.2.2.2.2 dX11_waitsWith_20
  exact E0 _ _ _ hG hl

def w_X11_nameOf (x0 : Int32) (h : HI) (g : HL) (Q : Int32 → HI → HL → Prop) : Prop :=
  ((x0 = 104 → Q (2 : Int32) h g) ∧ (x0 = 108 → Q (1 : Int32) h g) ∧ (x0 = 121 → Q (0 : Int32) h g) ∧ (¬ x0 = 104 → ¬ x0 = 108 → ¬ x0 = 121 → Q (-1 : Int32) h g))
set_option maxHeartbeats 8000000 in
set_option maxRecDepth 100000 in
theorem m_X11_nameOf (l : Launch) (D : va_G) (cy : Nat → ClassId) (ad : Nat → Nat) (h : HI) (g : HL) (sz : Nat) (x0 : Int32) (Q : Int32 → HI → HL → Prop) (HW : w_X11_nameOf x0 h g Q) : Met l yX11_nameOf (wa yX11_nameOf cX11_nameOf 1 (some .int)) ({ frames := 0, cells := 0, slots := 0, locals := 0 }) (va_Pc [.int x0] (gI D cy ad h g sz)) (va_Qi (fun (r : Int32) (u : HI × HL) => Q r u.1 u.2) (gB D cy ad sz) (gA ad sz)) 0 0 (gA ad sz) := by
  refine Met.ofW (cc := cX11_nameOf) (maxL := 1) (ret := (some .int)) (by decide) rfl ?_
  intro p e s m args below meth c s₁ B hml hv
  obtain ⟨hav, hsz, hP, hK, hD0, hNw⟩ := hv
  have hx := B.exec
  have hb := B.bytes
  have hr := B.returns
  have hts := atoms_spec (ws := (wa yX11_nameOf cX11_nameOf 1 (some .int))) B.pre
  have hw := wa_hw hts
  have hown : s.vm.findClass RX11 = some m.cls := findClass_of_methodNamed B.named
  have hlocks := B.notSynchronized
  subst hsz
  have hG : gG D cy ad (gA ad s.heap.size) s.heap h g s.heap [] := ⟨hP, gA_self hD0, va_S.rf⟩
  clear hP hD0
  rw [show (headSpec (wa yX11_nameOf cX11_nameOf 1 (some .int)) ({ frames := 0, cells := 0, slots := 0, locals := 0 } : Room)).room = ({ frames := 0, cells := 0, slots := 0, locals := 0 } : Room) from rfl]
  have hl := lv_entry ([.int x0]) (n := 1) (Nat.le_of_ble_eq_true rfl)
  rw [show entryFrame m args 1 = entryFrame m ([.int x0] : List Value).toArray 1 from by rw [hav], lg_entry_eq]
  generalize (lg_sl ([.int x0]) ++ List.replicate (1 - (lg_sl ([.int x0])).length) Slot.unset).toArray = ls at hl ⊢
  have hl : lv_has ls 1 [(0, .int x0)] := hl
  have E0 : ∀ (H : Heap) (locs : List Loc) (ls : Array Slot), gG D cy ad (gA ad s.heap.size) s.heap h g H locs → lv_has ls 1 [(0, .int x0)] → W p l e ({ frames := 0, cells := 0, slots := 0, locals := 0 } : Room) s m args below meth c H locs 0 0 (MQ below (va_Qi (fun (r : Int32) (u : HI × HL) => Q r u.1 u.2) (gB D cy ad s.heap.size) (gA ad s.heap.size)) args s 0 0 (gA ad s.heap.size)) (F0 m 0 ls []) := by
    intro H locs ls hG hl
    unfold w_X11_nameOf at HW
    refine lv_iload_n hx hb dX11_nameOf_0 rfl (lv_at hl 0 rfl) ?_
    by_cases c_1_0 : x0 = 104
    · replace HW := HW.1 c_1_0
      refine lv_lookup (tgt := 40) hx hb dX11_nameOf_1 (by decide) (by rw [c_1_0]; first | done | decide) (by decide) ?_
      refine lv_iconst (v := 2) hx hb dX11_nameOf_40 (by decide) ?_
      exact W.iret (v := (2 : Int32)) hx hb hr (fun t ht hW => ⟨⟨(2 : Int32), (h, g), rfl, HW, g_B ht hG⟩, hG.2.2.F ht⟩) hG.2.2.2.2 dX11_nameOf_41
    · by_cases c_1_1 : x0 = 108
      · replace HW := HW.2.1 c_1_1
        refine lv_lookup (tgt := 38) hx hb dX11_nameOf_1 (by decide) (by rw [c_1_1]; first | done | decide) (by decide) ?_
        refine lv_iconst (v := 1) hx hb dX11_nameOf_38 (by decide) ?_
        exact W.iret (v := (1 : Int32)) hx hb hr (fun t ht hW => ⟨⟨(1 : Int32), (h, g), rfl, HW, g_B ht hG⟩, hG.2.2.F ht⟩) hG.2.2.2.2 dX11_nameOf_39
      · by_cases c_1_2 : x0 = 121
        · replace HW := HW.2.2.1 c_1_2
          refine lv_lookup (tgt := 36) hx hb dX11_nameOf_1 (by decide) (by rw [c_1_2]; first | done | decide) (by decide) ?_
          refine lv_iconst (v := 0) hx hb dX11_nameOf_36 (by decide) ?_
          exact W.iret (v := (0 : Int32)) hx hb hr (fun t ht hW => ⟨⟨(0 : Int32), (h, g), rfl, HW, g_B ht hG⟩, hG.2.2.F ht⟩) hG.2.2.2.2 dX11_nameOf_37
        · replace HW := HW.2.2.2 c_1_0 c_1_1 c_1_2
          have z_1_0 : ¬ ((104 : Int) = (x0).toInt) := fun q => g_ne c_1_0 (n := 104) (by decide) q.symm
          have z_1_1 : ¬ ((108 : Int) = (x0).toInt) := fun q => g_ne c_1_1 (n := 108) (by decide) q.symm
          have z_1_2 : ¬ ((121 : Int) = (x0).toInt) := fun q => g_ne c_1_2 (n := 121) (by decide) q.symm
          refine lv_lookup (tgt := 42) (off := 41) hx hb dX11_nameOf_1 (by decide) (by show Op.lookupswitch.offset [(104, 39), (108, 37), (121, 35)] (41) (x0).toInt = 41; rw [Op.lookupswitch.offset_cons, if_neg z_1_0, Op.lookupswitch.offset_cons, if_neg z_1_1, Op.lookupswitch.offset_cons, if_neg z_1_2, Op.lookupswitch.offset_nil]) (by decide) ?_
          refine lv_iconst (v := (-1)) hx hb dX11_nameOf_42 (by decide) ?_
          exact W.iret (v := (-1 : Int32)) hx hb hr (fun t ht hW => ⟨⟨(-1 : Int32), (h, g), rfl, HW, g_B ht hG⟩, hG.2.2.F ht⟩) hG.2.2.2.2 dX11_nameOf_43
  exact E0 _ _ _ hG hl

def w_X11_signOf (x0 : Int32) (h : HI) (g : HL) (Q : Int32 → HI → HL → Prop) : Prop :=
  ((x0 = 38 → Q (11 : Int32) h g) ∧ (x0 = 42 → Q (4 : Int32) h g) ∧ (x0 = 43 → Q (6 : Int32) h g) ∧ (x0 = 45 → Q (7 : Int32) h g) ∧ (x0 = 47 → Q (5 : Int32) h g) ∧ (x0 = 60 → Q (8 : Int32) h g) ∧ (x0 = 61 → Q (10 : Int32) h g) ∧ (x0 = 62 → Q (9 : Int32) h g) ∧ (x0 = 124 → Q (12 : Int32) h g) ∧ (¬ x0 = 38 → ¬ x0 = 42 → ¬ x0 = 43 → ¬ x0 = 45 → ¬ x0 = 47 → ¬ x0 = 60 → ¬ x0 = 61 → ¬ x0 = 62 → ¬ x0 = 124 → Q (-1 : Int32) h g))
set_option maxHeartbeats 8000000 in
set_option maxRecDepth 100000 in
theorem m_X11_signOf (l : Launch) (D : va_G) (cy : Nat → ClassId) (ad : Nat → Nat) (h : HI) (g : HL) (sz : Nat) (x0 : Int32) (Q : Int32 → HI → HL → Prop) (HW : w_X11_signOf x0 h g Q) : Met l yX11_signOf (wa yX11_signOf cX11_signOf 1 (some .int)) ({ frames := 0, cells := 0, slots := 0, locals := 0 }) (va_Pc [.int x0] (gI D cy ad h g sz)) (va_Qi (fun (r : Int32) (u : HI × HL) => Q r u.1 u.2) (gB D cy ad sz) (gA ad sz)) 0 0 (gA ad sz) := by
  refine Met.ofW (cc := cX11_signOf) (maxL := 1) (ret := (some .int)) (by decide) rfl ?_
  intro p e s m args below meth c s₁ B hml hv
  obtain ⟨hav, hsz, hP, hK, hD0, hNw⟩ := hv
  have hx := B.exec
  have hb := B.bytes
  have hr := B.returns
  have hts := atoms_spec (ws := (wa yX11_signOf cX11_signOf 1 (some .int))) B.pre
  have hw := wa_hw hts
  have hown : s.vm.findClass RX11 = some m.cls := findClass_of_methodNamed B.named
  have hlocks := B.notSynchronized
  subst hsz
  have hG : gG D cy ad (gA ad s.heap.size) s.heap h g s.heap [] := ⟨hP, gA_self hD0, va_S.rf⟩
  clear hP hD0
  rw [show (headSpec (wa yX11_signOf cX11_signOf 1 (some .int)) ({ frames := 0, cells := 0, slots := 0, locals := 0 } : Room)).room = ({ frames := 0, cells := 0, slots := 0, locals := 0 } : Room) from rfl]
  have hl := lv_entry ([.int x0]) (n := 1) (Nat.le_of_ble_eq_true rfl)
  rw [show entryFrame m args 1 = entryFrame m ([.int x0] : List Value).toArray 1 from by rw [hav], lg_entry_eq]
  generalize (lg_sl ([.int x0]) ++ List.replicate (1 - (lg_sl ([.int x0])).length) Slot.unset).toArray = ls at hl ⊢
  have hl : lv_has ls 1 [(0, .int x0)] := hl
  have E0 : ∀ (H : Heap) (locs : List Loc) (ls : Array Slot), gG D cy ad (gA ad s.heap.size) s.heap h g H locs → lv_has ls 1 [(0, .int x0)] → W p l e ({ frames := 0, cells := 0, slots := 0, locals := 0 } : Room) s m args below meth c H locs 0 0 (MQ below (va_Qi (fun (r : Int32) (u : HI × HL) => Q r u.1 u.2) (gB D cy ad s.heap.size) (gA ad s.heap.size)) args s 0 0 (gA ad s.heap.size)) (F0 m 0 ls []) := by
    intro H locs ls hG hl
    unfold w_X11_signOf at HW
    refine lv_iload_n hx hb dX11_signOf_0 rfl (lv_at hl 0 rfl) ?_
    by_cases c_1_0 : x0 = 38
    · replace HW := HW.1 c_1_0
      refine lv_lookup (tgt := 103) hx hb dX11_signOf_1 (by decide) (by rw [c_1_0]; first | done | decide) (by decide) ?_
      refine lv_bipush (v := 11) hx hb dX11_signOf_103 (by decide) ?_
      exact W.iret (v := (11 : Int32)) hx hb hr (fun t ht hW => ⟨⟨(11 : Int32), (h, g), rfl, HW, g_B ht hG⟩, hG.2.2.F ht⟩) hG.2.2.2.2 dX11_signOf_105
    · by_cases c_1_1 : x0 = 42
      · replace HW := HW.2.1 c_1_1
        refine lv_lookup (tgt := 84) hx hb dX11_signOf_1 (by decide) (by rw [c_1_1]; first | done | decide) (by decide) ?_
        refine lv_iconst (v := 4) hx hb dX11_signOf_84 (by decide) ?_
        exact W.iret (v := (4 : Int32)) hx hb hr (fun t ht hW => ⟨⟨(4 : Int32), (h, g), rfl, HW, g_B ht hG⟩, hG.2.2.F ht⟩) hG.2.2.2.2 dX11_signOf_85
      · by_cases c_1_2 : x0 = 43
        · replace HW := HW.2.2.1 c_1_2
          refine lv_lookup (tgt := 88) hx hb dX11_signOf_1 (by decide) (by rw [c_1_2]; first | done | decide) (by decide) ?_
          refine lv_bipush (v := 6) hx hb dX11_signOf_88 (by decide) ?_
          exact W.iret (v := (6 : Int32)) hx hb hr (fun t ht hW => ⟨⟨(6 : Int32), (h, g), rfl, HW, g_B ht hG⟩, hG.2.2.F ht⟩) hG.2.2.2.2 dX11_signOf_90
        · by_cases c_1_3 : x0 = 45
          · replace HW := HW.2.2.2.1 c_1_3
            refine lv_lookup (tgt := 91) hx hb dX11_signOf_1 (by decide) (by rw [c_1_3]; first | done | decide) (by decide) ?_
            refine lv_bipush (v := 7) hx hb dX11_signOf_91 (by decide) ?_
            exact W.iret (v := (7 : Int32)) hx hb hr (fun t ht hW => ⟨⟨(7 : Int32), (h, g), rfl, HW, g_B ht hG⟩, hG.2.2.F ht⟩) hG.2.2.2.2 dX11_signOf_93
          · by_cases c_1_4 : x0 = 47
            · replace HW := HW.2.2.2.2.1 c_1_4
              refine lv_lookup (tgt := 86) hx hb dX11_signOf_1 (by decide) (by rw [c_1_4]; first | done | decide) (by decide) ?_
              refine lv_iconst (v := 5) hx hb dX11_signOf_86 (by decide) ?_
              exact W.iret (v := (5 : Int32)) hx hb hr (fun t ht hW => ⟨⟨(5 : Int32), (h, g), rfl, HW, g_B ht hG⟩, hG.2.2.F ht⟩) hG.2.2.2.2 dX11_signOf_87
            · by_cases c_1_5 : x0 = 60
              · replace HW := HW.2.2.2.2.2.1 c_1_5
                refine lv_lookup (tgt := 94) hx hb dX11_signOf_1 (by decide) (by rw [c_1_5]; first | done | decide) (by decide) ?_
                refine lv_bipush (v := 8) hx hb dX11_signOf_94 (by decide) ?_
                exact W.iret (v := (8 : Int32)) hx hb hr (fun t ht hW => ⟨⟨(8 : Int32), (h, g), rfl, HW, g_B ht hG⟩, hG.2.2.F ht⟩) hG.2.2.2.2 dX11_signOf_96
              · by_cases c_1_6 : x0 = 61
                · replace HW := HW.2.2.2.2.2.2.1 c_1_6
                  refine lv_lookup (tgt := 100) hx hb dX11_signOf_1 (by decide) (by rw [c_1_6]; first | done | decide) (by decide) ?_
                  refine lv_bipush (v := 10) hx hb dX11_signOf_100 (by decide) ?_
                  exact W.iret (v := (10 : Int32)) hx hb hr (fun t ht hW => ⟨⟨(10 : Int32), (h, g), rfl, HW, g_B ht hG⟩, hG.2.2.F ht⟩) hG.2.2.2.2 dX11_signOf_102
                · by_cases c_1_7 : x0 = 62
                  · replace HW := HW.2.2.2.2.2.2.2.1 c_1_7
                    refine lv_lookup (tgt := 97) hx hb dX11_signOf_1 (by decide) (by rw [c_1_7]; first | done | decide) (by decide) ?_
                    refine lv_bipush (v := 9) hx hb dX11_signOf_97 (by decide) ?_
                    exact W.iret (v := (9 : Int32)) hx hb hr (fun t ht hW => ⟨⟨(9 : Int32), (h, g), rfl, HW, g_B ht hG⟩, hG.2.2.F ht⟩) hG.2.2.2.2 dX11_signOf_99
                  · by_cases c_1_8 : x0 = 124
                    · replace HW := HW.2.2.2.2.2.2.2.2.1 c_1_8
                      refine lv_lookup (tgt := 106) hx hb dX11_signOf_1 (by decide) (by rw [c_1_8]; first | done | decide) (by decide) ?_
                      refine lv_bipush (v := 12) hx hb dX11_signOf_106 (by decide) ?_
                      exact W.iret (v := (12 : Int32)) hx hb hr (fun t ht hW => ⟨⟨(12 : Int32), (h, g), rfl, HW, g_B ht hG⟩, hG.2.2.F ht⟩) hG.2.2.2.2 dX11_signOf_108
                    · replace HW := HW.2.2.2.2.2.2.2.2.2 c_1_0 c_1_1 c_1_2 c_1_3 c_1_4 c_1_5 c_1_6 c_1_7 c_1_8
                      have z_1_0 : ¬ ((38 : Int) = (x0).toInt) := fun q => g_ne c_1_0 (n := 38) (by decide) q.symm
                      have z_1_1 : ¬ ((42 : Int) = (x0).toInt) := fun q => g_ne c_1_1 (n := 42) (by decide) q.symm
                      have z_1_2 : ¬ ((43 : Int) = (x0).toInt) := fun q => g_ne c_1_2 (n := 43) (by decide) q.symm
                      have z_1_3 : ¬ ((45 : Int) = (x0).toInt) := fun q => g_ne c_1_3 (n := 45) (by decide) q.symm
                      have z_1_4 : ¬ ((47 : Int) = (x0).toInt) := fun q => g_ne c_1_4 (n := 47) (by decide) q.symm
                      have z_1_5 : ¬ ((60 : Int) = (x0).toInt) := fun q => g_ne c_1_5 (n := 60) (by decide) q.symm
                      have z_1_6 : ¬ ((61 : Int) = (x0).toInt) := fun q => g_ne c_1_6 (n := 61) (by decide) q.symm
                      have z_1_7 : ¬ ((62 : Int) = (x0).toInt) := fun q => g_ne c_1_7 (n := 62) (by decide) q.symm
                      have z_1_8 : ¬ ((124 : Int) = (x0).toInt) := fun q => g_ne c_1_8 (n := 124) (by decide) q.symm
                      refine lv_lookup (tgt := 109) (off := 108) hx hb dX11_signOf_1 (by decide) (by show Op.lookupswitch.offset [(38, 102), (42, 83), (43, 87), (45, 90), (47, 85), (60, 93), (61, 99), (62, 96), (124, 105)] (108) (x0).toInt = 108; rw [Op.lookupswitch.offset_cons, if_neg z_1_0, Op.lookupswitch.offset_cons, if_neg z_1_1, Op.lookupswitch.offset_cons, if_neg z_1_2, Op.lookupswitch.offset_cons, if_neg z_1_3, Op.lookupswitch.offset_cons, if_neg z_1_4, Op.lookupswitch.offset_cons, if_neg z_1_5, Op.lookupswitch.offset_cons, if_neg z_1_6, Op.lookupswitch.offset_cons, if_neg z_1_7, Op.lookupswitch.offset_cons, if_neg z_1_8, Op.lookupswitch.offset_nil]) (by decide) ?_
                      refine lv_iconst (v := (-1)) hx hb dX11_signOf_109 (by decide) ?_
                      exact W.iret (v := (-1 : Int32)) hx hb hr (fun t ht hW => ⟨⟨(-1 : Int32), (h, g), rfl, HW, g_B ht hG⟩, hG.2.2.F ht⟩) hG.2.2.2.2 dX11_signOf_110
  exact E0 _ _ _ hG hl

def j_X11_goesOn_42 (Q : Int32 → HI → HL → Prop) (x1 : Int32) (x2 : Int32) (h : HI) (g : HL) : Prop :=
  (∃ P_44 : HI → HL → Prop, w_X11_settles x2 h g P_44 ∧ ∀ (h_44 : HI) (g_44 : HL), P_44 h_44 g_44 → (∃ P_49 : HI → HL → Prop, w_X11_waitsWith x1 h_44 g_44 P_49 ∧ ∀ (h_49 : HI) (g_49 : HL), P_49 h_49 g_49 → Q (1 : Int32) h_49 g_49))
def w_X11_goesOn (x1 : Int32) (h : HI) (g : HL) (Q : Int32 → HI → HL → Prop) : Prop :=
  (∃ P_1 : Int32 → HI → HL → Prop, w_X11_holds x1 h g P_1 ∧ ∀ (r_1 : Int32) (h_1 : HI) (g_1 : HL), P_1 r_1 h_1 g_1 → ((¬ r_1 = (3 : Int32) → j_X11_goesOn_42 Q x1 r_1 h_1 g_1) ∧ (r_1 = (3 : Int32) → (∃ P_12 : HI → HL → Prop, w_X11_settles (4 : Int32) h_1 g_1 P_12 ∧ ∀ (h_12 : HI) (g_12 : HL), P_12 h_12 g_12 → (((h_12 135 6) ≤ 0 → j_X11_goesOn_42 Q x1 r_1 h_12 g_12) ∧ (¬ (h_12 135 6) ≤ 0 → (vp_in ((h_12 135 6) - (1 : Int32)) 70 ∧ (∃ P_33 : Int32 → HI → HL → Prop, w_X11_holds (h_12 141 ((h_12 135 6) - (1 : Int32)).toNatClampNeg) h_12 g_12 P_33 ∧ ∀ (r_33 : Int32) (h_33 : HI) (g_33 : HL), P_33 r_33 h_33 g_33 → ((¬ r_33 = (3 : Int32) → j_X11_goesOn_42 Q x1 r_1 h_33 g_33) ∧ (r_33 = (3 : Int32) → Q (0 : Int32) h_33 g_33))))))))))
set_option maxHeartbeats 8000000 in
set_option maxRecDepth 100000 in
theorem m_X11_goesOn (l : Launch) (D : va_G) (cy : Nat → ClassId) (ad : Nat → Nat) (h : HI) (g : HL) (sz : Nat) (x1 : Int32) (Q : Int32 → HI → HL → Prop) (HW : w_X11_goesOn x1 h g Q) : Met l yX11_goesOn (wa yX11_goesOn cX11_goesOn 3 (some .boolean)) ({ frames := 2, cells := 0, slots := 0, locals := 43 }) (va_Pc [.ref (ad 135), .int x1] (gI D cy ad h g sz)) (va_Qi (fun (r : Int32) (u : HI × HL) => zb r ∧ Q r u.1 u.2) (gB D cy ad sz) (gA ad sz)) 0 0 (gA ad sz) := by
  refine Met.ofW (cc := cX11_goesOn) (maxL := 3) (ret := (some .boolean)) (by decide) rfl ?_
  intro p e s m args below meth c s₁ B hml hv
  obtain ⟨hav, hsz, hP, hK, hD0, hNw⟩ := hv
  have hx := B.exec
  have hb := B.bytes
  have hr := B.returns
  have hts := atoms_spec (ws := (wa yX11_goesOn cX11_goesOn 3 (some .boolean))) B.pre
  have hw := wa_hw hts
  have hown : s.vm.findClass RX11 = some m.cls := findClass_of_methodNamed B.named
  have hlocks := B.notSynchronized
  subst hsz
  have hG : gG D cy ad (gA ad s.heap.size) s.heap h g s.heap [] := ⟨hP, gA_self hD0, va_S.rf⟩
  clear hP hD0
  have lk82 := hw (.fieldLink RX11 82 "OldWorksModel" "waiting" "I") (wm5 33 rfl rfl)
  have lk26 := hw (.fieldLink RX11 26 "OldWorksModel" "waits" "[I") (wm5 34 rfl rfl)
  rw [show (headSpec (wa yX11_goesOn cX11_goesOn 3 (some .boolean)) ({ frames := 2, cells := 0, slots := 0, locals := 43 } : Room)).room = ({ frames := 2, cells := 0, slots := 0, locals := 43 } : Room) from rfl]
  have hl := lv_entry ([.ref (ad 135), .int x1]) (n := 3) (Nat.le_of_ble_eq_true rfl)
  rw [show entryFrame m args 3 = entryFrame m ([.ref (ad 135), .int x1] : List Value).toArray 3 from by rw [hav], lg_entry_eq]
  generalize (lg_sl ([.ref (ad 135), .int x1]) ++ List.replicate (3 - (lg_sl ([.ref (ad 135), .int x1])).length) Slot.unset).toArray = ls at hl ⊢
  have hl : lv_has ls 3 [(0, .ref (ad 135)), (1, .int x1)] := hl
  have B42 : ∀ (x1 : Int32) (x2 : Int32) (h : HI) (g : HL) (H : Heap) (locs : List Loc) (ls : Array Slot), j_X11_goesOn_42 Q x1 x2 h g → gG D cy ad (gA ad s.heap.size) s.heap h g H locs → lv_has ls 3 [(0, .ref (ad 135)), (1, .int x1), (2, .int x2)] → W p l e ({ frames := 2, cells := 0, slots := 0, locals := 43 } : Room) s m args below meth c H locs 0 0 (MQ below (va_Qi (fun (r : Int32) (u : HI × HL) => zb r ∧ Q r u.1 u.2) (gB D cy ad s.heap.size) (gA ad s.heap.size)) args s 0 0 (gA ad s.heap.size)) (F0 m 42 ls []) := by
    intro x1 x2 h g H locs ls HW hG hl
    unfold j_X11_goesOn_42 at HW
    refine lv_aload_n hx hb dX11_goesOn_42 rfl (lv_at hl 0 rfl) ?_
    refine lv_iload_n hx hb dX11_goesOn_43 rfl (lv_at hl 2 rfl) ?_
    obtain ⟨P_44, HC_44, HW⟩ := HW
    refine g_callv (g_runV (As := [.int x2]) (rest := []) ⟨hx, hb, hml, hown, hts⟩ (m_X11_settles l D cy ad h g H.size x2 P_44 HC_44) (cwV 1 hts (gd_V (wm5 153 rfl rfl) (wm5 155 rfl rfl) (wmp3 (q := (yX11_settles, 26)) 10 rfl) (wm1 13 rfl rfl) (wm5 156 rfl rfl)) rfl rfl rfl (by decide +kernel) ⟨Nat.le_of_ble_eq_true rfl, Nat.le_of_ble_eq_true rfl⟩) hK hNw hG gl_135 rfl gk_135 (by decide) rfl rfl hl.1 rfl (lv_room (Nat.le_of_ble_eq_true rfl)) dX11_goesOn_44 ⟨Nat.zero_le _, Nat.zero_le _⟩) hG (fun h_44 g_44 H locs hq hG => ?_)
    replace HW := HW h_44 g_44 hq
    refine lv_aload_n hx hb dX11_goesOn_47 rfl (lv_at hl 0 rfl) ?_
    refine lv_iload_n hx hb dX11_goesOn_48 rfl (lv_at hl 1 rfl) ?_
    obtain ⟨P_49, HC_49, HW⟩ := HW
    refine g_callv (g_runV (As := [.int x1]) (rest := []) ⟨hx, hb, hml, hown, hts⟩ (m_X11_waitsWith l D cy ad h_44 g_44 H.size x1 P_49 HC_49) (cwV 1 hts (gd_V (wm5 171 rfl rfl) (wm5 173 rfl rfl) (wmp3 (q := (yX11_waitsWith, 26)) 13 rfl) (wm1 13 rfl rfl) (wm5 174 rfl rfl)) rfl rfl rfl (by decide +kernel) ⟨Nat.le_of_ble_eq_true rfl, Nat.le_of_ble_eq_true rfl⟩) hK hNw hG gl_135 rfl gk_135 (by decide) rfl rfl hl.1 rfl (lv_room (Nat.le_of_ble_eq_true rfl)) dX11_goesOn_49 ⟨Nat.zero_le _, Nat.zero_le _⟩) hG (fun h_49 g_49 H locs hq hG => ?_)
    replace HW := HW h_49 g_49 hq
    refine lv_iconst (v := 1) hx hb dX11_goesOn_52 (by decide) ?_
    exact W.zret (v := (1 : Int32)) hx hb hr rfl (fun t ht hW => ⟨⟨(1 : Int32), (h_49, g_49), rfl, ⟨Or.inr rfl, HW⟩, g_B ht hG⟩, hG.2.2.F ht⟩) hG.2.2.2.2 dX11_goesOn_53
  have E0 : ∀ (H : Heap) (locs : List Loc) (ls : Array Slot), gG D cy ad (gA ad s.heap.size) s.heap h g H locs → lv_has ls 3 [(0, .ref (ad 135)), (1, .int x1)] → W p l e ({ frames := 2, cells := 0, slots := 0, locals := 43 } : Room) s m args below meth c H locs 0 0 (MQ below (va_Qi (fun (r : Int32) (u : HI × HL) => zb r ∧ Q r u.1 u.2) (gB D cy ad s.heap.size) (gA ad s.heap.size)) args s 0 0 (gA ad s.heap.size)) (F0 m 0 ls []) := by
    intro H locs ls hG hl
    unfold w_X11_goesOn at HW
    refine lv_iload_n hx hb dX11_goesOn_0 rfl (lv_at hl 1 rfl) ?_
    obtain ⟨P_1, HC_1, HW⟩ := HW
    refine g_calli (g_runS (As := [.int x1]) (rest := []) ⟨hx, hb, hml, hown, hts⟩ (m_X11_holds l D cy ad h g H.size x1 P_1 HC_1) (va_cwS 1 hts (gd_S (wm5 157 rfl rfl) (wm5 158 rfl rfl) (wm1 13 rfl rfl) (wm5 159 rfl rfl)) rfl rfl rfl (by decide +kernel) ⟨Nat.le_of_ble_eq_true rfl, Nat.le_of_ble_eq_true rfl⟩) hK hNw hG rfl rfl hl.1 rfl (lv_room (Nat.le_of_ble_eq_true rfl)) dX11_goesOn_1 ⟨Nat.zero_le _, Nat.zero_le _⟩) hG (fun r_1 h_1 g_1 H locs hq hG => ?_)
    replace HW := HW r_1 h_1 g_1 hq
    refine lv_istore_n (lv' := [(2, .int r_1), (0, .ref (ad 135)), (1, .int x1)]) hx hb dX11_goesOn_4 rfl hl (by decide) rfl (fun ls hl => ?_)
    refine lv_iload_n hx hb dX11_goesOn_5 rfl (lv_at hl 0 rfl) ?_
    refine lv_iconst (v := 3) hx hb dX11_goesOn_6 (by decide) ?_
    refine lv_icmp_ne (tgt := 42) hx hb dX11_goesOn_7 (by decide) (fun c_7 => ?_) (fun c_7 => ?_)
    · replace HW := HW.1 c_7
      exact B42 x1 r_1 h_1 g_1 _ _ _ HW hG (lv_sub hl [1, 2, 0] rfl)
    · replace HW := HW.2 c_7
      refine lv_aload_n hx hb dX11_goesOn_10 rfl (lv_at hl 1 rfl) ?_
      refine lv_iconst (v := 4) hx hb dX11_goesOn_11 (by decide) ?_
      obtain ⟨P_12, HC_12, HW⟩ := HW
      refine g_callv (g_runV (As := [.int (4 : Int32)]) (rest := []) ⟨hx, hb, hml, hown, hts⟩ (m_X11_settles l D cy ad h_1 g_1 H.size (4 : Int32) P_12 HC_12) (cwV 1 hts (gd_V (wm5 153 rfl rfl) (wm5 155 rfl rfl) (wmp3 (q := (yX11_settles, 26)) 10 rfl) (wm1 13 rfl rfl) (wm5 156 rfl rfl)) rfl rfl rfl (by decide +kernel) ⟨Nat.le_of_ble_eq_true rfl, Nat.le_of_ble_eq_true rfl⟩) hK hNw hG gl_135 rfl gk_135 (by decide) rfl rfl hl.1 rfl (lv_room (Nat.le_of_ble_eq_true rfl)) dX11_goesOn_12 ⟨Nat.zero_le _, Nat.zero_le _⟩) hG (fun h_12 g_12 H locs hq hG => ?_)
      replace HW := HW h_12 g_12 hq
      refine lv_aload_n hx hb dX11_goesOn_15 rfl (lv_at hl 1 rfl) ?_
      refine g_geti hx hb hw inG11 hown hK hG gl_135 rfl gk_135 (by decide) 6 (by decide) (by rw [gm_135]; decide) gr_135_6 lk82 dX11_goesOn_16 ?_
      refine lv_if_le (tgt := 42) hx hb dX11_goesOn_19 (by decide) (fun c_19 => ?_) (fun c_19 => ?_)
      · replace HW := HW.1 c_19
        exact B42 x1 r_1 h_12 g_12 _ _ _ HW hG (lv_sub hl [1, 2, 0] rfl)
      · replace HW := HW.2 c_19
        refine lv_aload_n hx hb dX11_goesOn_22 rfl (lv_at hl 1 rfl) ?_
        refine g_getr hx hb hw inG11 hown hK hG gl_135 rfl gk_135 (by decide) 7 (by decide) (by rw [gm_135]; decide) (r := 141) gr_135_7 lk26 dX11_goesOn_23 ?_
        refine lv_aload_n hx hb dX11_goesOn_26 rfl (lv_at hl 1 rfl) ?_
        refine g_geti hx hb hw inG11 hown hK hG gl_135 rfl gk_135 (by decide) 6 (by decide) (by rw [gm_135]; decide) gr_135_6 lk82 dX11_goesOn_27 ?_
        refine lv_iconst (v := 1) hx hb dX11_goesOn_30 (by decide) ?_
        refine lv_isub hx hb dX11_goesOn_31 ?_
        refine g_iald hx hb hK hG gl_141 gk_141 gn_141 HW.1 dX11_goesOn_32 ?_
        replace HW := HW.2
        obtain ⟨P_33, HC_33, HW⟩ := HW
        refine g_calli (g_runS (As := [.int (h_12 141 ((h_12 135 6) - (1 : Int32)).toNatClampNeg)]) (rest := []) ⟨hx, hb, hml, hown, hts⟩ (m_X11_holds l D cy ad h_12 g_12 H.size (h_12 141 ((h_12 135 6) - (1 : Int32)).toNatClampNeg) P_33 HC_33) (va_cwS 1 hts (gd_S (wm5 157 rfl rfl) (wm5 158 rfl rfl) (wm1 13 rfl rfl) (wm5 159 rfl rfl)) rfl rfl rfl (by decide +kernel) ⟨Nat.le_of_ble_eq_true rfl, Nat.le_of_ble_eq_true rfl⟩) hK hNw hG rfl rfl hl.1 rfl (lv_room (Nat.le_of_ble_eq_true rfl)) dX11_goesOn_33 ⟨Nat.zero_le _, Nat.zero_le _⟩) hG (fun r_33 h_33 g_33 H locs hq hG => ?_)
        replace HW := HW r_33 h_33 g_33 hq
        refine lv_iconst (v := 3) hx hb dX11_goesOn_36 (by decide) ?_
        refine lv_icmp_ne (tgt := 42) hx hb dX11_goesOn_37 (by decide) (fun c_37 => ?_) (fun c_37 => ?_)
        · replace HW := HW.1 c_37
          exact B42 x1 r_1 h_33 g_33 _ _ _ HW hG (lv_sub hl [1, 2, 0] rfl)
        · replace HW := HW.2 c_37
          refine lv_iconst (v := 0) hx hb dX11_goesOn_40 (by decide) ?_
          exact W.zret (v := (0 : Int32)) hx hb hr rfl (fun t ht hW => ⟨⟨(0 : Int32), (h_33, g_33), rfl, ⟨Or.inl rfl, HW⟩, g_B ht hG⟩, hG.2.2.F ht⟩) hG.2.2.2.2 dX11_goesOn_41
  exact E0 _ _ _ hG hl

def j_X11_reads_388 (Q : Int32 → HI → HL → Prop) (x1 : Int32) (h : HI) (g : HL) : Prop :=
  Q (((10 : Int32) * x1) + (1 : Int32)) h g
def j_X11_reads_368 (Q : Int32 → HI → HL → Prop) (K25 : Int32 → Int32 → Int32 → Int32 → HI → HL → Prop) (x1 : Int32) (x2 : Int32) (x3 : Int32) (x4 : Int32) (h : HI) (g : HL) : Prop :=
  K25 x1 x2 x3 x4 h g
def j_X11_reads_351 (Q : Int32 → HI → HL → Prop) (K25 : Int32 → Int32 → Int32 → Int32 → HI → HL → Prop) (x1 : Int32) (x2 : Int32) (x3 : Int32) (x4 : Int32) (s1 : Int32) (h : HI) (g : HL) : Prop :=
  (∃ P_351 : HI → HL → Prop, w_X11_waitsWith s1 h g P_351 ∧ ∀ (h_351 : HI) (g_351 : HL), P_351 h_351 g_351 → (∀ x4_354 : Int32, x4_354 = (x4 + 1) → j_X11_reads_368 Q K25 x1 x2 x3 x4_354 h_351 g_351))
def j_X11_reads_338 (Q : Int32 → HI → HL → Prop) (K25 : Int32 → Int32 → Int32 → Int32 → HI → HL → Prop) (x1 : Int32) (x2 : Int32) (x3 : Int32) (x4 : Int32) (x5 : Int32) (h : HI) (g : HL) : Prop :=
  ((¬ x5 = (45 : Int32) → j_X11_reads_351 Q K25 x1 x2 x3 x4 (2 : Int32) h g) ∧ (x5 = (45 : Int32) → j_X11_reads_351 Q K25 x1 x2 x3 x4 (3 : Int32) h g))
def j_X11_reads_237 (Q : Int32 → HI → HL → Prop) (K25 : Int32 → Int32 → Int32 → Int32 → HI → HL → Prop) (x1 : Int32) (x2 : Int32) (x4 : Int32) (x7 : Int32) (h : HI) (g : HL) : Prop :=
  (∃ P_241 : HI → HL → Prop, w_X11_emits (0 : Int32) x7 h g P_241 ∧ ∀ (h_241 : HI) (g_241 : HL), P_241 h_241 g_241 → (∃ P_247 : HI → HL → Prop, w_X11_settles (6 : Int32) h_241 g_241 P_247 ∧ ∀ (h_247 : HI) (g_247 : HL), P_247 h_247 g_247 → j_X11_reads_368 Q K25 x1 x2 (1 : Int32) x4 h_247 g_247))
def b_X11_reads_161 (Q : Int32 → HI → HL → Prop) (K25 : Int32 → Int32 → Int32 → Int32 → HI → HL → Prop) (K161 : Int32 → Int32 → Int32 → Int32 → Int32 → HI → HL → Prop) (x1 : Int32) (x2 : Int32) (x4 : Int32) (x6 : Int32) (x7 : Int32) (h : HI) (g : HL) : Prop :=
  ((x1 ≤ x4 → j_X11_reads_237 Q K25 x1 x2 x4 x7 h g) ∧ (¬ x1 ≤ x4 → (vp_in ((827 : Int32) + x4) 887 ∧ (∃ P_185 : Int32 → HI → HL → Prop, w_X11_in (((h 136 ((827 : Int32) + x4).toNatClampNeg)).toInt64) (48 : Int64) (57 : Int64) h g P_185 ∧ ∀ (r_185 : Int32) (h_185 : HI) (g_185 : HL), zb r_185 → P_185 r_185 h_185 g_185 → ((r_185 = 0 → j_X11_reads_237 Q K25 x1 x2 x4 x7 h_185 g_185) ∧ (¬ r_185 = 0 → ((¬ (x4 - x6) = (6 : Int32) → (vp_in ((827 : Int32) + x4) 887 ∧ (∀ x7_229 : Int32, x7_229 = ((((10 : Int32) * x7) + (h_185 136 ((827 : Int32) + x4).toNatClampNeg)) - (48 : Int32)) → (∀ x4_231 : Int32, x4_231 = (x4 + 1) → K161 x1 x2 x4_231 x6 x7_229 h_185 g_185)))) ∧ ((x4 - x6) = (6 : Int32) → Q (((10 : Int32) * x6) + (2 : Int32)) h_185 g_185))))))))
def F_X11_reads_161 (Q : Int32 → HI → HL → Prop) (K25 : Int32 → Int32 → Int32 → Int32 → HI → HL → Prop) (K : Int32 × Int32 × Int32 × Int32 × Int32 × HI × HL → Prop) (q : Int32 × Int32 × Int32 × Int32 × Int32 × HI × HL) : Prop := b_X11_reads_161 Q K25 (fun x1 x2 x4 x6 x7 h g => K (x1, x2, x4, x6, x7, h, g)) q.1 q.2.1 q.2.2.1 q.2.2.2.1 q.2.2.2.2.1 q.2.2.2.2.2.1 q.2.2.2.2.2.2
def j_X11_reads_125 (Q : Int32 → HI → HL → Prop) (x4 : Int32) (h : HI) (g : HL) : Prop :=
  Q (((10 : Int32) * x4) + (1 : Int32)) h g
def j_X11_reads_133 (Q : Int32 → HI → HL → Prop) (K25 : Int32 → Int32 → Int32 → Int32 → HI → HL → Prop) (x1 : Int32) (x2 : Int32) (x3 : Int32) (x4 : Int32) (h : HI) (g : HL) : Prop :=
  (∀ x4_133 : Int32, x4_133 = (x4 + 1) → j_X11_reads_368 Q K25 x1 x2 x3 x4_133 h g)
def j_X11_reads_99 (Q : Int32 → HI → HL → Prop) (K25 : Int32 → Int32 → Int32 → Int32 → HI → HL → Prop) (x1 : Int32) (x2 : Int32) (x4 : Int32) (x5 : Int32) (h : HI) (g : HL) : Prop :=
  (∃ P_101 : Int32 → HI → HL → Prop, w_X11_signOf x5 h g P_101 ∧ ∀ (r_101 : Int32) (h_101 : HI) (g_101 : HL), P_101 r_101 h_101 g_101 → ((r_101 = (-1 : Int32) → j_X11_reads_125 Q x4 h_101 g_101) ∧ (¬ r_101 = (-1 : Int32) → (∃ P_111 : Int32 → HI → HL → Prop, w_X11_signOf x5 h_101 g_101 P_111 ∧ ∀ (r_111 : Int32) (h_111 : HI) (g_111 : HL), P_111 r_111 h_111 g_111 → (∃ P_114 : Int32 → HI → HL → Prop, w_X11_goesOn r_111 h_111 g_111 P_114 ∧ ∀ (r_114 : Int32) (h_114 : HI) (g_114 : HL), zb r_114 → P_114 r_114 h_114 g_114 → ((r_114 = 0 → j_X11_reads_125 Q x4 h_114 g_114) ∧ (¬ r_114 = 0 → j_X11_reads_133 Q K25 x1 x2 (0 : Int32) x4 h_114 g_114)))))))
def b_X11_reads_25 (Q : Int32 → HI → HL → Prop) (K25 : Int32 → Int32 → Int32 → Int32 → HI → HL → Prop) (x1 : Int32) (x2 : Int32) (x3 : Int32) (x4 : Int32) (h : HI) (g : HL) : Prop :=
  ((x1 ≤ x4 → (∃ P_373 : HI → HL → Prop, w_X11_settles (1 : Int32) h g P_373 ∧ ∀ (h_373 : HI) (g_373 : HL), P_373 h_373 g_373 → ((x3 = 0 → j_X11_reads_388 Q x1 h_373 g_373) ∧ (¬ x3 = 0 → ((¬ x2 = 0 → j_X11_reads_388 Q x1 h_373 g_373) ∧ (x2 = 0 → Q (-1 : Int32) h_373 g_373)))))) ∧ (¬ x1 ≤ x4 → (vp_in ((827 : Int32) + x4) 887 ∧ (∀ x5_42 : Int32, x5_42 = (h 136 ((827 : Int32) + x4).toNatClampNeg) → ((¬ x5_42 = (32 : Int32) → ((x3 = 0 → (∃ P_148 : Int32 → HI → HL → Prop, w_X11_in ((x5_42).toInt64) (48 : Int64) (57 : Int64) h g P_148 ∧ ∀ (r_148 : Int32) (h_148 : HI) (g_148 : HL), zb r_148 → P_148 r_148 h_148 g_148 → ((r_148 = 0 → (∃ P_257 : Int32 → HI → HL → Prop, w_X11_nameOf x5_42 h_148 g_148 P_257 ∧ ∀ (r_257 : Int32) (h_257 : HI) (g_257 : HL), P_257 r_257 h_257 g_257 → ((r_257 = (-1 : Int32) → ((¬ x5_42 = (40 : Int32) → ((x5_42 = (45 : Int32) → j_X11_reads_338 Q K25 x1 x2 x3 x4 x5_42 h_257 g_257) ∧ (¬ x5_42 = (45 : Int32) → ((¬ x5_42 = (33 : Int32) → Q (((10 : Int32) * x4) + (1 : Int32)) h_257 g_257) ∧ (x5_42 = (33 : Int32) → j_X11_reads_338 Q K25 x1 x2 x3 x4 x5_42 h_257 g_257))))) ∧ (x5_42 = (40 : Int32) → ((¬ x2 = (8 : Int32) → (∀ x2_309 : Int32, x2_309 = (x2 + 1) → (∃ P_315 : HI → HL → Prop, w_X11_waitsWith (13 : Int32) h_257 g_257 P_315 ∧ ∀ (h_315 : HI) (g_315 : HL), P_315 h_315 g_315 → (∀ x4_318 : Int32, x4_318 = (x4 + 1) → j_X11_reads_368 Q K25 x1 x2_309 x3 x4_318 h_315 g_315)))) ∧ (x2 = (8 : Int32) → Q (((10 : Int32) * x4) + (3 : Int32)) h_257 g_257))))) ∧ (¬ r_257 = (-1 : Int32) → (∃ P_268 : Int32 → HI → HL → Prop, w_X11_nameOf x5_42 h_257 g_257 P_268 ∧ ∀ (r_268 : Int32) (h_268 : HI) (g_268 : HL), P_268 r_268 h_268 g_268 → (∃ P_271 : HI → HL → Prop, w_X11_emits (1 : Int32) r_268 h_268 g_268 P_271 ∧ ∀ (h_271 : HI) (g_271 : HL), P_271 h_271 g_271 → (∃ P_277 : HI → HL → Prop, w_X11_settles (6 : Int32) h_271 g_271 P_277 ∧ ∀ (h_277 : HI) (g_277 : HL), P_277 h_277 g_277 → (∀ x4_282 : Int32, x4_282 = (x4 + 1) → j_X11_reads_368 Q K25 x1 x2 (1 : Int32) x4_282 h_277 g_277)))))))) ∧ (¬ r_148 = 0 → lpE (F_X11_reads_161 Q K25) (x1, x2, x4, x4, (0 : Int32), h_148, g_148))))) ∧ (¬ x3 = 0 → ((¬ x5_42 = (41 : Int32) → j_X11_reads_99 Q K25 x1 x2 x4 x5_42 h g) ∧ (x5_42 = (41 : Int32) → ((x2 ≤ 0 → j_X11_reads_99 Q K25 x1 x2 x4 x5_42 h g) ∧ (¬ x2 ≤ 0 → (∃ P_74 : HI → HL → Prop, w_X11_settles (1 : Int32) h g P_74 ∧ ∀ (h_74 : HI) (g_74 : HL), P_74 h_74 g_74 → (∀ h_84 : HI, h_84 = hu h_74 135 6 ((h_74 135 6) - (1 : Int32)) → (∀ x2_87 : Int32, x2_87 = (x2 + (-1)) → (∃ P_93 : HI → HL → Prop, w_X11_settles (6 : Int32) h_84 g_74 P_93 ∧ ∀ (h_93 : HI) (g_93 : HL), P_93 h_93 g_93 → j_X11_reads_133 Q K25 x1 x2_87 x3 x4 h_93 g_93))))))))))) ∧ (x5_42 = (32 : Int32) → (∀ x4_51 : Int32, x4_51 = (x4 + 1) → j_X11_reads_368 Q K25 x1 x2 x3 x4_51 h g)))))))
def F_X11_reads_25 (Q : Int32 → HI → HL → Prop) (K : Int32 × Int32 × Int32 × Int32 × HI × HL → Prop) (q : Int32 × Int32 × Int32 × Int32 × HI × HL) : Prop := b_X11_reads_25 Q (fun x1 x2 x3 x4 h g => K (x1, x2, x3, x4, h, g)) q.1 q.2.1 q.2.2.1 q.2.2.2.1 q.2.2.2.2.1 q.2.2.2.2.2
def w_X11_reads  (h : HI) (g : HL) (Q : Int32 → HI → HL → Prop) : Prop :=
  (vp_in (8 : Int32) 887 ∧ (∀ x1_7 : Int32, x1_7 = (h 136 (8 : Int32).toNatClampNeg) → (∀ h_10 : HI, h_10 = hu h 135 3 (0 : Int32) → (∀ h_15 : HI, h_15 = hu h_10 135 6 (0 : Int32) → lpE (F_X11_reads_25 Q) (x1_7, (0 : Int32), (0 : Int32), (0 : Int32), h_15, g)))))
set_option maxHeartbeats 8000000 in
set_option maxRecDepth 100000 in
theorem m_X11_reads (l : Launch) (D : va_G) (cy : Nat → ClassId) (ad : Nat → Nat) (h : HI) (g : HL) (sz : Nat)  (Q : Int32 → HI → HL → Prop) (HW : w_X11_reads h g Q) : Met l yX11_reads (wa yX11_reads cX11_reads 8 (some .int)) ({ frames := 3, cells := 0, slots := 0, locals := 65 }) (va_Pc [.ref (ad 135)] (gI D cy ad h g sz)) (va_Qi (fun (r : Int32) (u : HI × HL) => Q r u.1 u.2) (gB D cy ad sz) (gA ad sz)) 0 0 (gA ad sz) := by
  refine Met.ofW (cc := cX11_reads) (maxL := 8) (ret := (some .int)) (by decide) rfl ?_
  intro p e s m args below meth c s₁ B hml hv
  obtain ⟨hav, hsz, hP, hK, hD0, hNw⟩ := hv
  have hx := B.exec
  have hb := B.bytes
  have hr := B.returns
  have hts := atoms_spec (ws := (wa yX11_reads cX11_reads 8 (some .int))) B.pre
  have hw := wa_hw hts
  have hown : s.vm.findClass RX11 = some m.cls := findClass_of_methodNamed B.named
  have hlocks := B.notSynchronized
  subst hsz
  have hG : gG D cy ad (gA ad s.heap.size) s.heap h g s.heap [] := ⟨hP, gA_self hD0, va_S.rf⟩
  clear hP hD0
  have lk7 := hw (.fieldLink RX11 7 "OldWorksModel" "st" "[I") (wm5 27 rfl rfl)
  have lk78 := hw (.fieldLink RX11 78 "OldWorksModel" "steps" "I") (wm5 30 rfl rfl)
  have lk82 := hw (.fieldLink RX11 82 "OldWorksModel" "waiting" "I") (wm5 33 rfl rfl)
  have cn105 := hw (.constantLong RX11 105 (48)) (wm5 175 rfl rfl)
  have cn107 := hw (.constantLong RX11 107 (57)) (wm5 176 rfl rfl)
  rw [show (headSpec (wa yX11_reads cX11_reads 8 (some .int)) ({ frames := 3, cells := 0, slots := 0, locals := 65 } : Room)).room = ({ frames := 3, cells := 0, slots := 0, locals := 65 } : Room) from rfl]
  have hl := lv_entry ([.ref (ad 135)]) (n := 8) (Nat.le_of_ble_eq_true rfl)
  rw [show entryFrame m args 8 = entryFrame m ([.ref (ad 135)] : List Value).toArray 8 from by rw [hav], lg_entry_eq]
  generalize (lg_sl ([.ref (ad 135)]) ++ List.replicate (8 - (lg_sl ([.ref (ad 135)])).length) Slot.unset).toArray = ls at hl ⊢
  have hl : lv_has ls 8 [(0, .ref (ad 135))] := hl
  have B388 : ∀ (x1 : Int32) (h : HI) (g : HL) (H : Heap) (locs : List Loc) (ls : Array Slot), j_X11_reads_388 Q x1 h g → gG D cy ad (gA ad s.heap.size) s.heap h g H locs → lv_has ls 8 [(1, .int x1)] → W p l e ({ frames := 3, cells := 0, slots := 0, locals := 65 } : Room) s m args below meth c H locs 0 0 (MQ below (va_Qi (fun (r : Int32) (u : HI × HL) => Q r u.1 u.2) (gB D cy ad s.heap.size) (gA ad s.heap.size)) args s 0 0 (gA ad s.heap.size)) (F0 m 388 ls []) := by
    intro x1 h g H locs ls HW hG hl
    unfold j_X11_reads_388 at HW
    refine lv_bipush (v := 10) hx hb dX11_reads_388 (by decide) ?_
    refine lv_iload_n hx hb dX11_reads_390 rfl (lv_at hl 0 rfl) ?_
    refine lv_imul hx hb dX11_reads_391 ?_
    refine lv_iconst (v := 1) hx hb dX11_reads_392 (by decide) ?_
    refine lv_iadd hx hb dX11_reads_393 ?_
    exact W.iret (v := (((10 : Int32) * x1) + (1 : Int32))) hx hb hr (fun t ht hW => ⟨⟨(((10 : Int32) * x1) + (1 : Int32)), (h, g), rfl, HW, g_B ht hG⟩, hG.2.2.F ht⟩) hG.2.2.2.2 dX11_reads_394
  have B368 : ∀ (K25 : Int32 → Int32 → Int32 → Int32 → HI → HL → Prop) (hK25 : ∀ (x1 : Int32) (x2 : Int32) (x3 : Int32) (x4 : Int32) (h : HI) (g : HL) (H : Heap) (locs : List Loc) (ls : Array Slot), K25 x1 x2 x3 x4 h g → gG D cy ad (gA ad s.heap.size) s.heap h g H locs → lv_has ls 8 [(0, .ref (ad 135)), (1, .int x1), (2, .int x2), (3, .int x3), (4, .int x4)] → W p l e ({ frames := 3, cells := 0, slots := 0, locals := 65 } : Room) s m args below meth c H locs 0 0 (MQ below (va_Qi (fun (r : Int32) (u : HI × HL) => Q r u.1 u.2) (gB D cy ad s.heap.size) (gA ad s.heap.size)) args s 0 0 (gA ad s.heap.size)) (F0 m 25 ls [])) (x1 : Int32) (x2 : Int32) (x3 : Int32) (x4 : Int32) (h : HI) (g : HL) (H : Heap) (locs : List Loc) (ls : Array Slot), j_X11_reads_368 Q K25 x1 x2 x3 x4 h g → gG D cy ad (gA ad s.heap.size) s.heap h g H locs → lv_has ls 8 [(0, .ref (ad 135)), (1, .int x1), (2, .int x2), (3, .int x3), (4, .int x4)] → W p l e ({ frames := 3, cells := 0, slots := 0, locals := 65 } : Room) s m args below meth c H locs 0 0 (MQ below (va_Qi (fun (r : Int32) (u : HI × HL) => Q r u.1 u.2) (gB D cy ad s.heap.size) (gA ad s.heap.size)) args s 0 0 (gA ad s.heap.size)) (F0 m 368 ls []) := by
    intro K25 hK25 x1 x2 x3 x4 h g H locs ls HW hG hl
    unfold j_X11_reads_368 at HW
    refine lv_goto (tgt := 25) hx hb dX11_reads_368 (by decide) ?_
    exact hK25 x1 x2 x3 x4 h g _ _ _ HW hG (lv_sub hl [0, 1, 2, 3, 4] rfl)
  have B351 : ∀ (K25 : Int32 → Int32 → Int32 → Int32 → HI → HL → Prop) (hK25 : ∀ (x1 : Int32) (x2 : Int32) (x3 : Int32) (x4 : Int32) (h : HI) (g : HL) (H : Heap) (locs : List Loc) (ls : Array Slot), K25 x1 x2 x3 x4 h g → gG D cy ad (gA ad s.heap.size) s.heap h g H locs → lv_has ls 8 [(0, .ref (ad 135)), (1, .int x1), (2, .int x2), (3, .int x3), (4, .int x4)] → W p l e ({ frames := 3, cells := 0, slots := 0, locals := 65 } : Room) s m args below meth c H locs 0 0 (MQ below (va_Qi (fun (r : Int32) (u : HI × HL) => Q r u.1 u.2) (gB D cy ad s.heap.size) (gA ad s.heap.size)) args s 0 0 (gA ad s.heap.size)) (F0 m 25 ls [])) (x1 : Int32) (x2 : Int32) (x3 : Int32) (x4 : Int32) (s1 : Int32) (h : HI) (g : HL) (H : Heap) (locs : List Loc) (ls : Array Slot), j_X11_reads_351 Q K25 x1 x2 x3 x4 s1 h g → gG D cy ad (gA ad s.heap.size) s.heap h g H locs → lv_has ls 8 [(0, .ref (ad 135)), (1, .int x1), (2, .int x2), (3, .int x3), (4, .int x4)] → W p l e ({ frames := 3, cells := 0, slots := 0, locals := 65 } : Room) s m args below meth c H locs 0 0 (MQ below (va_Qi (fun (r : Int32) (u : HI × HL) => Q r u.1 u.2) (gB D cy ad s.heap.size) (gA ad s.heap.size)) args s 0 0 (gA ad s.heap.size)) (F0 m 351 ls [.int s1, .ref (ad 135)]) := by
    intro K25 hK25 x1 x2 x3 x4 s1 h g H locs ls HW hG hl
    unfold j_X11_reads_351 at HW
    obtain ⟨P_351, HC_351, HW⟩ := HW
    refine g_callv (g_runV (As := [.int s1]) (rest := []) ⟨hx, hb, hml, hown, hts⟩ (m_X11_waitsWith l D cy ad h g H.size s1 P_351 HC_351) (cwV 1 hts (gd_V (wm5 171 rfl rfl) (wm5 173 rfl rfl) (wmp3 (q := (yX11_waitsWith, 26)) 13 rfl) (wm1 13 rfl rfl) (wm5 174 rfl rfl)) rfl rfl rfl (by decide +kernel) ⟨Nat.le_of_ble_eq_true rfl, Nat.le_of_ble_eq_true rfl⟩) hK hNw hG gl_135 rfl gk_135 (by decide) rfl rfl hl.1 rfl (lv_room (Nat.le_of_ble_eq_true rfl)) dX11_reads_351 ⟨Nat.zero_le _, Nat.zero_le _⟩) hG (fun h_351 g_351 H locs hq hG => ?_)
    replace HW := HW h_351 g_351 hq
    obtain ⟨x4_354, ex4_354⟩ : ∃ y : Int32, y = (x4 + 1) := ⟨_, rfl⟩
    replace HW := HW x4_354 ex4_354
    refine lv_iinc (v := x4_354) (lv' := [(4, .int x4_354), (0, .ref (ad 135)), (1, .int x1), (2, .int x2), (3, .int x3)]) hx hb dX11_reads_354 hl (k := 4) rfl (by rw [ex4_354]; rfl) (by decide) rfl (fun ls hl => ?_)
    refine lv_goto (tgt := 368) hx hb dX11_reads_357 (by decide) ?_
    exact B368 K25 hK25 x1 x2 x3 x4_354 h_351 g_351 _ _ _ HW hG (lv_sub hl [1, 2, 3, 4, 0] rfl)
  have B338 : ∀ (K25 : Int32 → Int32 → Int32 → Int32 → HI → HL → Prop) (hK25 : ∀ (x1 : Int32) (x2 : Int32) (x3 : Int32) (x4 : Int32) (h : HI) (g : HL) (H : Heap) (locs : List Loc) (ls : Array Slot), K25 x1 x2 x3 x4 h g → gG D cy ad (gA ad s.heap.size) s.heap h g H locs → lv_has ls 8 [(0, .ref (ad 135)), (1, .int x1), (2, .int x2), (3, .int x3), (4, .int x4)] → W p l e ({ frames := 3, cells := 0, slots := 0, locals := 65 } : Room) s m args below meth c H locs 0 0 (MQ below (va_Qi (fun (r : Int32) (u : HI × HL) => Q r u.1 u.2) (gB D cy ad s.heap.size) (gA ad s.heap.size)) args s 0 0 (gA ad s.heap.size)) (F0 m 25 ls [])) (x1 : Int32) (x2 : Int32) (x3 : Int32) (x4 : Int32) (x5 : Int32) (h : HI) (g : HL) (H : Heap) (locs : List Loc) (ls : Array Slot), j_X11_reads_338 Q K25 x1 x2 x3 x4 x5 h g → gG D cy ad (gA ad s.heap.size) s.heap h g H locs → lv_has ls 8 [(0, .ref (ad 135)), (1, .int x1), (2, .int x2), (3, .int x3), (4, .int x4), (5, .int x5)] → W p l e ({ frames := 3, cells := 0, slots := 0, locals := 65 } : Room) s m args below meth c H locs 0 0 (MQ below (va_Qi (fun (r : Int32) (u : HI × HL) => Q r u.1 u.2) (gB D cy ad s.heap.size) (gA ad s.heap.size)) args s 0 0 (gA ad s.heap.size)) (F0 m 338 ls []) := by
    intro K25 hK25 x1 x2 x3 x4 x5 h g H locs ls HW hG hl
    unfold j_X11_reads_338 at HW
    refine lv_aload_n hx hb dX11_reads_338 rfl (lv_at hl 0 rfl) ?_
    refine lv_iload hx hb dX11_reads_339 (lv_at hl 5 rfl) ?_
    refine lv_bipush (v := 45) hx hb dX11_reads_341 (by decide) ?_
    refine lv_icmp_ne (tgt := 350) hx hb dX11_reads_343 (by decide) (fun c_343 => ?_) (fun c_343 => ?_)
    · replace HW := HW.1 c_343
      refine lv_iconst (v := 2) hx hb dX11_reads_350 (by decide) ?_
      exact B351 K25 hK25 x1 x2 x3 x4 (2 : Int32) h g _ _ _ HW hG (lv_sub hl [0, 1, 2, 3, 4] rfl)
    · replace HW := HW.2 c_343
      refine lv_iconst (v := 3) hx hb dX11_reads_346 (by decide) ?_
      refine lv_goto (tgt := 351) hx hb dX11_reads_347 (by decide) ?_
      exact B351 K25 hK25 x1 x2 x3 x4 (3 : Int32) h g _ _ _ HW hG (lv_sub hl [0, 1, 2, 3, 4] rfl)
  have B237 : ∀ (K25 : Int32 → Int32 → Int32 → Int32 → HI → HL → Prop) (hK25 : ∀ (x1 : Int32) (x2 : Int32) (x3 : Int32) (x4 : Int32) (h : HI) (g : HL) (H : Heap) (locs : List Loc) (ls : Array Slot), K25 x1 x2 x3 x4 h g → gG D cy ad (gA ad s.heap.size) s.heap h g H locs → lv_has ls 8 [(0, .ref (ad 135)), (1, .int x1), (2, .int x2), (3, .int x3), (4, .int x4)] → W p l e ({ frames := 3, cells := 0, slots := 0, locals := 65 } : Room) s m args below meth c H locs 0 0 (MQ below (va_Qi (fun (r : Int32) (u : HI × HL) => Q r u.1 u.2) (gB D cy ad s.heap.size) (gA ad s.heap.size)) args s 0 0 (gA ad s.heap.size)) (F0 m 25 ls [])) (x1 : Int32) (x2 : Int32) (x4 : Int32) (x7 : Int32) (h : HI) (g : HL) (H : Heap) (locs : List Loc) (ls : Array Slot), j_X11_reads_237 Q K25 x1 x2 x4 x7 h g → gG D cy ad (gA ad s.heap.size) s.heap h g H locs → lv_has ls 8 [(0, .ref (ad 135)), (1, .int x1), (2, .int x2), (4, .int x4), (7, .int x7)] → W p l e ({ frames := 3, cells := 0, slots := 0, locals := 65 } : Room) s m args below meth c H locs 0 0 (MQ below (va_Qi (fun (r : Int32) (u : HI × HL) => Q r u.1 u.2) (gB D cy ad s.heap.size) (gA ad s.heap.size)) args s 0 0 (gA ad s.heap.size)) (F0 m 237 ls []) := by
    intro K25 hK25 x1 x2 x4 x7 h g H locs ls HW hG hl
    unfold j_X11_reads_237 at HW
    refine lv_aload_n hx hb dX11_reads_237 rfl (lv_at hl 0 rfl) ?_
    refine lv_iconst (v := 0) hx hb dX11_reads_238 (by decide) ?_
    refine lv_iload hx hb dX11_reads_239 (lv_at hl 4 rfl) ?_
    obtain ⟨P_241, HC_241, HW⟩ := HW
    refine g_callv (g_runV (As := [.int (0 : Int32), .int x7]) (rest := []) ⟨hx, hb, hml, hown, hts⟩ (m_X11_emits l D cy ad h g H.size (0 : Int32) x7 P_241 HC_241) (cwV 2 hts (gd_V (wm5 160 rfl rfl) (wm5 162 rfl rfl) (wmp3 (q := (yX11_emits, 26)) 11 rfl) (wm1 13 rfl rfl) (wm5 163 rfl rfl)) rfl rfl rfl (by decide +kernel) ⟨Nat.le_of_ble_eq_true rfl, Nat.le_of_ble_eq_true rfl⟩) hK hNw hG gl_135 rfl gk_135 (by decide) rfl rfl hl.1 rfl (lv_room (Nat.le_of_ble_eq_true rfl)) dX11_reads_241 ⟨Nat.zero_le _, Nat.zero_le _⟩) hG (fun h_241 g_241 H locs hq hG => ?_)
    replace HW := HW h_241 g_241 hq
    refine lv_aload_n hx hb dX11_reads_244 rfl (lv_at hl 0 rfl) ?_
    refine lv_bipush (v := 6) hx hb dX11_reads_245 (by decide) ?_
    obtain ⟨P_247, HC_247, HW⟩ := HW
    refine g_callv (g_runV (As := [.int (6 : Int32)]) (rest := []) ⟨hx, hb, hml, hown, hts⟩ (m_X11_settles l D cy ad h_241 g_241 H.size (6 : Int32) P_247 HC_247) (cwV 1 hts (gd_V (wm5 153 rfl rfl) (wm5 155 rfl rfl) (wmp3 (q := (yX11_settles, 26)) 10 rfl) (wm1 13 rfl rfl) (wm5 156 rfl rfl)) rfl rfl rfl (by decide +kernel) ⟨Nat.le_of_ble_eq_true rfl, Nat.le_of_ble_eq_true rfl⟩) hK hNw hG gl_135 rfl gk_135 (by decide) rfl rfl hl.1 rfl (lv_room (Nat.le_of_ble_eq_true rfl)) dX11_reads_247 ⟨Nat.zero_le _, Nat.zero_le _⟩) hG (fun h_247 g_247 H locs hq hG => ?_)
    replace HW := HW h_247 g_247 hq
    refine lv_iconst (v := 1) hx hb dX11_reads_250 (by decide) ?_
    refine lv_istore_n (lv' := [(3, .int (1 : Int32)), (0, .ref (ad 135)), (1, .int x1), (2, .int x2), (4, .int x4), (7, .int x7)]) hx hb dX11_reads_251 rfl hl (by decide) rfl (fun ls hl => ?_)
    refine lv_goto (tgt := 368) hx hb dX11_reads_252 (by decide) ?_
    exact B368 K25 hK25 x1 x2 (1 : Int32) x4 h_247 g_247 _ _ _ HW hG (lv_sub hl [1, 2, 3, 0, 4] rfl)
  have L161 : ∀ (K25 : Int32 → Int32 → Int32 → Int32 → HI → HL → Prop) (hK25 : ∀ (x1 : Int32) (x2 : Int32) (x3 : Int32) (x4 : Int32) (h : HI) (g : HL) (H : Heap) (locs : List Loc) (ls : Array Slot), K25 x1 x2 x3 x4 h g → gG D cy ad (gA ad s.heap.size) s.heap h g H locs → lv_has ls 8 [(0, .ref (ad 135)), (1, .int x1), (2, .int x2), (3, .int x3), (4, .int x4)] → W p l e ({ frames := 3, cells := 0, slots := 0, locals := 65 } : Room) s m args below meth c H locs 0 0 (MQ below (va_Qi (fun (r : Int32) (u : HI × HL) => Q r u.1 u.2) (gB D cy ad s.heap.size) (gA ad s.heap.size)) args s 0 0 (gA ad s.heap.size)) (F0 m 25 ls [])) (n : Nat) (x1 : Int32) (x2 : Int32) (x4 : Int32) (x6 : Int32) (x7 : Int32) (h : HI) (g : HL) (H : Heap) (locs : List Loc) (ls : Array Slot), lpN (F_X11_reads_161 Q K25) n (x1, x2, x4, x6, x7, h, g) → gG D cy ad (gA ad s.heap.size) s.heap h g H locs → lv_has ls 8 [(0, .ref (ad 135)), (1, .int x1), (2, .int x2), (4, .int x4), (6, .int x6), (7, .int x7)] → W p l e ({ frames := 3, cells := 0, slots := 0, locals := 65 } : Room) s m args below meth c H locs 0 0 (MQ below (va_Qi (fun (r : Int32) (u : HI × HL) => Q r u.1 u.2) (gB D cy ad s.heap.size) (gA ad s.heap.size)) args s 0 0 (gA ad s.heap.size)) (F0 m 161 ls []) := by
    intro K25 hK25 n
    induction n with
    | zero => intro x1 x2 x4 x6 x7 h g H locs ls HW; exact HW.elim
    | succ n ih =>
      intro x1 x2 x4 x6 x7 h g H locs ls HW hG hl
      have HW : b_X11_reads_161 Q K25 (fun x1 x2 x4 x6 x7 h g => lpN (F_X11_reads_161 Q K25) n (x1, x2, x4, x6, x7, h, g)) x1 x2 x4 x6 x7 h g := HW
      generalize hKe : (fun (x1 : Int32) (x2 : Int32) (x4 : Int32) (x6 : Int32) (x7 : Int32) (h : HI) (g : HL) => lpN (F_X11_reads_161 Q K25) n (x1, x2, x4, x6, x7, h, g)) = K161 at HW
      have hK161 : ∀ (x1 : Int32) (x2 : Int32) (x4 : Int32) (x6 : Int32) (x7 : Int32) (h : HI) (g : HL) (H : Heap) (locs : List Loc) (ls : Array Slot), K161 x1 x2 x4 x6 x7 h g → gG D cy ad (gA ad s.heap.size) s.heap h g H locs → lv_has ls 8 [(0, .ref (ad 135)), (1, .int x1), (2, .int x2), (4, .int x4), (6, .int x6), (7, .int x7)] → W p l e ({ frames := 3, cells := 0, slots := 0, locals := 65 } : Room) s m args below meth c H locs 0 0 (MQ below (va_Qi (fun (r : Int32) (u : HI × HL) => Q r u.1 u.2) (gB D cy ad s.heap.size) (gA ad s.heap.size)) args s 0 0 (gA ad s.heap.size)) (F0 m 161 ls []) := by subst hKe; exact ih
      clear ih
      clear hKe
      unfold b_X11_reads_161 at HW
      refine lv_iload hx hb dX11_reads_161 (lv_at hl 3 rfl) ?_
      refine lv_iload_n hx hb dX11_reads_163 rfl (lv_at hl 1 rfl) ?_
      refine lv_icmp_ge (tgt := 237) hx hb dX11_reads_164 (by decide) (fun c_164 => ?_) (fun c_164 => ?_)
      · replace HW := HW.1 c_164
        exact B237 K25 hK25 x1 x2 x4 x7 h g _ _ _ HW hG (lv_sub hl [0, 1, 2, 3, 5] rfl)
      · replace HW := HW.2 c_164
        refine lv_aload_n hx hb dX11_reads_167 rfl (lv_at hl 0 rfl) ?_
        refine g_getr hx hb hw inG11 hown hK hG gl_135 rfl gk_135 (by decide) 0 (by decide) (by rw [gm_135]; decide) (r := 136) gr_135_0 lk7 dX11_reads_168 ?_
        refine lv_sipush (v := 827) hx hb dX11_reads_171 (by decide) ?_
        refine lv_iload hx hb dX11_reads_174 (lv_at hl 3 rfl) ?_
        refine lv_iadd hx hb dX11_reads_176 ?_
        refine g_iald hx hb hK hG gl_136 gk_136 gn_136 HW.1 dX11_reads_177 ?_
        replace HW := HW.2
        refine lv_i2l hx hb dX11_reads_178 rfl ?_
        refine lv_ldc2 (v := 48) hx hb hown cn105 dX11_reads_179 ?_
        refine lv_ldc2 (v := 57) hx hb hown cn107 dX11_reads_182 ?_
        obtain ⟨P_185, HC_185, HW⟩ := HW
        refine g_callz (g_runS (As := [.long (((h 136 ((827 : Int32) + x4).toNatClampNeg)).toInt64), .long (48 : Int64), .long (57 : Int64)]) (rest := []) ⟨hx, hb, hml, hown, hts⟩ (m_X11_in l D cy ad h g H.size (((h 136 ((827 : Int32) + x4).toNatClampNeg)).toInt64) (48 : Int64) (57 : Int64) P_185 HC_185) (va_cwS 3 hts (gd_S (wm5 111 rfl rfl) (wm5 112 rfl rfl) (wm1 13 rfl rfl) (wm5 113 rfl rfl)) rfl rfl rfl (by decide +kernel) ⟨Nat.le_of_ble_eq_true rfl, Nat.le_of_ble_eq_true rfl⟩) hK hNw hG rfl rfl hl.1 rfl (lv_room (Nat.le_of_ble_eq_true rfl)) dX11_reads_185 ⟨Nat.zero_le _, Nat.zero_le _⟩) hG (fun r_185 h_185 g_185 H locs hz hq hG => ?_)
        replace HW := HW r_185 h_185 g_185 hz hq
        refine lv_if_eq (tgt := 237) hx hb dX11_reads_188 (by decide) (fun c_188 => ?_) (fun c_188 => ?_)
        · replace HW := HW.1 c_188
          exact B237 K25 hK25 x1 x2 x4 x7 h_185 g_185 _ _ _ HW hG (lv_sub hl [0, 1, 2, 3, 5] rfl)
        · replace HW := HW.2 c_188
          refine lv_iload hx hb dX11_reads_191 (lv_at hl 3 rfl) ?_
          refine lv_iload hx hb dX11_reads_193 (lv_at hl 4 rfl) ?_
          refine lv_isub hx hb dX11_reads_195 ?_
          refine lv_bipush (v := 6) hx hb dX11_reads_196 (by decide) ?_
          refine lv_icmp_ne (tgt := 209) hx hb dX11_reads_198 (by decide) (fun c_198 => ?_) (fun c_198 => ?_)
          · replace HW := HW.1 c_198
            refine lv_bipush (v := 10) hx hb dX11_reads_209 (by decide) ?_
            refine lv_iload hx hb dX11_reads_211 (lv_at hl 5 rfl) ?_
            refine lv_imul hx hb dX11_reads_213 ?_
            refine lv_aload_n hx hb dX11_reads_214 rfl (lv_at hl 0 rfl) ?_
            refine g_getr hx hb hw inG11 hown hK hG gl_135 rfl gk_135 (by decide) 0 (by decide) (by rw [gm_135]; decide) (r := 136) gr_135_0 lk7 dX11_reads_215 ?_
            refine lv_sipush (v := 827) hx hb dX11_reads_218 (by decide) ?_
            refine lv_iload hx hb dX11_reads_221 (lv_at hl 3 rfl) ?_
            refine lv_iadd hx hb dX11_reads_223 ?_
            refine g_iald hx hb hK hG gl_136 gk_136 gn_136 HW.1 dX11_reads_224 ?_
            replace HW := HW.2
            refine lv_iadd hx hb dX11_reads_225 ?_
            refine lv_bipush (v := 48) hx hb dX11_reads_226 (by decide) ?_
            refine lv_isub hx hb dX11_reads_228 ?_
            refine lv_topi (fun x7_229 ex7_229 => ?_)
            replace HW := HW x7_229 ex7_229
            refine lv_istore (lv' := [(7, .int x7_229), (0, .ref (ad 135)), (1, .int x1), (2, .int x2), (4, .int x4), (6, .int x6)]) hx hb dX11_reads_229 hl (by decide) rfl (fun ls hl => ?_)
            obtain ⟨x4_231, ex4_231⟩ : ∃ y : Int32, y = (x4 + 1) := ⟨_, rfl⟩
            replace HW := HW x4_231 ex4_231
            refine lv_iinc (v := x4_231) (lv' := [(4, .int x4_231), (7, .int x7_229), (0, .ref (ad 135)), (1, .int x1), (2, .int x2), (6, .int x6)]) hx hb dX11_reads_231 hl (k := 4) rfl (by rw [ex4_231]; rfl) (by decide) rfl (fun ls hl => ?_)
            refine lv_goto (tgt := 161) hx hb dX11_reads_234 (by decide) ?_
            exact hK161 x1 x2 x4_231 x6 x7_229 h_185 g_185 _ _ _ HW hG (lv_sub hl [2, 3, 4, 0, 5, 1] rfl)
          · replace HW := HW.2 c_198
            refine lv_bipush (v := 10) hx hb dX11_reads_201 (by decide) ?_
            refine lv_iload hx hb dX11_reads_203 (lv_at hl 4 rfl) ?_
            refine lv_imul hx hb dX11_reads_205 ?_
            refine lv_iconst (v := 2) hx hb dX11_reads_206 (by decide) ?_
            refine lv_iadd hx hb dX11_reads_207 ?_
            exact W.iret (v := (((10 : Int32) * x6) + (2 : Int32))) hx hb hr (fun t ht hW => ⟨⟨(((10 : Int32) * x6) + (2 : Int32)), (h_185, g_185), rfl, HW, g_B ht hG⟩, hG.2.2.F ht⟩) hG.2.2.2.2 dX11_reads_208
  have B125 : ∀ (x4 : Int32) (h : HI) (g : HL) (H : Heap) (locs : List Loc) (ls : Array Slot), j_X11_reads_125 Q x4 h g → gG D cy ad (gA ad s.heap.size) s.heap h g H locs → lv_has ls 8 [(4, .int x4)] → W p l e ({ frames := 3, cells := 0, slots := 0, locals := 65 } : Room) s m args below meth c H locs 0 0 (MQ below (va_Qi (fun (r : Int32) (u : HI × HL) => Q r u.1 u.2) (gB D cy ad s.heap.size) (gA ad s.heap.size)) args s 0 0 (gA ad s.heap.size)) (F0 m 125 ls []) := by
    intro x4 h g H locs ls HW hG hl
    unfold j_X11_reads_125 at HW
    refine lv_bipush (v := 10) hx hb dX11_reads_125 (by decide) ?_
    refine lv_iload hx hb dX11_reads_127 (lv_at hl 0 rfl) ?_
    refine lv_imul hx hb dX11_reads_129 ?_
    refine lv_iconst (v := 1) hx hb dX11_reads_130 (by decide) ?_
    refine lv_iadd hx hb dX11_reads_131 ?_
    exact W.iret (v := (((10 : Int32) * x4) + (1 : Int32))) hx hb hr (fun t ht hW => ⟨⟨(((10 : Int32) * x4) + (1 : Int32)), (h, g), rfl, HW, g_B ht hG⟩, hG.2.2.F ht⟩) hG.2.2.2.2 dX11_reads_132
  have B133 : ∀ (K25 : Int32 → Int32 → Int32 → Int32 → HI → HL → Prop) (hK25 : ∀ (x1 : Int32) (x2 : Int32) (x3 : Int32) (x4 : Int32) (h : HI) (g : HL) (H : Heap) (locs : List Loc) (ls : Array Slot), K25 x1 x2 x3 x4 h g → gG D cy ad (gA ad s.heap.size) s.heap h g H locs → lv_has ls 8 [(0, .ref (ad 135)), (1, .int x1), (2, .int x2), (3, .int x3), (4, .int x4)] → W p l e ({ frames := 3, cells := 0, slots := 0, locals := 65 } : Room) s m args below meth c H locs 0 0 (MQ below (va_Qi (fun (r : Int32) (u : HI × HL) => Q r u.1 u.2) (gB D cy ad s.heap.size) (gA ad s.heap.size)) args s 0 0 (gA ad s.heap.size)) (F0 m 25 ls [])) (x1 : Int32) (x2 : Int32) (x3 : Int32) (x4 : Int32) (h : HI) (g : HL) (H : Heap) (locs : List Loc) (ls : Array Slot), j_X11_reads_133 Q K25 x1 x2 x3 x4 h g → gG D cy ad (gA ad s.heap.size) s.heap h g H locs → lv_has ls 8 [(0, .ref (ad 135)), (1, .int x1), (2, .int x2), (3, .int x3), (4, .int x4)] → W p l e ({ frames := 3, cells := 0, slots := 0, locals := 65 } : Room) s m args below meth c H locs 0 0 (MQ below (va_Qi (fun (r : Int32) (u : HI × HL) => Q r u.1 u.2) (gB D cy ad s.heap.size) (gA ad s.heap.size)) args s 0 0 (gA ad s.heap.size)) (F0 m 133 ls []) := by
    intro K25 hK25 x1 x2 x3 x4 h g H locs ls HW hG hl
    unfold j_X11_reads_133 at HW
    obtain ⟨x4_133, ex4_133⟩ : ∃ y : Int32, y = (x4 + 1) := ⟨_, rfl⟩
    replace HW := HW x4_133 ex4_133
    refine lv_iinc (v := x4_133) (lv' := [(4, .int x4_133), (0, .ref (ad 135)), (1, .int x1), (2, .int x2), (3, .int x3)]) hx hb dX11_reads_133 hl (k := 4) rfl (by rw [ex4_133]; rfl) (by decide) rfl (fun ls hl => ?_)
    refine lv_goto (tgt := 368) hx hb dX11_reads_136 (by decide) ?_
    exact B368 K25 hK25 x1 x2 x3 x4_133 h g _ _ _ HW hG (lv_sub hl [1, 2, 3, 4, 0] rfl)
  have B99 : ∀ (K25 : Int32 → Int32 → Int32 → Int32 → HI → HL → Prop) (hK25 : ∀ (x1 : Int32) (x2 : Int32) (x3 : Int32) (x4 : Int32) (h : HI) (g : HL) (H : Heap) (locs : List Loc) (ls : Array Slot), K25 x1 x2 x3 x4 h g → gG D cy ad (gA ad s.heap.size) s.heap h g H locs → lv_has ls 8 [(0, .ref (ad 135)), (1, .int x1), (2, .int x2), (3, .int x3), (4, .int x4)] → W p l e ({ frames := 3, cells := 0, slots := 0, locals := 65 } : Room) s m args below meth c H locs 0 0 (MQ below (va_Qi (fun (r : Int32) (u : HI × HL) => Q r u.1 u.2) (gB D cy ad s.heap.size) (gA ad s.heap.size)) args s 0 0 (gA ad s.heap.size)) (F0 m 25 ls [])) (x1 : Int32) (x2 : Int32) (x4 : Int32) (x5 : Int32) (h : HI) (g : HL) (H : Heap) (locs : List Loc) (ls : Array Slot), j_X11_reads_99 Q K25 x1 x2 x4 x5 h g → gG D cy ad (gA ad s.heap.size) s.heap h g H locs → lv_has ls 8 [(0, .ref (ad 135)), (1, .int x1), (2, .int x2), (4, .int x4), (5, .int x5)] → W p l e ({ frames := 3, cells := 0, slots := 0, locals := 65 } : Room) s m args below meth c H locs 0 0 (MQ below (va_Qi (fun (r : Int32) (u : HI × HL) => Q r u.1 u.2) (gB D cy ad s.heap.size) (gA ad s.heap.size)) args s 0 0 (gA ad s.heap.size)) (F0 m 99 ls []) := by
    intro K25 hK25 x1 x2 x4 x5 h g H locs ls HW hG hl
    unfold j_X11_reads_99 at HW
    refine lv_iload hx hb dX11_reads_99 (lv_at hl 4 rfl) ?_
    obtain ⟨P_101, HC_101, HW⟩ := HW
    refine g_calli (g_runS (As := [.int x5]) (rest := []) ⟨hx, hb, hml, hown, hts⟩ (m_X11_signOf l D cy ad h g H.size x5 P_101 HC_101) (va_cwS 1 hts (gd_S (wm5 164 rfl rfl) (wm5 165 rfl rfl) (wm1 13 rfl rfl) (wm5 166 rfl rfl)) rfl rfl rfl (by decide +kernel) ⟨Nat.le_of_ble_eq_true rfl, Nat.le_of_ble_eq_true rfl⟩) hK hNw hG rfl rfl hl.1 rfl (lv_room (Nat.le_of_ble_eq_true rfl)) dX11_reads_101 ⟨Nat.zero_le _, Nat.zero_le _⟩) hG (fun r_101 h_101 g_101 H locs hq hG => ?_)
    replace HW := HW r_101 h_101 g_101 hq
    refine lv_iconst (v := (-1)) hx hb dX11_reads_104 (by decide) ?_
    refine lv_icmp_eq (tgt := 125) hx hb dX11_reads_105 (by decide) (fun c_105 => ?_) (fun c_105 => ?_)
    · replace HW := HW.1 c_105
      exact B125 x4 h_101 g_101 _ _ _ HW hG (lv_sub hl [3] rfl)
    · replace HW := HW.2 c_105
      refine lv_aload_n hx hb dX11_reads_108 rfl (lv_at hl 0 rfl) ?_
      refine lv_iload hx hb dX11_reads_109 (lv_at hl 4 rfl) ?_
      obtain ⟨P_111, HC_111, HW⟩ := HW
      refine g_calli (g_runS (As := [.int x5]) (rest := [.ref (ad 135)]) ⟨hx, hb, hml, hown, hts⟩ (m_X11_signOf l D cy ad h_101 g_101 H.size x5 P_111 HC_111) (va_cwS 1 hts (gd_S (wm5 164 rfl rfl) (wm5 165 rfl rfl) (wm1 13 rfl rfl) (wm5 166 rfl rfl)) rfl rfl rfl (by decide +kernel) ⟨Nat.le_of_ble_eq_true rfl, Nat.le_of_ble_eq_true rfl⟩) hK hNw hG rfl rfl hl.1 rfl (lv_room (Nat.le_of_ble_eq_true rfl)) dX11_reads_111 ⟨Nat.zero_le _, Nat.zero_le _⟩) hG (fun r_111 h_111 g_111 H locs hq hG => ?_)
      replace HW := HW r_111 h_111 g_111 hq
      obtain ⟨P_114, HC_114, HW⟩ := HW
      refine g_callz (g_runV (As := [.int r_111]) (rest := []) ⟨hx, hb, hml, hown, hts⟩ (m_X11_goesOn l D cy ad h_111 g_111 H.size r_111 P_114 HC_114) (cwV 1 hts (gd_V (wm5 167 rfl rfl) (wm5 169 rfl rfl) (wmp3 (q := (yX11_goesOn, 26)) 12 rfl) (wm1 13 rfl rfl) (wm5 170 rfl rfl)) rfl rfl rfl (by decide +kernel) ⟨Nat.le_of_ble_eq_true rfl, Nat.le_of_ble_eq_true rfl⟩) hK hNw hG gl_135 rfl gk_135 (by decide) rfl rfl hl.1 rfl (lv_room (Nat.le_of_ble_eq_true rfl)) dX11_reads_114 ⟨Nat.zero_le _, Nat.zero_le _⟩) hG (fun r_114 h_114 g_114 H locs hz hq hG => ?_)
      replace HW := HW r_114 h_114 g_114 hz hq
      refine lv_if_eq (tgt := 125) hx hb dX11_reads_117 (by decide) (fun c_117 => ?_) (fun c_117 => ?_)
      · replace HW := HW.1 c_117
        exact B125 x4 h_114 g_114 _ _ _ HW hG (lv_sub hl [3] rfl)
      · replace HW := HW.2 c_117
        refine lv_iconst (v := 0) hx hb dX11_reads_120 (by decide) ?_
        refine lv_istore_n (lv' := [(3, .int (0 : Int32)), (0, .ref (ad 135)), (1, .int x1), (2, .int x2), (4, .int x4), (5, .int x5)]) hx hb dX11_reads_121 rfl hl (by decide) rfl (fun ls hl => ?_)
        refine lv_goto (tgt := 133) hx hb dX11_reads_122 (by decide) ?_
        exact B133 K25 hK25 x1 x2 (0 : Int32) x4 h_114 g_114 _ _ _ HW hG (lv_sub hl [1, 2, 3, 0, 4] rfl)
  have L25 : ∀ (n : Nat) (x1 : Int32) (x2 : Int32) (x3 : Int32) (x4 : Int32) (h : HI) (g : HL) (H : Heap) (locs : List Loc) (ls : Array Slot), lpN (F_X11_reads_25 Q) n (x1, x2, x3, x4, h, g) → gG D cy ad (gA ad s.heap.size) s.heap h g H locs → lv_has ls 8 [(0, .ref (ad 135)), (1, .int x1), (2, .int x2), (3, .int x3), (4, .int x4)] → W p l e ({ frames := 3, cells := 0, slots := 0, locals := 65 } : Room) s m args below meth c H locs 0 0 (MQ below (va_Qi (fun (r : Int32) (u : HI × HL) => Q r u.1 u.2) (gB D cy ad s.heap.size) (gA ad s.heap.size)) args s 0 0 (gA ad s.heap.size)) (F0 m 25 ls []) := by
    intro n
    induction n with
    | zero => intro x1 x2 x3 x4 h g H locs ls HW; exact HW.elim
    | succ n ih =>
      intro x1 x2 x3 x4 h g H locs ls HW hG hl
      have HW : b_X11_reads_25 Q (fun x1 x2 x3 x4 h g => lpN (F_X11_reads_25 Q) n (x1, x2, x3, x4, h, g)) x1 x2 x3 x4 h g := HW
      generalize hKe : (fun (x1 : Int32) (x2 : Int32) (x3 : Int32) (x4 : Int32) (h : HI) (g : HL) => lpN (F_X11_reads_25 Q) n (x1, x2, x3, x4, h, g)) = K25 at HW
      have hK25 : ∀ (x1 : Int32) (x2 : Int32) (x3 : Int32) (x4 : Int32) (h : HI) (g : HL) (H : Heap) (locs : List Loc) (ls : Array Slot), K25 x1 x2 x3 x4 h g → gG D cy ad (gA ad s.heap.size) s.heap h g H locs → lv_has ls 8 [(0, .ref (ad 135)), (1, .int x1), (2, .int x2), (3, .int x3), (4, .int x4)] → W p l e ({ frames := 3, cells := 0, slots := 0, locals := 65 } : Room) s m args below meth c H locs 0 0 (MQ below (va_Qi (fun (r : Int32) (u : HI × HL) => Q r u.1 u.2) (gB D cy ad s.heap.size) (gA ad s.heap.size)) args s 0 0 (gA ad s.heap.size)) (F0 m 25 ls []) := by subst hKe; exact ih
      clear ih
      clear hKe
      unfold b_X11_reads_25 at HW
      refine lv_iload hx hb dX11_reads_25 (lv_at hl 4 rfl) ?_
      refine lv_iload_n hx hb dX11_reads_27 rfl (lv_at hl 1 rfl) ?_
      refine lv_icmp_ge (tgt := 371) hx hb dX11_reads_28 (by decide) (fun c_28 => ?_) (fun c_28 => ?_)
      · replace HW := HW.1 c_28
        refine lv_aload_n hx hb dX11_reads_371 rfl (lv_at hl 0 rfl) ?_
        refine lv_iconst (v := 1) hx hb dX11_reads_372 (by decide) ?_
        obtain ⟨P_373, HC_373, HW⟩ := HW
        refine g_callv (g_runV (As := [.int (1 : Int32)]) (rest := []) ⟨hx, hb, hml, hown, hts⟩ (m_X11_settles l D cy ad h g H.size (1 : Int32) P_373 HC_373) (cwV 1 hts (gd_V (wm5 153 rfl rfl) (wm5 155 rfl rfl) (wmp3 (q := (yX11_settles, 26)) 10 rfl) (wm1 13 rfl rfl) (wm5 156 rfl rfl)) rfl rfl rfl (by decide +kernel) ⟨Nat.le_of_ble_eq_true rfl, Nat.le_of_ble_eq_true rfl⟩) hK hNw hG gl_135 rfl gk_135 (by decide) rfl rfl hl.1 rfl (lv_room (Nat.le_of_ble_eq_true rfl)) dX11_reads_373 ⟨Nat.zero_le _, Nat.zero_le _⟩) hG (fun h_373 g_373 H locs hq hG => ?_)
        replace HW := HW h_373 g_373 hq
        refine lv_iload_n hx hb dX11_reads_376 rfl (lv_at hl 3 rfl) ?_
        refine lv_if_eq (tgt := 388) hx hb dX11_reads_377 (by decide) (fun c_377 => ?_) (fun c_377 => ?_)
        · replace HW := HW.1 c_377
          exact B388 x1 h_373 g_373 _ _ _ HW hG (lv_sub hl [1] rfl)
        · replace HW := HW.2 c_377
          refine lv_iload_n hx hb dX11_reads_380 rfl (lv_at hl 2 rfl) ?_
          refine lv_if_ne (tgt := 388) hx hb dX11_reads_381 (by decide) (fun c_381 => ?_) (fun c_381 => ?_)
          · replace HW := HW.1 c_381
            exact B388 x1 h_373 g_373 _ _ _ HW hG (lv_sub hl [1] rfl)
          · replace HW := HW.2 c_381
            refine lv_iconst (v := (-1)) hx hb dX11_reads_384 (by decide) ?_
            refine lv_goto (tgt := 394) hx hb dX11_reads_385 (by decide) ?_
            exact W.iret (v := (-1 : Int32)) hx hb hr (fun t ht hW => ⟨⟨(-1 : Int32), (h_373, g_373), rfl, HW, g_B ht hG⟩, hG.2.2.F ht⟩) hG.2.2.2.2 dX11_reads_394
      · replace HW := HW.2 c_28
        refine lv_aload_n hx hb dX11_reads_31 rfl (lv_at hl 0 rfl) ?_
        refine g_getr hx hb hw inG11 hown hK hG gl_135 rfl gk_135 (by decide) 0 (by decide) (by rw [gm_135]; decide) (r := 136) gr_135_0 lk7 dX11_reads_32 ?_
        refine lv_sipush (v := 827) hx hb dX11_reads_35 (by decide) ?_
        refine lv_iload hx hb dX11_reads_38 (lv_at hl 4 rfl) ?_
        refine lv_iadd hx hb dX11_reads_40 ?_
        refine g_iald hx hb hK hG gl_136 gk_136 gn_136 HW.1 dX11_reads_41 ?_
        replace HW := HW.2
        refine lv_topi (fun x5_42 ex5_42 => ?_)
        replace HW := HW x5_42 ex5_42
        refine lv_istore (lv' := [(5, .int x5_42), (0, .ref (ad 135)), (1, .int x1), (2, .int x2), (3, .int x3), (4, .int x4)]) hx hb dX11_reads_42 hl (by decide) rfl (fun ls hl => ?_)
        refine lv_iload hx hb dX11_reads_44 (lv_at hl 0 rfl) ?_
        refine lv_bipush (v := 32) hx hb dX11_reads_46 (by decide) ?_
        refine lv_icmp_ne (tgt := 57) hx hb dX11_reads_48 (by decide) (fun c_48 => ?_) (fun c_48 => ?_)
        · replace HW := HW.1 c_48
          refine lv_iload_n hx hb dX11_reads_57 rfl (lv_at hl 4 rfl) ?_
          refine lv_if_eq (tgt := 139) hx hb dX11_reads_58 (by decide) (fun c_58 => ?_) (fun c_58 => ?_)
          · replace HW := HW.1 c_58
            refine lv_iload hx hb dX11_reads_139 (lv_at hl 0 rfl) ?_
            refine lv_i2l hx hb dX11_reads_141 rfl ?_
            refine lv_ldc2 (v := 48) hx hb hown cn105 dX11_reads_142 ?_
            refine lv_ldc2 (v := 57) hx hb hown cn107 dX11_reads_145 ?_
            obtain ⟨P_148, HC_148, HW⟩ := HW
            refine g_callz (g_runS (As := [.long ((x5_42).toInt64), .long (48 : Int64), .long (57 : Int64)]) (rest := []) ⟨hx, hb, hml, hown, hts⟩ (m_X11_in l D cy ad h g H.size ((x5_42).toInt64) (48 : Int64) (57 : Int64) P_148 HC_148) (va_cwS 3 hts (gd_S (wm5 111 rfl rfl) (wm5 112 rfl rfl) (wm1 13 rfl rfl) (wm5 113 rfl rfl)) rfl rfl rfl (by decide +kernel) ⟨Nat.le_of_ble_eq_true rfl, Nat.le_of_ble_eq_true rfl⟩) hK hNw hG rfl rfl hl.1 rfl (lv_room (Nat.le_of_ble_eq_true rfl)) dX11_reads_148 ⟨Nat.zero_le _, Nat.zero_le _⟩) hG (fun r_148 h_148 g_148 H locs hz hq hG => ?_)
            replace HW := HW r_148 h_148 g_148 hz hq
            refine lv_if_eq (tgt := 255) hx hb dX11_reads_151 (by decide) (fun c_151 => ?_) (fun c_151 => ?_)
            · replace HW := HW.1 c_151
              refine lv_iload hx hb dX11_reads_255 (lv_at hl 0 rfl) ?_
              obtain ⟨P_257, HC_257, HW⟩ := HW
              refine g_calli (g_runS (As := [.int x5_42]) (rest := []) ⟨hx, hb, hml, hown, hts⟩ (m_X11_nameOf l D cy ad h_148 g_148 H.size x5_42 P_257 HC_257) (va_cwS 1 hts (gd_S (wm5 177 rfl rfl) (wm5 178 rfl rfl) (wm1 13 rfl rfl) (wm5 179 rfl rfl)) rfl rfl rfl (by decide +kernel) ⟨Nat.le_of_ble_eq_true rfl, Nat.le_of_ble_eq_true rfl⟩) hK hNw hG rfl rfl hl.1 rfl (lv_room (Nat.le_of_ble_eq_true rfl)) dX11_reads_257 ⟨Nat.zero_le _, Nat.zero_le _⟩) hG (fun r_257 h_257 g_257 H locs hq hG => ?_)
              replace HW := HW r_257 h_257 g_257 hq
              refine lv_iconst (v := (-1)) hx hb dX11_reads_260 (by decide) ?_
              refine lv_icmp_eq (tgt := 288) hx hb dX11_reads_261 (by decide) (fun c_261 => ?_) (fun c_261 => ?_)
              · replace HW := HW.1 c_261
                refine lv_iload hx hb dX11_reads_288 (lv_at hl 0 rfl) ?_
                refine lv_bipush (v := 40) hx hb dX11_reads_290 (by decide) ?_
                refine lv_icmp_ne (tgt := 324) hx hb dX11_reads_292 (by decide) (fun c_292 => ?_) (fun c_292 => ?_)
                · replace HW := HW.1 c_292
                  refine lv_iload hx hb dX11_reads_324 (lv_at hl 0 rfl) ?_
                  refine lv_bipush (v := 45) hx hb dX11_reads_326 (by decide) ?_
                  refine lv_icmp_eq (tgt := 338) hx hb dX11_reads_328 (by decide) (fun c_328 => ?_) (fun c_328 => ?_)
                  · replace HW := HW.1 c_328
                    exact B338 K25 hK25 x1 x2 x3 x4 x5_42 h_257 g_257 _ _ _ HW hG (lv_sub hl [1, 2, 3, 4, 5, 0] rfl)
                  · replace HW := HW.2 c_328
                    refine lv_iload hx hb dX11_reads_331 (lv_at hl 0 rfl) ?_
                    refine lv_bipush (v := 33) hx hb dX11_reads_333 (by decide) ?_
                    refine lv_icmp_ne (tgt := 360) hx hb dX11_reads_335 (by decide) (fun c_335 => ?_) (fun c_335 => ?_)
                    · replace HW := HW.1 c_335
                      refine lv_bipush (v := 10) hx hb dX11_reads_360 (by decide) ?_
                      refine lv_iload hx hb dX11_reads_362 (lv_at hl 5 rfl) ?_
                      refine lv_imul hx hb dX11_reads_364 ?_
                      refine lv_iconst (v := 1) hx hb dX11_reads_365 (by decide) ?_
                      refine lv_iadd hx hb dX11_reads_366 ?_
                      exact W.iret (v := (((10 : Int32) * x4) + (1 : Int32))) hx hb hr (fun t ht hW => ⟨⟨(((10 : Int32) * x4) + (1 : Int32)), (h_257, g_257), rfl, HW, g_B ht hG⟩, hG.2.2.F ht⟩) hG.2.2.2.2 dX11_reads_367
                    · replace HW := HW.2 c_335
                      exact B338 K25 hK25 x1 x2 x3 x4 x5_42 h_257 g_257 _ _ _ HW hG (lv_sub hl [1, 2, 3, 4, 5, 0] rfl)
                · replace HW := HW.2 c_292
                  refine lv_iload_n hx hb dX11_reads_295 rfl (lv_at hl 3 rfl) ?_
                  refine lv_bipush (v := 8) hx hb dX11_reads_296 (by decide) ?_
                  refine lv_icmp_ne (tgt := 309) hx hb dX11_reads_298 (by decide) (fun c_298 => ?_) (fun c_298 => ?_)
                  · replace HW := HW.1 c_298
                    obtain ⟨x2_309, ex2_309⟩ : ∃ y : Int32, y = (x2 + 1) := ⟨_, rfl⟩
                    replace HW := HW x2_309 ex2_309
                    refine lv_iinc (v := x2_309) (lv' := [(2, .int x2_309), (5, .int x5_42), (0, .ref (ad 135)), (1, .int x1), (3, .int x3), (4, .int x4)]) hx hb dX11_reads_309 hl (k := 3) rfl (by rw [ex2_309]; rfl) (by decide) rfl (fun ls hl => ?_)
                    refine lv_aload_n hx hb dX11_reads_312 rfl (lv_at hl 2 rfl) ?_
                    refine lv_bipush (v := 13) hx hb dX11_reads_313 (by decide) ?_
                    obtain ⟨P_315, HC_315, HW⟩ := HW
                    refine g_callv (g_runV (As := [.int (13 : Int32)]) (rest := []) ⟨hx, hb, hml, hown, hts⟩ (m_X11_waitsWith l D cy ad h_257 g_257 H.size (13 : Int32) P_315 HC_315) (cwV 1 hts (gd_V (wm5 171 rfl rfl) (wm5 173 rfl rfl) (wmp3 (q := (yX11_waitsWith, 26)) 13 rfl) (wm1 13 rfl rfl) (wm5 174 rfl rfl)) rfl rfl rfl (by decide +kernel) ⟨Nat.le_of_ble_eq_true rfl, Nat.le_of_ble_eq_true rfl⟩) hK hNw hG gl_135 rfl gk_135 (by decide) rfl rfl hl.1 rfl (lv_room (Nat.le_of_ble_eq_true rfl)) dX11_reads_315 ⟨Nat.zero_le _, Nat.zero_le _⟩) hG (fun h_315 g_315 H locs hq hG => ?_)
                    replace HW := HW h_315 g_315 hq
                    obtain ⟨x4_318, ex4_318⟩ : ∃ y : Int32, y = (x4 + 1) := ⟨_, rfl⟩
                    replace HW := HW x4_318 ex4_318
                    refine lv_iinc (v := x4_318) (lv' := [(4, .int x4_318), (2, .int x2_309), (5, .int x5_42), (0, .ref (ad 135)), (1, .int x1), (3, .int x3)]) hx hb dX11_reads_318 hl (k := 5) rfl (by rw [ex4_318]; rfl) (by decide) rfl (fun ls hl => ?_)
                    refine lv_goto (tgt := 368) hx hb dX11_reads_321 (by decide) ?_
                    exact B368 K25 hK25 x1 x2_309 x3 x4_318 h_315 g_315 _ _ _ HW hG (lv_sub hl [3, 4, 1, 5, 0] rfl)
                  · replace HW := HW.2 c_298
                    refine lv_bipush (v := 10) hx hb dX11_reads_301 (by decide) ?_
                    refine lv_iload hx hb dX11_reads_303 (lv_at hl 5 rfl) ?_
                    refine lv_imul hx hb dX11_reads_305 ?_
                    refine lv_iconst (v := 3) hx hb dX11_reads_306 (by decide) ?_
                    refine lv_iadd hx hb dX11_reads_307 ?_
                    exact W.iret (v := (((10 : Int32) * x4) + (3 : Int32))) hx hb hr (fun t ht hW => ⟨⟨(((10 : Int32) * x4) + (3 : Int32)), (h_257, g_257), rfl, HW, g_B ht hG⟩, hG.2.2.F ht⟩) hG.2.2.2.2 dX11_reads_308
              · replace HW := HW.2 c_261
                refine lv_aload_n hx hb dX11_reads_264 rfl (lv_at hl 1 rfl) ?_
                refine lv_iconst (v := 1) hx hb dX11_reads_265 (by decide) ?_
                refine lv_iload hx hb dX11_reads_266 (lv_at hl 0 rfl) ?_
                obtain ⟨P_268, HC_268, HW⟩ := HW
                refine g_calli (g_runS (As := [.int x5_42]) (rest := [.int (1 : Int32), .ref (ad 135)]) ⟨hx, hb, hml, hown, hts⟩ (m_X11_nameOf l D cy ad h_257 g_257 H.size x5_42 P_268 HC_268) (va_cwS 1 hts (gd_S (wm5 177 rfl rfl) (wm5 178 rfl rfl) (wm1 13 rfl rfl) (wm5 179 rfl rfl)) rfl rfl rfl (by decide +kernel) ⟨Nat.le_of_ble_eq_true rfl, Nat.le_of_ble_eq_true rfl⟩) hK hNw hG rfl rfl hl.1 rfl (lv_room (Nat.le_of_ble_eq_true rfl)) dX11_reads_268 ⟨Nat.zero_le _, Nat.zero_le _⟩) hG (fun r_268 h_268 g_268 H locs hq hG => ?_)
                replace HW := HW r_268 h_268 g_268 hq
                obtain ⟨P_271, HC_271, HW⟩ := HW
                refine g_callv (g_runV (As := [.int (1 : Int32), .int r_268]) (rest := []) ⟨hx, hb, hml, hown, hts⟩ (m_X11_emits l D cy ad h_268 g_268 H.size (1 : Int32) r_268 P_271 HC_271) (cwV 2 hts (gd_V (wm5 160 rfl rfl) (wm5 162 rfl rfl) (wmp3 (q := (yX11_emits, 26)) 11 rfl) (wm1 13 rfl rfl) (wm5 163 rfl rfl)) rfl rfl rfl (by decide +kernel) ⟨Nat.le_of_ble_eq_true rfl, Nat.le_of_ble_eq_true rfl⟩) hK hNw hG gl_135 rfl gk_135 (by decide) rfl rfl hl.1 rfl (lv_room (Nat.le_of_ble_eq_true rfl)) dX11_reads_271 ⟨Nat.zero_le _, Nat.zero_le _⟩) hG (fun h_271 g_271 H locs hq hG => ?_)
                replace HW := HW h_271 g_271 hq
                refine lv_aload_n hx hb dX11_reads_274 rfl (lv_at hl 1 rfl) ?_
                refine lv_bipush (v := 6) hx hb dX11_reads_275 (by decide) ?_
                obtain ⟨P_277, HC_277, HW⟩ := HW
                refine g_callv (g_runV (As := [.int (6 : Int32)]) (rest := []) ⟨hx, hb, hml, hown, hts⟩ (m_X11_settles l D cy ad h_271 g_271 H.size (6 : Int32) P_277 HC_277) (cwV 1 hts (gd_V (wm5 153 rfl rfl) (wm5 155 rfl rfl) (wmp3 (q := (yX11_settles, 26)) 10 rfl) (wm1 13 rfl rfl) (wm5 156 rfl rfl)) rfl rfl rfl (by decide +kernel) ⟨Nat.le_of_ble_eq_true rfl, Nat.le_of_ble_eq_true rfl⟩) hK hNw hG gl_135 rfl gk_135 (by decide) rfl rfl hl.1 rfl (lv_room (Nat.le_of_ble_eq_true rfl)) dX11_reads_277 ⟨Nat.zero_le _, Nat.zero_le _⟩) hG (fun h_277 g_277 H locs hq hG => ?_)
                replace HW := HW h_277 g_277 hq
                refine lv_iconst (v := 1) hx hb dX11_reads_280 (by decide) ?_
                refine lv_istore_n (lv' := [(3, .int (1 : Int32)), (5, .int x5_42), (0, .ref (ad 135)), (1, .int x1), (2, .int x2), (4, .int x4)]) hx hb dX11_reads_281 rfl hl (by decide) rfl (fun ls hl => ?_)
                obtain ⟨x4_282, ex4_282⟩ : ∃ y : Int32, y = (x4 + 1) := ⟨_, rfl⟩
                replace HW := HW x4_282 ex4_282
                refine lv_iinc (v := x4_282) (lv' := [(4, .int x4_282), (3, .int (1 : Int32)), (5, .int x5_42), (0, .ref (ad 135)), (1, .int x1), (2, .int x2)]) hx hb dX11_reads_282 hl (k := 5) rfl (by rw [ex4_282]; rfl) (by decide) rfl (fun ls hl => ?_)
                refine lv_goto (tgt := 368) hx hb dX11_reads_285 (by decide) ?_
                exact B368 K25 hK25 x1 x2 (1 : Int32) x4_282 h_277 g_277 _ _ _ HW hG (lv_sub hl [3, 4, 5, 1, 0] rfl)
            · replace HW := HW.2 c_151
              refine lv_iload hx hb dX11_reads_154 (lv_at hl 5 rfl) ?_
              refine lv_istore (lv' := [(6, .int x4), (5, .int x5_42), (0, .ref (ad 135)), (1, .int x1), (2, .int x2), (3, .int x3), (4, .int x4)]) hx hb dX11_reads_156 hl (by decide) rfl (fun ls hl => ?_)
              refine lv_iconst (v := 0) hx hb dX11_reads_158 (by decide) ?_
              refine lv_istore (lv' := [(7, .int (0 : Int32)), (6, .int x4), (5, .int x5_42), (0, .ref (ad 135)), (1, .int x1), (2, .int x2), (3, .int x3), (4, .int x4)]) hx hb dX11_reads_159 hl (by decide) rfl (fun ls hl => ?_)
              obtain ⟨n_161, HW⟩ := HW
              exact L161 K25 hK25 n_161 x1 x2 x4 x4 (0 : Int32) h_148 g_148 _ _ _ HW hG (lv_sub hl [3, 4, 5, 7, 1, 0] rfl)
          · replace HW := HW.2 c_58
            refine lv_iload hx hb dX11_reads_61 (lv_at hl 0 rfl) ?_
            refine lv_bipush (v := 41) hx hb dX11_reads_63 (by decide) ?_
            refine lv_icmp_ne (tgt := 99) hx hb dX11_reads_65 (by decide) (fun c_65 => ?_) (fun c_65 => ?_)
            · replace HW := HW.1 c_65
              exact B99 K25 hK25 x1 x2 x4 x5_42 h g _ _ _ HW hG (lv_sub hl [1, 2, 3, 5, 0] rfl)
            · replace HW := HW.2 c_65
              refine lv_iload_n hx hb dX11_reads_68 rfl (lv_at hl 3 rfl) ?_
              refine lv_if_le (tgt := 99) hx hb dX11_reads_69 (by decide) (fun c_69 => ?_) (fun c_69 => ?_)
              · replace HW := HW.1 c_69
                exact B99 K25 hK25 x1 x2 x4 x5_42 h g _ _ _ HW hG (lv_sub hl [1, 2, 3, 5, 0] rfl)
              · replace HW := HW.2 c_69
                refine lv_aload_n hx hb dX11_reads_72 rfl (lv_at hl 1 rfl) ?_
                refine lv_iconst (v := 1) hx hb dX11_reads_73 (by decide) ?_
                obtain ⟨P_74, HC_74, HW⟩ := HW
                refine g_callv (g_runV (As := [.int (1 : Int32)]) (rest := []) ⟨hx, hb, hml, hown, hts⟩ (m_X11_settles l D cy ad h g H.size (1 : Int32) P_74 HC_74) (cwV 1 hts (gd_V (wm5 153 rfl rfl) (wm5 155 rfl rfl) (wmp3 (q := (yX11_settles, 26)) 10 rfl) (wm1 13 rfl rfl) (wm5 156 rfl rfl)) rfl rfl rfl (by decide +kernel) ⟨Nat.le_of_ble_eq_true rfl, Nat.le_of_ble_eq_true rfl⟩) hK hNw hG gl_135 rfl gk_135 (by decide) rfl rfl hl.1 rfl (lv_room (Nat.le_of_ble_eq_true rfl)) dX11_reads_74 ⟨Nat.zero_le _, Nat.zero_le _⟩) hG (fun h_74 g_74 H locs hq hG => ?_)
                replace HW := HW h_74 g_74 hq
                refine lv_aload_n hx hb dX11_reads_77 rfl (lv_at hl 1 rfl) ?_
                refine lv_dup hx hb dX11_reads_78 rfl ?_
                refine g_geti hx hb hw inG11 hown hK hG gl_135 rfl gk_135 (by decide) 6 (by decide) (by rw [gm_135]; decide) gr_135_6 lk82 dX11_reads_79 ?_
                refine lv_iconst (v := 1) hx hb dX11_reads_82 (by decide) ?_
                refine lv_isub hx hb dX11_reads_83 ?_
                refine g_put hx hb hw inG11 tyX11 tyX11_ok nmX11 hown hK hG gl_135 rfl gk_135 (by decide) 6 (by decide) (by rw [gm_135]; decide) gr_135_6 rfl (ty := .int) (by decide +kernel) rfl rfl lk82 dX11_reads_84 (fun H locs hG => ?_)
                obtain ⟨h_84, eh_84⟩ : ∃ y : HI, y = hu h_74 135 6 ((h_74 135 6) - (1 : Int32)) := ⟨_, rfl⟩
                rw [← eh_84] at hG
                replace HW := HW h_84 eh_84
                obtain ⟨x2_87, ex2_87⟩ : ∃ y : Int32, y = (x2 + (-1)) := ⟨_, rfl⟩
                replace HW := HW x2_87 ex2_87
                refine lv_iinc (v := x2_87) (lv' := [(2, .int x2_87), (5, .int x5_42), (0, .ref (ad 135)), (1, .int x1), (3, .int x3), (4, .int x4)]) hx hb dX11_reads_87 hl (k := 3) rfl (by rw [ex2_87]; rfl) (by decide) rfl (fun ls hl => ?_)
                refine lv_aload_n hx hb dX11_reads_90 rfl (lv_at hl 2 rfl) ?_
                refine lv_bipush (v := 6) hx hb dX11_reads_91 (by decide) ?_
                obtain ⟨P_93, HC_93, HW⟩ := HW
                refine g_callv (g_runV (As := [.int (6 : Int32)]) (rest := []) ⟨hx, hb, hml, hown, hts⟩ (m_X11_settles l D cy ad h_84 g_74 H.size (6 : Int32) P_93 HC_93) (cwV 1 hts (gd_V (wm5 153 rfl rfl) (wm5 155 rfl rfl) (wmp3 (q := (yX11_settles, 26)) 10 rfl) (wm1 13 rfl rfl) (wm5 156 rfl rfl)) rfl rfl rfl (by decide +kernel) ⟨Nat.le_of_ble_eq_true rfl, Nat.le_of_ble_eq_true rfl⟩) hK hNw hG gl_135 rfl gk_135 (by decide) rfl rfl hl.1 rfl (lv_room (Nat.le_of_ble_eq_true rfl)) dX11_reads_93 ⟨Nat.zero_le _, Nat.zero_le _⟩) hG (fun h_93 g_93 H locs hq hG => ?_)
                replace HW := HW h_93 g_93 hq
                refine lv_goto (tgt := 133) hx hb dX11_reads_96 (by decide) ?_
                exact B133 K25 hK25 x1 x2_87 x3 x4 h_93 g_93 _ _ _ HW hG (lv_sub hl [2, 3, 0, 4, 5] rfl)
        · replace HW := HW.2 c_48
          obtain ⟨x4_51, ex4_51⟩ : ∃ y : Int32, y = (x4 + 1) := ⟨_, rfl⟩
          replace HW := HW x4_51 ex4_51
          refine lv_iinc (v := x4_51) (lv' := [(4, .int x4_51), (5, .int x5_42), (0, .ref (ad 135)), (1, .int x1), (2, .int x2), (3, .int x3)]) hx hb dX11_reads_51 hl (k := 5) rfl (by rw [ex4_51]; rfl) (by decide) rfl (fun ls hl => ?_)
          refine lv_goto (tgt := 368) hx hb dX11_reads_54 (by decide) ?_
          exact B368 K25 hK25 x1 x2 x3 x4_51 h g _ _ _ HW hG (lv_sub hl [2, 3, 4, 5, 0] rfl)
  have E0 : ∀ (H : Heap) (locs : List Loc) (ls : Array Slot), gG D cy ad (gA ad s.heap.size) s.heap h g H locs → lv_has ls 8 [(0, .ref (ad 135))] → W p l e ({ frames := 3, cells := 0, slots := 0, locals := 65 } : Room) s m args below meth c H locs 0 0 (MQ below (va_Qi (fun (r : Int32) (u : HI × HL) => Q r u.1 u.2) (gB D cy ad s.heap.size) (gA ad s.heap.size)) args s 0 0 (gA ad s.heap.size)) (F0 m 0 ls []) := by
    intro H locs ls hG hl
    unfold w_X11_reads at HW
    refine lv_aload_n hx hb dX11_reads_0 rfl (lv_at hl 0 rfl) ?_
    refine g_getr hx hb hw inG11 hown hK hG gl_135 rfl gk_135 (by decide) 0 (by decide) (by rw [gm_135]; decide) (r := 136) gr_135_0 lk7 dX11_reads_1 ?_
    refine lv_bipush (v := 8) hx hb dX11_reads_4 (by decide) ?_
    refine g_iald hx hb hK hG gl_136 gk_136 gn_136 HW.1 dX11_reads_6 ?_
    replace HW := HW.2
    refine lv_topi (fun x1_7 ex1_7 => ?_)
    replace HW := HW x1_7 ex1_7
    refine lv_istore_n (lv' := [(1, .int x1_7), (0, .ref (ad 135))]) hx hb dX11_reads_7 rfl hl (by decide) rfl (fun ls hl => ?_)
    refine lv_aload_n hx hb dX11_reads_8 rfl (lv_at hl 1 rfl) ?_
    refine lv_iconst (v := 0) hx hb dX11_reads_9 (by decide) ?_
    refine g_put hx hb hw inG11 tyX11 tyX11_ok nmX11 hown hK hG gl_135 rfl gk_135 (by decide) 3 (by decide) (by rw [gm_135]; decide) gr_135_3 rfl (ty := .int) (by decide +kernel) rfl rfl lk78 dX11_reads_10 (fun H locs hG => ?_)
    obtain ⟨h_10, eh_10⟩ : ∃ y : HI, y = hu h 135 3 (0 : Int32) := ⟨_, rfl⟩
    rw [← eh_10] at hG
    replace HW := HW h_10 eh_10
    refine lv_aload_n hx hb dX11_reads_13 rfl (lv_at hl 1 rfl) ?_
    refine lv_iconst (v := 0) hx hb dX11_reads_14 (by decide) ?_
    refine g_put hx hb hw inG11 tyX11 tyX11_ok nmX11 hown hK hG gl_135 rfl gk_135 (by decide) 6 (by decide) (by rw [gm_135]; decide) gr_135_6 rfl (ty := .int) (by decide +kernel) rfl rfl lk82 dX11_reads_15 (fun H locs hG => ?_)
    obtain ⟨h_15, eh_15⟩ : ∃ y : HI, y = hu h_10 135 6 (0 : Int32) := ⟨_, rfl⟩
    rw [← eh_15] at hG
    replace HW := HW h_15 eh_15
    refine lv_iconst (v := 0) hx hb dX11_reads_18 (by decide) ?_
    refine lv_istore_n (lv' := [(2, .int (0 : Int32)), (1, .int x1_7), (0, .ref (ad 135))]) hx hb dX11_reads_19 rfl hl (by decide) rfl (fun ls hl => ?_)
    refine lv_iconst (v := 0) hx hb dX11_reads_20 (by decide) ?_
    refine lv_istore_n (lv' := [(3, .int (0 : Int32)), (2, .int (0 : Int32)), (1, .int x1_7), (0, .ref (ad 135))]) hx hb dX11_reads_21 rfl hl (by decide) rfl (fun ls hl => ?_)
    refine lv_iconst (v := 0) hx hb dX11_reads_22 (by decide) ?_
    refine lv_istore (lv' := [(4, .int (0 : Int32)), (3, .int (0 : Int32)), (2, .int (0 : Int32)), (1, .int x1_7), (0, .ref (ad 135))]) hx hb dX11_reads_23 hl (by decide) rfl (fun ls hl => ?_)
    obtain ⟨n_25, HW⟩ := HW
    exact L25 n_25 x1_7 (0 : Int32) (0 : Int32) (0 : Int32) h_15 g _ _ _ HW hG (lv_sub hl [4, 3, 2, 1, 0] rfl)
  exact E0 _ _ _ hG hl
end
