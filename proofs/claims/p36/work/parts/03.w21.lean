section
-- 03.w21
def w_X11_limbs (x1 : Int32) (h : HI) (g : HL) (Q : Int32 → HI → HL → Prop) : Prop :=
  (∃ P_4 : Int32 → HI → HL → Prop, w_X11_in ((x1).toInt64) (0 : Int64) (1 : Int64) h g P_4 ∧ ∀ (r_4 : Int32) (h_4 : HI) (g_4 : HL), zb r_4 → P_4 r_4 h_4 g_4 → ((r_4 = 0 → Q (-2 : Int32) h_4 g_4) ∧ (¬ r_4 = 0 → (vp_in x1 5 ∧ Q (h_4 147 x1.toNatClampNeg) h_4 g_4))))
set_option maxHeartbeats 8000000 in
set_option maxRecDepth 100000 in
theorem m_X11_limbs (l : Launch) (D : va_G) (cy : Nat → ClassId) (ad : Nat → Nat) (h : HI) (g : HL) (sz : Nat) (x1 : Int32) (Q : Int32 → HI → HL → Prop) (HW : w_X11_limbs x1 h g Q) : Met l yX11_limbs (wa yX11_limbs cX11_limbs 2 (some .int)) ({ frames := 1, cells := 0, slots := 0, locals := 25 }) (va_Pc [.ref (ad 135), .int x1] (gI D cy ad h g sz)) (va_Qi (fun (r : Int32) (u : HI × HL) => Q r u.1 u.2) (gB D cy ad sz) (gA ad sz)) 0 0 (gA ad sz) := by
  refine Met.ofW (cc := cX11_limbs) (maxL := 2) (ret := (some .int)) (by decide) rfl ?_
  intro p e s m args below meth c s₁ B hml hv
  obtain ⟨hav, hsz, hP, hK, hD0, hNw⟩ := hv
  have hx := B.exec
  have hb := B.bytes
  have hr := B.returns
  have hts := atoms_spec (ws := (wa yX11_limbs cX11_limbs 2 (some .int))) B.pre
  have hw := wa_hw hts
  have hown : s.vm.findClass RX11 = some m.cls := findClass_of_methodNamed B.named
  have hlocks := B.notSynchronized
  subst hsz
  have hG : gG D cy ad (gA ad s.heap.size) s.heap h g s.heap [] := ⟨hP, gA_self hD0, va_S.rf⟩
  clear hP hD0
  have lk45 := hw (.fieldLink RX11 45 "OldWorksModel" "wide" "[I") (wm5 51 rfl rfl)
  rw [show (headSpec (wa yX11_limbs cX11_limbs 2 (some .int)) ({ frames := 1, cells := 0, slots := 0, locals := 25 } : Room)).room = ({ frames := 1, cells := 0, slots := 0, locals := 25 } : Room) from rfl]
  have hl := lv_entry ([.ref (ad 135), .int x1]) (n := 2) (Nat.le_of_ble_eq_true rfl)
  rw [show entryFrame m args 2 = entryFrame m ([.ref (ad 135), .int x1] : List Value).toArray 2 from by rw [hav], lg_entry_eq]
  generalize (lg_sl ([.ref (ad 135), .int x1]) ++ List.replicate (2 - (lg_sl ([.ref (ad 135), .int x1])).length) Slot.unset).toArray = ls at hl ⊢
  have hl : lv_has ls 2 [(0, .ref (ad 135)), (1, .int x1)] := hl
  have E0 : ∀ (H : Heap) (locs : List Loc) (ls : Array Slot), gG D cy ad (gA ad s.heap.size) s.heap h g H locs → lv_has ls 2 [(0, .ref (ad 135)), (1, .int x1)] → W p l e ({ frames := 1, cells := 0, slots := 0, locals := 25 } : Room) s m args below meth c H locs 0 0 (MQ below (va_Qi (fun (r : Int32) (u : HI × HL) => Q r u.1 u.2) (gB D cy ad s.heap.size) (gA ad s.heap.size)) args s 0 0 (gA ad s.heap.size)) (F0 m 0 ls []) := by
    intro H locs ls hG hl
    unfold w_X11_limbs at HW
    refine lv_iload_n hx hb dX11_limbs_0 rfl (lv_at hl 1 rfl) ?_
    refine lv_i2l hx hb dX11_limbs_1 rfl ?_
    refine lv_lconst (v := 0) hx hb dX11_limbs_2 (by decide) ?_
    refine lv_lconst (v := 1) hx hb dX11_limbs_3 (by decide) ?_
    obtain ⟨P_4, HC_4, HW⟩ := HW
    refine g_callz (g_runS (As := [.long ((x1).toInt64), .long (0 : Int64), .long (1 : Int64)]) (rest := []) ⟨hx, hb, hml, hown, hts⟩ (m_X11_in l D cy ad h g H.size ((x1).toInt64) (0 : Int64) (1 : Int64) P_4 HC_4) (va_cwS 3 hts (gd_S (wm5 111 rfl rfl) (wm5 112 rfl rfl) (wm1 13 rfl rfl) (wm5 113 rfl rfl)) rfl rfl rfl (by decide +kernel) ⟨Nat.le_of_ble_eq_true rfl, Nat.le_of_ble_eq_true rfl⟩) hK hNw hG rfl rfl hl.1 rfl (lv_room (Nat.le_of_ble_eq_true rfl)) dX11_limbs_4 ⟨Nat.zero_le _, Nat.zero_le _⟩) hG (fun r_4 h_4 g_4 H locs hz hq hG => ?_)
    replace HW := HW r_4 h_4 g_4 hz hq
    refine lv_if_eq (tgt := 19) hx hb dX11_limbs_7 (by decide) (fun c_7 => ?_) (fun c_7 => ?_)
    · replace HW := HW.1 c_7
      refine lv_bipush (v := (-2)) hx hb dX11_limbs_19 (by decide) ?_
      exact W.iret (v := (-2 : Int32)) hx hb hr (fun t ht hW => ⟨⟨(-2 : Int32), (h_4, g_4), rfl, HW, g_B ht hG⟩, hG.2.2.F ht⟩) hG.2.2.2.2 dX11_limbs_21
    · replace HW := HW.2 c_7
      refine lv_aload_n hx hb dX11_limbs_10 rfl (lv_at hl 0 rfl) ?_
      refine g_getr hx hb hw inG11 hown hK hG gl_135 rfl gk_135 (by decide) 24 (by decide) (by rw [gm_135]; decide) (r := 147) gr_135_24 lk45 dX11_limbs_11 ?_
      refine lv_iload_n hx hb dX11_limbs_14 rfl (lv_at hl 1 rfl) ?_
      refine g_iald hx hb hK hG gl_147 gk_147 gn_147 HW.1 dX11_limbs_15 ?_
      replace HW := HW.2
      refine lv_goto (tgt := 21) hx hb dX11_limbs_16 (by decide) ?_
      exact W.iret (v := (h_4 147 x1.toNatClampNeg)) hx hb hr (fun t ht hW => ⟨⟨(h_4 147 x1.toNatClampNeg), (h_4, g_4), rfl, HW, g_B ht hG⟩, hG.2.2.F ht⟩) hG.2.2.2.2 dX11_limbs_21
  exact E0 _ _ _ hG hl

def w_X11_limb (x1 : Int32) (x2 : Int32) (h : HI) (g : HL) (Q : Int32 → HI → HL → Prop) : Prop :=
  (∃ P_4 : Int32 → HI → HL → Prop, w_X11_in ((x1).toInt64) (0 : Int64) (1 : Int64) h g P_4 ∧ ∀ (r_4 : Int32) (h_4 : HI) (g_4 : HL), zb r_4 → P_4 r_4 h_4 g_4 → ((r_4 = 0 → Q (-2 : Int32) h_4 g_4) ∧ (¬ r_4 = 0 → ((0 ≤ x2 → (vp_in x1 5 ∧ (((h_4 147 x1.toNatClampNeg) ≤ x2 → Q (-1 : Int32) h_4 g_4) ∧ (¬ (h_4 147 x1.toNatClampNeg) ≤ x2 → (vp_in (((80 : Int32) * x1) + x2) 400 ∧ Q (h_4 146 (((80 : Int32) * x1) + x2).toNatClampNeg) h_4 g_4))))) ∧ (¬ 0 ≤ x2 → Q (-2 : Int32) h_4 g_4)))))
set_option maxHeartbeats 8000000 in
set_option maxRecDepth 100000 in
theorem m_X11_limb (l : Launch) (D : va_G) (cy : Nat → ClassId) (ad : Nat → Nat) (h : HI) (g : HL) (sz : Nat) (x1 : Int32) (x2 : Int32) (Q : Int32 → HI → HL → Prop) (HW : w_X11_limb x1 x2 h g Q) : Met l yX11_limb (wa yX11_limb cX11_limb 3 (some .int)) ({ frames := 1, cells := 0, slots := 0, locals := 25 }) (va_Pc [.ref (ad 135), .int x1, .int x2] (gI D cy ad h g sz)) (va_Qi (fun (r : Int32) (u : HI × HL) => Q r u.1 u.2) (gB D cy ad sz) (gA ad sz)) 0 0 (gA ad sz) := by
  refine Met.ofW (cc := cX11_limb) (maxL := 3) (ret := (some .int)) (by decide) rfl ?_
  intro p e s m args below meth c s₁ B hml hv
  obtain ⟨hav, hsz, hP, hK, hD0, hNw⟩ := hv
  have hx := B.exec
  have hb := B.bytes
  have hr := B.returns
  have hts := atoms_spec (ws := (wa yX11_limb cX11_limb 3 (some .int))) B.pre
  have hw := wa_hw hts
  have hown : s.vm.findClass RX11 = some m.cls := findClass_of_methodNamed B.named
  have hlocks := B.notSynchronized
  subst hsz
  have hG : gG D cy ad (gA ad s.heap.size) s.heap h g s.heap [] := ⟨hP, gA_self hD0, va_S.rf⟩
  clear hP hD0
  have lk45 := hw (.fieldLink RX11 45 "OldWorksModel" "wide" "[I") (wm5 51 rfl rfl)
  have lk42 := hw (.fieldLink RX11 42 "OldWorksModel" "limbs" "[I") (wm5 50 rfl rfl)
  rw [show (headSpec (wa yX11_limb cX11_limb 3 (some .int)) ({ frames := 1, cells := 0, slots := 0, locals := 25 } : Room)).room = ({ frames := 1, cells := 0, slots := 0, locals := 25 } : Room) from rfl]
  have hl := lv_entry ([.ref (ad 135), .int x1, .int x2]) (n := 3) (Nat.le_of_ble_eq_true rfl)
  rw [show entryFrame m args 3 = entryFrame m ([.ref (ad 135), .int x1, .int x2] : List Value).toArray 3 from by rw [hav], lg_entry_eq]
  generalize (lg_sl ([.ref (ad 135), .int x1, .int x2]) ++ List.replicate (3 - (lg_sl ([.ref (ad 135), .int x1, .int x2])).length) Slot.unset).toArray = ls at hl ⊢
  have hl : lv_has ls 3 [(0, .ref (ad 135)), (1, .int x1), (2, .int x2)] := hl
  have E0 : ∀ (H : Heap) (locs : List Loc) (ls : Array Slot), gG D cy ad (gA ad s.heap.size) s.heap h g H locs → lv_has ls 3 [(0, .ref (ad 135)), (1, .int x1), (2, .int x2)] → W p l e ({ frames := 1, cells := 0, slots := 0, locals := 25 } : Room) s m args below meth c H locs 0 0 (MQ below (va_Qi (fun (r : Int32) (u : HI × HL) => Q r u.1 u.2) (gB D cy ad s.heap.size) (gA ad s.heap.size)) args s 0 0 (gA ad s.heap.size)) (F0 m 0 ls []) := by
    intro H locs ls hG hl
    unfold w_X11_limb at HW
    refine lv_iload_n hx hb dX11_limb_0 rfl (lv_at hl 1 rfl) ?_
    refine lv_i2l hx hb dX11_limb_1 rfl ?_
    refine lv_lconst (v := 0) hx hb dX11_limb_2 (by decide) ?_
    refine lv_lconst (v := 1) hx hb dX11_limb_3 (by decide) ?_
    obtain ⟨P_4, HC_4, HW⟩ := HW
    refine g_callz (g_runS (As := [.long ((x1).toInt64), .long (0 : Int64), .long (1 : Int64)]) (rest := []) ⟨hx, hb, hml, hown, hts⟩ (m_X11_in l D cy ad h g H.size ((x1).toInt64) (0 : Int64) (1 : Int64) P_4 HC_4) (va_cwS 3 hts (gd_S (wm5 111 rfl rfl) (wm5 112 rfl rfl) (wm1 13 rfl rfl) (wm5 113 rfl rfl)) rfl rfl rfl (by decide +kernel) ⟨Nat.le_of_ble_eq_true rfl, Nat.le_of_ble_eq_true rfl⟩) hK hNw hG rfl rfl hl.1 rfl (lv_room (Nat.le_of_ble_eq_true rfl)) dX11_limb_4 ⟨Nat.zero_le _, Nat.zero_le _⟩) hG (fun r_4 h_4 g_4 H locs hz hq hG => ?_)
    replace HW := HW r_4 h_4 g_4 hz hq
    refine lv_if_eq (tgt := 14) hx hb dX11_limb_7 (by decide) (fun c_7 => ?_) (fun c_7 => ?_)
    · replace HW := HW.1 c_7
      refine lv_bipush (v := (-2)) hx hb dX11_limb_14 (by decide) ?_
      exact W.iret (v := (-2 : Int32)) hx hb hr (fun t ht hW => ⟨⟨(-2 : Int32), (h_4, g_4), rfl, HW, g_B ht hG⟩, hG.2.2.F ht⟩) hG.2.2.2.2 dX11_limb_16
    · replace HW := HW.2 c_7
      refine lv_iload_n hx hb dX11_limb_10 rfl (lv_at hl 2 rfl) ?_
      refine lv_if_ge (tgt := 17) hx hb dX11_limb_11 (by decide) (fun c_11 => ?_) (fun c_11 => ?_)
      · replace HW := HW.1 c_11
        refine lv_iload_n hx hb dX11_limb_17 rfl (lv_at hl 2 rfl) ?_
        refine lv_aload_n hx hb dX11_limb_18 rfl (lv_at hl 0 rfl) ?_
        refine g_getr hx hb hw inG11 hown hK hG gl_135 rfl gk_135 (by decide) 24 (by decide) (by rw [gm_135]; decide) (r := 147) gr_135_24 lk45 dX11_limb_19 ?_
        refine lv_iload_n hx hb dX11_limb_22 rfl (lv_at hl 1 rfl) ?_
        refine g_iald hx hb hK hG gl_147 gk_147 gn_147 HW.1 dX11_limb_23 ?_
        replace HW := HW.2
        refine lv_icmp_ge (tgt := 41) hx hb dX11_limb_24 (by decide) (fun c_24 => ?_) (fun c_24 => ?_)
        · replace HW := HW.1 c_24
          refine lv_iconst (v := (-1)) hx hb dX11_limb_41 (by decide) ?_
          exact W.iret (v := (-1 : Int32)) hx hb hr (fun t ht hW => ⟨⟨(-1 : Int32), (h_4, g_4), rfl, HW, g_B ht hG⟩, hG.2.2.F ht⟩) hG.2.2.2.2 dX11_limb_42
        · replace HW := HW.2 c_24
          refine lv_aload_n hx hb dX11_limb_27 rfl (lv_at hl 0 rfl) ?_
          refine g_getr hx hb hw inG11 hown hK hG gl_135 rfl gk_135 (by decide) 23 (by decide) (by rw [gm_135]; decide) (r := 146) gr_135_23 lk42 dX11_limb_28 ?_
          refine lv_bipush (v := 80) hx hb dX11_limb_31 (by decide) ?_
          refine lv_iload_n hx hb dX11_limb_33 rfl (lv_at hl 1 rfl) ?_
          refine lv_imul hx hb dX11_limb_34 ?_
          refine lv_iload_n hx hb dX11_limb_35 rfl (lv_at hl 2 rfl) ?_
          refine lv_iadd hx hb dX11_limb_36 ?_
          refine g_iald hx hb hK hG gl_146 gk_146 gn_146 HW.1 dX11_limb_37 ?_
          replace HW := HW.2
          refine lv_goto (tgt := 42) hx hb dX11_limb_38 (by decide) ?_
          exact W.iret (v := (h_4 146 (((80 : Int32) * x1) + x2).toNatClampNeg)) hx hb hr (fun t ht hW => ⟨⟨(h_4 146 (((80 : Int32) * x1) + x2).toNatClampNeg), (h_4, g_4), rfl, HW, g_B ht hG⟩, hG.2.2.F ht⟩) hG.2.2.2.2 dX11_limb_42
      · replace HW := HW.2 c_11
        refine lv_bipush (v := (-2)) hx hb dX11_limb_14 (by decide) ?_
        exact W.iret (v := (-2 : Int32)) hx hb hr (fun t ht hW => ⟨⟨(-2 : Int32), (h_4, g_4), rfl, HW, g_B ht hG⟩, hG.2.2.F ht⟩) hG.2.2.2.2 dX11_limb_16
  exact E0 _ _ _ hG hl

def j_X11_told_77 (Q : Int32 → HI → HL → Prop) (s1 : Int32) (s2 : Int32) (h : HI) (g : HL) : Prop :=
  (vp_in s1 887 ∧ ∀ h_77 : HI, h_77 = hu h 136 s1.toNatClampNeg s2 → (∃ P_81 : Int32 → HI → HL → Prop, w_X11_one (6 : Int32) h_77 g P_81 ∧ ∀ (r_81 : Int32) (h_81 : HI) (g_81 : HL), P_81 r_81 h_81 g_81 → Q (r_81 + (1 : Int32)) h_81 g_81))
def w_X11_told (x1 : Int32) (x2 : Int32) (h : HI) (g : HL) (Q : Int32 → HI → HL → Prop) : Prop :=
  (∃ P_6 : Int32 → HI → HL → Prop, w_X11_in ((x1).toInt64) (0 : Int64) (100 : Int64) h g P_6 ∧ ∀ (r_6 : Int32) (h_6 : HI) (g_6 : HL), zb r_6 → P_6 r_6 h_6 g_6 → ((¬ r_6 = 0 → (vp_in (6 : Int32) 887 ∧ ((¬ (h_6 136 (6 : Int32).toNatClampNeg) = (40 : Int32) → (vp_in (6 : Int32) 887 ∧ (vp_in ((737 : Int32) + ((2 : Int32) * (h_6 136 (6 : Int32).toNatClampNeg))) 887 ∧ ∀ h_48 : HI, h_48 = hu h_6 136 ((737 : Int32) + ((2 : Int32) * (h_6 136 (6 : Int32).toNatClampNeg))).toNatClampNeg x1 → (vp_in (6 : Int32) 887 ∧ ((x2 = 0 → j_X11_told_77 Q (((737 : Int32) + ((2 : Int32) * (h_48 136 (6 : Int32).toNatClampNeg))) + (1 : Int32)) (0 : Int32) h_48 g_6) ∧ (¬ x2 = 0 → j_X11_told_77 Q (((737 : Int32) + ((2 : Int32) * (h_48 136 (6 : Int32).toNatClampNeg))) + (1 : Int32)) (1 : Int32) h_48 g_6)))))) ∧ ((h_6 136 (6 : Int32).toNatClampNeg) = (40 : Int32) → Q (-4 : Int32) h_6 g_6)))) ∧ (r_6 = 0 → Q (-2 : Int32) h_6 g_6)))
set_option maxHeartbeats 8000000 in
set_option maxRecDepth 100000 in
theorem m_X11_told (l : Launch) (D : va_G) (cy : Nat → ClassId) (ad : Nat → Nat) (h : HI) (g : HL) (sz : Nat) (x1 : Int32) (x2 : Int32) (Q : Int32 → HI → HL → Prop) (HW : w_X11_told x1 x2 h g Q) : Met l yX11_told (wa yX11_told cX11_told 3 (some .int)) ({ frames := 1, cells := 0, slots := 0, locals := 25 }) (va_Pc [.ref (ad 135), .int x1, .int x2] (gI D cy ad h g sz)) (va_Qi (fun (r : Int32) (u : HI × HL) => Q r u.1 u.2) (gB D cy ad sz) (gA ad sz)) 0 0 (gA ad sz) := by
  refine Met.ofW (cc := cX11_told) (maxL := 3) (ret := (some .int)) (by decide) rfl ?_
  intro p e s m args below meth c s₁ B hml hv
  obtain ⟨hav, hsz, hP, hK, hD0, hNw⟩ := hv
  have hx := B.exec
  have hb := B.bytes
  have hr := B.returns
  have hts := atoms_spec (ws := (wa yX11_told cX11_told 3 (some .int))) B.pre
  have hw := wa_hw hts
  have hown : s.vm.findClass RX11 = some m.cls := findClass_of_methodNamed B.named
  have hlocks := B.notSynchronized
  subst hsz
  have hG : gG D cy ad (gA ad s.heap.size) s.heap h g s.heap [] := ⟨hP, gA_self hD0, va_S.rf⟩
  clear hP hD0
  have cn59 := hw (.constantLong RX11 59 (100)) (wm5 110 rfl rfl)
  have lk7 := hw (.fieldLink RX11 7 "OldWorksModel" "st" "[I") (wm5 27 rfl rfl)
  rw [show (headSpec (wa yX11_told cX11_told 3 (some .int)) ({ frames := 1, cells := 0, slots := 0, locals := 25 } : Room)).room = ({ frames := 1, cells := 0, slots := 0, locals := 25 } : Room) from rfl]
  have hl := lv_entry ([.ref (ad 135), .int x1, .int x2]) (n := 3) (Nat.le_of_ble_eq_true rfl)
  rw [show entryFrame m args 3 = entryFrame m ([.ref (ad 135), .int x1, .int x2] : List Value).toArray 3 from by rw [hav], lg_entry_eq]
  generalize (lg_sl ([.ref (ad 135), .int x1, .int x2]) ++ List.replicate (3 - (lg_sl ([.ref (ad 135), .int x1, .int x2])).length) Slot.unset).toArray = ls at hl ⊢
  have hl : lv_has ls 3 [(0, .ref (ad 135)), (1, .int x1), (2, .int x2)] := hl
  have B77 : ∀ (s1 : Int32) (s2 : Int32) (h : HI) (g : HL) (H : Heap) (locs : List Loc) (ls : Array Slot), j_X11_told_77 Q s1 s2 h g → gG D cy ad (gA ad s.heap.size) s.heap h g H locs → lv_has ls 3 [(0, .ref (ad 135))] → W p l e ({ frames := 1, cells := 0, slots := 0, locals := 25 } : Room) s m args below meth c H locs 0 0 (MQ below (va_Qi (fun (r : Int32) (u : HI × HL) => Q r u.1 u.2) (gB D cy ad s.heap.size) (gA ad s.heap.size)) args s 0 0 (gA ad s.heap.size)) (F0 m 77 ls [.int s2, .int s1, .ref (ad 136)]) := by
    intro s1 s2 h g H locs ls HW hG hl
    unfold j_X11_told_77 at HW
    refine g_iast hx hb hK hG gl_136 gk_136 gn_136 HW.1 dX11_told_77 (fun H locs hG => ?_)
    replace HW := HW.2
    obtain ⟨h_77, eh_77⟩ : ∃ y : HI, y = hu h 136 s1.toNatClampNeg s2 := ⟨_, rfl⟩
    rw [← eh_77] at hG
    replace HW := HW h_77 eh_77
    refine lv_aload_n hx hb dX11_told_78 rfl (lv_at hl 0 rfl) ?_
    refine lv_bipush (v := 6) hx hb dX11_told_79 (by decide) ?_
    obtain ⟨P_81, HC_81, HW⟩ := HW
    refine g_calli (g_runV (As := [.int (6 : Int32)]) (rest := []) ⟨hx, hb, hml, hown, hts⟩ (m_X11_one l D cy ad h_77 g H.size (6 : Int32) P_81 HC_81) (cwV 1 hts (gd_V (wm5 120 rfl rfl) (wm5 122 rfl rfl) (wmp3 (q := (yX11_one, 26)) 7 rfl) (wm1 13 rfl rfl) (wm5 123 rfl rfl)) rfl rfl rfl (by decide +kernel) ⟨Nat.le_of_ble_eq_true rfl, Nat.le_of_ble_eq_true rfl⟩) hK hNw hG gl_135 rfl gk_135 (by decide) rfl rfl hl.1 rfl (lv_room (Nat.le_of_ble_eq_true rfl)) dX11_told_81 ⟨Nat.zero_le _, Nat.zero_le _⟩) hG (fun r_81 h_81 g_81 H locs hq hG => ?_)
    replace HW := HW r_81 h_81 g_81 hq
    refine lv_iconst (v := 1) hx hb dX11_told_84 (by decide) ?_
    refine lv_iadd hx hb dX11_told_85 ?_
    exact W.iret (v := (r_81 + (1 : Int32))) hx hb hr (fun t ht hW => ⟨⟨(r_81 + (1 : Int32)), (h_81, g_81), rfl, HW, g_B ht hG⟩, hG.2.2.F ht⟩) hG.2.2.2.2 dX11_told_86
  have E0 : ∀ (H : Heap) (locs : List Loc) (ls : Array Slot), gG D cy ad (gA ad s.heap.size) s.heap h g H locs → lv_has ls 3 [(0, .ref (ad 135)), (1, .int x1), (2, .int x2)] → W p l e ({ frames := 1, cells := 0, slots := 0, locals := 25 } : Room) s m args below meth c H locs 0 0 (MQ below (va_Qi (fun (r : Int32) (u : HI × HL) => Q r u.1 u.2) (gB D cy ad s.heap.size) (gA ad s.heap.size)) args s 0 0 (gA ad s.heap.size)) (F0 m 0 ls []) := by
    intro H locs ls hG hl
    unfold w_X11_told at HW
    refine lv_iload_n hx hb dX11_told_0 rfl (lv_at hl 1 rfl) ?_
    refine lv_i2l hx hb dX11_told_1 rfl ?_
    refine lv_lconst (v := 0) hx hb dX11_told_2 (by decide) ?_
    refine lv_ldc2 (v := 100) hx hb hown cn59 dX11_told_3 ?_
    obtain ⟨P_6, HC_6, HW⟩ := HW
    refine g_callz (g_runS (As := [.long ((x1).toInt64), .long (0 : Int64), .long (100 : Int64)]) (rest := []) ⟨hx, hb, hml, hown, hts⟩ (m_X11_in l D cy ad h g H.size ((x1).toInt64) (0 : Int64) (100 : Int64) P_6 HC_6) (va_cwS 3 hts (gd_S (wm5 111 rfl rfl) (wm5 112 rfl rfl) (wm1 13 rfl rfl) (wm5 113 rfl rfl)) rfl rfl rfl (by decide +kernel) ⟨Nat.le_of_ble_eq_true rfl, Nat.le_of_ble_eq_true rfl⟩) hK hNw hG rfl rfl hl.1 rfl (lv_room (Nat.le_of_ble_eq_true rfl)) dX11_told_6 ⟨Nat.zero_le _, Nat.zero_le _⟩) hG (fun r_6 h_6 g_6 H locs hz hq hG => ?_)
    replace HW := HW r_6 h_6 g_6 hz hq
    refine lv_if_ne (tgt := 15) hx hb dX11_told_9 (by decide) (fun c_9 => ?_) (fun c_9 => ?_)
    · replace HW := HW.1 c_9
      refine lv_aload_n hx hb dX11_told_15 rfl (lv_at hl 0 rfl) ?_
      refine g_getr hx hb hw inG11 hown hK hG gl_135 rfl gk_135 (by decide) 0 (by decide) (by rw [gm_135]; decide) (r := 136) gr_135_0 lk7 dX11_told_16 ?_
      refine lv_bipush (v := 6) hx hb dX11_told_19 (by decide) ?_
      refine g_iald hx hb hK hG gl_136 gk_136 gn_136 HW.1 dX11_told_21 ?_
      replace HW := HW.2
      refine lv_bipush (v := 40) hx hb dX11_told_22 (by decide) ?_
      refine lv_icmp_ne (tgt := 30) hx hb dX11_told_24 (by decide) (fun c_24 => ?_) (fun c_24 => ?_)
      · replace HW := HW.1 c_24
        refine lv_aload_n hx hb dX11_told_30 rfl (lv_at hl 0 rfl) ?_
        refine g_getr hx hb hw inG11 hown hK hG gl_135 rfl gk_135 (by decide) 0 (by decide) (by rw [gm_135]; decide) (r := 136) gr_135_0 lk7 dX11_told_31 ?_
        refine lv_sipush (v := 737) hx hb dX11_told_34 (by decide) ?_
        refine lv_iconst (v := 2) hx hb dX11_told_37 (by decide) ?_
        refine lv_aload_n hx hb dX11_told_38 rfl (lv_at hl 0 rfl) ?_
        refine g_getr hx hb hw inG11 hown hK hG gl_135 rfl gk_135 (by decide) 0 (by decide) (by rw [gm_135]; decide) (r := 136) gr_135_0 lk7 dX11_told_39 ?_
        refine lv_bipush (v := 6) hx hb dX11_told_42 (by decide) ?_
        refine g_iald hx hb hK hG gl_136 gk_136 gn_136 HW.1 dX11_told_44 ?_
        replace HW := HW.2
        refine lv_imul hx hb dX11_told_45 ?_
        refine lv_iadd hx hb dX11_told_46 ?_
        refine lv_iload_n hx hb dX11_told_47 rfl (lv_at hl 1 rfl) ?_
        refine g_iast hx hb hK hG gl_136 gk_136 gn_136 HW.1 dX11_told_48 (fun H locs hG => ?_)
        replace HW := HW.2
        obtain ⟨h_48, eh_48⟩ : ∃ y : HI, y = hu h_6 136 ((737 : Int32) + ((2 : Int32) * (h_6 136 (6 : Int32).toNatClampNeg))).toNatClampNeg x1 := ⟨_, rfl⟩
        rw [← eh_48] at hG
        replace HW := HW h_48 eh_48
        refine lv_aload_n hx hb dX11_told_49 rfl (lv_at hl 0 rfl) ?_
        refine g_getr hx hb hw inG11 hown hK hG gl_135 rfl gk_135 (by decide) 0 (by decide) (by rw [gm_135]; decide) (r := 136) gr_135_0 lk7 dX11_told_50 ?_
        refine lv_sipush (v := 737) hx hb dX11_told_53 (by decide) ?_
        refine lv_iconst (v := 2) hx hb dX11_told_56 (by decide) ?_
        refine lv_aload_n hx hb dX11_told_57 rfl (lv_at hl 0 rfl) ?_
        refine g_getr hx hb hw inG11 hown hK hG gl_135 rfl gk_135 (by decide) 0 (by decide) (by rw [gm_135]; decide) (r := 136) gr_135_0 lk7 dX11_told_58 ?_
        refine lv_bipush (v := 6) hx hb dX11_told_61 (by decide) ?_
        refine g_iald hx hb hK hG gl_136 gk_136 gn_136 HW.1 dX11_told_63 ?_
        replace HW := HW.2
        refine lv_imul hx hb dX11_told_64 ?_
        refine lv_iadd hx hb dX11_told_65 ?_
        refine lv_iconst (v := 1) hx hb dX11_told_66 (by decide) ?_
        refine lv_iadd hx hb dX11_told_67 ?_
        refine lv_iload_n hx hb dX11_told_68 rfl (lv_at hl 2 rfl) ?_
        refine lv_if_eq (tgt := 76) hx hb dX11_told_69 (by decide) (fun c_69 => ?_) (fun c_69 => ?_)
        · replace HW := HW.1 c_69
          refine lv_iconst (v := 0) hx hb dX11_told_76 (by decide) ?_
          exact B77 (((737 : Int32) + ((2 : Int32) * (h_48 136 (6 : Int32).toNatClampNeg))) + (1 : Int32)) (0 : Int32) h_48 g_6 _ _ _ HW hG (lv_sub hl [0] rfl)
        · replace HW := HW.2 c_69
          refine lv_iconst (v := 1) hx hb dX11_told_72 (by decide) ?_
          refine lv_goto (tgt := 77) hx hb dX11_told_73 (by decide) ?_
          exact B77 (((737 : Int32) + ((2 : Int32) * (h_48 136 (6 : Int32).toNatClampNeg))) + (1 : Int32)) (1 : Int32) h_48 g_6 _ _ _ HW hG (lv_sub hl [0] rfl)
      · replace HW := HW.2 c_24
        refine lv_bipush (v := (-4)) hx hb dX11_told_27 (by decide) ?_
        exact W.iret (v := (-4 : Int32)) hx hb hr (fun t ht hW => ⟨⟨(-4 : Int32), (h_6, g_6), rfl, HW, g_B ht hG⟩, hG.2.2.F ht⟩) hG.2.2.2.2 dX11_told_29
    · replace HW := HW.2 c_9
      refine lv_bipush (v := (-2)) hx hb dX11_told_12 (by decide) ?_
      exact W.iret (v := (-2 : Int32)) hx hb hr (fun t ht hW => ⟨⟨(-2 : Int32), (h_6, g_6), rfl, HW, g_B ht hG⟩, hG.2.2.F ht⟩) hG.2.2.2.2 dX11_told_14
  exact E0 _ _ _ hG hl

def j_X11_likes_83 (Q : Int32 → HI → HL → Prop) (K8 : Int32 → Int32 → Int32 → HI → HL → Prop) (x1 : Int32) (x2 : Int32) (x3 : Int32) (s1 : Int32) (s2 : Int32) (h : HI) (g : HL) : Prop :=
  (∃ P_83 : HI → HL → Prop, w_X11_times s1 s2 h g P_83 ∧ ∀ (h_83 : HI) (g_83 : HL), P_83 h_83 g_83 → (∀ x3_86 : Int32, x3_86 = (x3 + 1) → K8 x1 x2 x3_86 h_83 g_83))
def b_X11_likes_8 (Q : Int32 → HI → HL → Prop) (K8 : Int32 → Int32 → Int32 → HI → HL → Prop) (x1 : Int32) (x2 : Int32) (x3 : Int32) (h : HI) (g : HL) : Prop :=
  (vp_in (6 : Int32) 887 ∧ (((h 136 (6 : Int32).toNatClampNeg) ≤ x3 → Q (1 : Int32) h g) ∧ (¬ (h 136 (6 : Int32).toNatClampNeg) ≤ x3 → (vp_in ((737 : Int32) + ((2 : Int32) * x3)) 887 ∧ (∀ x4_35 : Int32, x4_35 = (x1 + (x2 * (h 136 ((737 : Int32) + ((2 : Int32) * x3)).toNatClampNeg))) → (∃ P_44 : Int32 → HI → HL → Prop, w_X11_in ((x4_35).toInt64) (1 : Int64) (999 : Int64) h g P_44 ∧ ∀ (r_44 : Int32) (h_44 : HI) (g_44 : HL), zb r_44 → P_44 r_44 h_44 g_44 → ((¬ r_44 = 0 → (vp_in (((737 : Int32) + ((2 : Int32) * x3)) + (1 : Int32)) 887 ∧ ((¬ (h_44 136 (((737 : Int32) + ((2 : Int32) * x3)) + (1 : Int32)).toNatClampNeg) = (1 : Int32) → j_X11_likes_83 Q K8 x1 x2 x3 (2 : Int32) ((1000 : Int32) - x4_35) h_44 g_44) ∧ ((h_44 136 (((737 : Int32) + ((2 : Int32) * x3)) + (1 : Int32)).toNatClampNeg) = (1 : Int32) → j_X11_likes_83 Q K8 x1 x2 x3 (2 : Int32) x4_35 h_44 g_44)))) ∧ (r_44 = 0 → Q (0 : Int32) h_44 g_44))))))))
def F_X11_likes_8 (Q : Int32 → HI → HL → Prop) (K : Int32 × Int32 × Int32 × HI × HL → Prop) (q : Int32 × Int32 × Int32 × HI × HL) : Prop := b_X11_likes_8 Q (fun x1 x2 x3 h g => K (x1, x2, x3, h, g)) q.1 q.2.1 q.2.2.1 q.2.2.2.1 q.2.2.2.2
def w_X11_likes (x1 : Int32) (x2 : Int32) (h : HI) (g : HL) (Q : Int32 → HI → HL → Prop) : Prop :=
  (∃ P_3 : HI → HL → Prop, w_X11_sets (2 : Int32) (1 : Int32) h g P_3 ∧ ∀ (h_3 : HI) (g_3 : HL), P_3 h_3 g_3 → lpE (F_X11_likes_8 Q) (x1, x2, (0 : Int32), h_3, g_3))
set_option maxHeartbeats 8000000 in
set_option maxRecDepth 100000 in
theorem m_X11_likes (l : Launch) (D : va_G) (cy : Nat → ClassId) (ad : Nat → Nat) (h : HI) (g : HL) (sz : Nat) (x1 : Int32) (x2 : Int32) (Q : Int32 → HI → HL → Prop) (HW : w_X11_likes x1 x2 h g Q) : Met l yX11_likes (wa yX11_likes cX11_likes 5 (some .boolean)) ({ frames := 1, cells := 0, slots := 0, locals := 27 }) (va_Pc [.ref (ad 135), .int x1, .int x2] (gI D cy ad h g sz)) (va_Qi (fun (r : Int32) (u : HI × HL) => zb r ∧ Q r u.1 u.2) (gB D cy ad sz) (gA ad sz)) 0 0 (gA ad sz) := by
  refine Met.ofW (cc := cX11_likes) (maxL := 5) (ret := (some .boolean)) (by decide) rfl ?_
  intro p e s m args below meth c s₁ B hml hv
  obtain ⟨hav, hsz, hP, hK, hD0, hNw⟩ := hv
  have hx := B.exec
  have hb := B.bytes
  have hr := B.returns
  have hts := atoms_spec (ws := (wa yX11_likes cX11_likes 5 (some .boolean))) B.pre
  have hw := wa_hw hts
  have hown : s.vm.findClass RX11 = some m.cls := findClass_of_methodNamed B.named
  have hlocks := B.notSynchronized
  subst hsz
  have hG : gG D cy ad (gA ad s.heap.size) s.heap h g s.heap [] := ⟨hP, gA_self hD0, va_S.rf⟩
  clear hP hD0
  have lk7 := hw (.fieldLink RX11 7 "OldWorksModel" "st" "[I") (wm5 27 rfl rfl)
  have cn284 := hw (.constantLong RX11 284 (999)) (wm6 174 rfl rfl)
  rw [show (headSpec (wa yX11_likes cX11_likes 5 (some .boolean)) ({ frames := 1, cells := 0, slots := 0, locals := 27 } : Room)).room = ({ frames := 1, cells := 0, slots := 0, locals := 27 } : Room) from rfl]
  have hl := lv_entry ([.ref (ad 135), .int x1, .int x2]) (n := 5) (Nat.le_of_ble_eq_true rfl)
  rw [show entryFrame m args 5 = entryFrame m ([.ref (ad 135), .int x1, .int x2] : List Value).toArray 5 from by rw [hav], lg_entry_eq]
  generalize (lg_sl ([.ref (ad 135), .int x1, .int x2]) ++ List.replicate (5 - (lg_sl ([.ref (ad 135), .int x1, .int x2])).length) Slot.unset).toArray = ls at hl ⊢
  have hl : lv_has ls 5 [(0, .ref (ad 135)), (1, .int x1), (2, .int x2)] := hl
  have B83 : ∀ (K8 : Int32 → Int32 → Int32 → HI → HL → Prop) (hK8 : ∀ (x1 : Int32) (x2 : Int32) (x3 : Int32) (h : HI) (g : HL) (H : Heap) (locs : List Loc) (ls : Array Slot), K8 x1 x2 x3 h g → gG D cy ad (gA ad s.heap.size) s.heap h g H locs → lv_has ls 5 [(0, .ref (ad 135)), (1, .int x1), (2, .int x2), (3, .int x3)] → W p l e ({ frames := 1, cells := 0, slots := 0, locals := 27 } : Room) s m args below meth c H locs 0 0 (MQ below (va_Qi (fun (r : Int32) (u : HI × HL) => zb r ∧ Q r u.1 u.2) (gB D cy ad s.heap.size) (gA ad s.heap.size)) args s 0 0 (gA ad s.heap.size)) (F0 m 8 ls [])) (x1 : Int32) (x2 : Int32) (x3 : Int32) (s1 : Int32) (s2 : Int32) (h : HI) (g : HL) (H : Heap) (locs : List Loc) (ls : Array Slot), j_X11_likes_83 Q K8 x1 x2 x3 s1 s2 h g → gG D cy ad (gA ad s.heap.size) s.heap h g H locs → lv_has ls 5 [(0, .ref (ad 135)), (1, .int x1), (2, .int x2), (3, .int x3)] → W p l e ({ frames := 1, cells := 0, slots := 0, locals := 27 } : Room) s m args below meth c H locs 0 0 (MQ below (va_Qi (fun (r : Int32) (u : HI × HL) => zb r ∧ Q r u.1 u.2) (gB D cy ad s.heap.size) (gA ad s.heap.size)) args s 0 0 (gA ad s.heap.size)) (F0 m 83 ls [.int s2, .int s1, .ref (ad 135)]) := by
    intro K8 hK8 x1 x2 x3 s1 s2 h g H locs ls HW hG hl
    unfold j_X11_likes_83 at HW
    obtain ⟨P_83, HC_83, HW⟩ := HW
    refine g_callv (g_runV (As := [.int s1, .int s2]) (rest := []) ⟨hx, hb, hml, hown, hts⟩ (m_X11_times l D cy ad h g H.size s1 s2 P_83 HC_83) (cwV 2 hts (gd_V (wm6 141 rfl rfl) (wm6 143 rfl rfl) (wmp5 (q := (yX11_times, 26)) 8 rfl) (wm1 13 rfl rfl) (wm6 144 rfl rfl)) rfl rfl rfl (by decide +kernel) ⟨Nat.le_of_ble_eq_true rfl, Nat.le_of_ble_eq_true rfl⟩) hK hNw hG gl_135 rfl gk_135 (by decide) rfl rfl hl.1 rfl (lv_room (Nat.le_of_ble_eq_true rfl)) dX11_likes_83 ⟨Nat.zero_le _, Nat.zero_le _⟩) hG (fun h_83 g_83 H locs hq hG => ?_)
    replace HW := HW h_83 g_83 hq
    obtain ⟨x3_86, ex3_86⟩ : ∃ y : Int32, y = (x3 + 1) := ⟨_, rfl⟩
    replace HW := HW x3_86 ex3_86
    refine lv_iinc (v := x3_86) (lv' := [(3, .int x3_86), (0, .ref (ad 135)), (1, .int x1), (2, .int x2)]) hx hb dX11_likes_86 hl (k := 3) rfl (by rw [ex3_86]; rfl) (by decide) rfl (fun ls hl => ?_)
    refine lv_goto (tgt := 8) hx hb dX11_likes_89 (by decide) ?_
    exact hK8 x1 x2 x3_86 h_83 g_83 _ _ _ HW hG (lv_sub hl [1, 2, 3, 0] rfl)
  have L8 : ∀ (n : Nat) (x1 : Int32) (x2 : Int32) (x3 : Int32) (h : HI) (g : HL) (H : Heap) (locs : List Loc) (ls : Array Slot), lpN (F_X11_likes_8 Q) n (x1, x2, x3, h, g) → gG D cy ad (gA ad s.heap.size) s.heap h g H locs → lv_has ls 5 [(0, .ref (ad 135)), (1, .int x1), (2, .int x2), (3, .int x3)] → W p l e ({ frames := 1, cells := 0, slots := 0, locals := 27 } : Room) s m args below meth c H locs 0 0 (MQ below (va_Qi (fun (r : Int32) (u : HI × HL) => zb r ∧ Q r u.1 u.2) (gB D cy ad s.heap.size) (gA ad s.heap.size)) args s 0 0 (gA ad s.heap.size)) (F0 m 8 ls []) := by
    intro n
    induction n with
    | zero => intro x1 x2 x3 h g H locs ls HW; exact HW.elim
    | succ n ih =>
      intro x1 x2 x3 h g H locs ls HW hG hl
      have HW : b_X11_likes_8 Q (fun x1 x2 x3 h g => lpN (F_X11_likes_8 Q) n (x1, x2, x3, h, g)) x1 x2 x3 h g := HW
      generalize hKe : (fun (x1 : Int32) (x2 : Int32) (x3 : Int32) (h : HI) (g : HL) => lpN (F_X11_likes_8 Q) n (x1, x2, x3, h, g)) = K8 at HW
      have hK8 : ∀ (x1 : Int32) (x2 : Int32) (x3 : Int32) (h : HI) (g : HL) (H : Heap) (locs : List Loc) (ls : Array Slot), K8 x1 x2 x3 h g → gG D cy ad (gA ad s.heap.size) s.heap h g H locs → lv_has ls 5 [(0, .ref (ad 135)), (1, .int x1), (2, .int x2), (3, .int x3)] → W p l e ({ frames := 1, cells := 0, slots := 0, locals := 27 } : Room) s m args below meth c H locs 0 0 (MQ below (va_Qi (fun (r : Int32) (u : HI × HL) => zb r ∧ Q r u.1 u.2) (gB D cy ad s.heap.size) (gA ad s.heap.size)) args s 0 0 (gA ad s.heap.size)) (F0 m 8 ls []) := by subst hKe; exact ih
      clear ih
      clear hKe
      unfold b_X11_likes_8 at HW
      refine lv_iload_n hx hb dX11_likes_8 rfl (lv_at hl 3 rfl) ?_
      refine lv_aload_n hx hb dX11_likes_9 rfl (lv_at hl 0 rfl) ?_
      refine g_getr hx hb hw inG11 hown hK hG gl_135 rfl gk_135 (by decide) 0 (by decide) (by rw [gm_135]; decide) (r := 136) gr_135_0 lk7 dX11_likes_10 ?_
      refine lv_bipush (v := 6) hx hb dX11_likes_13 (by decide) ?_
      refine g_iald hx hb hK hG gl_136 gk_136 gn_136 HW.1 dX11_likes_15 ?_
      replace HW := HW.2
      refine lv_icmp_ge (tgt := 92) hx hb dX11_likes_16 (by decide) (fun c_16 => ?_) (fun c_16 => ?_)
      · replace HW := HW.1 c_16
        refine lv_iconst (v := 1) hx hb dX11_likes_92 (by decide) ?_
        exact W.zret (v := (1 : Int32)) hx hb hr rfl (fun t ht hW => ⟨⟨(1 : Int32), (h, g), rfl, ⟨Or.inr rfl, HW⟩, g_B ht hG⟩, hG.2.2.F ht⟩) hG.2.2.2.2 dX11_likes_93
      · replace HW := HW.2 c_16
        refine lv_iload_n hx hb dX11_likes_19 rfl (lv_at hl 1 rfl) ?_
        refine lv_iload_n hx hb dX11_likes_20 rfl (lv_at hl 2 rfl) ?_
        refine lv_aload_n hx hb dX11_likes_21 rfl (lv_at hl 0 rfl) ?_
        refine g_getr hx hb hw inG11 hown hK hG gl_135 rfl gk_135 (by decide) 0 (by decide) (by rw [gm_135]; decide) (r := 136) gr_135_0 lk7 dX11_likes_22 ?_
        refine lv_sipush (v := 737) hx hb dX11_likes_25 (by decide) ?_
        refine lv_iconst (v := 2) hx hb dX11_likes_28 (by decide) ?_
        refine lv_iload_n hx hb dX11_likes_29 rfl (lv_at hl 3 rfl) ?_
        refine lv_imul hx hb dX11_likes_30 ?_
        refine lv_iadd hx hb dX11_likes_31 ?_
        refine g_iald hx hb hK hG gl_136 gk_136 gn_136 HW.1 dX11_likes_32 ?_
        replace HW := HW.2
        refine lv_imul hx hb dX11_likes_33 ?_
        refine lv_iadd hx hb dX11_likes_34 ?_
        refine lv_topi (fun x4_35 ex4_35 => ?_)
        replace HW := HW x4_35 ex4_35
        refine lv_istore (lv' := [(4, .int x4_35), (0, .ref (ad 135)), (1, .int x1), (2, .int x2), (3, .int x3)]) hx hb dX11_likes_35 hl (by decide) rfl (fun ls hl => ?_)
        refine lv_iload hx hb dX11_likes_37 (lv_at hl 0 rfl) ?_
        refine lv_i2l hx hb dX11_likes_39 rfl ?_
        refine lv_lconst (v := 1) hx hb dX11_likes_40 (by decide) ?_
        refine lv_ldc2 (v := 999) hx hb hown cn284 dX11_likes_41 ?_
        obtain ⟨P_44, HC_44, HW⟩ := HW
        refine g_callz (g_runS (As := [.long ((x4_35).toInt64), .long (1 : Int64), .long (999 : Int64)]) (rest := []) ⟨hx, hb, hml, hown, hts⟩ (m_X11_in l D cy ad h g H.size ((x4_35).toInt64) (1 : Int64) (999 : Int64) P_44 HC_44) (va_cwS 3 hts (gd_S (wm5 111 rfl rfl) (wm5 112 rfl rfl) (wm1 13 rfl rfl) (wm5 113 rfl rfl)) rfl rfl rfl (by decide +kernel) ⟨Nat.le_of_ble_eq_true rfl, Nat.le_of_ble_eq_true rfl⟩) hK hNw hG rfl rfl hl.1 rfl (lv_room (Nat.le_of_ble_eq_true rfl)) dX11_likes_44 ⟨Nat.zero_le _, Nat.zero_le _⟩) hG (fun r_44 h_44 g_44 H locs hz hq hG => ?_)
        replace HW := HW r_44 h_44 g_44 hz hq
        refine lv_if_ne (tgt := 52) hx hb dX11_likes_47 (by decide) (fun c_47 => ?_) (fun c_47 => ?_)
        · replace HW := HW.1 c_47
          refine lv_aload_n hx hb dX11_likes_52 rfl (lv_at hl 1 rfl) ?_
          refine lv_iconst (v := 2) hx hb dX11_likes_53 (by decide) ?_
          refine lv_aload_n hx hb dX11_likes_54 rfl (lv_at hl 1 rfl) ?_
          refine g_getr hx hb hw inG11 hown hK hG gl_135 rfl gk_135 (by decide) 0 (by decide) (by rw [gm_135]; decide) (r := 136) gr_135_0 lk7 dX11_likes_55 ?_
          refine lv_sipush (v := 737) hx hb dX11_likes_58 (by decide) ?_
          refine lv_iconst (v := 2) hx hb dX11_likes_61 (by decide) ?_
          refine lv_iload_n hx hb dX11_likes_62 rfl (lv_at hl 4 rfl) ?_
          refine lv_imul hx hb dX11_likes_63 ?_
          refine lv_iadd hx hb dX11_likes_64 ?_
          refine lv_iconst (v := 1) hx hb dX11_likes_65 (by decide) ?_
          refine lv_iadd hx hb dX11_likes_66 ?_
          refine g_iald hx hb hK hG gl_136 gk_136 gn_136 HW.1 dX11_likes_67 ?_
          replace HW := HW.2
          refine lv_iconst (v := 1) hx hb dX11_likes_68 (by decide) ?_
          refine lv_icmp_ne (tgt := 77) hx hb dX11_likes_69 (by decide) (fun c_69 => ?_) (fun c_69 => ?_)
          · replace HW := HW.1 c_69
            refine lv_sipush (v := 1000) hx hb dX11_likes_77 (by decide) ?_
            refine lv_iload hx hb dX11_likes_80 (lv_at hl 0 rfl) ?_
            refine lv_isub hx hb dX11_likes_82 ?_
            exact B83 K8 hK8 x1 x2 x3 (2 : Int32) ((1000 : Int32) - x4_35) h_44 g_44 _ _ _ HW hG (lv_sub hl [1, 2, 3, 4] rfl)
          · replace HW := HW.2 c_69
            refine lv_iload hx hb dX11_likes_72 (lv_at hl 0 rfl) ?_
            refine lv_goto (tgt := 83) hx hb dX11_likes_74 (by decide) ?_
            exact B83 K8 hK8 x1 x2 x3 (2 : Int32) x4_35 h_44 g_44 _ _ _ HW hG (lv_sub hl [1, 2, 3, 4] rfl)
        · replace HW := HW.2 c_47
          refine lv_iconst (v := 0) hx hb dX11_likes_50 (by decide) ?_
          exact W.zret (v := (0 : Int32)) hx hb hr rfl (fun t ht hW => ⟨⟨(0 : Int32), (h_44, g_44), rfl, ⟨Or.inl rfl, HW⟩, g_B ht hG⟩, hG.2.2.F ht⟩) hG.2.2.2.2 dX11_likes_51
  have E0 : ∀ (H : Heap) (locs : List Loc) (ls : Array Slot), gG D cy ad (gA ad s.heap.size) s.heap h g H locs → lv_has ls 5 [(0, .ref (ad 135)), (1, .int x1), (2, .int x2)] → W p l e ({ frames := 1, cells := 0, slots := 0, locals := 27 } : Room) s m args below meth c H locs 0 0 (MQ below (va_Qi (fun (r : Int32) (u : HI × HL) => zb r ∧ Q r u.1 u.2) (gB D cy ad s.heap.size) (gA ad s.heap.size)) args s 0 0 (gA ad s.heap.size)) (F0 m 0 ls []) := by
    intro H locs ls hG hl
    unfold w_X11_likes at HW
    refine lv_aload_n hx hb dX11_likes_0 rfl (lv_at hl 0 rfl) ?_
    refine lv_iconst (v := 2) hx hb dX11_likes_1 (by decide) ?_
    refine lv_iconst (v := 1) hx hb dX11_likes_2 (by decide) ?_
    obtain ⟨P_3, HC_3, HW⟩ := HW
    refine g_callv (g_runV (As := [.int (2 : Int32), .int (1 : Int32)]) (rest := []) ⟨hx, hb, hml, hown, hts⟩ (m_X11_sets l D cy ad h g H.size (2 : Int32) (1 : Int32) P_3 HC_3) (cwV 2 hts (gd_V (wm6 137 rfl rfl) (wm6 139 rfl rfl) (wmp5 (q := (yX11_sets, 26)) 7 rfl) (wm1 13 rfl rfl) (wm6 140 rfl rfl)) rfl rfl rfl (by decide +kernel) ⟨Nat.le_of_ble_eq_true rfl, Nat.le_of_ble_eq_true rfl⟩) hK hNw hG gl_135 rfl gk_135 (by decide) rfl rfl hl.1 rfl (lv_room (Nat.le_of_ble_eq_true rfl)) dX11_likes_3 ⟨Nat.zero_le _, Nat.zero_le _⟩) hG (fun h_3 g_3 H locs hq hG => ?_)
    replace HW := HW h_3 g_3 hq
    refine lv_iconst (v := 0) hx hb dX11_likes_6 (by decide) ?_
    refine lv_istore_n (lv' := [(3, .int (0 : Int32)), (0, .ref (ad 135)), (1, .int x1), (2, .int x2)]) hx hb dX11_likes_7 rfl hl (by decide) rfl (fun ls hl => ?_)
    obtain ⟨n_8, HW⟩ := HW
    exact L8 n_8 x1 x2 (0 : Int32) h_3 g_3 _ _ _ HW hG (lv_sub hl [1, 2, 3, 0] rfl)
  exact E0 _ _ _ hG hl

def j_X11_fitted_91 (Q : Int32 → HI → HL → Prop) (K4 : Int32 → Int32 → HI → HL → Prop) (x1 : Int32) (x2 : Int32) (h : HI) (g : HL) : Prop :=
  (∀ x2_91 : Int32, x2_91 = (x2 + 1) → K4 x1 x2_91 h g)
def b_X11_fitted_55 (Q : Int32 → HI → HL → Prop) (K4 : Int32 → Int32 → HI → HL → Prop) (K55 : Int32 → Int32 → Int32 → HI → HL → Prop) (x1 : Int32) (x2 : Int32) (x3 : Int32) (h : HI) (g : HL) : Prop :=
  (vp_in (2 : Int32) 5 ∧ (((h 147 (2 : Int32).toNatClampNeg) ≤ x3 → j_X11_fitted_91 Q K4 x1 x2 h g) ∧ (¬ (h 147 (2 : Int32).toNatClampNeg) ≤ x3 → (vp_in ((160 : Int32) + x3) 400 ∧ (vp_in ((320 : Int32) + x3) 400 ∧ ∀ h_84 : HI, h_84 = hu h 146 ((320 : Int32) + x3).toNatClampNeg (h 146 ((160 : Int32) + x3).toNatClampNeg) → (∀ x3_85 : Int32, x3_85 = (x3 + 1) → K55 x1 x2 x3_85 h_84 g))))))
def F_X11_fitted_55 (Q : Int32 → HI → HL → Prop) (K4 : Int32 → Int32 → HI → HL → Prop) (K : Int32 × Int32 × Int32 × HI × HL → Prop) (q : Int32 × Int32 × Int32 × HI × HL) : Prop := b_X11_fitted_55 Q K4 (fun x1 x2 x3 h g => K (x1, x2, x3, h, g)) q.1 q.2.1 q.2.2.1 q.2.2.2.1 q.2.2.2.2
def j_X11_fitted_39 (Q : Int32 → HI → HL → Prop) (K4 : Int32 → Int32 → HI → HL → Prop) (x2 : Int32) (h : HI) (g : HL) : Prop :=
  (vp_in (2 : Int32) 5 ∧ (vp_in (4 : Int32) 5 ∧ ∀ h_52 : HI, h_52 = hu h 147 (4 : Int32).toNatClampNeg (h 147 (2 : Int32).toNatClampNeg) → lpE (F_X11_fitted_55 Q K4) (x2, x2, (0 : Int32), h_52, g)))
def b_X11_fitted_4 (Q : Int32 → HI → HL → Prop) (K4 : Int32 → Int32 → HI → HL → Prop) (x1 : Int32) (x2 : Int32) (h : HI) (g : HL) : Prop :=
  (((100 : Int32) ≤ x2 → Q x1 h g) ∧ (¬ (100 : Int32) ≤ x2 → (∃ P_19 : Int32 → HI → HL → Prop, w_X11_likes (x2 / (10 : Int32)) (x2 - x2 / (10 : Int32) * (10 : Int32)) h g P_19 ∧ ∀ (r_19 : Int32) (h_19 : HI) (g_19 : HL), zb r_19 → P_19 r_19 h_19 g_19 → ((r_19 = 0 → j_X11_fitted_91 Q K4 x1 x2 h_19 g_19) ∧ (¬ r_19 = 0 → ((x1 = (-1 : Int32) → j_X11_fitted_39 Q K4 x2 h_19 g_19) ∧ (¬ x1 = (-1 : Int32) → (∃ P_33 : Int32 → HI → HL → Prop, w_X11_against (2 : Int32) (4 : Int32) h_19 g_19 P_33 ∧ ∀ (r_33 : Int32) (h_33 : HI) (g_33 : HL), P_33 r_33 h_33 g_33 → ((r_33 ≤ 0 → j_X11_fitted_91 Q K4 x1 x2 h_33 g_33) ∧ (¬ r_33 ≤ 0 → j_X11_fitted_39 Q K4 x2 h_33 g_33))))))))))
def F_X11_fitted_4 (Q : Int32 → HI → HL → Prop) (K : Int32 × Int32 × HI × HL → Prop) (q : Int32 × Int32 × HI × HL) : Prop := b_X11_fitted_4 Q (fun x1 x2 h g => K (x1, x2, h, g)) q.1 q.2.1 q.2.2.1 q.2.2.2
def w_X11_fitted  (h : HI) (g : HL) (Q : Int32 → HI → HL → Prop) : Prop :=
  lpE (F_X11_fitted_4 Q) ((-1 : Int32), (0 : Int32), h, g)
set_option maxHeartbeats 8000000 in
set_option maxRecDepth 100000 in
theorem m_X11_fitted (l : Launch) (D : va_G) (cy : Nat → ClassId) (ad : Nat → Nat) (h : HI) (g : HL) (sz : Nat)  (Q : Int32 → HI → HL → Prop) (HW : w_X11_fitted h g Q) : Met l yX11_fitted (wa yX11_fitted cX11_fitted 4 (some .int)) ({ frames := 2, cells := 0, slots := 0, locals := 51 }) (va_Pc [.ref (ad 135)] (gI D cy ad h g sz)) (va_Qi (fun (r : Int32) (u : HI × HL) => Q r u.1 u.2) (gB D cy ad sz) (gA ad sz)) 0 0 (gA ad sz) := by
  refine Met.ofW (cc := cX11_fitted) (maxL := 4) (ret := (some .int)) (by decide) rfl ?_
  intro p e s m args below meth c s₁ B hml hv
  obtain ⟨hav, hsz, hP, hK, hD0, hNw⟩ := hv
  have hx := B.exec
  have hb := B.bytes
  have hr := B.returns
  have hts := atoms_spec (ws := (wa yX11_fitted cX11_fitted 4 (some .int))) B.pre
  have hw := wa_hw hts
  have hown : s.vm.findClass RX11 = some m.cls := findClass_of_methodNamed B.named
  have hlocks := B.notSynchronized
  subst hsz
  have hG : gG D cy ad (gA ad s.heap.size) s.heap h g s.heap [] := ⟨hP, gA_self hD0, va_S.rf⟩
  clear hP hD0
  have lk45 := hw (.fieldLink RX11 45 "OldWorksModel" "wide" "[I") (wm5 51 rfl rfl)
  have lk42 := hw (.fieldLink RX11 42 "OldWorksModel" "limbs" "[I") (wm5 50 rfl rfl)
  rw [show (headSpec (wa yX11_fitted cX11_fitted 4 (some .int)) ({ frames := 2, cells := 0, slots := 0, locals := 51 } : Room)).room = ({ frames := 2, cells := 0, slots := 0, locals := 51 } : Room) from rfl]
  have hl := lv_entry ([.ref (ad 135)]) (n := 4) (Nat.le_of_ble_eq_true rfl)
  rw [show entryFrame m args 4 = entryFrame m ([.ref (ad 135)] : List Value).toArray 4 from by rw [hav], lg_entry_eq]
  generalize (lg_sl ([.ref (ad 135)]) ++ List.replicate (4 - (lg_sl ([.ref (ad 135)])).length) Slot.unset).toArray = ls at hl ⊢
  have hl : lv_has ls 4 [(0, .ref (ad 135))] := hl
  have B91 : ∀ (K4 : Int32 → Int32 → HI → HL → Prop) (hK4 : ∀ (x1 : Int32) (x2 : Int32) (h : HI) (g : HL) (H : Heap) (locs : List Loc) (ls : Array Slot), K4 x1 x2 h g → gG D cy ad (gA ad s.heap.size) s.heap h g H locs → lv_has ls 4 [(0, .ref (ad 135)), (1, .int x1), (2, .int x2)] → W p l e ({ frames := 2, cells := 0, slots := 0, locals := 51 } : Room) s m args below meth c H locs 0 0 (MQ below (va_Qi (fun (r : Int32) (u : HI × HL) => Q r u.1 u.2) (gB D cy ad s.heap.size) (gA ad s.heap.size)) args s 0 0 (gA ad s.heap.size)) (F0 m 4 ls [])) (x1 : Int32) (x2 : Int32) (h : HI) (g : HL) (H : Heap) (locs : List Loc) (ls : Array Slot), j_X11_fitted_91 Q K4 x1 x2 h g → gG D cy ad (gA ad s.heap.size) s.heap h g H locs → lv_has ls 4 [(0, .ref (ad 135)), (1, .int x1), (2, .int x2)] → W p l e ({ frames := 2, cells := 0, slots := 0, locals := 51 } : Room) s m args below meth c H locs 0 0 (MQ below (va_Qi (fun (r : Int32) (u : HI × HL) => Q r u.1 u.2) (gB D cy ad s.heap.size) (gA ad s.heap.size)) args s 0 0 (gA ad s.heap.size)) (F0 m 91 ls []) := by
    intro K4 hK4 x1 x2 h g H locs ls HW hG hl
    unfold j_X11_fitted_91 at HW
    obtain ⟨x2_91, ex2_91⟩ : ∃ y : Int32, y = (x2 + 1) := ⟨_, rfl⟩
    replace HW := HW x2_91 ex2_91
    refine lv_iinc (v := x2_91) (lv' := [(2, .int x2_91), (0, .ref (ad 135)), (1, .int x1)]) hx hb dX11_fitted_91 hl (k := 2) rfl (by rw [ex2_91]; rfl) (by decide) rfl (fun ls hl => ?_)
    refine lv_goto (tgt := 4) hx hb dX11_fitted_94 (by decide) ?_
    exact hK4 x1 x2_91 h g _ _ _ HW hG (lv_sub hl [1, 2, 0] rfl)
  have L55 : ∀ (K4 : Int32 → Int32 → HI → HL → Prop) (hK4 : ∀ (x1 : Int32) (x2 : Int32) (h : HI) (g : HL) (H : Heap) (locs : List Loc) (ls : Array Slot), K4 x1 x2 h g → gG D cy ad (gA ad s.heap.size) s.heap h g H locs → lv_has ls 4 [(0, .ref (ad 135)), (1, .int x1), (2, .int x2)] → W p l e ({ frames := 2, cells := 0, slots := 0, locals := 51 } : Room) s m args below meth c H locs 0 0 (MQ below (va_Qi (fun (r : Int32) (u : HI × HL) => Q r u.1 u.2) (gB D cy ad s.heap.size) (gA ad s.heap.size)) args s 0 0 (gA ad s.heap.size)) (F0 m 4 ls [])) (n : Nat) (x1 : Int32) (x2 : Int32) (x3 : Int32) (h : HI) (g : HL) (H : Heap) (locs : List Loc) (ls : Array Slot), lpN (F_X11_fitted_55 Q K4) n (x1, x2, x3, h, g) → gG D cy ad (gA ad s.heap.size) s.heap h g H locs → lv_has ls 4 [(0, .ref (ad 135)), (1, .int x1), (2, .int x2), (3, .int x3)] → W p l e ({ frames := 2, cells := 0, slots := 0, locals := 51 } : Room) s m args below meth c H locs 0 0 (MQ below (va_Qi (fun (r : Int32) (u : HI × HL) => Q r u.1 u.2) (gB D cy ad s.heap.size) (gA ad s.heap.size)) args s 0 0 (gA ad s.heap.size)) (F0 m 55 ls []) := by
    intro K4 hK4 n
    induction n with
    | zero => intro x1 x2 x3 h g H locs ls HW; exact HW.elim
    | succ n ih =>
      intro x1 x2 x3 h g H locs ls HW hG hl
      have HW : b_X11_fitted_55 Q K4 (fun x1 x2 x3 h g => lpN (F_X11_fitted_55 Q K4) n (x1, x2, x3, h, g)) x1 x2 x3 h g := HW
      generalize hKe : (fun (x1 : Int32) (x2 : Int32) (x3 : Int32) (h : HI) (g : HL) => lpN (F_X11_fitted_55 Q K4) n (x1, x2, x3, h, g)) = K55 at HW
      have hK55 : ∀ (x1 : Int32) (x2 : Int32) (x3 : Int32) (h : HI) (g : HL) (H : Heap) (locs : List Loc) (ls : Array Slot), K55 x1 x2 x3 h g → gG D cy ad (gA ad s.heap.size) s.heap h g H locs → lv_has ls 4 [(0, .ref (ad 135)), (1, .int x1), (2, .int x2), (3, .int x3)] → W p l e ({ frames := 2, cells := 0, slots := 0, locals := 51 } : Room) s m args below meth c H locs 0 0 (MQ below (va_Qi (fun (r : Int32) (u : HI × HL) => Q r u.1 u.2) (gB D cy ad s.heap.size) (gA ad s.heap.size)) args s 0 0 (gA ad s.heap.size)) (F0 m 55 ls []) := by subst hKe; exact ih
      clear ih
      clear hKe
      unfold b_X11_fitted_55 at HW
      refine lv_iload_n hx hb dX11_fitted_55 rfl (lv_at hl 3 rfl) ?_
      refine lv_aload_n hx hb dX11_fitted_56 rfl (lv_at hl 0 rfl) ?_
      refine g_getr hx hb hw inG11 hown hK hG gl_135 rfl gk_135 (by decide) 24 (by decide) (by rw [gm_135]; decide) (r := 147) gr_135_24 lk45 dX11_fitted_57 ?_
      refine lv_iconst (v := 2) hx hb dX11_fitted_60 (by decide) ?_
      refine g_iald hx hb hK hG gl_147 gk_147 gn_147 HW.1 dX11_fitted_61 ?_
      replace HW := HW.2
      refine lv_icmp_ge (tgt := 91) hx hb dX11_fitted_62 (by decide) (fun c_62 => ?_) (fun c_62 => ?_)
      · replace HW := HW.1 c_62
        exact B91 K4 hK4 x1 x2 h g _ _ _ HW hG (lv_sub hl [0, 1, 2] rfl)
      · replace HW := HW.2 c_62
        refine lv_aload_n hx hb dX11_fitted_65 rfl (lv_at hl 0 rfl) ?_
        refine g_getr hx hb hw inG11 hown hK hG gl_135 rfl gk_135 (by decide) 23 (by decide) (by rw [gm_135]; decide) (r := 146) gr_135_23 lk42 dX11_fitted_66 ?_
        refine lv_sipush (v := 320) hx hb dX11_fitted_69 (by decide) ?_
        refine lv_iload_n hx hb dX11_fitted_72 rfl (lv_at hl 3 rfl) ?_
        refine lv_iadd hx hb dX11_fitted_73 ?_
        refine lv_aload_n hx hb dX11_fitted_74 rfl (lv_at hl 0 rfl) ?_
        refine g_getr hx hb hw inG11 hown hK hG gl_135 rfl gk_135 (by decide) 23 (by decide) (by rw [gm_135]; decide) (r := 146) gr_135_23 lk42 dX11_fitted_75 ?_
        refine lv_sipush (v := 160) hx hb dX11_fitted_78 (by decide) ?_
        refine lv_iload_n hx hb dX11_fitted_81 rfl (lv_at hl 3 rfl) ?_
        refine lv_iadd hx hb dX11_fitted_82 ?_
        refine g_iald hx hb hK hG gl_146 gk_146 gn_146 HW.1 dX11_fitted_83 ?_
        replace HW := HW.2
        refine g_iast hx hb hK hG gl_146 gk_146 gn_146 HW.1 dX11_fitted_84 (fun H locs hG => ?_)
        replace HW := HW.2
        obtain ⟨h_84, eh_84⟩ : ∃ y : HI, y = hu h 146 ((320 : Int32) + x3).toNatClampNeg (h 146 ((160 : Int32) + x3).toNatClampNeg) := ⟨_, rfl⟩
        rw [← eh_84] at hG
        replace HW := HW h_84 eh_84
        obtain ⟨x3_85, ex3_85⟩ : ∃ y : Int32, y = (x3 + 1) := ⟨_, rfl⟩
        replace HW := HW x3_85 ex3_85
        refine lv_iinc (v := x3_85) (lv' := [(3, .int x3_85), (0, .ref (ad 135)), (1, .int x1), (2, .int x2)]) hx hb dX11_fitted_85 hl (k := 3) rfl (by rw [ex3_85]; rfl) (by decide) rfl (fun ls hl => ?_)
        refine lv_goto (tgt := 55) hx hb dX11_fitted_88 (by decide) ?_
        exact hK55 x1 x2 x3_85 h_84 g _ _ _ HW hG (lv_sub hl [1, 2, 3, 0] rfl)
  have B39 : ∀ (K4 : Int32 → Int32 → HI → HL → Prop) (hK4 : ∀ (x1 : Int32) (x2 : Int32) (h : HI) (g : HL) (H : Heap) (locs : List Loc) (ls : Array Slot), K4 x1 x2 h g → gG D cy ad (gA ad s.heap.size) s.heap h g H locs → lv_has ls 4 [(0, .ref (ad 135)), (1, .int x1), (2, .int x2)] → W p l e ({ frames := 2, cells := 0, slots := 0, locals := 51 } : Room) s m args below meth c H locs 0 0 (MQ below (va_Qi (fun (r : Int32) (u : HI × HL) => Q r u.1 u.2) (gB D cy ad s.heap.size) (gA ad s.heap.size)) args s 0 0 (gA ad s.heap.size)) (F0 m 4 ls [])) (x2 : Int32) (h : HI) (g : HL) (H : Heap) (locs : List Loc) (ls : Array Slot), j_X11_fitted_39 Q K4 x2 h g → gG D cy ad (gA ad s.heap.size) s.heap h g H locs → lv_has ls 4 [(0, .ref (ad 135)), (2, .int x2)] → W p l e ({ frames := 2, cells := 0, slots := 0, locals := 51 } : Room) s m args below meth c H locs 0 0 (MQ below (va_Qi (fun (r : Int32) (u : HI × HL) => Q r u.1 u.2) (gB D cy ad s.heap.size) (gA ad s.heap.size)) args s 0 0 (gA ad s.heap.size)) (F0 m 39 ls []) := by
    intro K4 hK4 x2 h g H locs ls HW hG hl
    unfold j_X11_fitted_39 at HW
    refine lv_iload_n hx hb dX11_fitted_39 rfl (lv_at hl 1 rfl) ?_
    refine lv_istore_n (lv' := [(1, .int x2), (0, .ref (ad 135)), (2, .int x2)]) hx hb dX11_fitted_40 rfl hl (by decide) rfl (fun ls hl => ?_)
    refine lv_aload_n hx hb dX11_fitted_41 rfl (lv_at hl 1 rfl) ?_
    refine g_getr hx hb hw inG11 hown hK hG gl_135 rfl gk_135 (by decide) 24 (by decide) (by rw [gm_135]; decide) (r := 147) gr_135_24 lk45 dX11_fitted_42 ?_
    refine lv_iconst (v := 4) hx hb dX11_fitted_45 (by decide) ?_
    refine lv_aload_n hx hb dX11_fitted_46 rfl (lv_at hl 1 rfl) ?_
    refine g_getr hx hb hw inG11 hown hK hG gl_135 rfl gk_135 (by decide) 24 (by decide) (by rw [gm_135]; decide) (r := 147) gr_135_24 lk45 dX11_fitted_47 ?_
    refine lv_iconst (v := 2) hx hb dX11_fitted_50 (by decide) ?_
    refine g_iald hx hb hK hG gl_147 gk_147 gn_147 HW.1 dX11_fitted_51 ?_
    replace HW := HW.2
    refine g_iast hx hb hK hG gl_147 gk_147 gn_147 HW.1 dX11_fitted_52 (fun H locs hG => ?_)
    replace HW := HW.2
    obtain ⟨h_52, eh_52⟩ : ∃ y : HI, y = hu h 147 (4 : Int32).toNatClampNeg (h 147 (2 : Int32).toNatClampNeg) := ⟨_, rfl⟩
    rw [← eh_52] at hG
    replace HW := HW h_52 eh_52
    refine lv_iconst (v := 0) hx hb dX11_fitted_53 (by decide) ?_
    refine lv_istore_n (lv' := [(3, .int (0 : Int32)), (1, .int x2), (0, .ref (ad 135)), (2, .int x2)]) hx hb dX11_fitted_54 rfl hl (by decide) rfl (fun ls hl => ?_)
    obtain ⟨n_55, HW⟩ := HW
    exact L55 K4 hK4 n_55 x2 x2 (0 : Int32) h_52 g _ _ _ HW hG (lv_sub hl [2, 1, 3, 0] rfl)
  have L4 : ∀ (n : Nat) (x1 : Int32) (x2 : Int32) (h : HI) (g : HL) (H : Heap) (locs : List Loc) (ls : Array Slot), lpN (F_X11_fitted_4 Q) n (x1, x2, h, g) → gG D cy ad (gA ad s.heap.size) s.heap h g H locs → lv_has ls 4 [(0, .ref (ad 135)), (1, .int x1), (2, .int x2)] → W p l e ({ frames := 2, cells := 0, slots := 0, locals := 51 } : Room) s m args below meth c H locs 0 0 (MQ below (va_Qi (fun (r : Int32) (u : HI × HL) => Q r u.1 u.2) (gB D cy ad s.heap.size) (gA ad s.heap.size)) args s 0 0 (gA ad s.heap.size)) (F0 m 4 ls []) := by
    intro n
    induction n with
    | zero => intro x1 x2 h g H locs ls HW; exact HW.elim
    | succ n ih =>
      intro x1 x2 h g H locs ls HW hG hl
      have HW : b_X11_fitted_4 Q (fun x1 x2 h g => lpN (F_X11_fitted_4 Q) n (x1, x2, h, g)) x1 x2 h g := HW
      generalize hKe : (fun (x1 : Int32) (x2 : Int32) (h : HI) (g : HL) => lpN (F_X11_fitted_4 Q) n (x1, x2, h, g)) = K4 at HW
      have hK4 : ∀ (x1 : Int32) (x2 : Int32) (h : HI) (g : HL) (H : Heap) (locs : List Loc) (ls : Array Slot), K4 x1 x2 h g → gG D cy ad (gA ad s.heap.size) s.heap h g H locs → lv_has ls 4 [(0, .ref (ad 135)), (1, .int x1), (2, .int x2)] → W p l e ({ frames := 2, cells := 0, slots := 0, locals := 51 } : Room) s m args below meth c H locs 0 0 (MQ below (va_Qi (fun (r : Int32) (u : HI × HL) => Q r u.1 u.2) (gB D cy ad s.heap.size) (gA ad s.heap.size)) args s 0 0 (gA ad s.heap.size)) (F0 m 4 ls []) := by subst hKe; exact ih
      clear ih
      clear hKe
      unfold b_X11_fitted_4 at HW
      refine lv_iload_n hx hb dX11_fitted_4 rfl (lv_at hl 2 rfl) ?_
      refine lv_bipush (v := 100) hx hb dX11_fitted_5 (by decide) ?_
      refine lv_icmp_ge (tgt := 97) hx hb dX11_fitted_7 (by decide) (fun c_7 => ?_) (fun c_7 => ?_)
      · replace HW := HW.1 c_7
        refine lv_iload_n hx hb dX11_fitted_97 rfl (lv_at hl 1 rfl) ?_
        exact W.iret (v := x1) hx hb hr (fun t ht hW => ⟨⟨x1, (h, g), rfl, HW, g_B ht hG⟩, hG.2.2.F ht⟩) hG.2.2.2.2 dX11_fitted_98
      · replace HW := HW.2 c_7
        refine lv_aload_n hx hb dX11_fitted_10 rfl (lv_at hl 0 rfl) ?_
        refine lv_iload_n hx hb dX11_fitted_11 rfl (lv_at hl 2 rfl) ?_
        refine lv_bipush (v := 10) hx hb dX11_fitted_12 (by decide) ?_
        refine lv_idiv hx hb dX11_fitted_14 (by decide) ?_
        refine lv_iload_n hx hb dX11_fitted_15 rfl (lv_at hl 2 rfl) ?_
        refine lv_bipush (v := 10) hx hb dX11_fitted_16 (by decide) ?_
        refine lv_irem hx hb dX11_fitted_18 (by decide) ?_
        obtain ⟨P_19, HC_19, HW⟩ := HW
        refine g_callz (g_runV (As := [.int (x2 / (10 : Int32)), .int (x2 - x2 / (10 : Int32) * (10 : Int32))]) (rest := []) ⟨hx, hb, hml, hown, hts⟩ (m_X11_likes l D cy ad h g H.size (x2 / (10 : Int32)) (x2 - x2 / (10 : Int32) * (10 : Int32)) P_19 HC_19) (cwV 2 hts (gd_V (wm6 170 rfl rfl) (wm6 172 rfl rfl) (wmp5 (q := (yX11_likes, 26)) 10 rfl) (wm1 13 rfl rfl) (wm6 173 rfl rfl)) rfl rfl rfl (by decide +kernel) ⟨Nat.le_of_ble_eq_true rfl, Nat.le_of_ble_eq_true rfl⟩) hK hNw hG gl_135 rfl gk_135 (by decide) rfl rfl hl.1 rfl (lv_room (Nat.le_of_ble_eq_true rfl)) dX11_fitted_19 ⟨Nat.zero_le _, Nat.zero_le _⟩) hG (fun r_19 h_19 g_19 H locs hz hq hG => ?_)
        replace HW := HW r_19 h_19 g_19 hz hq
        refine lv_if_eq (tgt := 91) hx hb dX11_fitted_22 (by decide) (fun c_22 => ?_) (fun c_22 => ?_)
        · replace HW := HW.1 c_22
          exact B91 K4 hK4 x1 x2 h_19 g_19 _ _ _ HW hG (lv_sub hl [0, 1, 2] rfl)
        · replace HW := HW.2 c_22
          refine lv_iload_n hx hb dX11_fitted_25 rfl (lv_at hl 1 rfl) ?_
          refine lv_iconst (v := (-1)) hx hb dX11_fitted_26 (by decide) ?_
          refine lv_icmp_eq (tgt := 39) hx hb dX11_fitted_27 (by decide) (fun c_27 => ?_) (fun c_27 => ?_)
          · replace HW := HW.1 c_27
            exact B39 K4 hK4 x2 h_19 g_19 _ _ _ HW hG (lv_sub hl [0, 2] rfl)
          · replace HW := HW.2 c_27
            refine lv_aload_n hx hb dX11_fitted_30 rfl (lv_at hl 0 rfl) ?_
            refine lv_iconst (v := 2) hx hb dX11_fitted_31 (by decide) ?_
            refine lv_iconst (v := 4) hx hb dX11_fitted_32 (by decide) ?_
            obtain ⟨P_33, HC_33, HW⟩ := HW
            refine g_calli (g_runV (As := [.int (2 : Int32), .int (4 : Int32)]) (rest := []) ⟨hx, hb, hml, hown, hts⟩ (m_X11_against l D cy ad h_19 g_19 H.size (2 : Int32) (4 : Int32) P_33 HC_33) (cwV 2 hts (gd_V (wm6 150 rfl rfl) (wm6 152 rfl rfl) (wmp5 (q := (yX11_against, 26)) 9 rfl) (wm1 13 rfl rfl) (wm6 153 rfl rfl)) rfl rfl rfl (by decide +kernel) ⟨Nat.le_of_ble_eq_true rfl, Nat.le_of_ble_eq_true rfl⟩) hK hNw hG gl_135 rfl gk_135 (by decide) rfl rfl hl.1 rfl (lv_room (Nat.le_of_ble_eq_true rfl)) dX11_fitted_33 ⟨Nat.zero_le _, Nat.zero_le _⟩) hG (fun r_33 h_33 g_33 H locs hq hG => ?_)
            replace HW := HW r_33 h_33 g_33 hq
            refine lv_if_le (tgt := 91) hx hb dX11_fitted_36 (by decide) (fun c_36 => ?_) (fun c_36 => ?_)
            · replace HW := HW.1 c_36
              exact B91 K4 hK4 x1 x2 h_33 g_33 _ _ _ HW hG (lv_sub hl [0, 1, 2] rfl)
            · replace HW := HW.2 c_36
              exact B39 K4 hK4 x2 h_33 g_33 _ _ _ HW hG (lv_sub hl [0, 2] rfl)
  have E0 : ∀ (H : Heap) (locs : List Loc) (ls : Array Slot), gG D cy ad (gA ad s.heap.size) s.heap h g H locs → lv_has ls 4 [(0, .ref (ad 135))] → W p l e ({ frames := 2, cells := 0, slots := 0, locals := 51 } : Room) s m args below meth c H locs 0 0 (MQ below (va_Qi (fun (r : Int32) (u : HI × HL) => Q r u.1 u.2) (gB D cy ad s.heap.size) (gA ad s.heap.size)) args s 0 0 (gA ad s.heap.size)) (F0 m 0 ls []) := by
    intro H locs ls hG hl
    unfold w_X11_fitted at HW
    refine lv_iconst (v := (-1)) hx hb dX11_fitted_0 (by decide) ?_
    refine lv_istore_n (lv' := [(1, .int (-1 : Int32)), (0, .ref (ad 135))]) hx hb dX11_fitted_1 rfl hl (by decide) rfl (fun ls hl => ?_)
    refine lv_iconst (v := 0) hx hb dX11_fitted_2 (by decide) ?_
    refine lv_istore_n (lv' := [(2, .int (0 : Int32)), (1, .int (-1 : Int32)), (0, .ref (ad 135))]) hx hb dX11_fitted_3 rfl hl (by decide) rfl (fun ls hl => ?_)
    obtain ⟨n_4, HW⟩ := HW
    exact L4 n_4 (-1 : Int32) (0 : Int32) h g _ _ _ HW hG (lv_sub hl [2, 1, 0] rfl)
  exact E0 _ _ _ hG hl

def j_X11_bear_45 (Q : Int32 → HI → HL → Prop) (x1 : Int32) (x2 : Int32) (x3 : Int32) (s0 : Int32) (h : HI) (g : HL) : Prop :=
  ((¬ s0 = x3 → (vp_in (((20 : Int32) + ((5 : Int32) * x1)) + (4 : Int32)) 887 ∧ (vp_in (((20 : Int32) + ((5 : Int32) * x1)) + (4 : Int32)) 887 ∧ ∀ h_70 : HI, h_70 = hu h 136 (((20 : Int32) + ((5 : Int32) * x1)) + (4 : Int32)).toNatClampNeg ((h 136 (((20 : Int32) + ((5 : Int32) * x1)) + (4 : Int32)).toNatClampNeg) ^^^ ((1 : Int32) <<< (x2 &&& 31))) → Q (1 : Int32) h_70 g))) ∧ (s0 = x3 → Q (-3 : Int32) h g))
def w_X11_bear (x1 : Int32) (x2 : Int32) (x3 : Int32) (h : HI) (g : HL) (Q : Int32 → HI → HL → Prop) : Prop :=
  (∃ P_3 : Int32 → HI → HL → Prop, w_X11_is (0 : Int32) x1 h g P_3 ∧ ∀ (r_3 : Int32) (h_3 : HI) (g_3 : HL), zb r_3 → P_3 r_3 h_3 g_3 → ((r_3 = 0 → Q (-2 : Int32) h_3 g_3) ∧ (¬ r_3 = 0 → (∃ P_12 : Int32 → HI → HL → Prop, w_X11_is (0 : Int32) x2 h_3 g_3 P_12 ∧ ∀ (r_12 : Int32) (h_12 : HI) (g_12 : HL), zb r_12 → P_12 r_12 h_12 g_12 → ((r_12 = 0 → Q (-2 : Int32) h_12 g_12) ∧ (¬ r_12 = 0 → ((¬ x1 = x2 → (∃ P_29 : Int32 → HI → HL → Prop, w_X11_partOf x1 (4 : Int32) h_12 g_12 P_29 ∧ ∀ (r_29 : Int32) (h_29 : HI) (g_29 : HL), P_29 r_29 h_29 g_29 → ((¬ ((r_29 >>> (x2 &&& 31)) &&& (1 : Int32)) = (1 : Int32) → j_X11_bear_45 Q x1 x2 x3 (0 : Int32) h_29 g_29) ∧ (((r_29 >>> (x2 &&& 31)) &&& (1 : Int32)) = (1 : Int32) → j_X11_bear_45 Q x1 x2 x3 (1 : Int32) h_29 g_29)))) ∧ (x1 = x2 → Q (-2 : Int32) h_12 g_12))))))))
set_option maxHeartbeats 8000000 in
set_option maxRecDepth 100000 in
theorem m_X11_bear (l : Launch) (D : va_G) (cy : Nat → ClassId) (ad : Nat → Nat) (h : HI) (g : HL) (sz : Nat) (x1 : Int32) (x2 : Int32) (x3 : Int32) (Q : Int32 → HI → HL → Prop) (HW : w_X11_bear x1 x2 x3 h g Q) : Met l yX11_bear (wa yX11_bear cX11_bear 4 (some .int)) ({ frames := 2, cells := 0, slots := 0, locals := 47 }) (va_Pc [.ref (ad 135), .int x1, .int x2, .int x3] (gI D cy ad h g sz)) (va_Qi (fun (r : Int32) (u : HI × HL) => Q r u.1 u.2) (gB D cy ad sz) (gA ad sz)) 0 0 (gA ad sz) := by
  refine Met.ofW (cc := cX11_bear) (maxL := 4) (ret := (some .int)) (by decide) rfl ?_
  intro p e s m args below meth c s₁ B hml hv
  obtain ⟨hav, hsz, hP, hK, hD0, hNw⟩ := hv
  have hx := B.exec
  have hb := B.bytes
  have hr := B.returns
  have hts := atoms_spec (ws := (wa yX11_bear cX11_bear 4 (some .int))) B.pre
  have hw := wa_hw hts
  have hown : s.vm.findClass RX11 = some m.cls := findClass_of_methodNamed B.named
  have hlocks := B.notSynchronized
  subst hsz
  have hG : gG D cy ad (gA ad s.heap.size) s.heap h g s.heap [] := ⟨hP, gA_self hD0, va_S.rf⟩
  clear hP hD0
  have lk7 := hw (.fieldLink RX11 7 "OldWorksModel" "st" "[I") (wm5 27 rfl rfl)
  rw [show (headSpec (wa yX11_bear cX11_bear 4 (some .int)) ({ frames := 2, cells := 0, slots := 0, locals := 47 } : Room)).room = ({ frames := 2, cells := 0, slots := 0, locals := 47 } : Room) from rfl]
  have hl := lv_entry ([.ref (ad 135), .int x1, .int x2, .int x3]) (n := 4) (Nat.le_of_ble_eq_true rfl)
  rw [show entryFrame m args 4 = entryFrame m ([.ref (ad 135), .int x1, .int x2, .int x3] : List Value).toArray 4 from by rw [hav], lg_entry_eq]
  generalize (lg_sl ([.ref (ad 135), .int x1, .int x2, .int x3]) ++ List.replicate (4 - (lg_sl ([.ref (ad 135), .int x1, .int x2, .int x3])).length) Slot.unset).toArray = ls at hl ⊢
  have hl : lv_has ls 4 [(0, .ref (ad 135)), (1, .int x1), (2, .int x2), (3, .int x3)] := hl
  have B45 : ∀ (x1 : Int32) (x2 : Int32) (x3 : Int32) (s0 : Int32) (h : HI) (g : HL) (H : Heap) (locs : List Loc) (ls : Array Slot), j_X11_bear_45 Q x1 x2 x3 s0 h g → gG D cy ad (gA ad s.heap.size) s.heap h g H locs → lv_has ls 4 [(0, .ref (ad 135)), (1, .int x1), (2, .int x2), (3, .int x3)] → W p l e ({ frames := 2, cells := 0, slots := 0, locals := 47 } : Room) s m args below meth c H locs 0 0 (MQ below (va_Qi (fun (r : Int32) (u : HI × HL) => Q r u.1 u.2) (gB D cy ad s.heap.size) (gA ad s.heap.size)) args s 0 0 (gA ad s.heap.size)) (F0 m 45 ls [.int s0]) := by
    intro x1 x2 x3 s0 h g H locs ls HW hG hl
    unfold j_X11_bear_45 at HW
    refine lv_iload_n hx hb dX11_bear_45 rfl (lv_at hl 3 rfl) ?_
    refine lv_icmp_ne (tgt := 52) hx hb dX11_bear_46 (by decide) (fun c_46 => ?_) (fun c_46 => ?_)
    · replace HW := HW.1 c_46
      refine lv_aload_n hx hb dX11_bear_52 rfl (lv_at hl 0 rfl) ?_
      refine g_getr hx hb hw inG11 hown hK hG gl_135 rfl gk_135 (by decide) 0 (by decide) (by rw [gm_135]; decide) (r := 136) gr_135_0 lk7 dX11_bear_53 ?_
      refine lv_bipush (v := 20) hx hb dX11_bear_56 (by decide) ?_
      refine lv_iconst (v := 5) hx hb dX11_bear_58 (by decide) ?_
      refine lv_iload_n hx hb dX11_bear_59 rfl (lv_at hl 1 rfl) ?_
      refine lv_imul hx hb dX11_bear_60 ?_
      refine lv_iadd hx hb dX11_bear_61 ?_
      refine lv_iconst (v := 4) hx hb dX11_bear_62 (by decide) ?_
      refine lv_iadd hx hb dX11_bear_63 ?_
      refine lv_dup2_11 hx hb dX11_bear_64 rfl rfl ?_
      refine g_iald hx hb hK hG gl_136 gk_136 gn_136 HW.1 dX11_bear_65 ?_
      replace HW := HW.2
      refine lv_iconst (v := 1) hx hb dX11_bear_66 (by decide) ?_
      refine lv_iload_n hx hb dX11_bear_67 rfl (lv_at hl 2 rfl) ?_
      refine lv_ishl hx hb dX11_bear_68 ?_
      refine lv_ixor hx hb dX11_bear_69 ?_
      refine g_iast hx hb hK hG gl_136 gk_136 gn_136 HW.1 dX11_bear_70 (fun H locs hG => ?_)
      replace HW := HW.2
      obtain ⟨h_70, eh_70⟩ : ∃ y : HI, y = hu h 136 (((20 : Int32) + ((5 : Int32) * x1)) + (4 : Int32)).toNatClampNeg ((h 136 (((20 : Int32) + ((5 : Int32) * x1)) + (4 : Int32)).toNatClampNeg) ^^^ ((1 : Int32) <<< (x2 &&& 31))) := ⟨_, rfl⟩
      rw [← eh_70] at hG
      replace HW := HW h_70 eh_70
      refine lv_iconst (v := 1) hx hb dX11_bear_71 (by decide) ?_
      exact W.iret (v := (1 : Int32)) hx hb hr (fun t ht hW => ⟨⟨(1 : Int32), (h_70, g), rfl, HW, g_B ht hG⟩, hG.2.2.F ht⟩) hG.2.2.2.2 dX11_bear_72
    · replace HW := HW.2 c_46
      refine lv_bipush (v := (-3)) hx hb dX11_bear_49 (by decide) ?_
      exact W.iret (v := (-3 : Int32)) hx hb hr (fun t ht hW => ⟨⟨(-3 : Int32), (h, g), rfl, HW, g_B ht hG⟩, hG.2.2.F ht⟩) hG.2.2.2.2 dX11_bear_51
  have E0 : ∀ (H : Heap) (locs : List Loc) (ls : Array Slot), gG D cy ad (gA ad s.heap.size) s.heap h g H locs → lv_has ls 4 [(0, .ref (ad 135)), (1, .int x1), (2, .int x2), (3, .int x3)] → W p l e ({ frames := 2, cells := 0, slots := 0, locals := 47 } : Room) s m args below meth c H locs 0 0 (MQ below (va_Qi (fun (r : Int32) (u : HI × HL) => Q r u.1 u.2) (gB D cy ad s.heap.size) (gA ad s.heap.size)) args s 0 0 (gA ad s.heap.size)) (F0 m 0 ls []) := by
    intro H locs ls hG hl
    unfold w_X11_bear at HW
    refine lv_aload_n hx hb dX11_bear_0 rfl (lv_at hl 0 rfl) ?_
    refine lv_iconst (v := 0) hx hb dX11_bear_1 (by decide) ?_
    refine lv_iload_n hx hb dX11_bear_2 rfl (lv_at hl 1 rfl) ?_
    obtain ⟨P_3, HC_3, HW⟩ := HW
    refine g_callz (g_runV (As := [.int (0 : Int32), .int x1]) (rest := []) ⟨hx, hb, hml, hown, hts⟩ (m_X11_is l D cy ad h g H.size (0 : Int32) x1 P_3 HC_3) (cwV 2 hts (gd_V (wm5 184 rfl rfl) (wm5 186 rfl rfl) (wmp3 (q := (yX11_is, 26)) 14 rfl) (wm1 13 rfl rfl) (wm5 187 rfl rfl)) rfl rfl rfl (by decide +kernel) ⟨Nat.le_of_ble_eq_true rfl, Nat.le_of_ble_eq_true rfl⟩) hK hNw hG gl_135 rfl gk_135 (by decide) rfl rfl hl.1 rfl (lv_room (Nat.le_of_ble_eq_true rfl)) dX11_bear_3 ⟨Nat.zero_le _, Nat.zero_le _⟩) hG (fun r_3 h_3 g_3 H locs hz hq hG => ?_)
    replace HW := HW r_3 h_3 g_3 hz hq
    refine lv_if_eq (tgt := 23) hx hb dX11_bear_6 (by decide) (fun c_6 => ?_) (fun c_6 => ?_)
    · replace HW := HW.1 c_6
      refine lv_bipush (v := (-2)) hx hb dX11_bear_23 (by decide) ?_
      exact W.iret (v := (-2 : Int32)) hx hb hr (fun t ht hW => ⟨⟨(-2 : Int32), (h_3, g_3), rfl, HW, g_B ht hG⟩, hG.2.2.F ht⟩) hG.2.2.2.2 dX11_bear_25
    · replace HW := HW.2 c_6
      refine lv_aload_n hx hb dX11_bear_9 rfl (lv_at hl 0 rfl) ?_
      refine lv_iconst (v := 0) hx hb dX11_bear_10 (by decide) ?_
      refine lv_iload_n hx hb dX11_bear_11 rfl (lv_at hl 2 rfl) ?_
      obtain ⟨P_12, HC_12, HW⟩ := HW
      refine g_callz (g_runV (As := [.int (0 : Int32), .int x2]) (rest := []) ⟨hx, hb, hml, hown, hts⟩ (m_X11_is l D cy ad h_3 g_3 H.size (0 : Int32) x2 P_12 HC_12) (cwV 2 hts (gd_V (wm5 184 rfl rfl) (wm5 186 rfl rfl) (wmp3 (q := (yX11_is, 26)) 14 rfl) (wm1 13 rfl rfl) (wm5 187 rfl rfl)) rfl rfl rfl (by decide +kernel) ⟨Nat.le_of_ble_eq_true rfl, Nat.le_of_ble_eq_true rfl⟩) hK hNw hG gl_135 rfl gk_135 (by decide) rfl rfl hl.1 rfl (lv_room (Nat.le_of_ble_eq_true rfl)) dX11_bear_12 ⟨Nat.zero_le _, Nat.zero_le _⟩) hG (fun r_12 h_12 g_12 H locs hz hq hG => ?_)
      replace HW := HW r_12 h_12 g_12 hz hq
      refine lv_if_eq (tgt := 23) hx hb dX11_bear_15 (by decide) (fun c_15 => ?_) (fun c_15 => ?_)
      · replace HW := HW.1 c_15
        refine lv_bipush (v := (-2)) hx hb dX11_bear_23 (by decide) ?_
        exact W.iret (v := (-2 : Int32)) hx hb hr (fun t ht hW => ⟨⟨(-2 : Int32), (h_12, g_12), rfl, HW, g_B ht hG⟩, hG.2.2.F ht⟩) hG.2.2.2.2 dX11_bear_25
      · replace HW := HW.2 c_15
        refine lv_iload_n hx hb dX11_bear_18 rfl (lv_at hl 1 rfl) ?_
        refine lv_iload_n hx hb dX11_bear_19 rfl (lv_at hl 2 rfl) ?_
        refine lv_icmp_ne (tgt := 26) hx hb dX11_bear_20 (by decide) (fun c_20 => ?_) (fun c_20 => ?_)
        · replace HW := HW.1 c_20
          refine lv_aload_n hx hb dX11_bear_26 rfl (lv_at hl 0 rfl) ?_
          refine lv_iload_n hx hb dX11_bear_27 rfl (lv_at hl 1 rfl) ?_
          refine lv_iconst (v := 4) hx hb dX11_bear_28 (by decide) ?_
          obtain ⟨P_29, HC_29, HW⟩ := HW
          refine g_calli (g_runV (As := [.int x1, .int (4 : Int32)]) (rest := []) ⟨hx, hb, hml, hown, hts⟩ (m_X11_partOf l D cy ad h_12 g_12 H.size x1 (4 : Int32) P_29 HC_29) (cwV 2 hts (gd_V (wm5 192 rfl rfl) (wm5 194 rfl rfl) (wmp4 (q := (yX11_partOf, 26)) 0 rfl) (wm1 13 rfl rfl) (wm5 195 rfl rfl)) rfl rfl rfl (by decide +kernel) ⟨Nat.le_of_ble_eq_true rfl, Nat.le_of_ble_eq_true rfl⟩) hK hNw hG gl_135 rfl gk_135 (by decide) rfl rfl hl.1 rfl (lv_room (Nat.le_of_ble_eq_true rfl)) dX11_bear_29 ⟨Nat.zero_le _, Nat.zero_le _⟩) hG (fun r_29 h_29 g_29 H locs hq hG => ?_)
          replace HW := HW r_29 h_29 g_29 hq
          refine lv_iload_n hx hb dX11_bear_32 rfl (lv_at hl 2 rfl) ?_
          refine lv_ishr hx hb dX11_bear_33 ?_
          refine lv_iconst (v := 1) hx hb dX11_bear_34 (by decide) ?_
          refine lv_iand hx hb dX11_bear_35 ?_
          refine lv_iconst (v := 1) hx hb dX11_bear_36 (by decide) ?_
          refine lv_icmp_ne (tgt := 44) hx hb dX11_bear_37 (by decide) (fun c_37 => ?_) (fun c_37 => ?_)
          · replace HW := HW.1 c_37
            refine lv_iconst (v := 0) hx hb dX11_bear_44 (by decide) ?_
            exact B45 x1 x2 x3 (0 : Int32) h_29 g_29 _ _ _ HW hG (lv_sub hl [0, 1, 2, 3] rfl)
          · replace HW := HW.2 c_37
            refine lv_iconst (v := 1) hx hb dX11_bear_40 (by decide) ?_
            refine lv_goto (tgt := 45) hx hb dX11_bear_41 (by decide) ?_
            exact B45 x1 x2 x3 (1 : Int32) h_29 g_29 _ _ _ HW hG (lv_sub hl [0, 1, 2, 3] rfl)
        · replace HW := HW.2 c_20
          refine lv_bipush (v := (-2)) hx hb dX11_bear_23 (by decide) ?_
          exact W.iret (v := (-2 : Int32)) hx hb hr (fun t ht hW => ⟨⟨(-2 : Int32), (h_12, g_12), rfl, HW, g_B ht hG⟩, hG.2.2.F ht⟩) hG.2.2.2.2 dX11_bear_25
  exact E0 _ _ _ hG hl

def j_X11_alongOf_71 (Q : Int32 → HI → HL → Prop) (K4 : Int32 → Int32 → Int32 → HI → HL → Prop) (x1 : Int32) (x4 : Int32) (s0 : Int32) (h : HI) (g : HL) : Prop :=
  K4 x1 x4 s0 h g
def j_X11_alongOf_51 (Q : Int32 → HI → HL → Prop) (K4 : Int32 → Int32 → Int32 → HI → HL → Prop) (K14 : Int32 → Int32 → Int32 → Int32 → HI → HL → Prop) (x1 : Int32) (x2 : Int32) (x5 : Int32) (s0 : Int32) (s1 : Int32) (h : HI) (g : HL) : Prop :=
  (∀ x4_52 : Int32, x4_52 = (s0 ||| s1) → (∀ x5_54 : Int32, x5_54 = (x5 + 1) → K14 x1 x2 x4_52 x5_54 h g))
def b_X11_alongOf_14 (Q : Int32 → HI → HL → Prop) (K4 : Int32 → Int32 → Int32 → HI → HL → Prop) (K14 : Int32 → Int32 → Int32 → Int32 → HI → HL → Prop) (x1 : Int32) (x2 : Int32) (x4 : Int32) (x5 : Int32) (h : HI) (g : HL) : Prop :=
  (vp_in (0 : Int32) 887 ∧ (((h 136 (0 : Int32).toNatClampNeg) ≤ x5 → ((x4 = x2 → j_X11_alongOf_71 Q K4 x1 x4 (0 : Int32) h g) ∧ (¬ x4 = x2 → j_X11_alongOf_71 Q K4 x1 x4 (1 : Int32) h g))) ∧ (¬ (h 136 (0 : Int32).toNatClampNeg) ≤ x5 → (∃ P_31 : Int32 → HI → HL → Prop, w_X11_partOf x5 (4 : Int32) h g P_31 ∧ ∀ (r_31 : Int32) (h_31 : HI) (g_31 : HL), P_31 r_31 h_31 g_31 → (((r_31 &&& (x2 ||| ((1 : Int32) <<< (x1 &&& 31)))) = 0 → j_X11_alongOf_51 Q K4 K14 x1 x2 x5 x4 (0 : Int32) h_31 g_31) ∧ (¬ (r_31 &&& (x2 ||| ((1 : Int32) <<< (x1 &&& 31)))) = 0 → j_X11_alongOf_51 Q K4 K14 x1 x2 x5 x4 ((1 : Int32) <<< (x5 &&& 31)) h_31 g_31))))))
def F_X11_alongOf_14 (Q : Int32 → HI → HL → Prop) (K4 : Int32 → Int32 → Int32 → HI → HL → Prop) (K : Int32 × Int32 × Int32 × Int32 × HI × HL → Prop) (q : Int32 × Int32 × Int32 × Int32 × HI × HL) : Prop := b_X11_alongOf_14 Q K4 (fun x1 x2 x4 x5 h g => K (x1, x2, x4, x5, h, g)) q.1 q.2.1 q.2.2.1 q.2.2.2.1 q.2.2.2.2.1 q.2.2.2.2.2
def b_X11_alongOf_4 (Q : Int32 → HI → HL → Prop) (K4 : Int32 → Int32 → Int32 → HI → HL → Prop) (x1 : Int32) (x2 : Int32) (x3 : Int32) (h : HI) (g : HL) : Prop :=
  ((x3 = 0 → Q x2 h g) ∧ (¬ x3 = 0 → lpE (F_X11_alongOf_14 Q K4) (x1, x2, x2, (0 : Int32), h, g)))
def F_X11_alongOf_4 (Q : Int32 → HI → HL → Prop) (K : Int32 × Int32 × Int32 × HI × HL → Prop) (q : Int32 × Int32 × Int32 × HI × HL) : Prop := b_X11_alongOf_4 Q (fun x1 x2 x3 h g => K (x1, x2, x3, h, g)) q.1 q.2.1 q.2.2.1 q.2.2.2.1 q.2.2.2.2
def w_X11_alongOf (x1 : Int32) (h : HI) (g : HL) (Q : Int32 → HI → HL → Prop) : Prop :=
  lpE (F_X11_alongOf_4 Q) (x1, (0 : Int32), (1 : Int32), h, g)
set_option maxHeartbeats 8000000 in
set_option maxRecDepth 100000 in
theorem m_X11_alongOf (l : Launch) (D : va_G) (cy : Nat → ClassId) (ad : Nat → Nat) (h : HI) (g : HL) (sz : Nat) (x1 : Int32) (Q : Int32 → HI → HL → Prop) (HW : w_X11_alongOf x1 h g Q) : Met l yX11_alongOf (wa yX11_alongOf cX11_alongOf 6 (some .int)) ({ frames := 1, cells := 0, slots := 0, locals := 22 }) (va_Pc [.ref (ad 135), .int x1] (gI D cy ad h g sz)) (va_Qi (fun (r : Int32) (u : HI × HL) => Q r u.1 u.2) (gB D cy ad sz) (gA ad sz)) 0 0 (gA ad sz) := by
  refine Met.ofW (cc := cX11_alongOf) (maxL := 6) (ret := (some .int)) (by decide) rfl ?_
  intro p e s m args below meth c s₁ B hml hv
  obtain ⟨hav, hsz, hP, hK, hD0, hNw⟩ := hv
  have hx := B.exec
  have hb := B.bytes
  have hr := B.returns
  have hts := atoms_spec (ws := (wa yX11_alongOf cX11_alongOf 6 (some .int))) B.pre
  have hw := wa_hw hts
  have hown : s.vm.findClass RX11 = some m.cls := findClass_of_methodNamed B.named
  have hlocks := B.notSynchronized
  subst hsz
  have hG : gG D cy ad (gA ad s.heap.size) s.heap h g s.heap [] := ⟨hP, gA_self hD0, va_S.rf⟩
  clear hP hD0
  have lk7 := hw (.fieldLink RX11 7 "OldWorksModel" "st" "[I") (wm5 27 rfl rfl)
  rw [show (headSpec (wa yX11_alongOf cX11_alongOf 6 (some .int)) ({ frames := 1, cells := 0, slots := 0, locals := 22 } : Room)).room = ({ frames := 1, cells := 0, slots := 0, locals := 22 } : Room) from rfl]
  have hl := lv_entry ([.ref (ad 135), .int x1]) (n := 6) (Nat.le_of_ble_eq_true rfl)
  rw [show entryFrame m args 6 = entryFrame m ([.ref (ad 135), .int x1] : List Value).toArray 6 from by rw [hav], lg_entry_eq]
  generalize (lg_sl ([.ref (ad 135), .int x1]) ++ List.replicate (6 - (lg_sl ([.ref (ad 135), .int x1])).length) Slot.unset).toArray = ls at hl ⊢
  have hl : lv_has ls 6 [(0, .ref (ad 135)), (1, .int x1)] := hl
  have B71 : ∀ (K4 : Int32 → Int32 → Int32 → HI → HL → Prop) (hK4 : ∀ (x1 : Int32) (x2 : Int32) (x3 : Int32) (h : HI) (g : HL) (H : Heap) (locs : List Loc) (ls : Array Slot), K4 x1 x2 x3 h g → gG D cy ad (gA ad s.heap.size) s.heap h g H locs → lv_has ls 6 [(0, .ref (ad 135)), (1, .int x1), (2, .int x2), (3, .int x3)] → W p l e ({ frames := 1, cells := 0, slots := 0, locals := 22 } : Room) s m args below meth c H locs 0 0 (MQ below (va_Qi (fun (r : Int32) (u : HI × HL) => Q r u.1 u.2) (gB D cy ad s.heap.size) (gA ad s.heap.size)) args s 0 0 (gA ad s.heap.size)) (F0 m 4 ls [])) (x1 : Int32) (x4 : Int32) (s0 : Int32) (h : HI) (g : HL) (H : Heap) (locs : List Loc) (ls : Array Slot), j_X11_alongOf_71 Q K4 x1 x4 s0 h g → gG D cy ad (gA ad s.heap.size) s.heap h g H locs → lv_has ls 6 [(0, .ref (ad 135)), (1, .int x1), (4, .int x4)] → W p l e ({ frames := 1, cells := 0, slots := 0, locals := 22 } : Room) s m args below meth c H locs 0 0 (MQ below (va_Qi (fun (r : Int32) (u : HI × HL) => Q r u.1 u.2) (gB D cy ad s.heap.size) (gA ad s.heap.size)) args s 0 0 (gA ad s.heap.size)) (F0 m 71 ls [.int s0]) := by
    intro K4 hK4 x1 x4 s0 h g H locs ls HW hG hl
    unfold j_X11_alongOf_71 at HW
    refine lv_istore_n (lv' := [(3, .int s0), (0, .ref (ad 135)), (1, .int x1), (4, .int x4)]) hx hb dX11_alongOf_71 rfl hl (by decide) rfl (fun ls hl => ?_)
    refine lv_iload hx hb dX11_alongOf_72 (lv_at hl 3 rfl) ?_
    refine lv_istore_n (lv' := [(2, .int x4), (3, .int s0), (0, .ref (ad 135)), (1, .int x1), (4, .int x4)]) hx hb dX11_alongOf_74 rfl hl (by decide) rfl (fun ls hl => ?_)
    refine lv_goto (tgt := 4) hx hb dX11_alongOf_75 (by decide) ?_
    exact hK4 x1 x4 s0 h g _ _ _ HW hG (lv_sub hl [2, 3, 0, 1] rfl)
  have B51 : ∀ (K4 : Int32 → Int32 → Int32 → HI → HL → Prop) (hK4 : ∀ (x1 : Int32) (x2 : Int32) (x3 : Int32) (h : HI) (g : HL) (H : Heap) (locs : List Loc) (ls : Array Slot), K4 x1 x2 x3 h g → gG D cy ad (gA ad s.heap.size) s.heap h g H locs → lv_has ls 6 [(0, .ref (ad 135)), (1, .int x1), (2, .int x2), (3, .int x3)] → W p l e ({ frames := 1, cells := 0, slots := 0, locals := 22 } : Room) s m args below meth c H locs 0 0 (MQ below (va_Qi (fun (r : Int32) (u : HI × HL) => Q r u.1 u.2) (gB D cy ad s.heap.size) (gA ad s.heap.size)) args s 0 0 (gA ad s.heap.size)) (F0 m 4 ls [])) (K14 : Int32 → Int32 → Int32 → Int32 → HI → HL → Prop) (hK14 : ∀ (x1 : Int32) (x2 : Int32) (x4 : Int32) (x5 : Int32) (h : HI) (g : HL) (H : Heap) (locs : List Loc) (ls : Array Slot), K14 x1 x2 x4 x5 h g → gG D cy ad (gA ad s.heap.size) s.heap h g H locs → lv_has ls 6 [(0, .ref (ad 135)), (1, .int x1), (2, .int x2), (4, .int x4), (5, .int x5)] → W p l e ({ frames := 1, cells := 0, slots := 0, locals := 22 } : Room) s m args below meth c H locs 0 0 (MQ below (va_Qi (fun (r : Int32) (u : HI × HL) => Q r u.1 u.2) (gB D cy ad s.heap.size) (gA ad s.heap.size)) args s 0 0 (gA ad s.heap.size)) (F0 m 14 ls [])) (x1 : Int32) (x2 : Int32) (x5 : Int32) (s0 : Int32) (s1 : Int32) (h : HI) (g : HL) (H : Heap) (locs : List Loc) (ls : Array Slot), j_X11_alongOf_51 Q K4 K14 x1 x2 x5 s0 s1 h g → gG D cy ad (gA ad s.heap.size) s.heap h g H locs → lv_has ls 6 [(0, .ref (ad 135)), (1, .int x1), (2, .int x2), (5, .int x5)] → W p l e ({ frames := 1, cells := 0, slots := 0, locals := 22 } : Room) s m args below meth c H locs 0 0 (MQ below (va_Qi (fun (r : Int32) (u : HI × HL) => Q r u.1 u.2) (gB D cy ad s.heap.size) (gA ad s.heap.size)) args s 0 0 (gA ad s.heap.size)) (F0 m 51 ls [.int s1, .int s0]) := by
    intro K4 hK4 K14 hK14 x1 x2 x5 s0 s1 h g H locs ls HW hG hl
    unfold j_X11_alongOf_51 at HW
    refine lv_ior hx hb dX11_alongOf_51 ?_
    refine lv_topi (fun x4_52 ex4_52 => ?_)
    replace HW := HW x4_52 ex4_52
    refine lv_istore (lv' := [(4, .int x4_52), (0, .ref (ad 135)), (1, .int x1), (2, .int x2), (5, .int x5)]) hx hb dX11_alongOf_52 hl (by decide) rfl (fun ls hl => ?_)
    obtain ⟨x5_54, ex5_54⟩ : ∃ y : Int32, y = (x5 + 1) := ⟨_, rfl⟩
    replace HW := HW x5_54 ex5_54
    refine lv_iinc (v := x5_54) (lv' := [(5, .int x5_54), (4, .int x4_52), (0, .ref (ad 135)), (1, .int x1), (2, .int x2)]) hx hb dX11_alongOf_54 hl (k := 4) rfl (by rw [ex5_54]; rfl) (by decide) rfl (fun ls hl => ?_)
    refine lv_goto (tgt := 14) hx hb dX11_alongOf_57 (by decide) ?_
    exact hK14 x1 x2 x4_52 x5_54 h g _ _ _ HW hG (lv_sub hl [2, 3, 4, 1, 0] rfl)
  have L14 : ∀ (K4 : Int32 → Int32 → Int32 → HI → HL → Prop) (hK4 : ∀ (x1 : Int32) (x2 : Int32) (x3 : Int32) (h : HI) (g : HL) (H : Heap) (locs : List Loc) (ls : Array Slot), K4 x1 x2 x3 h g → gG D cy ad (gA ad s.heap.size) s.heap h g H locs → lv_has ls 6 [(0, .ref (ad 135)), (1, .int x1), (2, .int x2), (3, .int x3)] → W p l e ({ frames := 1, cells := 0, slots := 0, locals := 22 } : Room) s m args below meth c H locs 0 0 (MQ below (va_Qi (fun (r : Int32) (u : HI × HL) => Q r u.1 u.2) (gB D cy ad s.heap.size) (gA ad s.heap.size)) args s 0 0 (gA ad s.heap.size)) (F0 m 4 ls [])) (n : Nat) (x1 : Int32) (x2 : Int32) (x4 : Int32) (x5 : Int32) (h : HI) (g : HL) (H : Heap) (locs : List Loc) (ls : Array Slot), lpN (F_X11_alongOf_14 Q K4) n (x1, x2, x4, x5, h, g) → gG D cy ad (gA ad s.heap.size) s.heap h g H locs → lv_has ls 6 [(0, .ref (ad 135)), (1, .int x1), (2, .int x2), (4, .int x4), (5, .int x5)] → W p l e ({ frames := 1, cells := 0, slots := 0, locals := 22 } : Room) s m args below meth c H locs 0 0 (MQ below (va_Qi (fun (r : Int32) (u : HI × HL) => Q r u.1 u.2) (gB D cy ad s.heap.size) (gA ad s.heap.size)) args s 0 0 (gA ad s.heap.size)) (F0 m 14 ls []) := by
    intro K4 hK4 n
    induction n with
    | zero => intro x1 x2 x4 x5 h g H locs ls HW; exact HW.elim
    | succ n ih =>
      intro x1 x2 x4 x5 h g H locs ls HW hG hl
      have HW : b_X11_alongOf_14 Q K4 (fun x1 x2 x4 x5 h g => lpN (F_X11_alongOf_14 Q K4) n (x1, x2, x4, x5, h, g)) x1 x2 x4 x5 h g := HW
      generalize hKe : (fun (x1 : Int32) (x2 : Int32) (x4 : Int32) (x5 : Int32) (h : HI) (g : HL) => lpN (F_X11_alongOf_14 Q K4) n (x1, x2, x4, x5, h, g)) = K14 at HW
      have hK14 : ∀ (x1 : Int32) (x2 : Int32) (x4 : Int32) (x5 : Int32) (h : HI) (g : HL) (H : Heap) (locs : List Loc) (ls : Array Slot), K14 x1 x2 x4 x5 h g → gG D cy ad (gA ad s.heap.size) s.heap h g H locs → lv_has ls 6 [(0, .ref (ad 135)), (1, .int x1), (2, .int x2), (4, .int x4), (5, .int x5)] → W p l e ({ frames := 1, cells := 0, slots := 0, locals := 22 } : Room) s m args below meth c H locs 0 0 (MQ below (va_Qi (fun (r : Int32) (u : HI × HL) => Q r u.1 u.2) (gB D cy ad s.heap.size) (gA ad s.heap.size)) args s 0 0 (gA ad s.heap.size)) (F0 m 14 ls []) := by subst hKe; exact ih
      clear ih
      clear hKe
      unfold b_X11_alongOf_14 at HW
      refine lv_iload hx hb dX11_alongOf_14 (lv_at hl 4 rfl) ?_
      refine lv_aload_n hx hb dX11_alongOf_16 rfl (lv_at hl 0 rfl) ?_
      refine g_getr hx hb hw inG11 hown hK hG gl_135 rfl gk_135 (by decide) 0 (by decide) (by rw [gm_135]; decide) (r := 136) gr_135_0 lk7 dX11_alongOf_17 ?_
      refine lv_iconst (v := 0) hx hb dX11_alongOf_20 (by decide) ?_
      refine g_iald hx hb hK hG gl_136 gk_136 gn_136 HW.1 dX11_alongOf_21 ?_
      replace HW := HW.2
      refine lv_icmp_ge (tgt := 60) hx hb dX11_alongOf_22 (by decide) (fun c_22 => ?_) (fun c_22 => ?_)
      · replace HW := HW.1 c_22
        refine lv_iload hx hb dX11_alongOf_60 (lv_at hl 3 rfl) ?_
        refine lv_iload_n hx hb dX11_alongOf_62 rfl (lv_at hl 2 rfl) ?_
        refine lv_icmp_eq (tgt := 70) hx hb dX11_alongOf_63 (by decide) (fun c_63 => ?_) (fun c_63 => ?_)
        · replace HW := HW.1 c_63
          refine lv_iconst (v := 0) hx hb dX11_alongOf_70 (by decide) ?_
          exact B71 K4 hK4 x1 x4 (0 : Int32) h g _ _ _ HW hG (lv_sub hl [0, 1, 3] rfl)
        · replace HW := HW.2 c_63
          refine lv_iconst (v := 1) hx hb dX11_alongOf_66 (by decide) ?_
          refine lv_goto (tgt := 71) hx hb dX11_alongOf_67 (by decide) ?_
          exact B71 K4 hK4 x1 x4 (1 : Int32) h g _ _ _ HW hG (lv_sub hl [0, 1, 3] rfl)
      · replace HW := HW.2 c_22
        refine lv_iload hx hb dX11_alongOf_25 (lv_at hl 3 rfl) ?_
        refine lv_aload_n hx hb dX11_alongOf_27 rfl (lv_at hl 0 rfl) ?_
        refine lv_iload hx hb dX11_alongOf_28 (lv_at hl 4 rfl) ?_
        refine lv_iconst (v := 4) hx hb dX11_alongOf_30 (by decide) ?_
        obtain ⟨P_31, HC_31, HW⟩ := HW
        refine g_calli (g_runV (As := [.int x5, .int (4 : Int32)]) (rest := [.int x4]) ⟨hx, hb, hml, hown, hts⟩ (m_X11_partOf l D cy ad h g H.size x5 (4 : Int32) P_31 HC_31) (cwV 2 hts (gd_V (wm5 192 rfl rfl) (wm5 194 rfl rfl) (wmp4 (q := (yX11_partOf, 26)) 0 rfl) (wm1 13 rfl rfl) (wm5 195 rfl rfl)) rfl rfl rfl (by decide +kernel) ⟨Nat.le_of_ble_eq_true rfl, Nat.le_of_ble_eq_true rfl⟩) hK hNw hG gl_135 rfl gk_135 (by decide) rfl rfl hl.1 rfl (lv_room (Nat.le_of_ble_eq_true rfl)) dX11_alongOf_31 ⟨Nat.zero_le _, Nat.zero_le _⟩) hG (fun r_31 h_31 g_31 H locs hq hG => ?_)
        replace HW := HW r_31 h_31 g_31 hq
        refine lv_iload_n hx hb dX11_alongOf_34 rfl (lv_at hl 2 rfl) ?_
        refine lv_iconst (v := 1) hx hb dX11_alongOf_35 (by decide) ?_
        refine lv_iload_n hx hb dX11_alongOf_36 rfl (lv_at hl 1 rfl) ?_
        refine lv_ishl hx hb dX11_alongOf_37 ?_
        refine lv_ior hx hb dX11_alongOf_38 ?_
        refine lv_iand hx hb dX11_alongOf_39 ?_
        refine lv_if_eq (tgt := 50) hx hb dX11_alongOf_40 (by decide) (fun c_40 => ?_) (fun c_40 => ?_)
        · replace HW := HW.1 c_40
          refine lv_iconst (v := 0) hx hb dX11_alongOf_50 (by decide) ?_
          exact B51 K4 hK4 K14 hK14 x1 x2 x5 x4 (0 : Int32) h_31 g_31 _ _ _ HW hG (lv_sub hl [0, 1, 2, 4] rfl)
        · replace HW := HW.2 c_40
          refine lv_iconst (v := 1) hx hb dX11_alongOf_43 (by decide) ?_
          refine lv_iload hx hb dX11_alongOf_44 (lv_at hl 4 rfl) ?_
          refine lv_ishl hx hb dX11_alongOf_46 ?_
          refine lv_goto (tgt := 51) hx hb dX11_alongOf_47 (by decide) ?_
          exact B51 K4 hK4 K14 hK14 x1 x2 x5 x4 ((1 : Int32) <<< (x5 &&& 31)) h_31 g_31 _ _ _ HW hG (lv_sub hl [0, 1, 2, 4] rfl)
  have L4 : ∀ (n : Nat) (x1 : Int32) (x2 : Int32) (x3 : Int32) (h : HI) (g : HL) (H : Heap) (locs : List Loc) (ls : Array Slot), lpN (F_X11_alongOf_4 Q) n (x1, x2, x3, h, g) → gG D cy ad (gA ad s.heap.size) s.heap h g H locs → lv_has ls 6 [(0, .ref (ad 135)), (1, .int x1), (2, .int x2), (3, .int x3)] → W p l e ({ frames := 1, cells := 0, slots := 0, locals := 22 } : Room) s m args below meth c H locs 0 0 (MQ below (va_Qi (fun (r : Int32) (u : HI × HL) => Q r u.1 u.2) (gB D cy ad s.heap.size) (gA ad s.heap.size)) args s 0 0 (gA ad s.heap.size)) (F0 m 4 ls []) := by
    intro n
    induction n with
    | zero => intro x1 x2 x3 h g H locs ls HW; exact HW.elim
    | succ n ih =>
      intro x1 x2 x3 h g H locs ls HW hG hl
      have HW : b_X11_alongOf_4 Q (fun x1 x2 x3 h g => lpN (F_X11_alongOf_4 Q) n (x1, x2, x3, h, g)) x1 x2 x3 h g := HW
      generalize hKe : (fun (x1 : Int32) (x2 : Int32) (x3 : Int32) (h : HI) (g : HL) => lpN (F_X11_alongOf_4 Q) n (x1, x2, x3, h, g)) = K4 at HW
      have hK4 : ∀ (x1 : Int32) (x2 : Int32) (x3 : Int32) (h : HI) (g : HL) (H : Heap) (locs : List Loc) (ls : Array Slot), K4 x1 x2 x3 h g → gG D cy ad (gA ad s.heap.size) s.heap h g H locs → lv_has ls 6 [(0, .ref (ad 135)), (1, .int x1), (2, .int x2), (3, .int x3)] → W p l e ({ frames := 1, cells := 0, slots := 0, locals := 22 } : Room) s m args below meth c H locs 0 0 (MQ below (va_Qi (fun (r : Int32) (u : HI × HL) => Q r u.1 u.2) (gB D cy ad s.heap.size) (gA ad s.heap.size)) args s 0 0 (gA ad s.heap.size)) (F0 m 4 ls []) := by subst hKe; exact ih
      clear ih
      clear hKe
      unfold b_X11_alongOf_4 at HW
      refine lv_iload_n hx hb dX11_alongOf_4 rfl (lv_at hl 3 rfl) ?_
      refine lv_if_eq (tgt := 78) hx hb dX11_alongOf_5 (by decide) (fun c_5 => ?_) (fun c_5 => ?_)
      · replace HW := HW.1 c_5
        refine lv_iload_n hx hb dX11_alongOf_78 rfl (lv_at hl 2 rfl) ?_
        exact W.iret (v := x2) hx hb hr (fun t ht hW => ⟨⟨x2, (h, g), rfl, HW, g_B ht hG⟩, hG.2.2.F ht⟩) hG.2.2.2.2 dX11_alongOf_79
      · replace HW := HW.2 c_5
        refine lv_iload_n hx hb dX11_alongOf_8 rfl (lv_at hl 2 rfl) ?_
        refine lv_istore (lv' := [(4, .int x2), (0, .ref (ad 135)), (1, .int x1), (2, .int x2), (3, .int x3)]) hx hb dX11_alongOf_9 hl (by decide) rfl (fun ls hl => ?_)
        refine lv_iconst (v := 0) hx hb dX11_alongOf_11 (by decide) ?_
        refine lv_istore (lv' := [(5, .int (0 : Int32)), (4, .int x2), (0, .ref (ad 135)), (1, .int x1), (2, .int x2), (3, .int x3)]) hx hb dX11_alongOf_12 hl (by decide) rfl (fun ls hl => ?_)
        obtain ⟨n_14, HW⟩ := HW
        exact L14 K4 hK4 n_14 x1 x2 x2 (0 : Int32) h g _ _ _ HW hG (lv_sub hl [2, 3, 4, 1, 0] rfl)
  have E0 : ∀ (H : Heap) (locs : List Loc) (ls : Array Slot), gG D cy ad (gA ad s.heap.size) s.heap h g H locs → lv_has ls 6 [(0, .ref (ad 135)), (1, .int x1)] → W p l e ({ frames := 1, cells := 0, slots := 0, locals := 22 } : Room) s m args below meth c H locs 0 0 (MQ below (va_Qi (fun (r : Int32) (u : HI × HL) => Q r u.1 u.2) (gB D cy ad s.heap.size) (gA ad s.heap.size)) args s 0 0 (gA ad s.heap.size)) (F0 m 0 ls []) := by
    intro H locs ls hG hl
    unfold w_X11_alongOf at HW
    refine lv_iconst (v := 0) hx hb dX11_alongOf_0 (by decide) ?_
    refine lv_istore_n (lv' := [(2, .int (0 : Int32)), (0, .ref (ad 135)), (1, .int x1)]) hx hb dX11_alongOf_1 rfl hl (by decide) rfl (fun ls hl => ?_)
    refine lv_iconst (v := 1) hx hb dX11_alongOf_2 (by decide) ?_
    refine lv_istore_n (lv' := [(3, .int (1 : Int32)), (2, .int (0 : Int32)), (0, .ref (ad 135)), (1, .int x1)]) hx hb dX11_alongOf_3 rfl hl (by decide) rfl (fun ls hl => ?_)
    obtain ⟨n_4, HW⟩ := HW
    exact L4 n_4 x1 (0 : Int32) (1 : Int32) h g _ _ _ HW hG (lv_sub hl [2, 3, 1, 0] rfl)
  exact E0 _ _ _ hG hl

def w_X11_along (x1 : Int32) (h : HI) (g : HL) (Q : Int32 → HI → HL → Prop) : Prop :=
  (∃ P_3 : Int32 → HI → HL → Prop, w_X11_is (0 : Int32) x1 h g P_3 ∧ ∀ (r_3 : Int32) (h_3 : HI) (g_3 : HL), zb r_3 → P_3 r_3 h_3 g_3 → ((r_3 = 0 → Q (-2 : Int32) h_3 g_3) ∧ (¬ r_3 = 0 → (∃ P_11 : Int32 → HI → HL → Prop, w_X11_alongOf x1 h_3 g_3 P_11 ∧ ∀ (r_11 : Int32) (h_11 : HI) (g_11 : HL), P_11 r_11 h_11 g_11 → Q r_11 h_11 g_11))))
set_option maxHeartbeats 8000000 in
set_option maxRecDepth 100000 in
theorem m_X11_along (l : Launch) (D : va_G) (cy : Nat → ClassId) (ad : Nat → Nat) (h : HI) (g : HL) (sz : Nat) (x1 : Int32) (Q : Int32 → HI → HL → Prop) (HW : w_X11_along x1 h g Q) : Met l yX11_along (wa yX11_along cX11_along 2 (some .int)) ({ frames := 2, cells := 0, slots := 0, locals := 47 }) (va_Pc [.ref (ad 135), .int x1] (gI D cy ad h g sz)) (va_Qi (fun (r : Int32) (u : HI × HL) => Q r u.1 u.2) (gB D cy ad sz) (gA ad sz)) 0 0 (gA ad sz) := by
  refine Met.ofW (cc := cX11_along) (maxL := 2) (ret := (some .int)) (by decide) rfl ?_
  intro p e s m args below meth c s₁ B hml hv
  obtain ⟨hav, hsz, hP, hK, hD0, hNw⟩ := hv
  have hx := B.exec
  have hb := B.bytes
  have hr := B.returns
  have hts := atoms_spec (ws := (wa yX11_along cX11_along 2 (some .int))) B.pre
  have hw := wa_hw hts
  have hown : s.vm.findClass RX11 = some m.cls := findClass_of_methodNamed B.named
  have hlocks := B.notSynchronized
  subst hsz
  have hG : gG D cy ad (gA ad s.heap.size) s.heap h g s.heap [] := ⟨hP, gA_self hD0, va_S.rf⟩
  clear hP hD0
  rw [show (headSpec (wa yX11_along cX11_along 2 (some .int)) ({ frames := 2, cells := 0, slots := 0, locals := 47 } : Room)).room = ({ frames := 2, cells := 0, slots := 0, locals := 47 } : Room) from rfl]
  have hl := lv_entry ([.ref (ad 135), .int x1]) (n := 2) (Nat.le_of_ble_eq_true rfl)
  rw [show entryFrame m args 2 = entryFrame m ([.ref (ad 135), .int x1] : List Value).toArray 2 from by rw [hav], lg_entry_eq]
  generalize (lg_sl ([.ref (ad 135), .int x1]) ++ List.replicate (2 - (lg_sl ([.ref (ad 135), .int x1])).length) Slot.unset).toArray = ls at hl ⊢
  have hl : lv_has ls 2 [(0, .ref (ad 135)), (1, .int x1)] := hl
  have E0 : ∀ (H : Heap) (locs : List Loc) (ls : Array Slot), gG D cy ad (gA ad s.heap.size) s.heap h g H locs → lv_has ls 2 [(0, .ref (ad 135)), (1, .int x1)] → W p l e ({ frames := 2, cells := 0, slots := 0, locals := 47 } : Room) s m args below meth c H locs 0 0 (MQ below (va_Qi (fun (r : Int32) (u : HI × HL) => Q r u.1 u.2) (gB D cy ad s.heap.size) (gA ad s.heap.size)) args s 0 0 (gA ad s.heap.size)) (F0 m 0 ls []) := by
    intro H locs ls hG hl
    unfold w_X11_along at HW
    refine lv_aload_n hx hb dX11_along_0 rfl (lv_at hl 0 rfl) ?_
    refine lv_iconst (v := 0) hx hb dX11_along_1 (by decide) ?_
    refine lv_iload_n hx hb dX11_along_2 rfl (lv_at hl 1 rfl) ?_
    obtain ⟨P_3, HC_3, HW⟩ := HW
    refine g_callz (g_runV (As := [.int (0 : Int32), .int x1]) (rest := []) ⟨hx, hb, hml, hown, hts⟩ (m_X11_is l D cy ad h g H.size (0 : Int32) x1 P_3 HC_3) (cwV 2 hts (gd_V (wm5 184 rfl rfl) (wm5 186 rfl rfl) (wmp3 (q := (yX11_is, 26)) 14 rfl) (wm1 13 rfl rfl) (wm5 187 rfl rfl)) rfl rfl rfl (by decide +kernel) ⟨Nat.le_of_ble_eq_true rfl, Nat.le_of_ble_eq_true rfl⟩) hK hNw hG gl_135 rfl gk_135 (by decide) rfl rfl hl.1 rfl (lv_room (Nat.le_of_ble_eq_true rfl)) dX11_along_3 ⟨Nat.zero_le _, Nat.zero_le _⟩) hG (fun r_3 h_3 g_3 H locs hz hq hG => ?_)
    replace HW := HW r_3 h_3 g_3 hz hq
    refine lv_if_eq (tgt := 17) hx hb dX11_along_6 (by decide) (fun c_6 => ?_) (fun c_6 => ?_)
    · replace HW := HW.1 c_6
      refine lv_bipush (v := (-2)) hx hb dX11_along_17 (by decide) ?_
      exact W.iret (v := (-2 : Int32)) hx hb hr (fun t ht hW => ⟨⟨(-2 : Int32), (h_3, g_3), rfl, HW, g_B ht hG⟩, hG.2.2.F ht⟩) hG.2.2.2.2 dX11_along_19
    · replace HW := HW.2 c_6
      refine lv_aload_n hx hb dX11_along_9 rfl (lv_at hl 0 rfl) ?_
      refine lv_iload_n hx hb dX11_along_10 rfl (lv_at hl 1 rfl) ?_
      obtain ⟨P_11, HC_11, HW⟩ := HW
      refine g_calli (g_runV (As := [.int x1]) (rest := []) ⟨hx, hb, hml, hown, hts⟩ (m_X11_alongOf l D cy ad h_3 g_3 H.size x1 P_11 HC_11) (cwV 1 hts (gd_V (wm6 183 rfl rfl) (wm6 185 rfl rfl) (wmp5 (q := (yX11_alongOf, 26)) 11 rfl) (wm1 13 rfl rfl) (wm6 186 rfl rfl)) rfl rfl rfl (by decide +kernel) ⟨Nat.le_of_ble_eq_true rfl, Nat.le_of_ble_eq_true rfl⟩) hK hNw hG gl_135 rfl gk_135 (by decide) rfl rfl hl.1 rfl (lv_room (Nat.le_of_ble_eq_true rfl)) dX11_along_11 ⟨Nat.zero_le _, Nat.zero_le _⟩) hG (fun r_11 h_11 g_11 H locs hq hG => ?_)
      replace HW := HW r_11 h_11 g_11 hq
      refine lv_goto (tgt := 19) hx hb dX11_along_14 (by decide) ?_
      exact W.iret (v := r_11) hx hb hr (fun t ht hW => ⟨⟨r_11, (h_11, g_11), rfl, HW, g_B ht hG⟩, hG.2.2.F ht⟩) hG.2.2.2.2 dX11_along_19
  exact E0 _ _ _ hG hl

def w_X11_hand (x1 : Int32) (x2 : Int32) (h : HI) (g : HL) (Q : Int32 → HI → HL → Prop) : Prop :=
  (∃ P_6 : Int32 → HI → HL → Prop, w_X11_in ((x1).toInt64) (0 : Int64) (15 : Int64) h g P_6 ∧ ∀ (r_6 : Int32) (h_6 : HI) (g_6 : HL), zb r_6 → P_6 r_6 h_6 g_6 → ((r_6 = 0 → Q (-2 : Int32) h_6 g_6) ∧ (¬ r_6 = 0 → (∃ P_18 : Int32 → HI → HL → Prop, w_X11_in ((x2).toInt64) (0 : Int64) (9 : Int64) h_6 g_6 P_18 ∧ ∀ (r_18 : Int32) (h_18 : HI) (g_18 : HL), zb r_18 → P_18 r_18 h_18 g_18 → ((¬ r_18 = 0 → (vp_in (7 : Int32) 887 ∧ ((¬ (h_18 136 (7 : Int32).toNatClampNeg) = (3 : Int32) → (vp_in (7 : Int32) 887 ∧ (vp_in ((817 : Int32) + ((2 : Int32) * (h_18 136 (7 : Int32).toNatClampNeg))) 887 ∧ ∀ h_59 : HI, h_59 = hu h_18 136 ((817 : Int32) + ((2 : Int32) * (h_18 136 (7 : Int32).toNatClampNeg))).toNatClampNeg x1 → (vp_in (7 : Int32) 887 ∧ (vp_in (((817 : Int32) + ((2 : Int32) * (h_59 136 (7 : Int32).toNatClampNeg))) + (1 : Int32)) 887 ∧ ∀ h_80 : HI, h_80 = hu h_59 136 (((817 : Int32) + ((2 : Int32) * (h_59 136 (7 : Int32).toNatClampNeg))) + (1 : Int32)).toNatClampNeg x2 → (∃ P_84 : Int32 → HI → HL → Prop, w_X11_one (7 : Int32) h_80 g_18 P_84 ∧ ∀ (r_84 : Int32) (h_84 : HI) (g_84 : HL), P_84 r_84 h_84 g_84 → Q r_84 h_84 g_84)))))) ∧ ((h_18 136 (7 : Int32).toNatClampNeg) = (3 : Int32) → Q (-4 : Int32) h_18 g_18)))) ∧ (r_18 = 0 → Q (-2 : Int32) h_18 g_18))))))
set_option maxHeartbeats 8000000 in
set_option maxRecDepth 100000 in
theorem m_X11_hand (l : Launch) (D : va_G) (cy : Nat → ClassId) (ad : Nat → Nat) (h : HI) (g : HL) (sz : Nat) (x1 : Int32) (x2 : Int32) (Q : Int32 → HI → HL → Prop) (HW : w_X11_hand x1 x2 h g Q) : Met l yX11_hand (wa yX11_hand cX11_hand 3 (some .int)) ({ frames := 1, cells := 0, slots := 0, locals := 25 }) (va_Pc [.ref (ad 135), .int x1, .int x2] (gI D cy ad h g sz)) (va_Qi (fun (r : Int32) (u : HI × HL) => Q r u.1 u.2) (gB D cy ad sz) (gA ad sz)) 0 0 (gA ad sz) := by
  refine Met.ofW (cc := cX11_hand) (maxL := 3) (ret := (some .int)) (by decide) rfl ?_
  intro p e s m args below meth c s₁ B hml hv
  obtain ⟨hav, hsz, hP, hK, hD0, hNw⟩ := hv
  have hx := B.exec
  have hb := B.bytes
  have hr := B.returns
  have hts := atoms_spec (ws := (wa yX11_hand cX11_hand 3 (some .int))) B.pre
  have hw := wa_hw hts
  have hown : s.vm.findClass RX11 = some m.cls := findClass_of_methodNamed B.named
  have hlocks := B.notSynchronized
  subst hsz
  have hG : gG D cy ad (gA ad s.heap.size) s.heap h g s.heap [] := ⟨hP, gA_self hD0, va_S.rf⟩
  clear hP hD0
  have cn292 := hw (.constantLong RX11 292 (15)) (wm6 191 rfl rfl)
  have cn258 := hw (.constantLong RX11 258 (9)) (wm6 120 rfl rfl)
  have lk7 := hw (.fieldLink RX11 7 "OldWorksModel" "st" "[I") (wm5 27 rfl rfl)
  rw [show (headSpec (wa yX11_hand cX11_hand 3 (some .int)) ({ frames := 1, cells := 0, slots := 0, locals := 25 } : Room)).room = ({ frames := 1, cells := 0, slots := 0, locals := 25 } : Room) from rfl]
  have hl := lv_entry ([.ref (ad 135), .int x1, .int x2]) (n := 3) (Nat.le_of_ble_eq_true rfl)
  rw [show entryFrame m args 3 = entryFrame m ([.ref (ad 135), .int x1, .int x2] : List Value).toArray 3 from by rw [hav], lg_entry_eq]
  generalize (lg_sl ([.ref (ad 135), .int x1, .int x2]) ++ List.replicate (3 - (lg_sl ([.ref (ad 135), .int x1, .int x2])).length) Slot.unset).toArray = ls at hl ⊢
  have hl : lv_has ls 3 [(0, .ref (ad 135)), (1, .int x1), (2, .int x2)] := hl
  have E0 : ∀ (H : Heap) (locs : List Loc) (ls : Array Slot), gG D cy ad (gA ad s.heap.size) s.heap h g H locs → lv_has ls 3 [(0, .ref (ad 135)), (1, .int x1), (2, .int x2)] → W p l e ({ frames := 1, cells := 0, slots := 0, locals := 25 } : Room) s m args below meth c H locs 0 0 (MQ below (va_Qi (fun (r : Int32) (u : HI × HL) => Q r u.1 u.2) (gB D cy ad s.heap.size) (gA ad s.heap.size)) args s 0 0 (gA ad s.heap.size)) (F0 m 0 ls []) := by
    intro H locs ls hG hl
    unfold w_X11_hand at HW
    refine lv_iload_n hx hb dX11_hand_0 rfl (lv_at hl 1 rfl) ?_
    refine lv_i2l hx hb dX11_hand_1 rfl ?_
    refine lv_lconst (v := 0) hx hb dX11_hand_2 (by decide) ?_
    refine lv_ldc2 (v := 15) hx hb hown cn292 dX11_hand_3 ?_
    obtain ⟨P_6, HC_6, HW⟩ := HW
    refine g_callz (g_runS (As := [.long ((x1).toInt64), .long (0 : Int64), .long (15 : Int64)]) (rest := []) ⟨hx, hb, hml, hown, hts⟩ (m_X11_in l D cy ad h g H.size ((x1).toInt64) (0 : Int64) (15 : Int64) P_6 HC_6) (va_cwS 3 hts (gd_S (wm5 111 rfl rfl) (wm5 112 rfl rfl) (wm1 13 rfl rfl) (wm5 113 rfl rfl)) rfl rfl rfl (by decide +kernel) ⟨Nat.le_of_ble_eq_true rfl, Nat.le_of_ble_eq_true rfl⟩) hK hNw hG rfl rfl hl.1 rfl (lv_room (Nat.le_of_ble_eq_true rfl)) dX11_hand_6 ⟨Nat.zero_le _, Nat.zero_le _⟩) hG (fun r_6 h_6 g_6 H locs hz hq hG => ?_)
    replace HW := HW r_6 h_6 g_6 hz hq
    refine lv_if_eq (tgt := 24) hx hb dX11_hand_9 (by decide) (fun c_9 => ?_) (fun c_9 => ?_)
    · replace HW := HW.1 c_9
      refine lv_bipush (v := (-2)) hx hb dX11_hand_24 (by decide) ?_
      exact W.iret (v := (-2 : Int32)) hx hb hr (fun t ht hW => ⟨⟨(-2 : Int32), (h_6, g_6), rfl, HW, g_B ht hG⟩, hG.2.2.F ht⟩) hG.2.2.2.2 dX11_hand_26
    · replace HW := HW.2 c_9
      refine lv_iload_n hx hb dX11_hand_12 rfl (lv_at hl 2 rfl) ?_
      refine lv_i2l hx hb dX11_hand_13 rfl ?_
      refine lv_lconst (v := 0) hx hb dX11_hand_14 (by decide) ?_
      refine lv_ldc2 (v := 9) hx hb hown cn258 dX11_hand_15 ?_
      obtain ⟨P_18, HC_18, HW⟩ := HW
      refine g_callz (g_runS (As := [.long ((x2).toInt64), .long (0 : Int64), .long (9 : Int64)]) (rest := []) ⟨hx, hb, hml, hown, hts⟩ (m_X11_in l D cy ad h_6 g_6 H.size ((x2).toInt64) (0 : Int64) (9 : Int64) P_18 HC_18) (va_cwS 3 hts (gd_S (wm5 111 rfl rfl) (wm5 112 rfl rfl) (wm1 13 rfl rfl) (wm5 113 rfl rfl)) rfl rfl rfl (by decide +kernel) ⟨Nat.le_of_ble_eq_true rfl, Nat.le_of_ble_eq_true rfl⟩) hK hNw hG rfl rfl hl.1 rfl (lv_room (Nat.le_of_ble_eq_true rfl)) dX11_hand_18 ⟨Nat.zero_le _, Nat.zero_le _⟩) hG (fun r_18 h_18 g_18 H locs hz hq hG => ?_)
      replace HW := HW r_18 h_18 g_18 hz hq
      refine lv_if_ne (tgt := 27) hx hb dX11_hand_21 (by decide) (fun c_21 => ?_) (fun c_21 => ?_)
      · replace HW := HW.1 c_21
        refine lv_aload_n hx hb dX11_hand_27 rfl (lv_at hl 0 rfl) ?_
        refine g_getr hx hb hw inG11 hown hK hG gl_135 rfl gk_135 (by decide) 0 (by decide) (by rw [gm_135]; decide) (r := 136) gr_135_0 lk7 dX11_hand_28 ?_
        refine lv_bipush (v := 7) hx hb dX11_hand_31 (by decide) ?_
        refine g_iald hx hb hK hG gl_136 gk_136 gn_136 HW.1 dX11_hand_33 ?_
        replace HW := HW.2
        refine lv_iconst (v := 3) hx hb dX11_hand_34 (by decide) ?_
        refine lv_icmp_ne (tgt := 41) hx hb dX11_hand_35 (by decide) (fun c_35 => ?_) (fun c_35 => ?_)
        · replace HW := HW.1 c_35
          refine lv_aload_n hx hb dX11_hand_41 rfl (lv_at hl 0 rfl) ?_
          refine g_getr hx hb hw inG11 hown hK hG gl_135 rfl gk_135 (by decide) 0 (by decide) (by rw [gm_135]; decide) (r := 136) gr_135_0 lk7 dX11_hand_42 ?_
          refine lv_sipush (v := 817) hx hb dX11_hand_45 (by decide) ?_
          refine lv_iconst (v := 2) hx hb dX11_hand_48 (by decide) ?_
          refine lv_aload_n hx hb dX11_hand_49 rfl (lv_at hl 0 rfl) ?_
          refine g_getr hx hb hw inG11 hown hK hG gl_135 rfl gk_135 (by decide) 0 (by decide) (by rw [gm_135]; decide) (r := 136) gr_135_0 lk7 dX11_hand_50 ?_
          refine lv_bipush (v := 7) hx hb dX11_hand_53 (by decide) ?_
          refine g_iald hx hb hK hG gl_136 gk_136 gn_136 HW.1 dX11_hand_55 ?_
          replace HW := HW.2
          refine lv_imul hx hb dX11_hand_56 ?_
          refine lv_iadd hx hb dX11_hand_57 ?_
          refine lv_iload_n hx hb dX11_hand_58 rfl (lv_at hl 1 rfl) ?_
          refine g_iast hx hb hK hG gl_136 gk_136 gn_136 HW.1 dX11_hand_59 (fun H locs hG => ?_)
          replace HW := HW.2
          obtain ⟨h_59, eh_59⟩ : ∃ y : HI, y = hu h_18 136 ((817 : Int32) + ((2 : Int32) * (h_18 136 (7 : Int32).toNatClampNeg))).toNatClampNeg x1 := ⟨_, rfl⟩
          rw [← eh_59] at hG
          replace HW := HW h_59 eh_59
          refine lv_aload_n hx hb dX11_hand_60 rfl (lv_at hl 0 rfl) ?_
          refine g_getr hx hb hw inG11 hown hK hG gl_135 rfl gk_135 (by decide) 0 (by decide) (by rw [gm_135]; decide) (r := 136) gr_135_0 lk7 dX11_hand_61 ?_
          refine lv_sipush (v := 817) hx hb dX11_hand_64 (by decide) ?_
          refine lv_iconst (v := 2) hx hb dX11_hand_67 (by decide) ?_
          refine lv_aload_n hx hb dX11_hand_68 rfl (lv_at hl 0 rfl) ?_
          refine g_getr hx hb hw inG11 hown hK hG gl_135 rfl gk_135 (by decide) 0 (by decide) (by rw [gm_135]; decide) (r := 136) gr_135_0 lk7 dX11_hand_69 ?_
          refine lv_bipush (v := 7) hx hb dX11_hand_72 (by decide) ?_
          refine g_iald hx hb hK hG gl_136 gk_136 gn_136 HW.1 dX11_hand_74 ?_
          replace HW := HW.2
          refine lv_imul hx hb dX11_hand_75 ?_
          refine lv_iadd hx hb dX11_hand_76 ?_
          refine lv_iconst (v := 1) hx hb dX11_hand_77 (by decide) ?_
          refine lv_iadd hx hb dX11_hand_78 ?_
          refine lv_iload_n hx hb dX11_hand_79 rfl (lv_at hl 2 rfl) ?_
          refine g_iast hx hb hK hG gl_136 gk_136 gn_136 HW.1 dX11_hand_80 (fun H locs hG => ?_)
          replace HW := HW.2
          obtain ⟨h_80, eh_80⟩ : ∃ y : HI, y = hu h_59 136 (((817 : Int32) + ((2 : Int32) * (h_59 136 (7 : Int32).toNatClampNeg))) + (1 : Int32)).toNatClampNeg x2 := ⟨_, rfl⟩
          rw [← eh_80] at hG
          replace HW := HW h_80 eh_80
          refine lv_aload_n hx hb dX11_hand_81 rfl (lv_at hl 0 rfl) ?_
          refine lv_bipush (v := 7) hx hb dX11_hand_82 (by decide) ?_
          obtain ⟨P_84, HC_84, HW⟩ := HW
          refine g_calli (g_runV (As := [.int (7 : Int32)]) (rest := []) ⟨hx, hb, hml, hown, hts⟩ (m_X11_one l D cy ad h_80 g_18 H.size (7 : Int32) P_84 HC_84) (cwV 1 hts (gd_V (wm5 120 rfl rfl) (wm5 122 rfl rfl) (wmp3 (q := (yX11_one, 26)) 7 rfl) (wm1 13 rfl rfl) (wm5 123 rfl rfl)) rfl rfl rfl (by decide +kernel) ⟨Nat.le_of_ble_eq_true rfl, Nat.le_of_ble_eq_true rfl⟩) hK hNw hG gl_135 rfl gk_135 (by decide) rfl rfl hl.1 rfl (lv_room (Nat.le_of_ble_eq_true rfl)) dX11_hand_84 ⟨Nat.zero_le _, Nat.zero_le _⟩) hG (fun r_84 h_84 g_84 H locs hq hG => ?_)
          replace HW := HW r_84 h_84 g_84 hq
          exact W.iret (v := r_84) hx hb hr (fun t ht hW => ⟨⟨r_84, (h_84, g_84), rfl, HW, g_B ht hG⟩, hG.2.2.F ht⟩) hG.2.2.2.2 dX11_hand_87
        · replace HW := HW.2 c_35
          refine lv_bipush (v := (-4)) hx hb dX11_hand_38 (by decide) ?_
          exact W.iret (v := (-4 : Int32)) hx hb hr (fun t ht hW => ⟨⟨(-4 : Int32), (h_18, g_18), rfl, HW, g_B ht hG⟩, hG.2.2.F ht⟩) hG.2.2.2.2 dX11_hand_40
      · replace HW := HW.2 c_21
        refine lv_bipush (v := (-2)) hx hb dX11_hand_24 (by decide) ?_
        exact W.iret (v := (-2 : Int32)) hx hb hr (fun t ht hW => ⟨⟨(-2 : Int32), (h_18, g_18), rfl, HW, g_B ht hG⟩, hG.2.2.F ht⟩) hG.2.2.2.2 dX11_hand_26
  exact E0 _ _ _ hG hl
end
section
-- 03.w22
def w_X11_need (x1 : Int32) (x2 : Int32) (h : HI) (g : HL) (Q : Int32 → HI → HL → Prop) : Prop :=
  (∃ P_6 : Int32 → HI → HL → Prop, w_X11_in ((x1).toInt64) (0 : Int64) (3 : Int64) h g P_6 ∧ ∀ (r_6 : Int32) (h_6 : HI) (g_6 : HL), zb r_6 → P_6 r_6 h_6 g_6 → ((r_6 = 0 → Q (-2 : Int32) h_6 g_6) ∧ (¬ r_6 = 0 → (∃ P_18 : Int32 → HI → HL → Prop, w_X11_in ((x2).toInt64) (0 : Int64) (9 : Int64) h_6 g_6 P_18 ∧ ∀ (r_18 : Int32) (h_18 : HI) (g_18 : HL), zb r_18 → P_18 r_18 h_18 g_18 → ((r_18 = 0 → Q (-2 : Int32) h_18 g_18) ∧ (¬ r_18 = 0 → (∃ P_31 : Int32 → HI → HL → Prop, w_X11_puts ((823 : Int32) + x1) x2 h_18 g_18 P_31 ∧ ∀ (r_31 : Int32) (h_31 : HI) (g_31 : HL), P_31 r_31 h_31 g_31 → Q r_31 h_31 g_31)))))))
set_option maxHeartbeats 8000000 in
set_option maxRecDepth 100000 in
theorem m_X11_need (l : Launch) (D : va_G) (cy : Nat → ClassId) (ad : Nat → Nat) (h : HI) (g : HL) (sz : Nat) (x1 : Int32) (x2 : Int32) (Q : Int32 → HI → HL → Prop) (HW : w_X11_need x1 x2 h g Q) : Met l yX11_need (wa yX11_need cX11_need 3 (some .int)) ({ frames := 1, cells := 0, slots := 0, locals := 25 }) (va_Pc [.ref (ad 135), .int x1, .int x2] (gI D cy ad h g sz)) (va_Qi (fun (r : Int32) (u : HI × HL) => Q r u.1 u.2) (gB D cy ad sz) (gA ad sz)) 0 0 (gA ad sz) := by
  refine Met.ofW (cc := cX11_need) (maxL := 3) (ret := (some .int)) (by decide) rfl ?_
  intro p e s m args below meth c s₁ B hml hv
  obtain ⟨hav, hsz, hP, hK, hD0, hNw⟩ := hv
  have hx := B.exec
  have hb := B.bytes
  have hr := B.returns
  have hts := atoms_spec (ws := (wa yX11_need cX11_need 3 (some .int))) B.pre
  have hw := wa_hw hts
  have hown : s.vm.findClass RX11 = some m.cls := findClass_of_methodNamed B.named
  have hlocks := B.notSynchronized
  subst hsz
  have hG : gG D cy ad (gA ad s.heap.size) s.heap h g s.heap [] := ⟨hP, gA_self hD0, va_S.rf⟩
  clear hP hD0
  have cn67 := hw (.constantLong RX11 67 (3)) (wm5 119 rfl rfl)
  have cn258 := hw (.constantLong RX11 258 (9)) (wm6 120 rfl rfl)
  rw [show (headSpec (wa yX11_need cX11_need 3 (some .int)) ({ frames := 1, cells := 0, slots := 0, locals := 25 } : Room)).room = ({ frames := 1, cells := 0, slots := 0, locals := 25 } : Room) from rfl]
  have hl := lv_entry ([.ref (ad 135), .int x1, .int x2]) (n := 3) (Nat.le_of_ble_eq_true rfl)
  rw [show entryFrame m args 3 = entryFrame m ([.ref (ad 135), .int x1, .int x2] : List Value).toArray 3 from by rw [hav], lg_entry_eq]
  generalize (lg_sl ([.ref (ad 135), .int x1, .int x2]) ++ List.replicate (3 - (lg_sl ([.ref (ad 135), .int x1, .int x2])).length) Slot.unset).toArray = ls at hl ⊢
  have hl : lv_has ls 3 [(0, .ref (ad 135)), (1, .int x1), (2, .int x2)] := hl
  have E0 : ∀ (H : Heap) (locs : List Loc) (ls : Array Slot), gG D cy ad (gA ad s.heap.size) s.heap h g H locs → lv_has ls 3 [(0, .ref (ad 135)), (1, .int x1), (2, .int x2)] → W p l e ({ frames := 1, cells := 0, slots := 0, locals := 25 } : Room) s m args below meth c H locs 0 0 (MQ below (va_Qi (fun (r : Int32) (u : HI × HL) => Q r u.1 u.2) (gB D cy ad s.heap.size) (gA ad s.heap.size)) args s 0 0 (gA ad s.heap.size)) (F0 m 0 ls []) := by
    intro H locs ls hG hl
    unfold w_X11_need at HW
    refine lv_iload_n hx hb dX11_need_0 rfl (lv_at hl 1 rfl) ?_
    refine lv_i2l hx hb dX11_need_1 rfl ?_
    refine lv_lconst (v := 0) hx hb dX11_need_2 (by decide) ?_
    refine lv_ldc2 (v := 3) hx hb hown cn67 dX11_need_3 ?_
    obtain ⟨P_6, HC_6, HW⟩ := HW
    refine g_callz (g_runS (As := [.long ((x1).toInt64), .long (0 : Int64), .long (3 : Int64)]) (rest := []) ⟨hx, hb, hml, hown, hts⟩ (m_X11_in l D cy ad h g H.size ((x1).toInt64) (0 : Int64) (3 : Int64) P_6 HC_6) (va_cwS 3 hts (gd_S (wm5 111 rfl rfl) (wm5 112 rfl rfl) (wm1 13 rfl rfl) (wm5 113 rfl rfl)) rfl rfl rfl (by decide +kernel) ⟨Nat.le_of_ble_eq_true rfl, Nat.le_of_ble_eq_true rfl⟩) hK hNw hG rfl rfl hl.1 rfl (lv_room (Nat.le_of_ble_eq_true rfl)) dX11_need_6 ⟨Nat.zero_le _, Nat.zero_le _⟩) hG (fun r_6 h_6 g_6 H locs hz hq hG => ?_)
    replace HW := HW r_6 h_6 g_6 hz hq
    refine lv_if_eq (tgt := 37) hx hb dX11_need_9 (by decide) (fun c_9 => ?_) (fun c_9 => ?_)
    · replace HW := HW.1 c_9
      refine lv_bipush (v := (-2)) hx hb dX11_need_37 (by decide) ?_
      exact W.iret (v := (-2 : Int32)) hx hb hr (fun t ht hW => ⟨⟨(-2 : Int32), (h_6, g_6), rfl, HW, g_B ht hG⟩, hG.2.2.F ht⟩) hG.2.2.2.2 dX11_need_39
    · replace HW := HW.2 c_9
      refine lv_iload_n hx hb dX11_need_12 rfl (lv_at hl 2 rfl) ?_
      refine lv_i2l hx hb dX11_need_13 rfl ?_
      refine lv_lconst (v := 0) hx hb dX11_need_14 (by decide) ?_
      refine lv_ldc2 (v := 9) hx hb hown cn258 dX11_need_15 ?_
      obtain ⟨P_18, HC_18, HW⟩ := HW
      refine g_callz (g_runS (As := [.long ((x2).toInt64), .long (0 : Int64), .long (9 : Int64)]) (rest := []) ⟨hx, hb, hml, hown, hts⟩ (m_X11_in l D cy ad h_6 g_6 H.size ((x2).toInt64) (0 : Int64) (9 : Int64) P_18 HC_18) (va_cwS 3 hts (gd_S (wm5 111 rfl rfl) (wm5 112 rfl rfl) (wm1 13 rfl rfl) (wm5 113 rfl rfl)) rfl rfl rfl (by decide +kernel) ⟨Nat.le_of_ble_eq_true rfl, Nat.le_of_ble_eq_true rfl⟩) hK hNw hG rfl rfl hl.1 rfl (lv_room (Nat.le_of_ble_eq_true rfl)) dX11_need_18 ⟨Nat.zero_le _, Nat.zero_le _⟩) hG (fun r_18 h_18 g_18 H locs hz hq hG => ?_)
      replace HW := HW r_18 h_18 g_18 hz hq
      refine lv_if_eq (tgt := 37) hx hb dX11_need_21 (by decide) (fun c_21 => ?_) (fun c_21 => ?_)
      · replace HW := HW.1 c_21
        refine lv_bipush (v := (-2)) hx hb dX11_need_37 (by decide) ?_
        exact W.iret (v := (-2 : Int32)) hx hb hr (fun t ht hW => ⟨⟨(-2 : Int32), (h_18, g_18), rfl, HW, g_B ht hG⟩, hG.2.2.F ht⟩) hG.2.2.2.2 dX11_need_39
      · replace HW := HW.2 c_21
        refine lv_aload_n hx hb dX11_need_24 rfl (lv_at hl 0 rfl) ?_
        refine lv_sipush (v := 823) hx hb dX11_need_25 (by decide) ?_
        refine lv_iload_n hx hb dX11_need_28 rfl (lv_at hl 1 rfl) ?_
        refine lv_iadd hx hb dX11_need_29 ?_
        refine lv_iload_n hx hb dX11_need_30 rfl (lv_at hl 2 rfl) ?_
        obtain ⟨P_31, HC_31, HW⟩ := HW
        refine g_calli (g_runV (As := [.int ((823 : Int32) + x1), .int x2]) (rest := []) ⟨hx, hb, hml, hown, hts⟩ (m_X11_puts l D cy ad h_18 g_18 H.size ((823 : Int32) + x1) x2 P_31 HC_31) (cwV 2 hts (gd_V (wm5 141 rfl rfl) (wm5 143 rfl rfl) (wmp3 (q := (yX11_puts, 26)) 8 rfl) (wm1 13 rfl rfl) (wm5 144 rfl rfl)) rfl rfl rfl (by decide +kernel) ⟨Nat.le_of_ble_eq_true rfl, Nat.le_of_ble_eq_true rfl⟩) hK hNw hG gl_135 rfl gk_135 (by decide) rfl rfl hl.1 rfl (lv_room (Nat.le_of_ble_eq_true rfl)) dX11_need_31 ⟨Nat.zero_le _, Nat.zero_le _⟩) hG (fun r_31 h_31 g_31 H locs hq hG => ?_)
        replace HW := HW r_31 h_31 g_31 hq
        refine lv_goto (tgt := 39) hx hb dX11_need_34 (by decide) ?_
        exact W.iret (v := r_31) hx hb hr (fun t ht hW => ⟨⟨r_31, (h_31, g_31), rfl, HW, g_B ht hG⟩, hG.2.2.F ht⟩) hG.2.2.2.2 dX11_need_39
  exact E0 _ _ _ hG hl

def w_X11_isThere (x1 : Int32) (x2 : Int32) (h : HI) (g : HL) (Q : Int32 → HI → HL → Prop) : Prop :=
  (∃ P_4 : Int32 → HI → HL → Prop, w_X11_is (7 : Int32) x1 h g P_4 ∧ ∀ (r_4 : Int32) (h_4 : HI) (g_4 : HL), zb r_4 → P_4 r_4 h_4 g_4 → ((r_4 = 0 → Q (0 : Int32) h_4 g_4) ∧ (¬ r_4 = 0 → (vp_in (((817 : Int32) + ((2 : Int32) * x1)) + (1 : Int32)) 887 ∧ (((h_4 136 (((817 : Int32) + ((2 : Int32) * x1)) + (1 : Int32)).toNatClampNeg) ≤ x2 → Q (0 : Int32) h_4 g_4) ∧ (¬ (h_4 136 (((817 : Int32) + ((2 : Int32) * x1)) + (1 : Int32)).toNatClampNeg) ≤ x2 → Q (1 : Int32) h_4 g_4))))))
set_option maxHeartbeats 8000000 in
set_option maxRecDepth 100000 in
theorem m_X11_isThere (l : Launch) (D : va_G) (cy : Nat → ClassId) (ad : Nat → Nat) (h : HI) (g : HL) (sz : Nat) (x1 : Int32) (x2 : Int32) (Q : Int32 → HI → HL → Prop) (HW : w_X11_isThere x1 x2 h g Q) : Met l yX11_isThere (wa yX11_isThere cX11_isThere 3 (some .boolean)) ({ frames := 2, cells := 0, slots := 0, locals := 47 }) (va_Pc [.ref (ad 135), .int x1, .int x2] (gI D cy ad h g sz)) (va_Qi (fun (r : Int32) (u : HI × HL) => zb r ∧ Q r u.1 u.2) (gB D cy ad sz) (gA ad sz)) 0 0 (gA ad sz) := by
  refine Met.ofW (cc := cX11_isThere) (maxL := 3) (ret := (some .boolean)) (by decide) rfl ?_
  intro p e s m args below meth c s₁ B hml hv
  obtain ⟨hav, hsz, hP, hK, hD0, hNw⟩ := hv
  have hx := B.exec
  have hb := B.bytes
  have hr := B.returns
  have hts := atoms_spec (ws := (wa yX11_isThere cX11_isThere 3 (some .boolean))) B.pre
  have hw := wa_hw hts
  have hown : s.vm.findClass RX11 = some m.cls := findClass_of_methodNamed B.named
  have hlocks := B.notSynchronized
  subst hsz
  have hG : gG D cy ad (gA ad s.heap.size) s.heap h g s.heap [] := ⟨hP, gA_self hD0, va_S.rf⟩
  clear hP hD0
  have lk7 := hw (.fieldLink RX11 7 "OldWorksModel" "st" "[I") (wm5 27 rfl rfl)
  rw [show (headSpec (wa yX11_isThere cX11_isThere 3 (some .boolean)) ({ frames := 2, cells := 0, slots := 0, locals := 47 } : Room)).room = ({ frames := 2, cells := 0, slots := 0, locals := 47 } : Room) from rfl]
  have hl := lv_entry ([.ref (ad 135), .int x1, .int x2]) (n := 3) (Nat.le_of_ble_eq_true rfl)
  rw [show entryFrame m args 3 = entryFrame m ([.ref (ad 135), .int x1, .int x2] : List Value).toArray 3 from by rw [hav], lg_entry_eq]
  generalize (lg_sl ([.ref (ad 135), .int x1, .int x2]) ++ List.replicate (3 - (lg_sl ([.ref (ad 135), .int x1, .int x2])).length) Slot.unset).toArray = ls at hl ⊢
  have hl : lv_has ls 3 [(0, .ref (ad 135)), (1, .int x1), (2, .int x2)] := hl
  have E0 : ∀ (H : Heap) (locs : List Loc) (ls : Array Slot), gG D cy ad (gA ad s.heap.size) s.heap h g H locs → lv_has ls 3 [(0, .ref (ad 135)), (1, .int x1), (2, .int x2)] → W p l e ({ frames := 2, cells := 0, slots := 0, locals := 47 } : Room) s m args below meth c H locs 0 0 (MQ below (va_Qi (fun (r : Int32) (u : HI × HL) => zb r ∧ Q r u.1 u.2) (gB D cy ad s.heap.size) (gA ad s.heap.size)) args s 0 0 (gA ad s.heap.size)) (F0 m 0 ls []) := by
    intro H locs ls hG hl
    unfold w_X11_isThere at HW
    refine lv_aload_n hx hb dX11_isThere_0 rfl (lv_at hl 0 rfl) ?_
    refine lv_bipush (v := 7) hx hb dX11_isThere_1 (by decide) ?_
    refine lv_iload_n hx hb dX11_isThere_3 rfl (lv_at hl 1 rfl) ?_
    obtain ⟨P_4, HC_4, HW⟩ := HW
    refine g_callz (g_runV (As := [.int (7 : Int32), .int x1]) (rest := []) ⟨hx, hb, hml, hown, hts⟩ (m_X11_is l D cy ad h g H.size (7 : Int32) x1 P_4 HC_4) (cwV 2 hts (gd_V (wm5 184 rfl rfl) (wm5 186 rfl rfl) (wmp3 (q := (yX11_is, 26)) 14 rfl) (wm1 13 rfl rfl) (wm5 187 rfl rfl)) rfl rfl rfl (by decide +kernel) ⟨Nat.le_of_ble_eq_true rfl, Nat.le_of_ble_eq_true rfl⟩) hK hNw hG gl_135 rfl gk_135 (by decide) rfl rfl hl.1 rfl (lv_room (Nat.le_of_ble_eq_true rfl)) dX11_isThere_4 ⟨Nat.zero_le _, Nat.zero_le _⟩) hG (fun r_4 h_4 g_4 H locs hz hq hG => ?_)
    replace HW := HW r_4 h_4 g_4 hz hq
    refine lv_if_eq (tgt := 32) hx hb dX11_isThere_7 (by decide) (fun c_7 => ?_) (fun c_7 => ?_)
    · replace HW := HW.1 c_7
      refine lv_iconst (v := 0) hx hb dX11_isThere_32 (by decide) ?_
      exact W.zret (v := (0 : Int32)) hx hb hr rfl (fun t ht hW => ⟨⟨(0 : Int32), (h_4, g_4), rfl, ⟨Or.inl rfl, HW⟩, g_B ht hG⟩, hG.2.2.F ht⟩) hG.2.2.2.2 dX11_isThere_33
    · replace HW := HW.2 c_7
      refine lv_iload_n hx hb dX11_isThere_10 rfl (lv_at hl 2 rfl) ?_
      refine lv_aload_n hx hb dX11_isThere_11 rfl (lv_at hl 0 rfl) ?_
      refine g_getr hx hb hw inG11 hown hK hG gl_135 rfl gk_135 (by decide) 0 (by decide) (by rw [gm_135]; decide) (r := 136) gr_135_0 lk7 dX11_isThere_12 ?_
      refine lv_sipush (v := 817) hx hb dX11_isThere_15 (by decide) ?_
      refine lv_iconst (v := 2) hx hb dX11_isThere_18 (by decide) ?_
      refine lv_iload_n hx hb dX11_isThere_19 rfl (lv_at hl 1 rfl) ?_
      refine lv_imul hx hb dX11_isThere_20 ?_
      refine lv_iadd hx hb dX11_isThere_21 ?_
      refine lv_iconst (v := 1) hx hb dX11_isThere_22 (by decide) ?_
      refine lv_iadd hx hb dX11_isThere_23 ?_
      refine g_iald hx hb hK hG gl_136 gk_136 gn_136 HW.1 dX11_isThere_24 ?_
      replace HW := HW.2
      refine lv_icmp_ge (tgt := 32) hx hb dX11_isThere_25 (by decide) (fun c_25 => ?_) (fun c_25 => ?_)
      · replace HW := HW.1 c_25
        refine lv_iconst (v := 0) hx hb dX11_isThere_32 (by decide) ?_
        exact W.zret (v := (0 : Int32)) hx hb hr rfl (fun t ht hW => ⟨⟨(0 : Int32), (h_4, g_4), rfl, ⟨Or.inl rfl, HW⟩, g_B ht hG⟩, hG.2.2.F ht⟩) hG.2.2.2.2 dX11_isThere_33
      · replace HW := HW.2 c_25
        refine lv_iconst (v := 1) hx hb dX11_isThere_28 (by decide) ?_
        refine lv_goto (tgt := 33) hx hb dX11_isThere_29 (by decide) ?_
        exact W.zret (v := (1 : Int32)) hx hb hr rfl (fun t ht hW => ⟨⟨(1 : Int32), (h_4, g_4), rfl, ⟨Or.inr rfl, HW⟩, g_B ht hG⟩, hG.2.2.F ht⟩) hG.2.2.2.2 dX11_isThere_33
  exact E0 _ _ _ hG hl

def w_X11_canOf (x0 : Int32) (x1 : Int32) (h : HI) (g : HL) (Q : Int32 → HI → HL → Prop) : Prop :=
  Q ((x0 >>> (((4 : Int32) * x1) &&& 31)) &&& (15 : Int32)) h g
set_option maxHeartbeats 8000000 in
set_option maxRecDepth 100000 in
theorem m_X11_canOf (l : Launch) (D : va_G) (cy : Nat → ClassId) (ad : Nat → Nat) (h : HI) (g : HL) (sz : Nat) (x0 : Int32) (x1 : Int32) (Q : Int32 → HI → HL → Prop) (HW : w_X11_canOf x0 x1 h g Q) : Met l yX11_canOf (wa yX11_canOf cX11_canOf 2 (some .int)) ({ frames := 0, cells := 0, slots := 0, locals := 0 }) (va_Pc [.int x0, .int x1] (gI D cy ad h g sz)) (va_Qi (fun (r : Int32) (u : HI × HL) => Q r u.1 u.2) (gB D cy ad sz) (gA ad sz)) 0 0 (gA ad sz) := by
  refine Met.ofW (cc := cX11_canOf) (maxL := 2) (ret := (some .int)) (by decide) rfl ?_
  intro p e s m args below meth c s₁ B hml hv
  obtain ⟨hav, hsz, hP, hK, hD0, hNw⟩ := hv
  have hx := B.exec
  have hb := B.bytes
  have hr := B.returns
  have hts := atoms_spec (ws := (wa yX11_canOf cX11_canOf 2 (some .int))) B.pre
  have hw := wa_hw hts
  have hown : s.vm.findClass RX11 = some m.cls := findClass_of_methodNamed B.named
  have hlocks := B.notSynchronized
  subst hsz
  have hG : gG D cy ad (gA ad s.heap.size) s.heap h g s.heap [] := ⟨hP, gA_self hD0, va_S.rf⟩
  clear hP hD0
  rw [show (headSpec (wa yX11_canOf cX11_canOf 2 (some .int)) ({ frames := 0, cells := 0, slots := 0, locals := 0 } : Room)).room = ({ frames := 0, cells := 0, slots := 0, locals := 0 } : Room) from rfl]
  have hl := lv_entry ([.int x0, .int x1]) (n := 2) (Nat.le_of_ble_eq_true rfl)
  rw [show entryFrame m args 2 = entryFrame m ([.int x0, .int x1] : List Value).toArray 2 from by rw [hav], lg_entry_eq]
  generalize (lg_sl ([.int x0, .int x1]) ++ List.replicate (2 - (lg_sl ([.int x0, .int x1])).length) Slot.unset).toArray = ls at hl ⊢
  have hl : lv_has ls 2 [(0, .int x0), (1, .int x1)] := hl
  have E0 : ∀ (H : Heap) (locs : List Loc) (ls : Array Slot), gG D cy ad (gA ad s.heap.size) s.heap h g H locs → lv_has ls 2 [(0, .int x0), (1, .int x1)] → W p l e ({ frames := 0, cells := 0, slots := 0, locals := 0 } : Room) s m args below meth c H locs 0 0 (MQ below (va_Qi (fun (r : Int32) (u : HI × HL) => Q r u.1 u.2) (gB D cy ad s.heap.size) (gA ad s.heap.size)) args s 0 0 (gA ad s.heap.size)) (F0 m 0 ls []) := by
    intro H locs ls hG hl
    unfold w_X11_canOf at HW
    refine lv_iload_n hx hb dX11_canOf_0 rfl (lv_at hl 0 rfl) ?_
    refine lv_iconst (v := 4) hx hb dX11_canOf_1 (by decide) ?_
    refine lv_iload_n hx hb dX11_canOf_2 rfl (lv_at hl 1 rfl) ?_
    refine lv_imul hx hb dX11_canOf_3 ?_
    refine lv_ishr hx hb dX11_canOf_4 ?_
    refine lv_bipush (v := 15) hx hb dX11_canOf_5 (by decide) ?_
    refine lv_iand hx hb dX11_canOf_7 ?_
    exact W.iret (v := ((x0 >>> (((4 : Int32) * x1) &&& 31)) &&& (15 : Int32))) hx hb hr (fun t ht hW => ⟨⟨((x0 >>> (((4 : Int32) * x1) &&& 31)) &&& (15 : Int32)), (h, g), rfl, HW, g_B ht hG⟩, hG.2.2.F ht⟩) hG.2.2.2.2 dX11_canOf_8
  exact E0 _ _ _ hG hl

def w_X11_mayTeach (x1 : Int32) (x2 : Int32) (x3 : Int32) (h : HI) (g : HL) (Q : Int32 → HI → HL → Prop) : Prop :=
  (∀ x4_4 : Int32, x4_4 = (x3 / (16 : Int32)) → (∀ x5_11 : Int32, x5_11 = ((x3 / (4 : Int32)) - (x3 / (4 : Int32)) / (4 : Int32) * (4 : Int32)) → (∀ x6_16 : Int32, x6_16 = (x3 - x3 / (4 : Int32) * (4 : Int32)) → ((x4_4 = x6_16 → Q (0 : Int32) h g) ∧ (¬ x4_4 = x6_16 → (∃ P_29 : Int32 → HI → HL → Prop, w_X11_isThere x4_4 x2 h g P_29 ∧ ∀ (r_29 : Int32) (h_29 : HI) (g_29 : HL), zb r_29 → P_29 r_29 h_29 g_29 → ((r_29 = 0 → Q (0 : Int32) h_29 g_29) ∧ (¬ r_29 = 0 → (∃ P_39 : Int32 → HI → HL → Prop, w_X11_isThere x6_16 x2 h_29 g_29 P_39 ∧ ∀ (r_39 : Int32) (h_39 : HI) (g_39 : HL), zb r_39 → P_39 r_39 h_39 g_39 → ((r_39 = 0 → Q (0 : Int32) h_39 g_39) ∧ (¬ r_39 = 0 → (∃ P_48 : Int32 → HI → HL → Prop, w_X11_canOf x1 x4_4 h_39 g_39 P_48 ∧ ∀ (r_48 : Int32) (h_48 : HI) (g_48 : HL), P_48 r_48 h_48 g_48 → ((¬ ((r_48 >>> (x5_11 &&& 31)) &&& (1 : Int32)) = (1 : Int32) → Q (0 : Int32) h_48 g_48) ∧ (((r_48 >>> (x5_11 &&& 31)) &&& (1 : Int32)) = (1 : Int32) → (∃ P_63 : Int32 → HI → HL → Prop, w_X11_canOf x1 x6_16 h_48 g_48 P_63 ∧ ∀ (r_63 : Int32) (h_63 : HI) (g_63 : HL), P_63 r_63 h_63 g_63 → ((¬ ((r_63 >>> (x5_11 &&& 31)) &&& (1 : Int32)) = 0 → Q (0 : Int32) h_63 g_63) ∧ (((r_63 >>> (x5_11 &&& 31)) &&& (1 : Int32)) = 0 → Q (1 : Int32) h_63 g_63)))))))))))))))))
set_option maxHeartbeats 8000000 in
set_option maxRecDepth 100000 in
theorem m_X11_mayTeach (l : Launch) (D : va_G) (cy : Nat → ClassId) (ad : Nat → Nat) (h : HI) (g : HL) (sz : Nat) (x1 : Int32) (x2 : Int32) (x3 : Int32) (Q : Int32 → HI → HL → Prop) (HW : w_X11_mayTeach x1 x2 x3 h g Q) : Met l yX11_mayTeach (wa yX11_mayTeach cX11_mayTeach 7 (some .boolean)) ({ frames := 3, cells := 0, slots := 0, locals := 69 }) (va_Pc [.ref (ad 135), .int x1, .int x2, .int x3] (gI D cy ad h g sz)) (va_Qi (fun (r : Int32) (u : HI × HL) => zb r ∧ Q r u.1 u.2) (gB D cy ad sz) (gA ad sz)) 0 0 (gA ad sz) := by
  refine Met.ofW (cc := cX11_mayTeach) (maxL := 7) (ret := (some .boolean)) (by decide) rfl ?_
  intro p e s m args below meth c s₁ B hml hv
  obtain ⟨hav, hsz, hP, hK, hD0, hNw⟩ := hv
  have hx := B.exec
  have hb := B.bytes
  have hr := B.returns
  have hts := atoms_spec (ws := (wa yX11_mayTeach cX11_mayTeach 7 (some .boolean))) B.pre
  have hw := wa_hw hts
  have hown : s.vm.findClass RX11 = some m.cls := findClass_of_methodNamed B.named
  have hlocks := B.notSynchronized
  subst hsz
  have hG : gG D cy ad (gA ad s.heap.size) s.heap h g s.heap [] := ⟨hP, gA_self hD0, va_S.rf⟩
  clear hP hD0
  rw [show (headSpec (wa yX11_mayTeach cX11_mayTeach 7 (some .boolean)) ({ frames := 3, cells := 0, slots := 0, locals := 69 } : Room)).room = ({ frames := 3, cells := 0, slots := 0, locals := 69 } : Room) from rfl]
  have hl := lv_entry ([.ref (ad 135), .int x1, .int x2, .int x3]) (n := 7) (Nat.le_of_ble_eq_true rfl)
  rw [show entryFrame m args 7 = entryFrame m ([.ref (ad 135), .int x1, .int x2, .int x3] : List Value).toArray 7 from by rw [hav], lg_entry_eq]
  generalize (lg_sl ([.ref (ad 135), .int x1, .int x2, .int x3]) ++ List.replicate (7 - (lg_sl ([.ref (ad 135), .int x1, .int x2, .int x3])).length) Slot.unset).toArray = ls at hl ⊢
  have hl : lv_has ls 7 [(0, .ref (ad 135)), (1, .int x1), (2, .int x2), (3, .int x3)] := hl
  have E0 : ∀ (H : Heap) (locs : List Loc) (ls : Array Slot), gG D cy ad (gA ad s.heap.size) s.heap h g H locs → lv_has ls 7 [(0, .ref (ad 135)), (1, .int x1), (2, .int x2), (3, .int x3)] → W p l e ({ frames := 3, cells := 0, slots := 0, locals := 69 } : Room) s m args below meth c H locs 0 0 (MQ below (va_Qi (fun (r : Int32) (u : HI × HL) => zb r ∧ Q r u.1 u.2) (gB D cy ad s.heap.size) (gA ad s.heap.size)) args s 0 0 (gA ad s.heap.size)) (F0 m 0 ls []) := by
    intro H locs ls hG hl
    unfold w_X11_mayTeach at HW
    refine lv_iload_n hx hb dX11_mayTeach_0 rfl (lv_at hl 3 rfl) ?_
    refine lv_bipush (v := 16) hx hb dX11_mayTeach_1 (by decide) ?_
    refine lv_idiv hx hb dX11_mayTeach_3 (by decide) ?_
    refine lv_topi (fun x4_4 ex4_4 => ?_)
    replace HW := HW x4_4 ex4_4
    refine lv_istore (lv' := [(4, .int x4_4), (0, .ref (ad 135)), (1, .int x1), (2, .int x2), (3, .int x3)]) hx hb dX11_mayTeach_4 hl (by decide) rfl (fun ls hl => ?_)
    refine lv_iload_n hx hb dX11_mayTeach_6 rfl (lv_at hl 4 rfl) ?_
    refine lv_iconst (v := 4) hx hb dX11_mayTeach_7 (by decide) ?_
    refine lv_idiv hx hb dX11_mayTeach_8 (by decide) ?_
    refine lv_iconst (v := 4) hx hb dX11_mayTeach_9 (by decide) ?_
    refine lv_irem hx hb dX11_mayTeach_10 (by decide) ?_
    refine lv_topi (fun x5_11 ex5_11 => ?_)
    replace HW := HW x5_11 ex5_11
    refine lv_istore (lv' := [(5, .int x5_11), (4, .int x4_4), (0, .ref (ad 135)), (1, .int x1), (2, .int x2), (3, .int x3)]) hx hb dX11_mayTeach_11 hl (by decide) rfl (fun ls hl => ?_)
    refine lv_iload_n hx hb dX11_mayTeach_13 rfl (lv_at hl 5 rfl) ?_
    refine lv_iconst (v := 4) hx hb dX11_mayTeach_14 (by decide) ?_
    refine lv_irem hx hb dX11_mayTeach_15 (by decide) ?_
    refine lv_topi (fun x6_16 ex6_16 => ?_)
    replace HW := HW x6_16 ex6_16
    refine lv_istore (lv' := [(6, .int x6_16), (5, .int x5_11), (4, .int x4_4), (0, .ref (ad 135)), (1, .int x1), (2, .int x2), (3, .int x3)]) hx hb dX11_mayTeach_16 hl (by decide) rfl (fun ls hl => ?_)
    refine lv_iload hx hb dX11_mayTeach_18 (lv_at hl 2 rfl) ?_
    refine lv_iload hx hb dX11_mayTeach_20 (lv_at hl 0 rfl) ?_
    refine lv_icmp_eq (tgt := 78) hx hb dX11_mayTeach_22 (by decide) (fun c_22 => ?_) (fun c_22 => ?_)
    · replace HW := HW.1 c_22
      refine lv_iconst (v := 0) hx hb dX11_mayTeach_78 (by decide) ?_
      exact W.zret (v := (0 : Int32)) hx hb hr rfl (fun t ht hW => ⟨⟨(0 : Int32), (h, g), rfl, ⟨Or.inl rfl, HW⟩, g_B ht hG⟩, hG.2.2.F ht⟩) hG.2.2.2.2 dX11_mayTeach_79
    · replace HW := HW.2 c_22
      refine lv_aload_n hx hb dX11_mayTeach_25 rfl (lv_at hl 3 rfl) ?_
      refine lv_iload hx hb dX11_mayTeach_26 (lv_at hl 2 rfl) ?_
      refine lv_iload_n hx hb dX11_mayTeach_28 rfl (lv_at hl 5 rfl) ?_
      obtain ⟨P_29, HC_29, HW⟩ := HW
      refine g_callz (g_runV (As := [.int x4_4, .int x2]) (rest := []) ⟨hx, hb, hml, hown, hts⟩ (m_X11_isThere l D cy ad h g H.size x4_4 x2 P_29 HC_29) (cwV 2 hts (gd_V (wm6 209 rfl rfl) (wm6 211 rfl rfl) (wmp5 (q := (yX11_isThere, 26)) 14 rfl) (wm1 13 rfl rfl) (wm6 212 rfl rfl)) rfl rfl rfl (by decide +kernel) ⟨Nat.le_of_ble_eq_true rfl, Nat.le_of_ble_eq_true rfl⟩) hK hNw hG gl_135 rfl gk_135 (by decide) rfl rfl hl.1 rfl (lv_room (Nat.le_of_ble_eq_true rfl)) dX11_mayTeach_29 ⟨Nat.zero_le _, Nat.zero_le _⟩) hG (fun r_29 h_29 g_29 H locs hz hq hG => ?_)
      replace HW := HW r_29 h_29 g_29 hz hq
      refine lv_if_eq (tgt := 78) hx hb dX11_mayTeach_32 (by decide) (fun c_32 => ?_) (fun c_32 => ?_)
      · replace HW := HW.1 c_32
        refine lv_iconst (v := 0) hx hb dX11_mayTeach_78 (by decide) ?_
        exact W.zret (v := (0 : Int32)) hx hb hr rfl (fun t ht hW => ⟨⟨(0 : Int32), (h_29, g_29), rfl, ⟨Or.inl rfl, HW⟩, g_B ht hG⟩, hG.2.2.F ht⟩) hG.2.2.2.2 dX11_mayTeach_79
      · replace HW := HW.2 c_32
        refine lv_aload_n hx hb dX11_mayTeach_35 rfl (lv_at hl 3 rfl) ?_
        refine lv_iload hx hb dX11_mayTeach_36 (lv_at hl 0 rfl) ?_
        refine lv_iload_n hx hb dX11_mayTeach_38 rfl (lv_at hl 5 rfl) ?_
        obtain ⟨P_39, HC_39, HW⟩ := HW
        refine g_callz (g_runV (As := [.int x6_16, .int x2]) (rest := []) ⟨hx, hb, hml, hown, hts⟩ (m_X11_isThere l D cy ad h_29 g_29 H.size x6_16 x2 P_39 HC_39) (cwV 2 hts (gd_V (wm6 209 rfl rfl) (wm6 211 rfl rfl) (wmp5 (q := (yX11_isThere, 26)) 14 rfl) (wm1 13 rfl rfl) (wm6 212 rfl rfl)) rfl rfl rfl (by decide +kernel) ⟨Nat.le_of_ble_eq_true rfl, Nat.le_of_ble_eq_true rfl⟩) hK hNw hG gl_135 rfl gk_135 (by decide) rfl rfl hl.1 rfl (lv_room (Nat.le_of_ble_eq_true rfl)) dX11_mayTeach_39 ⟨Nat.zero_le _, Nat.zero_le _⟩) hG (fun r_39 h_39 g_39 H locs hz hq hG => ?_)
        replace HW := HW r_39 h_39 g_39 hz hq
        refine lv_if_eq (tgt := 78) hx hb dX11_mayTeach_42 (by decide) (fun c_42 => ?_) (fun c_42 => ?_)
        · replace HW := HW.1 c_42
          refine lv_iconst (v := 0) hx hb dX11_mayTeach_78 (by decide) ?_
          exact W.zret (v := (0 : Int32)) hx hb hr rfl (fun t ht hW => ⟨⟨(0 : Int32), (h_39, g_39), rfl, ⟨Or.inl rfl, HW⟩, g_B ht hG⟩, hG.2.2.F ht⟩) hG.2.2.2.2 dX11_mayTeach_79
        · replace HW := HW.2 c_42
          refine lv_iload_n hx hb dX11_mayTeach_45 rfl (lv_at hl 4 rfl) ?_
          refine lv_iload hx hb dX11_mayTeach_46 (lv_at hl 2 rfl) ?_
          obtain ⟨P_48, HC_48, HW⟩ := HW
          refine g_calli (g_runS (As := [.int x1, .int x4_4]) (rest := []) ⟨hx, hb, hml, hown, hts⟩ (m_X11_canOf l D cy ad h_39 g_39 H.size x1 x4_4 P_48 HC_48) (va_cwS 2 hts (gd_S (wm6 213 rfl rfl) (wm6 214 rfl rfl) (wm1 13 rfl rfl) (wm6 215 rfl rfl)) rfl rfl rfl (by decide +kernel) ⟨Nat.le_of_ble_eq_true rfl, Nat.le_of_ble_eq_true rfl⟩) hK hNw hG rfl rfl hl.1 rfl (lv_room (Nat.le_of_ble_eq_true rfl)) dX11_mayTeach_48 ⟨Nat.zero_le _, Nat.zero_le _⟩) hG (fun r_48 h_48 g_48 H locs hq hG => ?_)
          replace HW := HW r_48 h_48 g_48 hq
          refine lv_iload hx hb dX11_mayTeach_51 (lv_at hl 1 rfl) ?_
          refine lv_ishr hx hb dX11_mayTeach_53 ?_
          refine lv_iconst (v := 1) hx hb dX11_mayTeach_54 (by decide) ?_
          refine lv_iand hx hb dX11_mayTeach_55 ?_
          refine lv_iconst (v := 1) hx hb dX11_mayTeach_56 (by decide) ?_
          refine lv_icmp_ne (tgt := 78) hx hb dX11_mayTeach_57 (by decide) (fun c_57 => ?_) (fun c_57 => ?_)
          · replace HW := HW.1 c_57
            refine lv_iconst (v := 0) hx hb dX11_mayTeach_78 (by decide) ?_
            exact W.zret (v := (0 : Int32)) hx hb hr rfl (fun t ht hW => ⟨⟨(0 : Int32), (h_48, g_48), rfl, ⟨Or.inl rfl, HW⟩, g_B ht hG⟩, hG.2.2.F ht⟩) hG.2.2.2.2 dX11_mayTeach_79
          · replace HW := HW.2 c_57
            refine lv_iload_n hx hb dX11_mayTeach_60 rfl (lv_at hl 4 rfl) ?_
            refine lv_iload hx hb dX11_mayTeach_61 (lv_at hl 0 rfl) ?_
            obtain ⟨P_63, HC_63, HW⟩ := HW
            refine g_calli (g_runS (As := [.int x1, .int x6_16]) (rest := []) ⟨hx, hb, hml, hown, hts⟩ (m_X11_canOf l D cy ad h_48 g_48 H.size x1 x6_16 P_63 HC_63) (va_cwS 2 hts (gd_S (wm6 213 rfl rfl) (wm6 214 rfl rfl) (wm1 13 rfl rfl) (wm6 215 rfl rfl)) rfl rfl rfl (by decide +kernel) ⟨Nat.le_of_ble_eq_true rfl, Nat.le_of_ble_eq_true rfl⟩) hK hNw hG rfl rfl hl.1 rfl (lv_room (Nat.le_of_ble_eq_true rfl)) dX11_mayTeach_63 ⟨Nat.zero_le _, Nat.zero_le _⟩) hG (fun r_63 h_63 g_63 H locs hq hG => ?_)
            replace HW := HW r_63 h_63 g_63 hq
            refine lv_iload hx hb dX11_mayTeach_66 (lv_at hl 1 rfl) ?_
            refine lv_ishr hx hb dX11_mayTeach_68 ?_
            refine lv_iconst (v := 1) hx hb dX11_mayTeach_69 (by decide) ?_
            refine lv_iand hx hb dX11_mayTeach_70 ?_
            refine lv_if_ne (tgt := 78) hx hb dX11_mayTeach_71 (by decide) (fun c_71 => ?_) (fun c_71 => ?_)
            · replace HW := HW.1 c_71
              refine lv_iconst (v := 0) hx hb dX11_mayTeach_78 (by decide) ?_
              exact W.zret (v := (0 : Int32)) hx hb hr rfl (fun t ht hW => ⟨⟨(0 : Int32), (h_63, g_63), rfl, ⟨Or.inl rfl, HW⟩, g_B ht hG⟩, hG.2.2.F ht⟩) hG.2.2.2.2 dX11_mayTeach_79
            · replace HW := HW.2 c_71
              refine lv_iconst (v := 1) hx hb dX11_mayTeach_74 (by decide) ?_
              refine lv_goto (tgt := 79) hx hb dX11_mayTeach_75 (by decide) ?_
              exact W.zret (v := (1 : Int32)) hx hb hr rfl (fun t ht hW => ⟨⟨(1 : Int32), (h_63, g_63), rfl, ⟨Or.inr rfl, HW⟩, g_B ht hG⟩, hG.2.2.F ht⟩) hG.2.2.2.2 dX11_mayTeach_79
  exact E0 _ _ _ hG hl

def j_X11_worth_150 (Q : Int32 → HI → HL → Prop) (x2 : Int32) (x5 : Int32) (s0 : Int32) (h : HI) (g : HL) : Prop :=
  (vp_in (((4096 : Int32) * (x2 + (1 : Int32))) + s0) 36864 ∧ Q (x5 + (h 148 (((4096 : Int32) * (x2 + (1 : Int32))) + s0).toNatClampNeg)) h g)
def j_X11_worth_117 (Q : Int32 → HI → HL → Prop) (K83 : Int32 → Int32 → Int32 → Int32 → Int32 → Int32 → HI → HL → Prop) (x1 : Int32) (x2 : Int32) (x3 : Int32) (x4 : Int32) (x6 : Int32) (s0 : Int32) (s1 : Int32) (h : HI) (g : HL) : Prop :=
  (∀ x5_118 : Int32, x5_118 = (s0 + s1) → (∀ x6_120 : Int32, x6_120 = (x6 + 1) → K83 x1 x2 x3 x4 x5_118 x6_120 h g))
def b_X11_worth_83 (Q : Int32 → HI → HL → Prop) (K83 : Int32 → Int32 → Int32 → Int32 → Int32 → Int32 → HI → HL → Prop) (x1 : Int32) (x2 : Int32) (x3 : Int32) (x4 : Int32) (x5 : Int32) (x6 : Int32) (h : HI) (g : HL) : Prop :=
  (((4 : Int32) ≤ x6 → ((¬ x3 = (-1 : Int32) → j_X11_worth_150 Q x2 x5 (x1 ||| ((1 : Int32) <<< ((((4 : Int32) * (x3 - x3 / (4 : Int32) * (4 : Int32))) + ((x3 / (4 : Int32)) - (x3 / (4 : Int32)) / (4 : Int32) * (4 : Int32))) &&& 31))) h g) ∧ (x3 = (-1 : Int32) → j_X11_worth_150 Q x2 x5 x1 h g))) ∧ (¬ (4 : Int32) ≤ x6 → ((¬ ((x4 >>> (x6 &&& 31)) &&& (1 : Int32)) = (1 : Int32) → j_X11_worth_117 Q K83 x1 x2 x3 x4 x6 x5 (0 : Int32) h g) ∧ (((x4 >>> (x6 &&& 31)) &&& (1 : Int32)) = (1 : Int32) → (vp_in ((823 : Int32) + x6) 887 ∧ j_X11_worth_117 Q K83 x1 x2 x3 x4 x6 x5 (h 136 ((823 : Int32) + x6).toNatClampNeg) h g)))))
def F_X11_worth_83 (Q : Int32 → HI → HL → Prop) (K : Int32 × Int32 × Int32 × Int32 × Int32 × Int32 × HI × HL → Prop) (q : Int32 × Int32 × Int32 × Int32 × Int32 × Int32 × HI × HL) : Prop := b_X11_worth_83 Q (fun x1 x2 x3 x4 x5 x6 h g => K (x1, x2, x3, x4, x5, x6, h, g)) q.1 q.2.1 q.2.2.1 q.2.2.2.1 q.2.2.2.2.1 q.2.2.2.2.2.1 q.2.2.2.2.2.2.1 q.2.2.2.2.2.2.2
def j_X11_worth_68 (Q : Int32 → HI → HL → Prop) (K6 : Int32 → Int32 → Int32 → Int32 → Int32 → HI → HL → Prop) (x1 : Int32) (x2 : Int32) (x3 : Int32) (x5 : Int32) (s0 : Int32) (s1 : Int32) (h : HI) (g : HL) : Prop :=
  (∀ x4_69 : Int32, x4_69 = (s0 ||| s1) → (∀ x5_71 : Int32, x5_71 = (x5 + 1) → K6 x1 x2 x3 x4_69 x5_71 h g))
def j_X11_worth_67 (Q : Int32 → HI → HL → Prop) (K6 : Int32 → Int32 → Int32 → Int32 → Int32 → HI → HL → Prop) (x1 : Int32) (x2 : Int32) (x3 : Int32) (x5 : Int32) (s0 : Int32) (h : HI) (g : HL) : Prop :=
  j_X11_worth_68 Q K6 x1 x2 x3 x5 s0 (0 : Int32) h g
def j_X11_worth_39 (Q : Int32 → HI → HL → Prop) (K6 : Int32 → Int32 → Int32 → Int32 → Int32 → HI → HL → Prop) (x1 : Int32) (x2 : Int32) (x3 : Int32) (x4 : Int32) (x5 : Int32) (s0 : Int32) (h : HI) (g : HL) : Prop :=
  (∃ P_47 : Int32 → HI → HL → Prop, w_X11_isThere x5 x2 h g P_47 ∧ ∀ (r_47 : Int32) (h_47 : HI) (g_47 : HL), zb r_47 → P_47 r_47 h_47 g_47 → ((r_47 = 0 → j_X11_worth_67 Q K6 x1 x2 x3 x5 x4 h_47 g_47) ∧ (¬ r_47 = 0 → ((¬ s0 = 0 → j_X11_worth_67 Q K6 x1 x2 x3 x5 x4 h_47 g_47) ∧ (s0 = 0 → (∃ P_61 : Int32 → HI → HL → Prop, w_X11_canOf x1 x5 h_47 g_47 P_61 ∧ ∀ (r_61 : Int32) (h_61 : HI) (g_61 : HL), P_61 r_61 h_61 g_61 → j_X11_worth_68 Q K6 x1 x2 x3 x5 x4 r_61 h_61 g_61))))))
def j_X11_worth_38 (Q : Int32 → HI → HL → Prop) (K6 : Int32 → Int32 → Int32 → Int32 → Int32 → HI → HL → Prop) (x1 : Int32) (x2 : Int32) (x3 : Int32) (x4 : Int32) (x5 : Int32) (h : HI) (g : HL) : Prop :=
  j_X11_worth_39 Q K6 x1 x2 x3 x4 x5 (0 : Int32) h g
def j_X11_worth_34 (Q : Int32 → HI → HL → Prop) (K6 : Int32 → Int32 → Int32 → Int32 → Int32 → HI → HL → Prop) (x1 : Int32) (x2 : Int32) (x3 : Int32) (x4 : Int32) (x5 : Int32) (h : HI) (g : HL) : Prop :=
  j_X11_worth_39 Q K6 x1 x2 x3 x4 x5 (1 : Int32) h g
def b_X11_worth_6 (Q : Int32 → HI → HL → Prop) (K6 : Int32 → Int32 → Int32 → Int32 → Int32 → HI → HL → Prop) (x1 : Int32) (x2 : Int32) (x3 : Int32) (x4 : Int32) (x5 : Int32) (h : HI) (g : HL) : Prop :=
  (((3 : Int32) ≤ x5 → lpE (F_X11_worth_83 Q) (x1, x2, x3, x4, (0 : Int32), (0 : Int32), h, g)) ∧ (¬ (3 : Int32) ≤ x5 → ((x3 = (-1 : Int32) → j_X11_worth_38 Q K6 x1 x2 x3 x4 x5 h g) ∧ (¬ x3 = (-1 : Int32) → (((x3 / (16 : Int32)) = x5 → j_X11_worth_34 Q K6 x1 x2 x3 x4 x5 h g) ∧ (¬ (x3 / (16 : Int32)) = x5 → ((¬ (x3 - x3 / (4 : Int32) * (4 : Int32)) = x5 → j_X11_worth_38 Q K6 x1 x2 x3 x4 x5 h g) ∧ ((x3 - x3 / (4 : Int32) * (4 : Int32)) = x5 → j_X11_worth_34 Q K6 x1 x2 x3 x4 x5 h g))))))))
def F_X11_worth_6 (Q : Int32 → HI → HL → Prop) (K : Int32 × Int32 × Int32 × Int32 × Int32 × HI × HL → Prop) (q : Int32 × Int32 × Int32 × Int32 × Int32 × HI × HL) : Prop := b_X11_worth_6 Q (fun x1 x2 x3 x4 x5 h g => K (x1, x2, x3, x4, x5, h, g)) q.1 q.2.1 q.2.2.1 q.2.2.2.1 q.2.2.2.2.1 q.2.2.2.2.2.1 q.2.2.2.2.2.2
def w_X11_worth (x1 : Int32) (x2 : Int32) (x3 : Int32) (h : HI) (g : HL) (Q : Int32 → HI → HL → Prop) : Prop :=
  lpE (F_X11_worth_6 Q) (x1, x2, x3, (0 : Int32), (0 : Int32), h, g)
set_option maxHeartbeats 8000000 in
set_option maxRecDepth 100000 in
theorem m_X11_worth (l : Launch) (D : va_G) (cy : Nat → ClassId) (ad : Nat → Nat) (h : HI) (g : HL) (sz : Nat) (x1 : Int32) (x2 : Int32) (x3 : Int32) (Q : Int32 → HI → HL → Prop) (HW : w_X11_worth x1 x2 x3 h g Q) : Met l yX11_worth (wa yX11_worth cX11_worth 7 (some .int)) ({ frames := 3, cells := 0, slots := 0, locals := 69 }) (va_Pc [.ref (ad 135), .int x1, .int x2, .int x3] (gI D cy ad h g sz)) (va_Qi (fun (r : Int32) (u : HI × HL) => Q r u.1 u.2) (gB D cy ad sz) (gA ad sz)) 0 0 (gA ad sz) := by
  refine Met.ofW (cc := cX11_worth) (maxL := 7) (ret := (some .int)) (by decide) rfl ?_
  intro p e s m args below meth c s₁ B hml hv
  obtain ⟨hav, hsz, hP, hK, hD0, hNw⟩ := hv
  have hx := B.exec
  have hb := B.bytes
  have hr := B.returns
  have hts := atoms_spec (ws := (wa yX11_worth cX11_worth 7 (some .int))) B.pre
  have hw := wa_hw hts
  have hown : s.vm.findClass RX11 = some m.cls := findClass_of_methodNamed B.named
  have hlocks := B.notSynchronized
  subst hsz
  have hG : gG D cy ad (gA ad s.heap.size) s.heap h g s.heap [] := ⟨hP, gA_self hD0, va_S.rf⟩
  clear hP hD0
  have lk7 := hw (.fieldLink RX11 7 "OldWorksModel" "st" "[I") (wm5 27 rfl rfl)
  have lk49 := hw (.fieldLink RX11 49 "OldWorksModel" "most" "[I") (wm5 52 rfl rfl)
  rw [show (headSpec (wa yX11_worth cX11_worth 7 (some .int)) ({ frames := 3, cells := 0, slots := 0, locals := 69 } : Room)).room = ({ frames := 3, cells := 0, slots := 0, locals := 69 } : Room) from rfl]
  have hl := lv_entry ([.ref (ad 135), .int x1, .int x2, .int x3]) (n := 7) (Nat.le_of_ble_eq_true rfl)
  rw [show entryFrame m args 7 = entryFrame m ([.ref (ad 135), .int x1, .int x2, .int x3] : List Value).toArray 7 from by rw [hav], lg_entry_eq]
  generalize (lg_sl ([.ref (ad 135), .int x1, .int x2, .int x3]) ++ List.replicate (7 - (lg_sl ([.ref (ad 135), .int x1, .int x2, .int x3])).length) Slot.unset).toArray = ls at hl ⊢
  have hl : lv_has ls 7 [(0, .ref (ad 135)), (1, .int x1), (2, .int x2), (3, .int x3)] := hl
  have B150 : ∀ (x2 : Int32) (x5 : Int32) (s0 : Int32) (h : HI) (g : HL) (H : Heap) (locs : List Loc) (ls : Array Slot), j_X11_worth_150 Q x2 x5 s0 h g → gG D cy ad (gA ad s.heap.size) s.heap h g H locs → lv_has ls 7 [(0, .ref (ad 135)), (2, .int x2), (5, .int x5)] → W p l e ({ frames := 3, cells := 0, slots := 0, locals := 69 } : Room) s m args below meth c H locs 0 0 (MQ below (va_Qi (fun (r : Int32) (u : HI × HL) => Q r u.1 u.2) (gB D cy ad s.heap.size) (gA ad s.heap.size)) args s 0 0 (gA ad s.heap.size)) (F0 m 150 ls [.int s0]) := by
    intro x2 x5 s0 h g H locs ls HW hG hl
    unfold j_X11_worth_150 at HW
    refine lv_istore (lv' := [(6, .int s0), (0, .ref (ad 135)), (2, .int x2), (5, .int x5)]) hx hb dX11_worth_150 hl (by decide) rfl (fun ls hl => ?_)
    refine lv_iload hx hb dX11_worth_152 (lv_at hl 3 rfl) ?_
    refine lv_aload_n hx hb dX11_worth_154 rfl (lv_at hl 1 rfl) ?_
    refine g_getr hx hb hw inG11 hown hK hG gl_135 rfl gk_135 (by decide) 25 (by decide) (by rw [gm_135]; decide) (r := 148) gr_135_25 lk49 dX11_worth_155 ?_
    refine lv_sipush (v := 4096) hx hb dX11_worth_158 (by decide) ?_
    refine lv_iload_n hx hb dX11_worth_161 rfl (lv_at hl 2 rfl) ?_
    refine lv_iconst (v := 1) hx hb dX11_worth_162 (by decide) ?_
    refine lv_iadd hx hb dX11_worth_163 ?_
    refine lv_imul hx hb dX11_worth_164 ?_
    refine lv_iload hx hb dX11_worth_165 (lv_at hl 0 rfl) ?_
    refine lv_iadd hx hb dX11_worth_167 ?_
    refine g_iald hx hb hK hG gl_148 gk_148 gn_148 HW.1 dX11_worth_168 ?_
    replace HW := HW.2
    refine lv_iadd hx hb dX11_worth_169 ?_
    exact W.iret (v := (x5 + (h 148 (((4096 : Int32) * (x2 + (1 : Int32))) + s0).toNatClampNeg))) hx hb hr (fun t ht hW => ⟨⟨(x5 + (h 148 (((4096 : Int32) * (x2 + (1 : Int32))) + s0).toNatClampNeg)), (h, g), rfl, HW, g_B ht hG⟩, hG.2.2.F ht⟩) hG.2.2.2.2 dX11_worth_170
  have B117 : ∀ (K83 : Int32 → Int32 → Int32 → Int32 → Int32 → Int32 → HI → HL → Prop) (hK83 : ∀ (x1 : Int32) (x2 : Int32) (x3 : Int32) (x4 : Int32) (x5 : Int32) (x6 : Int32) (h : HI) (g : HL) (H : Heap) (locs : List Loc) (ls : Array Slot), K83 x1 x2 x3 x4 x5 x6 h g → gG D cy ad (gA ad s.heap.size) s.heap h g H locs → lv_has ls 7 [(0, .ref (ad 135)), (1, .int x1), (2, .int x2), (3, .int x3), (4, .int x4), (5, .int x5), (6, .int x6)] → W p l e ({ frames := 3, cells := 0, slots := 0, locals := 69 } : Room) s m args below meth c H locs 0 0 (MQ below (va_Qi (fun (r : Int32) (u : HI × HL) => Q r u.1 u.2) (gB D cy ad s.heap.size) (gA ad s.heap.size)) args s 0 0 (gA ad s.heap.size)) (F0 m 83 ls [])) (x1 : Int32) (x2 : Int32) (x3 : Int32) (x4 : Int32) (x6 : Int32) (s0 : Int32) (s1 : Int32) (h : HI) (g : HL) (H : Heap) (locs : List Loc) (ls : Array Slot), j_X11_worth_117 Q K83 x1 x2 x3 x4 x6 s0 s1 h g → gG D cy ad (gA ad s.heap.size) s.heap h g H locs → lv_has ls 7 [(0, .ref (ad 135)), (1, .int x1), (2, .int x2), (3, .int x3), (4, .int x4), (6, .int x6)] → W p l e ({ frames := 3, cells := 0, slots := 0, locals := 69 } : Room) s m args below meth c H locs 0 0 (MQ below (va_Qi (fun (r : Int32) (u : HI × HL) => Q r u.1 u.2) (gB D cy ad s.heap.size) (gA ad s.heap.size)) args s 0 0 (gA ad s.heap.size)) (F0 m 117 ls [.int s1, .int s0]) := by
    intro K83 hK83 x1 x2 x3 x4 x6 s0 s1 h g H locs ls HW hG hl
    unfold j_X11_worth_117 at HW
    refine lv_iadd hx hb dX11_worth_117 ?_
    refine lv_topi (fun x5_118 ex5_118 => ?_)
    replace HW := HW x5_118 ex5_118
    refine lv_istore (lv' := [(5, .int x5_118), (0, .ref (ad 135)), (1, .int x1), (2, .int x2), (3, .int x3), (4, .int x4), (6, .int x6)]) hx hb dX11_worth_118 hl (by decide) rfl (fun ls hl => ?_)
    obtain ⟨x6_120, ex6_120⟩ : ∃ y : Int32, y = (x6 + 1) := ⟨_, rfl⟩
    replace HW := HW x6_120 ex6_120
    refine lv_iinc (v := x6_120) (lv' := [(6, .int x6_120), (5, .int x5_118), (0, .ref (ad 135)), (1, .int x1), (2, .int x2), (3, .int x3), (4, .int x4)]) hx hb dX11_worth_120 hl (k := 6) rfl (by rw [ex6_120]; rfl) (by decide) rfl (fun ls hl => ?_)
    refine lv_goto (tgt := 83) hx hb dX11_worth_123 (by decide) ?_
    exact hK83 x1 x2 x3 x4 x5_118 x6_120 h g _ _ _ HW hG (lv_sub hl [2, 3, 4, 5, 6, 1, 0] rfl)
  have L83 : ∀ (n : Nat) (x1 : Int32) (x2 : Int32) (x3 : Int32) (x4 : Int32) (x5 : Int32) (x6 : Int32) (h : HI) (g : HL) (H : Heap) (locs : List Loc) (ls : Array Slot), lpN (F_X11_worth_83 Q) n (x1, x2, x3, x4, x5, x6, h, g) → gG D cy ad (gA ad s.heap.size) s.heap h g H locs → lv_has ls 7 [(0, .ref (ad 135)), (1, .int x1), (2, .int x2), (3, .int x3), (4, .int x4), (5, .int x5), (6, .int x6)] → W p l e ({ frames := 3, cells := 0, slots := 0, locals := 69 } : Room) s m args below meth c H locs 0 0 (MQ below (va_Qi (fun (r : Int32) (u : HI × HL) => Q r u.1 u.2) (gB D cy ad s.heap.size) (gA ad s.heap.size)) args s 0 0 (gA ad s.heap.size)) (F0 m 83 ls []) := by
    intro n
    induction n with
    | zero => intro x1 x2 x3 x4 x5 x6 h g H locs ls HW; exact HW.elim
    | succ n ih =>
      intro x1 x2 x3 x4 x5 x6 h g H locs ls HW hG hl
      have HW : b_X11_worth_83 Q (fun x1 x2 x3 x4 x5 x6 h g => lpN (F_X11_worth_83 Q) n (x1, x2, x3, x4, x5, x6, h, g)) x1 x2 x3 x4 x5 x6 h g := HW
      generalize hKe : (fun (x1 : Int32) (x2 : Int32) (x3 : Int32) (x4 : Int32) (x5 : Int32) (x6 : Int32) (h : HI) (g : HL) => lpN (F_X11_worth_83 Q) n (x1, x2, x3, x4, x5, x6, h, g)) = K83 at HW
      have hK83 : ∀ (x1 : Int32) (x2 : Int32) (x3 : Int32) (x4 : Int32) (x5 : Int32) (x6 : Int32) (h : HI) (g : HL) (H : Heap) (locs : List Loc) (ls : Array Slot), K83 x1 x2 x3 x4 x5 x6 h g → gG D cy ad (gA ad s.heap.size) s.heap h g H locs → lv_has ls 7 [(0, .ref (ad 135)), (1, .int x1), (2, .int x2), (3, .int x3), (4, .int x4), (5, .int x5), (6, .int x6)] → W p l e ({ frames := 3, cells := 0, slots := 0, locals := 69 } : Room) s m args below meth c H locs 0 0 (MQ below (va_Qi (fun (r : Int32) (u : HI × HL) => Q r u.1 u.2) (gB D cy ad s.heap.size) (gA ad s.heap.size)) args s 0 0 (gA ad s.heap.size)) (F0 m 83 ls []) := by subst hKe; exact ih
      clear ih
      clear hKe
      unfold b_X11_worth_83 at HW
      refine lv_iload hx hb dX11_worth_83 (lv_at hl 6 rfl) ?_
      refine lv_iconst (v := 4) hx hb dX11_worth_85 (by decide) ?_
      refine lv_icmp_ge (tgt := 126) hx hb dX11_worth_86 (by decide) (fun c_86 => ?_) (fun c_86 => ?_)
      · replace HW := HW.1 c_86
        refine lv_iload_n hx hb dX11_worth_126 rfl (lv_at hl 3 rfl) ?_
        refine lv_iconst (v := (-1)) hx hb dX11_worth_127 (by decide) ?_
        refine lv_icmp_ne (tgt := 135) hx hb dX11_worth_128 (by decide) (fun c_128 => ?_) (fun c_128 => ?_)
        · replace HW := HW.1 c_128
          refine lv_iload_n hx hb dX11_worth_135 rfl (lv_at hl 1 rfl) ?_
          refine lv_iconst (v := 1) hx hb dX11_worth_136 (by decide) ?_
          refine lv_iconst (v := 4) hx hb dX11_worth_137 (by decide) ?_
          refine lv_iload_n hx hb dX11_worth_138 rfl (lv_at hl 3 rfl) ?_
          refine lv_iconst (v := 4) hx hb dX11_worth_139 (by decide) ?_
          refine lv_irem hx hb dX11_worth_140 (by decide) ?_
          refine lv_imul hx hb dX11_worth_141 ?_
          refine lv_iload_n hx hb dX11_worth_142 rfl (lv_at hl 3 rfl) ?_
          refine lv_iconst (v := 4) hx hb dX11_worth_143 (by decide) ?_
          refine lv_idiv hx hb dX11_worth_144 (by decide) ?_
          refine lv_iconst (v := 4) hx hb dX11_worth_145 (by decide) ?_
          refine lv_irem hx hb dX11_worth_146 (by decide) ?_
          refine lv_iadd hx hb dX11_worth_147 ?_
          refine lv_ishl hx hb dX11_worth_148 ?_
          refine lv_ior hx hb dX11_worth_149 ?_
          exact B150 x2 x5 (x1 ||| ((1 : Int32) <<< ((((4 : Int32) * (x3 - x3 / (4 : Int32) * (4 : Int32))) + ((x3 / (4 : Int32)) - (x3 / (4 : Int32)) / (4 : Int32) * (4 : Int32))) &&& 31))) h g _ _ _ HW hG (lv_sub hl [0, 2, 5] rfl)
        · replace HW := HW.2 c_128
          refine lv_iload_n hx hb dX11_worth_131 rfl (lv_at hl 1 rfl) ?_
          refine lv_goto (tgt := 150) hx hb dX11_worth_132 (by decide) ?_
          exact B150 x2 x5 x1 h g _ _ _ HW hG (lv_sub hl [0, 2, 5] rfl)
      · replace HW := HW.2 c_86
        refine lv_iload hx hb dX11_worth_89 (lv_at hl 5 rfl) ?_
        refine lv_iload hx hb dX11_worth_91 (lv_at hl 4 rfl) ?_
        refine lv_iload hx hb dX11_worth_93 (lv_at hl 6 rfl) ?_
        refine lv_ishr hx hb dX11_worth_95 ?_
        refine lv_iconst (v := 1) hx hb dX11_worth_96 (by decide) ?_
        refine lv_iand hx hb dX11_worth_97 ?_
        refine lv_iconst (v := 1) hx hb dX11_worth_98 (by decide) ?_
        refine lv_icmp_ne (tgt := 116) hx hb dX11_worth_99 (by decide) (fun c_99 => ?_) (fun c_99 => ?_)
        · replace HW := HW.1 c_99
          refine lv_iconst (v := 0) hx hb dX11_worth_116 (by decide) ?_
          exact B117 K83 hK83 x1 x2 x3 x4 x6 x5 (0 : Int32) h g _ _ _ HW hG (lv_sub hl [0, 1, 2, 3, 4, 6] rfl)
        · replace HW := HW.2 c_99
          refine lv_aload_n hx hb dX11_worth_102 rfl (lv_at hl 0 rfl) ?_
          refine g_getr hx hb hw inG11 hown hK hG gl_135 rfl gk_135 (by decide) 0 (by decide) (by rw [gm_135]; decide) (r := 136) gr_135_0 lk7 dX11_worth_103 ?_
          refine lv_sipush (v := 823) hx hb dX11_worth_106 (by decide) ?_
          refine lv_iload hx hb dX11_worth_109 (lv_at hl 6 rfl) ?_
          refine lv_iadd hx hb dX11_worth_111 ?_
          refine g_iald hx hb hK hG gl_136 gk_136 gn_136 HW.1 dX11_worth_112 ?_
          replace HW := HW.2
          refine lv_goto (tgt := 117) hx hb dX11_worth_113 (by decide) ?_
          exact B117 K83 hK83 x1 x2 x3 x4 x6 x5 (h 136 ((823 : Int32) + x6).toNatClampNeg) h g _ _ _ HW hG (lv_sub hl [0, 1, 2, 3, 4, 6] rfl)
  have B68 : ∀ (K6 : Int32 → Int32 → Int32 → Int32 → Int32 → HI → HL → Prop) (hK6 : ∀ (x1 : Int32) (x2 : Int32) (x3 : Int32) (x4 : Int32) (x5 : Int32) (h : HI) (g : HL) (H : Heap) (locs : List Loc) (ls : Array Slot), K6 x1 x2 x3 x4 x5 h g → gG D cy ad (gA ad s.heap.size) s.heap h g H locs → lv_has ls 7 [(0, .ref (ad 135)), (1, .int x1), (2, .int x2), (3, .int x3), (4, .int x4), (5, .int x5)] → W p l e ({ frames := 3, cells := 0, slots := 0, locals := 69 } : Room) s m args below meth c H locs 0 0 (MQ below (va_Qi (fun (r : Int32) (u : HI × HL) => Q r u.1 u.2) (gB D cy ad s.heap.size) (gA ad s.heap.size)) args s 0 0 (gA ad s.heap.size)) (F0 m 6 ls [])) (x1 : Int32) (x2 : Int32) (x3 : Int32) (x5 : Int32) (s0 : Int32) (s1 : Int32) (h : HI) (g : HL) (H : Heap) (locs : List Loc) (ls : Array Slot), j_X11_worth_68 Q K6 x1 x2 x3 x5 s0 s1 h g → gG D cy ad (gA ad s.heap.size) s.heap h g H locs → lv_has ls 7 [(0, .ref (ad 135)), (1, .int x1), (2, .int x2), (3, .int x3), (5, .int x5)] → W p l e ({ frames := 3, cells := 0, slots := 0, locals := 69 } : Room) s m args below meth c H locs 0 0 (MQ below (va_Qi (fun (r : Int32) (u : HI × HL) => Q r u.1 u.2) (gB D cy ad s.heap.size) (gA ad s.heap.size)) args s 0 0 (gA ad s.heap.size)) (F0 m 68 ls [.int s1, .int s0]) := by
    intro K6 hK6 x1 x2 x3 x5 s0 s1 h g H locs ls HW hG hl
    unfold j_X11_worth_68 at HW
    refine lv_ior hx hb dX11_worth_68 ?_
    refine lv_topi (fun x4_69 ex4_69 => ?_)
    replace HW := HW x4_69 ex4_69
    refine lv_istore (lv' := [(4, .int x4_69), (0, .ref (ad 135)), (1, .int x1), (2, .int x2), (3, .int x3), (5, .int x5)]) hx hb dX11_worth_69 hl (by decide) rfl (fun ls hl => ?_)
    obtain ⟨x5_71, ex5_71⟩ : ∃ y : Int32, y = (x5 + 1) := ⟨_, rfl⟩
    replace HW := HW x5_71 ex5_71
    refine lv_iinc (v := x5_71) (lv' := [(5, .int x5_71), (4, .int x4_69), (0, .ref (ad 135)), (1, .int x1), (2, .int x2), (3, .int x3)]) hx hb dX11_worth_71 hl (k := 5) rfl (by rw [ex5_71]; rfl) (by decide) rfl (fun ls hl => ?_)
    refine lv_goto (tgt := 6) hx hb dX11_worth_74 (by decide) ?_
    exact hK6 x1 x2 x3 x4_69 x5_71 h g _ _ _ HW hG (lv_sub hl [2, 3, 4, 5, 1, 0] rfl)
  have B67 : ∀ (K6 : Int32 → Int32 → Int32 → Int32 → Int32 → HI → HL → Prop) (hK6 : ∀ (x1 : Int32) (x2 : Int32) (x3 : Int32) (x4 : Int32) (x5 : Int32) (h : HI) (g : HL) (H : Heap) (locs : List Loc) (ls : Array Slot), K6 x1 x2 x3 x4 x5 h g → gG D cy ad (gA ad s.heap.size) s.heap h g H locs → lv_has ls 7 [(0, .ref (ad 135)), (1, .int x1), (2, .int x2), (3, .int x3), (4, .int x4), (5, .int x5)] → W p l e ({ frames := 3, cells := 0, slots := 0, locals := 69 } : Room) s m args below meth c H locs 0 0 (MQ below (va_Qi (fun (r : Int32) (u : HI × HL) => Q r u.1 u.2) (gB D cy ad s.heap.size) (gA ad s.heap.size)) args s 0 0 (gA ad s.heap.size)) (F0 m 6 ls [])) (x1 : Int32) (x2 : Int32) (x3 : Int32) (x5 : Int32) (s0 : Int32) (h : HI) (g : HL) (H : Heap) (locs : List Loc) (ls : Array Slot), j_X11_worth_67 Q K6 x1 x2 x3 x5 s0 h g → gG D cy ad (gA ad s.heap.size) s.heap h g H locs → lv_has ls 7 [(0, .ref (ad 135)), (1, .int x1), (2, .int x2), (3, .int x3), (5, .int x5)] → W p l e ({ frames := 3, cells := 0, slots := 0, locals := 69 } : Room) s m args below meth c H locs 0 0 (MQ below (va_Qi (fun (r : Int32) (u : HI × HL) => Q r u.1 u.2) (gB D cy ad s.heap.size) (gA ad s.heap.size)) args s 0 0 (gA ad s.heap.size)) (F0 m 67 ls [.int s0]) := by
    intro K6 hK6 x1 x2 x3 x5 s0 h g H locs ls HW hG hl
    unfold j_X11_worth_67 at HW
    refine lv_iconst (v := 0) hx hb dX11_worth_67 (by decide) ?_
    exact B68 K6 hK6 x1 x2 x3 x5 s0 (0 : Int32) h g _ _ _ HW hG (lv_sub hl [0, 1, 2, 3, 4] rfl)
  have B39 : ∀ (K6 : Int32 → Int32 → Int32 → Int32 → Int32 → HI → HL → Prop) (hK6 : ∀ (x1 : Int32) (x2 : Int32) (x3 : Int32) (x4 : Int32) (x5 : Int32) (h : HI) (g : HL) (H : Heap) (locs : List Loc) (ls : Array Slot), K6 x1 x2 x3 x4 x5 h g → gG D cy ad (gA ad s.heap.size) s.heap h g H locs → lv_has ls 7 [(0, .ref (ad 135)), (1, .int x1), (2, .int x2), (3, .int x3), (4, .int x4), (5, .int x5)] → W p l e ({ frames := 3, cells := 0, slots := 0, locals := 69 } : Room) s m args below meth c H locs 0 0 (MQ below (va_Qi (fun (r : Int32) (u : HI × HL) => Q r u.1 u.2) (gB D cy ad s.heap.size) (gA ad s.heap.size)) args s 0 0 (gA ad s.heap.size)) (F0 m 6 ls [])) (x1 : Int32) (x2 : Int32) (x3 : Int32) (x4 : Int32) (x5 : Int32) (s0 : Int32) (h : HI) (g : HL) (H : Heap) (locs : List Loc) (ls : Array Slot), j_X11_worth_39 Q K6 x1 x2 x3 x4 x5 s0 h g → gG D cy ad (gA ad s.heap.size) s.heap h g H locs → lv_has ls 7 [(0, .ref (ad 135)), (1, .int x1), (2, .int x2), (3, .int x3), (4, .int x4), (5, .int x5)] → W p l e ({ frames := 3, cells := 0, slots := 0, locals := 69 } : Room) s m args below meth c H locs 0 0 (MQ below (va_Qi (fun (r : Int32) (u : HI × HL) => Q r u.1 u.2) (gB D cy ad s.heap.size) (gA ad s.heap.size)) args s 0 0 (gA ad s.heap.size)) (F0 m 39 ls [.int s0]) := by
    intro K6 hK6 x1 x2 x3 x4 x5 s0 h g H locs ls HW hG hl
    unfold j_X11_worth_39 at HW
    refine lv_istore (lv' := [(6, .int s0), (0, .ref (ad 135)), (1, .int x1), (2, .int x2), (3, .int x3), (4, .int x4), (5, .int x5)]) hx hb dX11_worth_39 hl (by decide) rfl (fun ls hl => ?_)
    refine lv_iload hx hb dX11_worth_41 (lv_at hl 5 rfl) ?_
    refine lv_aload_n hx hb dX11_worth_43 rfl (lv_at hl 1 rfl) ?_
    refine lv_iload hx hb dX11_worth_44 (lv_at hl 6 rfl) ?_
    refine lv_iload_n hx hb dX11_worth_46 rfl (lv_at hl 3 rfl) ?_
    obtain ⟨P_47, HC_47, HW⟩ := HW
    refine g_callz (g_runV (As := [.int x5, .int x2]) (rest := [.int x4]) ⟨hx, hb, hml, hown, hts⟩ (m_X11_isThere l D cy ad h g H.size x5 x2 P_47 HC_47) (cwV 2 hts (gd_V (wm6 209 rfl rfl) (wm6 211 rfl rfl) (wmp5 (q := (yX11_isThere, 26)) 14 rfl) (wm1 13 rfl rfl) (wm6 212 rfl rfl)) rfl rfl rfl (by decide +kernel) ⟨Nat.le_of_ble_eq_true rfl, Nat.le_of_ble_eq_true rfl⟩) hK hNw hG gl_135 rfl gk_135 (by decide) rfl rfl hl.1 rfl (lv_room (Nat.le_of_ble_eq_true rfl)) dX11_worth_47 ⟨Nat.zero_le _, Nat.zero_le _⟩) hG (fun r_47 h_47 g_47 H locs hz hq hG => ?_)
    replace HW := HW r_47 h_47 g_47 hz hq
    refine lv_if_eq (tgt := 67) hx hb dX11_worth_50 (by decide) (fun c_50 => ?_) (fun c_50 => ?_)
    · replace HW := HW.1 c_50
      exact B67 K6 hK6 x1 x2 x3 x5 x4 h_47 g_47 _ _ _ HW hG (lv_sub hl [1, 2, 3, 4, 6] rfl)
    · replace HW := HW.2 c_50
      refine lv_iload hx hb dX11_worth_53 (lv_at hl 0 rfl) ?_
      refine lv_if_ne (tgt := 67) hx hb dX11_worth_55 (by decide) (fun c_55 => ?_) (fun c_55 => ?_)
      · replace HW := HW.1 c_55
        exact B67 K6 hK6 x1 x2 x3 x5 x4 h_47 g_47 _ _ _ HW hG (lv_sub hl [1, 2, 3, 4, 6] rfl)
      · replace HW := HW.2 c_55
        refine lv_iload_n hx hb dX11_worth_58 rfl (lv_at hl 2 rfl) ?_
        refine lv_iload hx hb dX11_worth_59 (lv_at hl 6 rfl) ?_
        obtain ⟨P_61, HC_61, HW⟩ := HW
        refine g_calli (g_runS (As := [.int x1, .int x5]) (rest := [.int x4]) ⟨hx, hb, hml, hown, hts⟩ (m_X11_canOf l D cy ad h_47 g_47 H.size x1 x5 P_61 HC_61) (va_cwS 2 hts (gd_S (wm6 213 rfl rfl) (wm6 214 rfl rfl) (wm1 13 rfl rfl) (wm6 215 rfl rfl)) rfl rfl rfl (by decide +kernel) ⟨Nat.le_of_ble_eq_true rfl, Nat.le_of_ble_eq_true rfl⟩) hK hNw hG rfl rfl hl.1 rfl (lv_room (Nat.le_of_ble_eq_true rfl)) dX11_worth_61 ⟨Nat.zero_le _, Nat.zero_le _⟩) hG (fun r_61 h_61 g_61 H locs hq hG => ?_)
        replace HW := HW r_61 h_61 g_61 hq
        refine lv_goto (tgt := 68) hx hb dX11_worth_64 (by decide) ?_
        exact B68 K6 hK6 x1 x2 x3 x5 x4 r_61 h_61 g_61 _ _ _ HW hG (lv_sub hl [1, 2, 3, 4, 6] rfl)
  have B38 : ∀ (K6 : Int32 → Int32 → Int32 → Int32 → Int32 → HI → HL → Prop) (hK6 : ∀ (x1 : Int32) (x2 : Int32) (x3 : Int32) (x4 : Int32) (x5 : Int32) (h : HI) (g : HL) (H : Heap) (locs : List Loc) (ls : Array Slot), K6 x1 x2 x3 x4 x5 h g → gG D cy ad (gA ad s.heap.size) s.heap h g H locs → lv_has ls 7 [(0, .ref (ad 135)), (1, .int x1), (2, .int x2), (3, .int x3), (4, .int x4), (5, .int x5)] → W p l e ({ frames := 3, cells := 0, slots := 0, locals := 69 } : Room) s m args below meth c H locs 0 0 (MQ below (va_Qi (fun (r : Int32) (u : HI × HL) => Q r u.1 u.2) (gB D cy ad s.heap.size) (gA ad s.heap.size)) args s 0 0 (gA ad s.heap.size)) (F0 m 6 ls [])) (x1 : Int32) (x2 : Int32) (x3 : Int32) (x4 : Int32) (x5 : Int32) (h : HI) (g : HL) (H : Heap) (locs : List Loc) (ls : Array Slot), j_X11_worth_38 Q K6 x1 x2 x3 x4 x5 h g → gG D cy ad (gA ad s.heap.size) s.heap h g H locs → lv_has ls 7 [(0, .ref (ad 135)), (1, .int x1), (2, .int x2), (3, .int x3), (4, .int x4), (5, .int x5)] → W p l e ({ frames := 3, cells := 0, slots := 0, locals := 69 } : Room) s m args below meth c H locs 0 0 (MQ below (va_Qi (fun (r : Int32) (u : HI × HL) => Q r u.1 u.2) (gB D cy ad s.heap.size) (gA ad s.heap.size)) args s 0 0 (gA ad s.heap.size)) (F0 m 38 ls []) := by
    intro K6 hK6 x1 x2 x3 x4 x5 h g H locs ls HW hG hl
    unfold j_X11_worth_38 at HW
    refine lv_iconst (v := 0) hx hb dX11_worth_38 (by decide) ?_
    exact B39 K6 hK6 x1 x2 x3 x4 x5 (0 : Int32) h g _ _ _ HW hG (lv_sub hl [0, 1, 2, 3, 4, 5] rfl)
  have B34 : ∀ (K6 : Int32 → Int32 → Int32 → Int32 → Int32 → HI → HL → Prop) (hK6 : ∀ (x1 : Int32) (x2 : Int32) (x3 : Int32) (x4 : Int32) (x5 : Int32) (h : HI) (g : HL) (H : Heap) (locs : List Loc) (ls : Array Slot), K6 x1 x2 x3 x4 x5 h g → gG D cy ad (gA ad s.heap.size) s.heap h g H locs → lv_has ls 7 [(0, .ref (ad 135)), (1, .int x1), (2, .int x2), (3, .int x3), (4, .int x4), (5, .int x5)] → W p l e ({ frames := 3, cells := 0, slots := 0, locals := 69 } : Room) s m args below meth c H locs 0 0 (MQ below (va_Qi (fun (r : Int32) (u : HI × HL) => Q r u.1 u.2) (gB D cy ad s.heap.size) (gA ad s.heap.size)) args s 0 0 (gA ad s.heap.size)) (F0 m 6 ls [])) (x1 : Int32) (x2 : Int32) (x3 : Int32) (x4 : Int32) (x5 : Int32) (h : HI) (g : HL) (H : Heap) (locs : List Loc) (ls : Array Slot), j_X11_worth_34 Q K6 x1 x2 x3 x4 x5 h g → gG D cy ad (gA ad s.heap.size) s.heap h g H locs → lv_has ls 7 [(0, .ref (ad 135)), (1, .int x1), (2, .int x2), (3, .int x3), (4, .int x4), (5, .int x5)] → W p l e ({ frames := 3, cells := 0, slots := 0, locals := 69 } : Room) s m args below meth c H locs 0 0 (MQ below (va_Qi (fun (r : Int32) (u : HI × HL) => Q r u.1 u.2) (gB D cy ad s.heap.size) (gA ad s.heap.size)) args s 0 0 (gA ad s.heap.size)) (F0 m 34 ls []) := by
    intro K6 hK6 x1 x2 x3 x4 x5 h g H locs ls HW hG hl
    unfold j_X11_worth_34 at HW
    refine lv_iconst (v := 1) hx hb dX11_worth_34 (by decide) ?_
    refine lv_goto (tgt := 39) hx hb dX11_worth_35 (by decide) ?_
    exact B39 K6 hK6 x1 x2 x3 x4 x5 (1 : Int32) h g _ _ _ HW hG (lv_sub hl [0, 1, 2, 3, 4, 5] rfl)
  have L6 : ∀ (n : Nat) (x1 : Int32) (x2 : Int32) (x3 : Int32) (x4 : Int32) (x5 : Int32) (h : HI) (g : HL) (H : Heap) (locs : List Loc) (ls : Array Slot), lpN (F_X11_worth_6 Q) n (x1, x2, x3, x4, x5, h, g) → gG D cy ad (gA ad s.heap.size) s.heap h g H locs → lv_has ls 7 [(0, .ref (ad 135)), (1, .int x1), (2, .int x2), (3, .int x3), (4, .int x4), (5, .int x5)] → W p l e ({ frames := 3, cells := 0, slots := 0, locals := 69 } : Room) s m args below meth c H locs 0 0 (MQ below (va_Qi (fun (r : Int32) (u : HI × HL) => Q r u.1 u.2) (gB D cy ad s.heap.size) (gA ad s.heap.size)) args s 0 0 (gA ad s.heap.size)) (F0 m 6 ls []) := by
    intro n
    induction n with
    | zero => intro x1 x2 x3 x4 x5 h g H locs ls HW; exact HW.elim
    | succ n ih =>
      intro x1 x2 x3 x4 x5 h g H locs ls HW hG hl
      have HW : b_X11_worth_6 Q (fun x1 x2 x3 x4 x5 h g => lpN (F_X11_worth_6 Q) n (x1, x2, x3, x4, x5, h, g)) x1 x2 x3 x4 x5 h g := HW
      generalize hKe : (fun (x1 : Int32) (x2 : Int32) (x3 : Int32) (x4 : Int32) (x5 : Int32) (h : HI) (g : HL) => lpN (F_X11_worth_6 Q) n (x1, x2, x3, x4, x5, h, g)) = K6 at HW
      have hK6 : ∀ (x1 : Int32) (x2 : Int32) (x3 : Int32) (x4 : Int32) (x5 : Int32) (h : HI) (g : HL) (H : Heap) (locs : List Loc) (ls : Array Slot), K6 x1 x2 x3 x4 x5 h g → gG D cy ad (gA ad s.heap.size) s.heap h g H locs → lv_has ls 7 [(0, .ref (ad 135)), (1, .int x1), (2, .int x2), (3, .int x3), (4, .int x4), (5, .int x5)] → W p l e ({ frames := 3, cells := 0, slots := 0, locals := 69 } : Room) s m args below meth c H locs 0 0 (MQ below (va_Qi (fun (r : Int32) (u : HI × HL) => Q r u.1 u.2) (gB D cy ad s.heap.size) (gA ad s.heap.size)) args s 0 0 (gA ad s.heap.size)) (F0 m 6 ls []) := by subst hKe; exact ih
      clear ih
      clear hKe
      unfold b_X11_worth_6 at HW
      refine lv_iload hx hb dX11_worth_6 (lv_at hl 5 rfl) ?_
      refine lv_iconst (v := 3) hx hb dX11_worth_8 (by decide) ?_
      refine lv_icmp_ge (tgt := 77) hx hb dX11_worth_9 (by decide) (fun c_9 => ?_) (fun c_9 => ?_)
      · replace HW := HW.1 c_9
        refine lv_iconst (v := 0) hx hb dX11_worth_77 (by decide) ?_
        refine lv_istore (lv' := [(5, .int (0 : Int32)), (0, .ref (ad 135)), (1, .int x1), (2, .int x2), (3, .int x3), (4, .int x4)]) hx hb dX11_worth_78 hl (by decide) rfl (fun ls hl => ?_)
        refine lv_iconst (v := 0) hx hb dX11_worth_80 (by decide) ?_
        refine lv_istore (lv' := [(6, .int (0 : Int32)), (5, .int (0 : Int32)), (0, .ref (ad 135)), (1, .int x1), (2, .int x2), (3, .int x3), (4, .int x4)]) hx hb dX11_worth_81 hl (by decide) rfl (fun ls hl => ?_)
        obtain ⟨n_83, HW⟩ := HW
        exact L83 n_83 x1 x2 x3 x4 (0 : Int32) (0 : Int32) h g _ _ _ HW hG (lv_sub hl [2, 3, 4, 5, 6, 1, 0] rfl)
      · replace HW := HW.2 c_9
        refine lv_iload_n hx hb dX11_worth_12 rfl (lv_at hl 3 rfl) ?_
        refine lv_iconst (v := (-1)) hx hb dX11_worth_13 (by decide) ?_
        refine lv_icmp_eq (tgt := 38) hx hb dX11_worth_14 (by decide) (fun c_14 => ?_) (fun c_14 => ?_)
        · replace HW := HW.1 c_14
          exact B38 K6 hK6 x1 x2 x3 x4 x5 h g _ _ _ HW hG (lv_sub hl [0, 1, 2, 3, 4, 5] rfl)
        · replace HW := HW.2 c_14
          refine lv_iload_n hx hb dX11_worth_17 rfl (lv_at hl 3 rfl) ?_
          refine lv_bipush (v := 16) hx hb dX11_worth_18 (by decide) ?_
          refine lv_idiv hx hb dX11_worth_20 (by decide) ?_
          refine lv_iload hx hb dX11_worth_21 (lv_at hl 5 rfl) ?_
          refine lv_icmp_eq (tgt := 34) hx hb dX11_worth_23 (by decide) (fun c_23 => ?_) (fun c_23 => ?_)
          · replace HW := HW.1 c_23
            exact B34 K6 hK6 x1 x2 x3 x4 x5 h g _ _ _ HW hG (lv_sub hl [0, 1, 2, 3, 4, 5] rfl)
          · replace HW := HW.2 c_23
            refine lv_iload_n hx hb dX11_worth_26 rfl (lv_at hl 3 rfl) ?_
            refine lv_iconst (v := 4) hx hb dX11_worth_27 (by decide) ?_
            refine lv_irem hx hb dX11_worth_28 (by decide) ?_
            refine lv_iload hx hb dX11_worth_29 (lv_at hl 5 rfl) ?_
            refine lv_icmp_ne (tgt := 38) hx hb dX11_worth_31 (by decide) (fun c_31 => ?_) (fun c_31 => ?_)
            · replace HW := HW.1 c_31
              exact B38 K6 hK6 x1 x2 x3 x4 x5 h g _ _ _ HW hG (lv_sub hl [0, 1, 2, 3, 4, 5] rfl)
            · replace HW := HW.2 c_31
              exact B34 K6 hK6 x1 x2 x3 x4 x5 h g _ _ _ HW hG (lv_sub hl [0, 1, 2, 3, 4, 5] rfl)
  have E0 : ∀ (H : Heap) (locs : List Loc) (ls : Array Slot), gG D cy ad (gA ad s.heap.size) s.heap h g H locs → lv_has ls 7 [(0, .ref (ad 135)), (1, .int x1), (2, .int x2), (3, .int x3)] → W p l e ({ frames := 3, cells := 0, slots := 0, locals := 69 } : Room) s m args below meth c H locs 0 0 (MQ below (va_Qi (fun (r : Int32) (u : HI × HL) => Q r u.1 u.2) (gB D cy ad s.heap.size) (gA ad s.heap.size)) args s 0 0 (gA ad s.heap.size)) (F0 m 0 ls []) := by
    intro H locs ls hG hl
    unfold w_X11_worth at HW
    refine lv_iconst (v := 0) hx hb dX11_worth_0 (by decide) ?_
    refine lv_istore (lv' := [(4, .int (0 : Int32)), (0, .ref (ad 135)), (1, .int x1), (2, .int x2), (3, .int x3)]) hx hb dX11_worth_1 hl (by decide) rfl (fun ls hl => ?_)
    refine lv_iconst (v := 0) hx hb dX11_worth_3 (by decide) ?_
    refine lv_istore (lv' := [(5, .int (0 : Int32)), (4, .int (0 : Int32)), (0, .ref (ad 135)), (1, .int x1), (2, .int x2), (3, .int x3)]) hx hb dX11_worth_4 hl (by decide) rfl (fun ls hl => ?_)
    obtain ⟨n_6, HW⟩ := HW
    exact L6 n_6 x1 x2 x3 (0 : Int32) (0 : Int32) h g _ _ _ HW hG (lv_sub hl [2, 3, 4, 5, 1, 0] rfl)
  exact E0 _ _ _ hG hl

def j_X11_choice_57 (Q : Int32 → HI → HL → Prop) (K14 : Int32 → Int32 → Int32 → Int32 → Int32 → HI → HL → Prop) (x1 : Int32) (x2 : Int32) (x3 : Int32) (x4 : Int32) (x5 : Int32) (h : HI) (g : HL) : Prop :=
  (∀ x5_57 : Int32, x5_57 = (x5 + 1) → K14 x1 x2 x3 x4 x5_57 h g)
def b_X11_choice_14 (Q : Int32 → HI → HL → Prop) (K14 : Int32 → Int32 → Int32 → Int32 → Int32 → HI → HL → Prop) (x1 : Int32) (x2 : Int32) (x3 : Int32) (x4 : Int32) (x5 : Int32) (h : HI) (g : HL) : Prop :=
  (((48 : Int32) ≤ x5 → (vp_in (((4096 : Int32) * x2) + x1) 36864 ∧ ∀ h_75 : HI, h_75 = hu h 148 (((4096 : Int32) * x2) + x1).toNatClampNeg x3 → Q x4 h_75 g)) ∧ (¬ (48 : Int32) ≤ x5 → (∃ P_26 : Int32 → HI → HL → Prop, w_X11_mayTeach x1 x2 x5 h g P_26 ∧ ∀ (r_26 : Int32) (h_26 : HI) (g_26 : HL), zb r_26 → P_26 r_26 h_26 g_26 → ((r_26 = 0 → j_X11_choice_57 Q K14 x1 x2 x3 x4 x5 h_26 g_26) ∧ (¬ r_26 = 0 → (∃ P_37 : Int32 → HI → HL → Prop, w_X11_worth x1 x2 x5 h_26 g_26 P_37 ∧ ∀ (r_37 : Int32) (h_37 : HI) (g_37 : HL), P_37 r_37 h_37 g_37 → ((r_37 ≤ x3 → j_X11_choice_57 Q K14 x1 x2 x3 x4 x5 h_37 g_37) ∧ (¬ r_37 ≤ x3 → (∃ P_49 : Int32 → HI → HL → Prop, w_X11_worth x1 x2 x5 h_37 g_37 P_49 ∧ ∀ (r_49 : Int32) (h_49 : HI) (g_49 : HL), P_49 r_49 h_49 g_49 → j_X11_choice_57 Q K14 x1 x2 r_49 x5 x5 h_49 g_49)))))))))
def F_X11_choice_14 (Q : Int32 → HI → HL → Prop) (K : Int32 × Int32 × Int32 × Int32 × Int32 × HI × HL → Prop) (q : Int32 × Int32 × Int32 × Int32 × Int32 × HI × HL) : Prop := b_X11_choice_14 Q (fun x1 x2 x3 x4 x5 h g => K (x1, x2, x3, x4, x5, h, g)) q.1 q.2.1 q.2.2.1 q.2.2.2.1 q.2.2.2.2.1 q.2.2.2.2.2.1 q.2.2.2.2.2.2
def w_X11_choice (x1 : Int32) (x2 : Int32) (h : HI) (g : HL) (Q : Int32 → HI → HL → Prop) : Prop :=
  (∃ P_4 : Int32 → HI → HL → Prop, w_X11_worth x1 x2 (-1 : Int32) h g P_4 ∧ ∀ (r_4 : Int32) (h_4 : HI) (g_4 : HL), P_4 r_4 h_4 g_4 → lpE (F_X11_choice_14 Q) (x1, x2, r_4, (-1 : Int32), (0 : Int32), h_4, g_4))
set_option maxHeartbeats 8000000 in
set_option maxRecDepth 100000 in
theorem m_X11_choice (l : Launch) (D : va_G) (cy : Nat → ClassId) (ad : Nat → Nat) (h : HI) (g : HL) (sz : Nat) (x1 : Int32) (x2 : Int32) (Q : Int32 → HI → HL → Prop) (HW : w_X11_choice x1 x2 h g Q) : Met l yX11_choice (wa yX11_choice cX11_choice 6 (some .int)) ({ frames := 4, cells := 0, slots := 0, locals := 95 }) (va_Pc [.ref (ad 135), .int x1, .int x2] (gI D cy ad h g sz)) (va_Qi (fun (r : Int32) (u : HI × HL) => Q r u.1 u.2) (gB D cy ad sz) (gA ad sz)) 0 0 (gA ad sz) := by
  refine Met.ofW (cc := cX11_choice) (maxL := 6) (ret := (some .int)) (by decide) rfl ?_
  intro p e s m args below meth c s₁ B hml hv
  obtain ⟨hav, hsz, hP, hK, hD0, hNw⟩ := hv
  have hx := B.exec
  have hb := B.bytes
  have hr := B.returns
  have hts := atoms_spec (ws := (wa yX11_choice cX11_choice 6 (some .int))) B.pre
  have hw := wa_hw hts
  have hown : s.vm.findClass RX11 = some m.cls := findClass_of_methodNamed B.named
  have hlocks := B.notSynchronized
  subst hsz
  have hG : gG D cy ad (gA ad s.heap.size) s.heap h g s.heap [] := ⟨hP, gA_self hD0, va_S.rf⟩
  clear hP hD0
  have lk49 := hw (.fieldLink RX11 49 "OldWorksModel" "most" "[I") (wm5 52 rfl rfl)
  rw [show (headSpec (wa yX11_choice cX11_choice 6 (some .int)) ({ frames := 4, cells := 0, slots := 0, locals := 95 } : Room)).room = ({ frames := 4, cells := 0, slots := 0, locals := 95 } : Room) from rfl]
  have hl := lv_entry ([.ref (ad 135), .int x1, .int x2]) (n := 6) (Nat.le_of_ble_eq_true rfl)
  rw [show entryFrame m args 6 = entryFrame m ([.ref (ad 135), .int x1, .int x2] : List Value).toArray 6 from by rw [hav], lg_entry_eq]
  generalize (lg_sl ([.ref (ad 135), .int x1, .int x2]) ++ List.replicate (6 - (lg_sl ([.ref (ad 135), .int x1, .int x2])).length) Slot.unset).toArray = ls at hl ⊢
  have hl : lv_has ls 6 [(0, .ref (ad 135)), (1, .int x1), (2, .int x2)] := hl
  have B57 : ∀ (K14 : Int32 → Int32 → Int32 → Int32 → Int32 → HI → HL → Prop) (hK14 : ∀ (x1 : Int32) (x2 : Int32) (x3 : Int32) (x4 : Int32) (x5 : Int32) (h : HI) (g : HL) (H : Heap) (locs : List Loc) (ls : Array Slot), K14 x1 x2 x3 x4 x5 h g → gG D cy ad (gA ad s.heap.size) s.heap h g H locs → lv_has ls 6 [(0, .ref (ad 135)), (1, .int x1), (2, .int x2), (3, .int x3), (4, .int x4), (5, .int x5)] → W p l e ({ frames := 4, cells := 0, slots := 0, locals := 95 } : Room) s m args below meth c H locs 0 0 (MQ below (va_Qi (fun (r : Int32) (u : HI × HL) => Q r u.1 u.2) (gB D cy ad s.heap.size) (gA ad s.heap.size)) args s 0 0 (gA ad s.heap.size)) (F0 m 14 ls [])) (x1 : Int32) (x2 : Int32) (x3 : Int32) (x4 : Int32) (x5 : Int32) (h : HI) (g : HL) (H : Heap) (locs : List Loc) (ls : Array Slot), j_X11_choice_57 Q K14 x1 x2 x3 x4 x5 h g → gG D cy ad (gA ad s.heap.size) s.heap h g H locs → lv_has ls 6 [(0, .ref (ad 135)), (1, .int x1), (2, .int x2), (3, .int x3), (4, .int x4), (5, .int x5)] → W p l e ({ frames := 4, cells := 0, slots := 0, locals := 95 } : Room) s m args below meth c H locs 0 0 (MQ below (va_Qi (fun (r : Int32) (u : HI × HL) => Q r u.1 u.2) (gB D cy ad s.heap.size) (gA ad s.heap.size)) args s 0 0 (gA ad s.heap.size)) (F0 m 57 ls []) := by
    intro K14 hK14 x1 x2 x3 x4 x5 h g H locs ls HW hG hl
    unfold j_X11_choice_57 at HW
    obtain ⟨x5_57, ex5_57⟩ : ∃ y : Int32, y = (x5 + 1) := ⟨_, rfl⟩
    replace HW := HW x5_57 ex5_57
    refine lv_iinc (v := x5_57) (lv' := [(5, .int x5_57), (0, .ref (ad 135)), (1, .int x1), (2, .int x2), (3, .int x3), (4, .int x4)]) hx hb dX11_choice_57 hl (k := 5) rfl (by rw [ex5_57]; rfl) (by decide) rfl (fun ls hl => ?_)
    refine lv_goto (tgt := 14) hx hb dX11_choice_60 (by decide) ?_
    exact hK14 x1 x2 x3 x4 x5_57 h g _ _ _ HW hG (lv_sub hl [1, 2, 3, 4, 5, 0] rfl)
  have L14 : ∀ (n : Nat) (x1 : Int32) (x2 : Int32) (x3 : Int32) (x4 : Int32) (x5 : Int32) (h : HI) (g : HL) (H : Heap) (locs : List Loc) (ls : Array Slot), lpN (F_X11_choice_14 Q) n (x1, x2, x3, x4, x5, h, g) → gG D cy ad (gA ad s.heap.size) s.heap h g H locs → lv_has ls 6 [(0, .ref (ad 135)), (1, .int x1), (2, .int x2), (3, .int x3), (4, .int x4), (5, .int x5)] → W p l e ({ frames := 4, cells := 0, slots := 0, locals := 95 } : Room) s m args below meth c H locs 0 0 (MQ below (va_Qi (fun (r : Int32) (u : HI × HL) => Q r u.1 u.2) (gB D cy ad s.heap.size) (gA ad s.heap.size)) args s 0 0 (gA ad s.heap.size)) (F0 m 14 ls []) := by
    intro n
    induction n with
    | zero => intro x1 x2 x3 x4 x5 h g H locs ls HW; exact HW.elim
    | succ n ih =>
      intro x1 x2 x3 x4 x5 h g H locs ls HW hG hl
      have HW : b_X11_choice_14 Q (fun x1 x2 x3 x4 x5 h g => lpN (F_X11_choice_14 Q) n (x1, x2, x3, x4, x5, h, g)) x1 x2 x3 x4 x5 h g := HW
      generalize hKe : (fun (x1 : Int32) (x2 : Int32) (x3 : Int32) (x4 : Int32) (x5 : Int32) (h : HI) (g : HL) => lpN (F_X11_choice_14 Q) n (x1, x2, x3, x4, x5, h, g)) = K14 at HW
      have hK14 : ∀ (x1 : Int32) (x2 : Int32) (x3 : Int32) (x4 : Int32) (x5 : Int32) (h : HI) (g : HL) (H : Heap) (locs : List Loc) (ls : Array Slot), K14 x1 x2 x3 x4 x5 h g → gG D cy ad (gA ad s.heap.size) s.heap h g H locs → lv_has ls 6 [(0, .ref (ad 135)), (1, .int x1), (2, .int x2), (3, .int x3), (4, .int x4), (5, .int x5)] → W p l e ({ frames := 4, cells := 0, slots := 0, locals := 95 } : Room) s m args below meth c H locs 0 0 (MQ below (va_Qi (fun (r : Int32) (u : HI × HL) => Q r u.1 u.2) (gB D cy ad s.heap.size) (gA ad s.heap.size)) args s 0 0 (gA ad s.heap.size)) (F0 m 14 ls []) := by subst hKe; exact ih
      clear ih
      clear hKe
      unfold b_X11_choice_14 at HW
      refine lv_iload hx hb dX11_choice_14 (lv_at hl 5 rfl) ?_
      refine lv_bipush (v := 48) hx hb dX11_choice_16 (by decide) ?_
      refine lv_icmp_ge (tgt := 63) hx hb dX11_choice_18 (by decide) (fun c_18 => ?_) (fun c_18 => ?_)
      · replace HW := HW.1 c_18
        refine lv_aload_n hx hb dX11_choice_63 rfl (lv_at hl 0 rfl) ?_
        refine g_getr hx hb hw inG11 hown hK hG gl_135 rfl gk_135 (by decide) 25 (by decide) (by rw [gm_135]; decide) (r := 148) gr_135_25 lk49 dX11_choice_64 ?_
        refine lv_sipush (v := 4096) hx hb dX11_choice_67 (by decide) ?_
        refine lv_iload_n hx hb dX11_choice_70 rfl (lv_at hl 2 rfl) ?_
        refine lv_imul hx hb dX11_choice_71 ?_
        refine lv_iload_n hx hb dX11_choice_72 rfl (lv_at hl 1 rfl) ?_
        refine lv_iadd hx hb dX11_choice_73 ?_
        refine lv_iload_n hx hb dX11_choice_74 rfl (lv_at hl 3 rfl) ?_
        refine g_iast hx hb hK hG gl_148 gk_148 gn_148 HW.1 dX11_choice_75 (fun H locs hG => ?_)
        replace HW := HW.2
        obtain ⟨h_75, eh_75⟩ : ∃ y : HI, y = hu h 148 (((4096 : Int32) * x2) + x1).toNatClampNeg x3 := ⟨_, rfl⟩
        rw [← eh_75] at hG
        replace HW := HW h_75 eh_75
        refine lv_iload hx hb dX11_choice_76 (lv_at hl 4 rfl) ?_
        exact W.iret (v := x4) hx hb hr (fun t ht hW => ⟨⟨x4, (h_75, g), rfl, HW, g_B ht hG⟩, hG.2.2.F ht⟩) hG.2.2.2.2 dX11_choice_78
      · replace HW := HW.2 c_18
        refine lv_aload_n hx hb dX11_choice_21 rfl (lv_at hl 0 rfl) ?_
        refine lv_iload_n hx hb dX11_choice_22 rfl (lv_at hl 1 rfl) ?_
        refine lv_iload_n hx hb dX11_choice_23 rfl (lv_at hl 2 rfl) ?_
        refine lv_iload hx hb dX11_choice_24 (lv_at hl 5 rfl) ?_
        obtain ⟨P_26, HC_26, HW⟩ := HW
        refine g_callz (g_runV (As := [.int x1, .int x2, .int x5]) (rest := []) ⟨hx, hb, hml, hown, hts⟩ (m_X11_mayTeach l D cy ad h g H.size x1 x2 x5 P_26 HC_26) (cwV 3 hts (gd_V (wm6 216 rfl rfl) (wm6 218 rfl rfl) (wmp5 (q := (yX11_mayTeach, 26)) 15 rfl) (wm1 13 rfl rfl) (wm6 219 rfl rfl)) rfl rfl rfl (by decide +kernel) ⟨Nat.le_of_ble_eq_true rfl, Nat.le_of_ble_eq_true rfl⟩) hK hNw hG gl_135 rfl gk_135 (by decide) rfl rfl hl.1 rfl (lv_room (Nat.le_of_ble_eq_true rfl)) dX11_choice_26 ⟨Nat.zero_le _, Nat.zero_le _⟩) hG (fun r_26 h_26 g_26 H locs hz hq hG => ?_)
        replace HW := HW r_26 h_26 g_26 hz hq
        refine lv_if_eq (tgt := 57) hx hb dX11_choice_29 (by decide) (fun c_29 => ?_) (fun c_29 => ?_)
        · replace HW := HW.1 c_29
          exact B57 K14 hK14 x1 x2 x3 x4 x5 h_26 g_26 _ _ _ HW hG (lv_sub hl [0, 1, 2, 3, 4, 5] rfl)
        · replace HW := HW.2 c_29
          refine lv_aload_n hx hb dX11_choice_32 rfl (lv_at hl 0 rfl) ?_
          refine lv_iload_n hx hb dX11_choice_33 rfl (lv_at hl 1 rfl) ?_
          refine lv_iload_n hx hb dX11_choice_34 rfl (lv_at hl 2 rfl) ?_
          refine lv_iload hx hb dX11_choice_35 (lv_at hl 5 rfl) ?_
          obtain ⟨P_37, HC_37, HW⟩ := HW
          refine g_calli (g_runV (As := [.int x1, .int x2, .int x5]) (rest := []) ⟨hx, hb, hml, hown, hts⟩ (m_X11_worth l D cy ad h_26 g_26 H.size x1 x2 x5 P_37 HC_37) (cwV 3 hts (gd_V (wm6 205 rfl rfl) (wm6 207 rfl rfl) (wmp5 (q := (yX11_worth, 26)) 13 rfl) (wm1 13 rfl rfl) (wm6 208 rfl rfl)) rfl rfl rfl (by decide +kernel) ⟨Nat.le_of_ble_eq_true rfl, Nat.le_of_ble_eq_true rfl⟩) hK hNw hG gl_135 rfl gk_135 (by decide) rfl rfl hl.1 rfl (lv_room (Nat.le_of_ble_eq_true rfl)) dX11_choice_37 ⟨Nat.zero_le _, Nat.zero_le _⟩) hG (fun r_37 h_37 g_37 H locs hq hG => ?_)
          replace HW := HW r_37 h_37 g_37 hq
          refine lv_iload_n hx hb dX11_choice_40 rfl (lv_at hl 3 rfl) ?_
          refine lv_icmp_le (tgt := 57) hx hb dX11_choice_41 (by decide) (fun c_41 => ?_) (fun c_41 => ?_)
          · replace HW := HW.1 c_41
            exact B57 K14 hK14 x1 x2 x3 x4 x5 h_37 g_37 _ _ _ HW hG (lv_sub hl [0, 1, 2, 3, 4, 5] rfl)
          · replace HW := HW.2 c_41
            refine lv_aload_n hx hb dX11_choice_44 rfl (lv_at hl 0 rfl) ?_
            refine lv_iload_n hx hb dX11_choice_45 rfl (lv_at hl 1 rfl) ?_
            refine lv_iload_n hx hb dX11_choice_46 rfl (lv_at hl 2 rfl) ?_
            refine lv_iload hx hb dX11_choice_47 (lv_at hl 5 rfl) ?_
            obtain ⟨P_49, HC_49, HW⟩ := HW
            refine g_calli (g_runV (As := [.int x1, .int x2, .int x5]) (rest := []) ⟨hx, hb, hml, hown, hts⟩ (m_X11_worth l D cy ad h_37 g_37 H.size x1 x2 x5 P_49 HC_49) (cwV 3 hts (gd_V (wm6 205 rfl rfl) (wm6 207 rfl rfl) (wmp5 (q := (yX11_worth, 26)) 13 rfl) (wm1 13 rfl rfl) (wm6 208 rfl rfl)) rfl rfl rfl (by decide +kernel) ⟨Nat.le_of_ble_eq_true rfl, Nat.le_of_ble_eq_true rfl⟩) hK hNw hG gl_135 rfl gk_135 (by decide) rfl rfl hl.1 rfl (lv_room (Nat.le_of_ble_eq_true rfl)) dX11_choice_49 ⟨Nat.zero_le _, Nat.zero_le _⟩) hG (fun r_49 h_49 g_49 H locs hq hG => ?_)
            replace HW := HW r_49 h_49 g_49 hq
            refine lv_istore_n (lv' := [(3, .int r_49), (0, .ref (ad 135)), (1, .int x1), (2, .int x2), (4, .int x4), (5, .int x5)]) hx hb dX11_choice_52 rfl hl (by decide) rfl (fun ls hl => ?_)
            refine lv_iload hx hb dX11_choice_53 (lv_at hl 5 rfl) ?_
            refine lv_istore (lv' := [(4, .int x5), (3, .int r_49), (0, .ref (ad 135)), (1, .int x1), (2, .int x2), (5, .int x5)]) hx hb dX11_choice_55 hl (by decide) rfl (fun ls hl => ?_)
            exact B57 K14 hK14 x1 x2 r_49 x5 x5 h_49 g_49 _ _ _ HW hG (lv_sub hl [2, 3, 4, 1, 0, 5] rfl)
  have E0 : ∀ (H : Heap) (locs : List Loc) (ls : Array Slot), gG D cy ad (gA ad s.heap.size) s.heap h g H locs → lv_has ls 6 [(0, .ref (ad 135)), (1, .int x1), (2, .int x2)] → W p l e ({ frames := 4, cells := 0, slots := 0, locals := 95 } : Room) s m args below meth c H locs 0 0 (MQ below (va_Qi (fun (r : Int32) (u : HI × HL) => Q r u.1 u.2) (gB D cy ad s.heap.size) (gA ad s.heap.size)) args s 0 0 (gA ad s.heap.size)) (F0 m 0 ls []) := by
    intro H locs ls hG hl
    unfold w_X11_choice at HW
    refine lv_aload_n hx hb dX11_choice_0 rfl (lv_at hl 0 rfl) ?_
    refine lv_iload_n hx hb dX11_choice_1 rfl (lv_at hl 1 rfl) ?_
    refine lv_iload_n hx hb dX11_choice_2 rfl (lv_at hl 2 rfl) ?_
    refine lv_iconst (v := (-1)) hx hb dX11_choice_3 (by decide) ?_
    obtain ⟨P_4, HC_4, HW⟩ := HW
    refine g_calli (g_runV (As := [.int x1, .int x2, .int (-1 : Int32)]) (rest := []) ⟨hx, hb, hml, hown, hts⟩ (m_X11_worth l D cy ad h g H.size x1 x2 (-1 : Int32) P_4 HC_4) (cwV 3 hts (gd_V (wm6 205 rfl rfl) (wm6 207 rfl rfl) (wmp5 (q := (yX11_worth, 26)) 13 rfl) (wm1 13 rfl rfl) (wm6 208 rfl rfl)) rfl rfl rfl (by decide +kernel) ⟨Nat.le_of_ble_eq_true rfl, Nat.le_of_ble_eq_true rfl⟩) hK hNw hG gl_135 rfl gk_135 (by decide) rfl rfl hl.1 rfl (lv_room (Nat.le_of_ble_eq_true rfl)) dX11_choice_4 ⟨Nat.zero_le _, Nat.zero_le _⟩) hG (fun r_4 h_4 g_4 H locs hq hG => ?_)
    replace HW := HW r_4 h_4 g_4 hq
    refine lv_istore_n (lv' := [(3, .int r_4), (0, .ref (ad 135)), (1, .int x1), (2, .int x2)]) hx hb dX11_choice_7 rfl hl (by decide) rfl (fun ls hl => ?_)
    refine lv_iconst (v := (-1)) hx hb dX11_choice_8 (by decide) ?_
    refine lv_istore (lv' := [(4, .int (-1 : Int32)), (3, .int r_4), (0, .ref (ad 135)), (1, .int x1), (2, .int x2)]) hx hb dX11_choice_9 hl (by decide) rfl (fun ls hl => ?_)
    refine lv_iconst (v := 0) hx hb dX11_choice_11 (by decide) ?_
    refine lv_istore (lv' := [(5, .int (0 : Int32)), (4, .int (-1 : Int32)), (3, .int r_4), (0, .ref (ad 135)), (1, .int x1), (2, .int x2)]) hx hb dX11_choice_12 hl (by decide) rfl (fun ls hl => ?_)
    obtain ⟨n_14, HW⟩ := HW
    exact L14 n_14 x1 x2 r_4 (-1 : Int32) (0 : Int32) h_4 g_4 _ _ _ HW hG (lv_sub hl [3, 4, 5, 2, 1, 0] rfl)
  exact E0 _ _ _ hG hl

def j_X11_plan_200 (Q : Int32 → HI → HL → Prop) (K159 : Int32 → Int32 → Int32 → Int32 → HI → HL → Prop) (x2 : Int32) (x4 : Int32) (x5 : Int32) (s0 : Int32) (s1 : Int32) (h : HI) (g : HL) : Prop :=
  (∀ x3_201 : Int32, x3_201 = (s0 ||| s1) → (∀ x5_202 : Int32, x5_202 = (x5 + 1) → K159 x2 x3_201 x4 x5_202 h g))
def b_X11_plan_159 (Q : Int32 → HI → HL → Prop) (K159 : Int32 → Int32 → Int32 → Int32 → HI → HL → Prop) (x2 : Int32) (x3 : Int32) (x4 : Int32) (x5 : Int32) (h : HI) (g : HL) : Prop :=
  ((x2 < x5 → ((¬ x4 = (-1 : Int32) → Q x4 h g) ∧ (x4 = (-1 : Int32) → Q (-5 : Int32) h g))) ∧ (¬ x2 < x5 → (∃ P_169 : Int32 → HI → HL → Prop, w_X11_choice x3 x5 h g P_169 ∧ ∀ (r_169 : Int32) (h_169 : HI) (g_169 : HL), P_169 r_169 h_169 g_169 → ((¬ r_169 = (-1 : Int32) → j_X11_plan_200 Q K159 x2 r_169 x5 x3 ((1 : Int32) <<< ((((4 : Int32) * (r_169 - r_169 / (4 : Int32) * (4 : Int32))) + ((r_169 / (4 : Int32)) - (r_169 / (4 : Int32)) / (4 : Int32) * (4 : Int32))) &&& 31)) h_169 g_169) ∧ (r_169 = (-1 : Int32) → j_X11_plan_200 Q K159 x2 r_169 x5 x3 (0 : Int32) h_169 g_169)))))
def F_X11_plan_159 (Q : Int32 → HI → HL → Prop) (K : Int32 × Int32 × Int32 × Int32 × HI × HL → Prop) (q : Int32 × Int32 × Int32 × Int32 × HI × HL) : Prop := b_X11_plan_159 Q (fun x2 x3 x4 x5 h g => K (x2, x3, x4, x5, h, g)) q.1 q.2.1 q.2.2.1 q.2.2.2.1 q.2.2.2.2.1 q.2.2.2.2.2
def b_X11_plan_102 (Q : Int32 → HI → HL → Prop) (K102 : Int32 → Int32 → Int32 → HI → HL → Prop) (x2 : Int32) (x3 : Int32) (x4 : Int32) (h : HI) (g : HL) : Prop :=
  (vp_in (7 : Int32) 887 ∧ (((h 136 (7 : Int32).toNatClampNeg) ≤ x4 → ((¬ x2 = (-1 : Int32) → lpE (F_X11_plan_159 Q) (x2, x3, (-1 : Int32), (0 : Int32), h, g)) ∧ (x2 = (-1 : Int32) → (vp_in x3 36864 ∧ Q (h 148 x3.toNatClampNeg) h g)))) ∧ (¬ (h 136 (7 : Int32).toNatClampNeg) ≤ x4 → (vp_in ((817 : Int32) + ((2 : Int32) * x4)) 887 ∧ (∀ x3_134 : Int32, x3_134 = (x3 ||| ((h 136 ((817 : Int32) + ((2 : Int32) * x4)).toNatClampNeg) <<< (((4 : Int32) * x4) &&& 31))) → (∀ x4_135 : Int32, x4_135 = (x4 + 1) → K102 x2 x3_134 x4_135 h g))))))
def F_X11_plan_102 (Q : Int32 → HI → HL → Prop) (K : Int32 × Int32 × Int32 × HI × HL → Prop) (q : Int32 × Int32 × Int32 × HI × HL) : Prop := b_X11_plan_102 Q (fun x2 x3 x4 h g => K (x2, x3, x4, h, g)) q.1 q.2.1 q.2.2.1 q.2.2.2.1 q.2.2.2.2
def b_X11_plan_69 (Q : Int32 → HI → HL → Prop) (K62 : Int32 → Int32 → HI → HL → Prop) (K69 : Int32 → Int32 → Int32 → HI → HL → Prop) (x2 : Int32) (x3 : Int32) (x4 : Int32) (h : HI) (g : HL) : Prop :=
  (((4096 : Int32) ≤ x4 → (∀ x3_91 : Int32, x3_91 = (x3 + (-1)) → K62 x2 x3_91 h g)) ∧ (¬ (4096 : Int32) ≤ x4 → (∃ P_81 : Int32 → HI → HL → Prop, w_X11_choice x4 x3 h g P_81 ∧ ∀ (r_81 : Int32) (h_81 : HI) (g_81 : HL), P_81 r_81 h_81 g_81 → (∀ x4_85 : Int32, x4_85 = (x4 + 1) → K69 x2 x3 x4_85 h_81 g_81))))
def F_X11_plan_69 (Q : Int32 → HI → HL → Prop) (K62 : Int32 → Int32 → HI → HL → Prop) (K : Int32 × Int32 × Int32 × HI × HL → Prop) (q : Int32 × Int32 × Int32 × HI × HL) : Prop := b_X11_plan_69 Q K62 (fun x2 x3 x4 h g => K (x2, x3, x4, h, g)) q.1 q.2.1 q.2.2.1 q.2.2.2.1 q.2.2.2.2
def b_X11_plan_62 (Q : Int32 → HI → HL → Prop) (K62 : Int32 → Int32 → HI → HL → Prop) (x2 : Int32) (x3 : Int32) (h : HI) (g : HL) : Prop :=
  ((x3 < 0 → lpE (F_X11_plan_102 Q) (x2, (0 : Int32), (0 : Int32), h, g)) ∧ (¬ x3 < 0 → lpE (F_X11_plan_69 Q K62) (x2, x3, (0 : Int32), h, g)))
def F_X11_plan_62 (Q : Int32 → HI → HL → Prop) (K : Int32 × Int32 × HI × HL → Prop) (q : Int32 × Int32 × HI × HL) : Prop := b_X11_plan_62 Q (fun x2 x3 h g => K (x2, x3, h, g)) q.1 q.2.1 q.2.2.1 q.2.2.2
def b_X11_plan_32 (Q : Int32 → HI → HL → Prop) (K32 : Int32 → Int32 → Int32 → HI → HL → Prop) (x1 : Int32) (x2 : Int32) (x3 : Int32) (h : HI) (g : HL) : Prop :=
  (((4096 : Int32) ≤ x3 → (∀ x3_61 : Int32, x3_61 = (x1 - (1 : Int32)) → lpE (F_X11_plan_62 Q) (x2, x3_61, h, g))) ∧ (¬ (4096 : Int32) ≤ x3 → (vp_in (((4096 : Int32) * x1) + x3) 36864 ∧ ∀ h_51 : HI, h_51 = hu h 148 (((4096 : Int32) * x1) + x3).toNatClampNeg (0 : Int32) → (∀ x3_52 : Int32, x3_52 = (x3 + 1) → K32 x1 x2 x3_52 h_51 g))))
def F_X11_plan_32 (Q : Int32 → HI → HL → Prop) (K : Int32 × Int32 × Int32 × HI × HL → Prop) (q : Int32 × Int32 × Int32 × HI × HL) : Prop := b_X11_plan_32 Q (fun x1 x2 x3 h g => K (x1, x2, x3, h, g)) q.1 q.2.1 q.2.2.1 q.2.2.2.1 q.2.2.2.2
def w_X11_plan (x1 : Int32) (x2 : Int32) (h : HI) (g : HL) (Q : Int32 → HI → HL → Prop) : Prop :=
  (∃ P_6 : Int32 → HI → HL → Prop, w_X11_in ((x1).toInt64) (1 : Int64) (8 : Int64) h g P_6 ∧ ∀ (r_6 : Int32) (h_6 : HI) (g_6 : HL), zb r_6 → P_6 r_6 h_6 g_6 → ((r_6 = 0 → Q (-10 : Int32) h_6 g_6) ∧ (¬ r_6 = 0 → (∃ P_21 : Int32 → HI → HL → Prop, w_X11_in ((x2).toInt64) (-1 : Int64) (((x1 - (1 : Int32))).toInt64) h_6 g_6 P_21 ∧ ∀ (r_21 : Int32) (h_21 : HI) (g_21 : HL), zb r_21 → P_21 r_21 h_21 g_21 → ((¬ r_21 = 0 → lpE (F_X11_plan_32 Q) (x1, x2, (0 : Int32), h_21, g_21)) ∧ (r_21 = 0 → Q (-10 : Int32) h_21 g_21))))))
set_option maxHeartbeats 8000000 in
set_option maxRecDepth 100000 in
theorem m_X11_plan (l : Launch) (D : va_G) (cy : Nat → ClassId) (ad : Nat → Nat) (h : HI) (g : HL) (sz : Nat) (x1 : Int32) (x2 : Int32) (Q : Int32 → HI → HL → Prop) (HW : w_X11_plan x1 x2 h g Q) : Met l yX11_plan (wa yX11_plan cX11_plan 6 (some .int)) ({ frames := 5, cells := 0, slots := 0, locals := 120 }) (va_Pc [.ref (ad 135), .int x1, .int x2] (gI D cy ad h g sz)) (va_Qi (fun (r : Int32) (u : HI × HL) => Q r u.1 u.2) (gB D cy ad sz) (gA ad sz)) 0 0 (gA ad sz) := by
  refine Met.ofW (cc := cX11_plan) (maxL := 6) (ret := (some .int)) (by decide) rfl ?_
  intro p e s m args below meth c s₁ B hml hv
  obtain ⟨hav, hsz, hP, hK, hD0, hNw⟩ := hv
  have hx := B.exec
  have hb := B.bytes
  have hr := B.returns
  have hts := atoms_spec (ws := (wa yX11_plan cX11_plan 6 (some .int))) B.pre
  have hw := wa_hw hts
  have hown : s.vm.findClass RX11 = some m.cls := findClass_of_methodNamed B.named
  have hlocks := B.notSynchronized
  subst hsz
  have hG : gG D cy ad (gA ad s.heap.size) s.heap h g s.heap [] := ⟨hP, gA_self hD0, va_S.rf⟩
  clear hP hD0
  have cn306 := hw (.constantLong RX11 306 (8)) (wm6 200 rfl rfl)
  have cn65 := hw (.constantLong RX11 65 (-1)) (wm5 118 rfl rfl)
  have lk49 := hw (.fieldLink RX11 49 "OldWorksModel" "most" "[I") (wm5 52 rfl rfl)
  have lk7 := hw (.fieldLink RX11 7 "OldWorksModel" "st" "[I") (wm5 27 rfl rfl)
  rw [show (headSpec (wa yX11_plan cX11_plan 6 (some .int)) ({ frames := 5, cells := 0, slots := 0, locals := 120 } : Room)).room = ({ frames := 5, cells := 0, slots := 0, locals := 120 } : Room) from rfl]
  have hl := lv_entry ([.ref (ad 135), .int x1, .int x2]) (n := 6) (Nat.le_of_ble_eq_true rfl)
  rw [show entryFrame m args 6 = entryFrame m ([.ref (ad 135), .int x1, .int x2] : List Value).toArray 6 from by rw [hav], lg_entry_eq]
  generalize (lg_sl ([.ref (ad 135), .int x1, .int x2]) ++ List.replicate (6 - (lg_sl ([.ref (ad 135), .int x1, .int x2])).length) Slot.unset).toArray = ls at hl ⊢
  have hl : lv_has ls 6 [(0, .ref (ad 135)), (1, .int x1), (2, .int x2)] := hl
  have B200 : ∀ (K159 : Int32 → Int32 → Int32 → Int32 → HI → HL → Prop) (hK159 : ∀ (x2 : Int32) (x3 : Int32) (x4 : Int32) (x5 : Int32) (h : HI) (g : HL) (H : Heap) (locs : List Loc) (ls : Array Slot), K159 x2 x3 x4 x5 h g → gG D cy ad (gA ad s.heap.size) s.heap h g H locs → lv_has ls 6 [(0, .ref (ad 135)), (2, .int x2), (3, .int x3), (4, .int x4), (5, .int x5)] → W p l e ({ frames := 5, cells := 0, slots := 0, locals := 120 } : Room) s m args below meth c H locs 0 0 (MQ below (va_Qi (fun (r : Int32) (u : HI × HL) => Q r u.1 u.2) (gB D cy ad s.heap.size) (gA ad s.heap.size)) args s 0 0 (gA ad s.heap.size)) (F0 m 159 ls [])) (x2 : Int32) (x4 : Int32) (x5 : Int32) (s0 : Int32) (s1 : Int32) (h : HI) (g : HL) (H : Heap) (locs : List Loc) (ls : Array Slot), j_X11_plan_200 Q K159 x2 x4 x5 s0 s1 h g → gG D cy ad (gA ad s.heap.size) s.heap h g H locs → lv_has ls 6 [(0, .ref (ad 135)), (2, .int x2), (4, .int x4), (5, .int x5)] → W p l e ({ frames := 5, cells := 0, slots := 0, locals := 120 } : Room) s m args below meth c H locs 0 0 (MQ below (va_Qi (fun (r : Int32) (u : HI × HL) => Q r u.1 u.2) (gB D cy ad s.heap.size) (gA ad s.heap.size)) args s 0 0 (gA ad s.heap.size)) (F0 m 200 ls [.int s1, .int s0]) := by
    intro K159 hK159 x2 x4 x5 s0 s1 h g H locs ls HW hG hl
    unfold j_X11_plan_200 at HW
    refine lv_ior hx hb dX11_plan_200 ?_
    refine lv_topi (fun x3_201 ex3_201 => ?_)
    replace HW := HW x3_201 ex3_201
    refine lv_istore_n (lv' := [(3, .int x3_201), (0, .ref (ad 135)), (2, .int x2), (4, .int x4), (5, .int x5)]) hx hb dX11_plan_201 rfl hl (by decide) rfl (fun ls hl => ?_)
    obtain ⟨x5_202, ex5_202⟩ : ∃ y : Int32, y = (x5 + 1) := ⟨_, rfl⟩
    replace HW := HW x5_202 ex5_202
    refine lv_iinc (v := x5_202) (lv' := [(5, .int x5_202), (3, .int x3_201), (0, .ref (ad 135)), (2, .int x2), (4, .int x4)]) hx hb dX11_plan_202 hl (k := 4) rfl (by rw [ex5_202]; rfl) (by decide) rfl (fun ls hl => ?_)
    refine lv_goto (tgt := 159) hx hb dX11_plan_205 (by decide) ?_
    exact hK159 x2 x3_201 x4 x5_202 h g _ _ _ HW hG (lv_sub hl [2, 3, 1, 4, 0] rfl)
  have L159 : ∀ (n : Nat) (x2 : Int32) (x3 : Int32) (x4 : Int32) (x5 : Int32) (h : HI) (g : HL) (H : Heap) (locs : List Loc) (ls : Array Slot), lpN (F_X11_plan_159 Q) n (x2, x3, x4, x5, h, g) → gG D cy ad (gA ad s.heap.size) s.heap h g H locs → lv_has ls 6 [(0, .ref (ad 135)), (2, .int x2), (3, .int x3), (4, .int x4), (5, .int x5)] → W p l e ({ frames := 5, cells := 0, slots := 0, locals := 120 } : Room) s m args below meth c H locs 0 0 (MQ below (va_Qi (fun (r : Int32) (u : HI × HL) => Q r u.1 u.2) (gB D cy ad s.heap.size) (gA ad s.heap.size)) args s 0 0 (gA ad s.heap.size)) (F0 m 159 ls []) := by
    intro n
    induction n with
    | zero => intro x2 x3 x4 x5 h g H locs ls HW; exact HW.elim
    | succ n ih =>
      intro x2 x3 x4 x5 h g H locs ls HW hG hl
      have HW : b_X11_plan_159 Q (fun x2 x3 x4 x5 h g => lpN (F_X11_plan_159 Q) n (x2, x3, x4, x5, h, g)) x2 x3 x4 x5 h g := HW
      generalize hKe : (fun (x2 : Int32) (x3 : Int32) (x4 : Int32) (x5 : Int32) (h : HI) (g : HL) => lpN (F_X11_plan_159 Q) n (x2, x3, x4, x5, h, g)) = K159 at HW
      have hK159 : ∀ (x2 : Int32) (x3 : Int32) (x4 : Int32) (x5 : Int32) (h : HI) (g : HL) (H : Heap) (locs : List Loc) (ls : Array Slot), K159 x2 x3 x4 x5 h g → gG D cy ad (gA ad s.heap.size) s.heap h g H locs → lv_has ls 6 [(0, .ref (ad 135)), (2, .int x2), (3, .int x3), (4, .int x4), (5, .int x5)] → W p l e ({ frames := 5, cells := 0, slots := 0, locals := 120 } : Room) s m args below meth c H locs 0 0 (MQ below (va_Qi (fun (r : Int32) (u : HI × HL) => Q r u.1 u.2) (gB D cy ad s.heap.size) (gA ad s.heap.size)) args s 0 0 (gA ad s.heap.size)) (F0 m 159 ls []) := by subst hKe; exact ih
      clear ih
      clear hKe
      unfold b_X11_plan_159 at HW
      refine lv_iload hx hb dX11_plan_159 (lv_at hl 4 rfl) ?_
      refine lv_iload_n hx hb dX11_plan_161 rfl (lv_at hl 1 rfl) ?_
      refine lv_icmp_gt (tgt := 208) hx hb dX11_plan_162 (by decide) (fun c_162 => ?_) (fun c_162 => ?_)
      · replace HW := HW.1 c_162
        refine lv_iload hx hb dX11_plan_208 (lv_at hl 3 rfl) ?_
        refine lv_iconst (v := (-1)) hx hb dX11_plan_210 (by decide) ?_
        refine lv_icmp_ne (tgt := 219) hx hb dX11_plan_211 (by decide) (fun c_211 => ?_) (fun c_211 => ?_)
        · replace HW := HW.1 c_211
          refine lv_iload hx hb dX11_plan_219 (lv_at hl 3 rfl) ?_
          exact W.iret (v := x4) hx hb hr (fun t ht hW => ⟨⟨x4, (h, g), rfl, HW, g_B ht hG⟩, hG.2.2.F ht⟩) hG.2.2.2.2 dX11_plan_221
        · replace HW := HW.2 c_211
          refine lv_bipush (v := (-5)) hx hb dX11_plan_214 (by decide) ?_
          refine lv_goto (tgt := 221) hx hb dX11_plan_216 (by decide) ?_
          exact W.iret (v := (-5 : Int32)) hx hb hr (fun t ht hW => ⟨⟨(-5 : Int32), (h, g), rfl, HW, g_B ht hG⟩, hG.2.2.F ht⟩) hG.2.2.2.2 dX11_plan_221
      · replace HW := HW.2 c_162
        refine lv_aload_n hx hb dX11_plan_165 rfl (lv_at hl 0 rfl) ?_
        refine lv_iload_n hx hb dX11_plan_166 rfl (lv_at hl 2 rfl) ?_
        refine lv_iload hx hb dX11_plan_167 (lv_at hl 4 rfl) ?_
        obtain ⟨P_169, HC_169, HW⟩ := HW
        refine g_calli (g_runV (As := [.int x3, .int x5]) (rest := []) ⟨hx, hb, hml, hown, hts⟩ (m_X11_choice l D cy ad h g H.size x3 x5 P_169 HC_169) (cwV 2 hts (gd_V (wm6 201 rfl rfl) (wm6 203 rfl rfl) (wmp5 (q := (yX11_choice, 26)) 12 rfl) (wm1 13 rfl rfl) (wm6 204 rfl rfl)) rfl rfl rfl (by decide +kernel) ⟨Nat.le_of_ble_eq_true rfl, Nat.le_of_ble_eq_true rfl⟩) hK hNw hG gl_135 rfl gk_135 (by decide) rfl rfl hl.1 rfl (lv_room (Nat.le_of_ble_eq_true rfl)) dX11_plan_169 ⟨Nat.zero_le _, Nat.zero_le _⟩) hG (fun r_169 h_169 g_169 H locs hq hG => ?_)
        replace HW := HW r_169 h_169 g_169 hq
        refine lv_istore (lv' := [(4, .int r_169), (0, .ref (ad 135)), (2, .int x2), (3, .int x3), (5, .int x5)]) hx hb dX11_plan_172 hl (by decide) rfl (fun ls hl => ?_)
        refine lv_iload_n hx hb dX11_plan_174 rfl (lv_at hl 3 rfl) ?_
        refine lv_iload hx hb dX11_plan_175 (lv_at hl 0 rfl) ?_
        refine lv_iconst (v := (-1)) hx hb dX11_plan_177 (by decide) ?_
        refine lv_icmp_ne (tgt := 185) hx hb dX11_plan_178 (by decide) (fun c_178 => ?_) (fun c_178 => ?_)
        · replace HW := HW.1 c_178
          refine lv_iconst (v := 1) hx hb dX11_plan_185 (by decide) ?_
          refine lv_iconst (v := 4) hx hb dX11_plan_186 (by decide) ?_
          refine lv_iload hx hb dX11_plan_187 (lv_at hl 0 rfl) ?_
          refine lv_iconst (v := 4) hx hb dX11_plan_189 (by decide) ?_
          refine lv_irem hx hb dX11_plan_190 (by decide) ?_
          refine lv_imul hx hb dX11_plan_191 ?_
          refine lv_iload hx hb dX11_plan_192 (lv_at hl 0 rfl) ?_
          refine lv_iconst (v := 4) hx hb dX11_plan_194 (by decide) ?_
          refine lv_idiv hx hb dX11_plan_195 (by decide) ?_
          refine lv_iconst (v := 4) hx hb dX11_plan_196 (by decide) ?_
          refine lv_irem hx hb dX11_plan_197 (by decide) ?_
          refine lv_iadd hx hb dX11_plan_198 ?_
          refine lv_ishl hx hb dX11_plan_199 ?_
          exact B200 K159 hK159 x2 r_169 x5 x3 ((1 : Int32) <<< ((((4 : Int32) * (r_169 - r_169 / (4 : Int32) * (4 : Int32))) + ((r_169 / (4 : Int32)) - (r_169 / (4 : Int32)) / (4 : Int32) * (4 : Int32))) &&& 31)) h_169 g_169 _ _ _ HW hG (lv_sub hl [1, 2, 0, 4] rfl)
        · replace HW := HW.2 c_178
          refine lv_iconst (v := 0) hx hb dX11_plan_181 (by decide) ?_
          refine lv_goto (tgt := 200) hx hb dX11_plan_182 (by decide) ?_
          exact B200 K159 hK159 x2 r_169 x5 x3 (0 : Int32) h_169 g_169 _ _ _ HW hG (lv_sub hl [1, 2, 0, 4] rfl)
  have L102 : ∀ (n : Nat) (x2 : Int32) (x3 : Int32) (x4 : Int32) (h : HI) (g : HL) (H : Heap) (locs : List Loc) (ls : Array Slot), lpN (F_X11_plan_102 Q) n (x2, x3, x4, h, g) → gG D cy ad (gA ad s.heap.size) s.heap h g H locs → lv_has ls 6 [(0, .ref (ad 135)), (2, .int x2), (3, .int x3), (4, .int x4)] → W p l e ({ frames := 5, cells := 0, slots := 0, locals := 120 } : Room) s m args below meth c H locs 0 0 (MQ below (va_Qi (fun (r : Int32) (u : HI × HL) => Q r u.1 u.2) (gB D cy ad s.heap.size) (gA ad s.heap.size)) args s 0 0 (gA ad s.heap.size)) (F0 m 102 ls []) := by
    intro n
    induction n with
    | zero => intro x2 x3 x4 h g H locs ls HW; exact HW.elim
    | succ n ih =>
      intro x2 x3 x4 h g H locs ls HW hG hl
      have HW : b_X11_plan_102 Q (fun x2 x3 x4 h g => lpN (F_X11_plan_102 Q) n (x2, x3, x4, h, g)) x2 x3 x4 h g := HW
      generalize hKe : (fun (x2 : Int32) (x3 : Int32) (x4 : Int32) (h : HI) (g : HL) => lpN (F_X11_plan_102 Q) n (x2, x3, x4, h, g)) = K102 at HW
      have hK102 : ∀ (x2 : Int32) (x3 : Int32) (x4 : Int32) (h : HI) (g : HL) (H : Heap) (locs : List Loc) (ls : Array Slot), K102 x2 x3 x4 h g → gG D cy ad (gA ad s.heap.size) s.heap h g H locs → lv_has ls 6 [(0, .ref (ad 135)), (2, .int x2), (3, .int x3), (4, .int x4)] → W p l e ({ frames := 5, cells := 0, slots := 0, locals := 120 } : Room) s m args below meth c H locs 0 0 (MQ below (va_Qi (fun (r : Int32) (u : HI × HL) => Q r u.1 u.2) (gB D cy ad s.heap.size) (gA ad s.heap.size)) args s 0 0 (gA ad s.heap.size)) (F0 m 102 ls []) := by subst hKe; exact ih
      clear ih
      clear hKe
      unfold b_X11_plan_102 at HW
      refine lv_iload hx hb dX11_plan_102 (lv_at hl 3 rfl) ?_
      refine lv_aload_n hx hb dX11_plan_104 rfl (lv_at hl 0 rfl) ?_
      refine g_getr hx hb hw inG11 hown hK hG gl_135 rfl gk_135 (by decide) 0 (by decide) (by rw [gm_135]; decide) (r := 136) gr_135_0 lk7 dX11_plan_105 ?_
      refine lv_bipush (v := 7) hx hb dX11_plan_108 (by decide) ?_
      refine g_iald hx hb hK hG gl_136 gk_136 gn_136 HW.1 dX11_plan_110 ?_
      replace HW := HW.2
      refine lv_icmp_ge (tgt := 141) hx hb dX11_plan_111 (by decide) (fun c_111 => ?_) (fun c_111 => ?_)
      · replace HW := HW.1 c_111
        refine lv_iload_n hx hb dX11_plan_141 rfl (lv_at hl 1 rfl) ?_
        refine lv_iconst (v := (-1)) hx hb dX11_plan_142 (by decide) ?_
        refine lv_icmp_ne (tgt := 153) hx hb dX11_plan_143 (by decide) (fun c_143 => ?_) (fun c_143 => ?_)
        · replace HW := HW.1 c_143
          refine lv_iconst (v := (-1)) hx hb dX11_plan_153 (by decide) ?_
          refine lv_istore (lv' := [(4, .int (-1 : Int32)), (0, .ref (ad 135)), (2, .int x2), (3, .int x3)]) hx hb dX11_plan_154 hl (by decide) rfl (fun ls hl => ?_)
          refine lv_iconst (v := 0) hx hb dX11_plan_156 (by decide) ?_
          refine lv_istore (lv' := [(5, .int (0 : Int32)), (4, .int (-1 : Int32)), (0, .ref (ad 135)), (2, .int x2), (3, .int x3)]) hx hb dX11_plan_157 hl (by decide) rfl (fun ls hl => ?_)
          obtain ⟨n_159, HW⟩ := HW
          exact L159 n_159 x2 x3 (-1 : Int32) (0 : Int32) h g _ _ _ HW hG (lv_sub hl [2, 3, 4, 1, 0] rfl)
        · replace HW := HW.2 c_143
          refine lv_aload_n hx hb dX11_plan_146 rfl (lv_at hl 0 rfl) ?_
          refine g_getr hx hb hw inG11 hown hK hG gl_135 rfl gk_135 (by decide) 25 (by decide) (by rw [gm_135]; decide) (r := 148) gr_135_25 lk49 dX11_plan_147 ?_
          refine lv_iload_n hx hb dX11_plan_150 rfl (lv_at hl 2 rfl) ?_
          refine g_iald hx hb hK hG gl_148 gk_148 gn_148 HW.1 dX11_plan_151 ?_
          replace HW := HW.2
          exact W.iret (v := (h 148 x3.toNatClampNeg)) hx hb hr (fun t ht hW => ⟨⟨(h 148 x3.toNatClampNeg), (h, g), rfl, HW, g_B ht hG⟩, hG.2.2.F ht⟩) hG.2.2.2.2 dX11_plan_152
      · replace HW := HW.2 c_111
        refine lv_iload_n hx hb dX11_plan_114 rfl (lv_at hl 2 rfl) ?_
        refine lv_aload_n hx hb dX11_plan_115 rfl (lv_at hl 0 rfl) ?_
        refine g_getr hx hb hw inG11 hown hK hG gl_135 rfl gk_135 (by decide) 0 (by decide) (by rw [gm_135]; decide) (r := 136) gr_135_0 lk7 dX11_plan_116 ?_
        refine lv_sipush (v := 817) hx hb dX11_plan_119 (by decide) ?_
        refine lv_iconst (v := 2) hx hb dX11_plan_122 (by decide) ?_
        refine lv_iload hx hb dX11_plan_123 (lv_at hl 3 rfl) ?_
        refine lv_imul hx hb dX11_plan_125 ?_
        refine lv_iadd hx hb dX11_plan_126 ?_
        refine g_iald hx hb hK hG gl_136 gk_136 gn_136 HW.1 dX11_plan_127 ?_
        replace HW := HW.2
        refine lv_iconst (v := 4) hx hb dX11_plan_128 (by decide) ?_
        refine lv_iload hx hb dX11_plan_129 (lv_at hl 3 rfl) ?_
        refine lv_imul hx hb dX11_plan_131 ?_
        refine lv_ishl hx hb dX11_plan_132 ?_
        refine lv_ior hx hb dX11_plan_133 ?_
        refine lv_topi (fun x3_134 ex3_134 => ?_)
        replace HW := HW x3_134 ex3_134
        refine lv_istore_n (lv' := [(3, .int x3_134), (0, .ref (ad 135)), (2, .int x2), (4, .int x4)]) hx hb dX11_plan_134 rfl hl (by decide) rfl (fun ls hl => ?_)
        obtain ⟨x4_135, ex4_135⟩ : ∃ y : Int32, y = (x4 + 1) := ⟨_, rfl⟩
        replace HW := HW x4_135 ex4_135
        refine lv_iinc (v := x4_135) (lv' := [(4, .int x4_135), (3, .int x3_134), (0, .ref (ad 135)), (2, .int x2)]) hx hb dX11_plan_135 hl (k := 3) rfl (by rw [ex4_135]; rfl) (by decide) rfl (fun ls hl => ?_)
        refine lv_goto (tgt := 102) hx hb dX11_plan_138 (by decide) ?_
        exact hK102 x2 x3_134 x4_135 h g _ _ _ HW hG (lv_sub hl [2, 3, 1, 0] rfl)
  have L69 : ∀ (K62 : Int32 → Int32 → HI → HL → Prop) (hK62 : ∀ (x2 : Int32) (x3 : Int32) (h : HI) (g : HL) (H : Heap) (locs : List Loc) (ls : Array Slot), K62 x2 x3 h g → gG D cy ad (gA ad s.heap.size) s.heap h g H locs → lv_has ls 6 [(0, .ref (ad 135)), (2, .int x2), (3, .int x3)] → W p l e ({ frames := 5, cells := 0, slots := 0, locals := 120 } : Room) s m args below meth c H locs 0 0 (MQ below (va_Qi (fun (r : Int32) (u : HI × HL) => Q r u.1 u.2) (gB D cy ad s.heap.size) (gA ad s.heap.size)) args s 0 0 (gA ad s.heap.size)) (F0 m 62 ls [])) (n : Nat) (x2 : Int32) (x3 : Int32) (x4 : Int32) (h : HI) (g : HL) (H : Heap) (locs : List Loc) (ls : Array Slot), lpN (F_X11_plan_69 Q K62) n (x2, x3, x4, h, g) → gG D cy ad (gA ad s.heap.size) s.heap h g H locs → lv_has ls 6 [(0, .ref (ad 135)), (2, .int x2), (3, .int x3), (4, .int x4)] → W p l e ({ frames := 5, cells := 0, slots := 0, locals := 120 } : Room) s m args below meth c H locs 0 0 (MQ below (va_Qi (fun (r : Int32) (u : HI × HL) => Q r u.1 u.2) (gB D cy ad s.heap.size) (gA ad s.heap.size)) args s 0 0 (gA ad s.heap.size)) (F0 m 69 ls []) := by
    intro K62 hK62 n
    induction n with
    | zero => intro x2 x3 x4 h g H locs ls HW; exact HW.elim
    | succ n ih =>
      intro x2 x3 x4 h g H locs ls HW hG hl
      have HW : b_X11_plan_69 Q K62 (fun x2 x3 x4 h g => lpN (F_X11_plan_69 Q K62) n (x2, x3, x4, h, g)) x2 x3 x4 h g := HW
      generalize hKe : (fun (x2 : Int32) (x3 : Int32) (x4 : Int32) (h : HI) (g : HL) => lpN (F_X11_plan_69 Q K62) n (x2, x3, x4, h, g)) = K69 at HW
      have hK69 : ∀ (x2 : Int32) (x3 : Int32) (x4 : Int32) (h : HI) (g : HL) (H : Heap) (locs : List Loc) (ls : Array Slot), K69 x2 x3 x4 h g → gG D cy ad (gA ad s.heap.size) s.heap h g H locs → lv_has ls 6 [(0, .ref (ad 135)), (2, .int x2), (3, .int x3), (4, .int x4)] → W p l e ({ frames := 5, cells := 0, slots := 0, locals := 120 } : Room) s m args below meth c H locs 0 0 (MQ below (va_Qi (fun (r : Int32) (u : HI × HL) => Q r u.1 u.2) (gB D cy ad s.heap.size) (gA ad s.heap.size)) args s 0 0 (gA ad s.heap.size)) (F0 m 69 ls []) := by subst hKe; exact ih
      clear ih
      clear hKe
      unfold b_X11_plan_69 at HW
      refine lv_iload hx hb dX11_plan_69 (lv_at hl 3 rfl) ?_
      refine lv_sipush (v := 4096) hx hb dX11_plan_71 (by decide) ?_
      refine lv_icmp_ge (tgt := 91) hx hb dX11_plan_74 (by decide) (fun c_74 => ?_) (fun c_74 => ?_)
      · replace HW := HW.1 c_74
        obtain ⟨x3_91, ex3_91⟩ : ∃ y : Int32, y = (x3 + (-1)) := ⟨_, rfl⟩
        replace HW := HW x3_91 ex3_91
        refine lv_iinc (v := x3_91) (lv' := [(3, .int x3_91), (0, .ref (ad 135)), (2, .int x2), (4, .int x4)]) hx hb dX11_plan_91 hl (k := 2) rfl (by rw [ex3_91]; rfl) (by decide) rfl (fun ls hl => ?_)
        refine lv_goto (tgt := 62) hx hb dX11_plan_94 (by decide) ?_
        exact hK62 x2 x3_91 h g _ _ _ HW hG (lv_sub hl [1, 2, 0] rfl)
      · replace HW := HW.2 c_74
        refine lv_aload_n hx hb dX11_plan_77 rfl (lv_at hl 0 rfl) ?_
        refine lv_iload hx hb dX11_plan_78 (lv_at hl 3 rfl) ?_
        refine lv_iload_n hx hb dX11_plan_80 rfl (lv_at hl 2 rfl) ?_
        obtain ⟨P_81, HC_81, HW⟩ := HW
        refine g_calli (g_runV (As := [.int x4, .int x3]) (rest := []) ⟨hx, hb, hml, hown, hts⟩ (m_X11_choice l D cy ad h g H.size x4 x3 P_81 HC_81) (cwV 2 hts (gd_V (wm6 201 rfl rfl) (wm6 203 rfl rfl) (wmp5 (q := (yX11_choice, 26)) 12 rfl) (wm1 13 rfl rfl) (wm6 204 rfl rfl)) rfl rfl rfl (by decide +kernel) ⟨Nat.le_of_ble_eq_true rfl, Nat.le_of_ble_eq_true rfl⟩) hK hNw hG gl_135 rfl gk_135 (by decide) rfl rfl hl.1 rfl (lv_room (Nat.le_of_ble_eq_true rfl)) dX11_plan_81 ⟨Nat.zero_le _, Nat.zero_le _⟩) hG (fun r_81 h_81 g_81 H locs hq hG => ?_)
        replace HW := HW r_81 h_81 g_81 hq
        refine lv_pop hx hb dX11_plan_84 rfl ?_
        obtain ⟨x4_85, ex4_85⟩ : ∃ y : Int32, y = (x4 + 1) := ⟨_, rfl⟩
        replace HW := HW x4_85 ex4_85
        refine lv_iinc (v := x4_85) (lv' := [(4, .int x4_85), (0, .ref (ad 135)), (2, .int x2), (3, .int x3)]) hx hb dX11_plan_85 hl (k := 3) rfl (by rw [ex4_85]; rfl) (by decide) rfl (fun ls hl => ?_)
        refine lv_goto (tgt := 69) hx hb dX11_plan_88 (by decide) ?_
        exact hK69 x2 x3 x4_85 h_81 g_81 _ _ _ HW hG (lv_sub hl [1, 2, 3, 0] rfl)
  have L62 : ∀ (n : Nat) (x2 : Int32) (x3 : Int32) (h : HI) (g : HL) (H : Heap) (locs : List Loc) (ls : Array Slot), lpN (F_X11_plan_62 Q) n (x2, x3, h, g) → gG D cy ad (gA ad s.heap.size) s.heap h g H locs → lv_has ls 6 [(0, .ref (ad 135)), (2, .int x2), (3, .int x3)] → W p l e ({ frames := 5, cells := 0, slots := 0, locals := 120 } : Room) s m args below meth c H locs 0 0 (MQ below (va_Qi (fun (r : Int32) (u : HI × HL) => Q r u.1 u.2) (gB D cy ad s.heap.size) (gA ad s.heap.size)) args s 0 0 (gA ad s.heap.size)) (F0 m 62 ls []) := by
    intro n
    induction n with
    | zero => intro x2 x3 h g H locs ls HW; exact HW.elim
    | succ n ih =>
      intro x2 x3 h g H locs ls HW hG hl
      have HW : b_X11_plan_62 Q (fun x2 x3 h g => lpN (F_X11_plan_62 Q) n (x2, x3, h, g)) x2 x3 h g := HW
      generalize hKe : (fun (x2 : Int32) (x3 : Int32) (h : HI) (g : HL) => lpN (F_X11_plan_62 Q) n (x2, x3, h, g)) = K62 at HW
      have hK62 : ∀ (x2 : Int32) (x3 : Int32) (h : HI) (g : HL) (H : Heap) (locs : List Loc) (ls : Array Slot), K62 x2 x3 h g → gG D cy ad (gA ad s.heap.size) s.heap h g H locs → lv_has ls 6 [(0, .ref (ad 135)), (2, .int x2), (3, .int x3)] → W p l e ({ frames := 5, cells := 0, slots := 0, locals := 120 } : Room) s m args below meth c H locs 0 0 (MQ below (va_Qi (fun (r : Int32) (u : HI × HL) => Q r u.1 u.2) (gB D cy ad s.heap.size) (gA ad s.heap.size)) args s 0 0 (gA ad s.heap.size)) (F0 m 62 ls []) := by subst hKe; exact ih
      clear ih
      clear hKe
      unfold b_X11_plan_62 at HW
      refine lv_iload_n hx hb dX11_plan_62 rfl (lv_at hl 2 rfl) ?_
      refine lv_if_lt (tgt := 97) hx hb dX11_plan_63 (by decide) (fun c_63 => ?_) (fun c_63 => ?_)
      · replace HW := HW.1 c_63
        refine lv_iconst (v := 0) hx hb dX11_plan_97 (by decide) ?_
        refine lv_istore_n (lv' := [(3, .int (0 : Int32)), (0, .ref (ad 135)), (2, .int x2)]) hx hb dX11_plan_98 rfl hl (by decide) rfl (fun ls hl => ?_)
        refine lv_iconst (v := 0) hx hb dX11_plan_99 (by decide) ?_
        refine lv_istore (lv' := [(4, .int (0 : Int32)), (3, .int (0 : Int32)), (0, .ref (ad 135)), (2, .int x2)]) hx hb dX11_plan_100 hl (by decide) rfl (fun ls hl => ?_)
        obtain ⟨n_102, HW⟩ := HW
        exact L102 n_102 x2 (0 : Int32) (0 : Int32) h g _ _ _ HW hG (lv_sub hl [2, 3, 1, 0] rfl)
      · replace HW := HW.2 c_63
        refine lv_iconst (v := 0) hx hb dX11_plan_66 (by decide) ?_
        refine lv_istore (lv' := [(4, .int (0 : Int32)), (0, .ref (ad 135)), (2, .int x2), (3, .int x3)]) hx hb dX11_plan_67 hl (by decide) rfl (fun ls hl => ?_)
        obtain ⟨n_69, HW⟩ := HW
        exact L69 K62 hK62 n_69 x2 x3 (0 : Int32) h g _ _ _ HW hG (lv_sub hl [1, 2, 3, 0] rfl)
  have L32 : ∀ (n : Nat) (x1 : Int32) (x2 : Int32) (x3 : Int32) (h : HI) (g : HL) (H : Heap) (locs : List Loc) (ls : Array Slot), lpN (F_X11_plan_32 Q) n (x1, x2, x3, h, g) → gG D cy ad (gA ad s.heap.size) s.heap h g H locs → lv_has ls 6 [(0, .ref (ad 135)), (1, .int x1), (2, .int x2), (3, .int x3)] → W p l e ({ frames := 5, cells := 0, slots := 0, locals := 120 } : Room) s m args below meth c H locs 0 0 (MQ below (va_Qi (fun (r : Int32) (u : HI × HL) => Q r u.1 u.2) (gB D cy ad s.heap.size) (gA ad s.heap.size)) args s 0 0 (gA ad s.heap.size)) (F0 m 32 ls []) := by
    intro n
    induction n with
    | zero => intro x1 x2 x3 h g H locs ls HW; exact HW.elim
    | succ n ih =>
      intro x1 x2 x3 h g H locs ls HW hG hl
      have HW : b_X11_plan_32 Q (fun x1 x2 x3 h g => lpN (F_X11_plan_32 Q) n (x1, x2, x3, h, g)) x1 x2 x3 h g := HW
      generalize hKe : (fun (x1 : Int32) (x2 : Int32) (x3 : Int32) (h : HI) (g : HL) => lpN (F_X11_plan_32 Q) n (x1, x2, x3, h, g)) = K32 at HW
      have hK32 : ∀ (x1 : Int32) (x2 : Int32) (x3 : Int32) (h : HI) (g : HL) (H : Heap) (locs : List Loc) (ls : Array Slot), K32 x1 x2 x3 h g → gG D cy ad (gA ad s.heap.size) s.heap h g H locs → lv_has ls 6 [(0, .ref (ad 135)), (1, .int x1), (2, .int x2), (3, .int x3)] → W p l e ({ frames := 5, cells := 0, slots := 0, locals := 120 } : Room) s m args below meth c H locs 0 0 (MQ below (va_Qi (fun (r : Int32) (u : HI × HL) => Q r u.1 u.2) (gB D cy ad s.heap.size) (gA ad s.heap.size)) args s 0 0 (gA ad s.heap.size)) (F0 m 32 ls []) := by subst hKe; exact ih
      clear ih
      clear hKe
      unfold b_X11_plan_32 at HW
      refine lv_iload_n hx hb dX11_plan_32 rfl (lv_at hl 3 rfl) ?_
      refine lv_sipush (v := 4096) hx hb dX11_plan_33 (by decide) ?_
      refine lv_icmp_ge (tgt := 58) hx hb dX11_plan_36 (by decide) (fun c_36 => ?_) (fun c_36 => ?_)
      · replace HW := HW.1 c_36
        refine lv_iload_n hx hb dX11_plan_58 rfl (lv_at hl 1 rfl) ?_
        refine lv_iconst (v := 1) hx hb dX11_plan_59 (by decide) ?_
        refine lv_isub hx hb dX11_plan_60 ?_
        refine lv_topi (fun x3_61 ex3_61 => ?_)
        replace HW := HW x3_61 ex3_61
        refine lv_istore_n (lv' := [(3, .int x3_61), (0, .ref (ad 135)), (1, .int x1), (2, .int x2)]) hx hb dX11_plan_61 rfl hl (by decide) rfl (fun ls hl => ?_)
        obtain ⟨n_62, HW⟩ := HW
        exact L62 n_62 x2 x3_61 h g _ _ _ HW hG (lv_sub hl [1, 3, 0] rfl)
      · replace HW := HW.2 c_36
        refine lv_aload_n hx hb dX11_plan_39 rfl (lv_at hl 0 rfl) ?_
        refine g_getr hx hb hw inG11 hown hK hG gl_135 rfl gk_135 (by decide) 25 (by decide) (by rw [gm_135]; decide) (r := 148) gr_135_25 lk49 dX11_plan_40 ?_
        refine lv_sipush (v := 4096) hx hb dX11_plan_43 (by decide) ?_
        refine lv_iload_n hx hb dX11_plan_46 rfl (lv_at hl 1 rfl) ?_
        refine lv_imul hx hb dX11_plan_47 ?_
        refine lv_iload_n hx hb dX11_plan_48 rfl (lv_at hl 3 rfl) ?_
        refine lv_iadd hx hb dX11_plan_49 ?_
        refine lv_iconst (v := 0) hx hb dX11_plan_50 (by decide) ?_
        refine g_iast hx hb hK hG gl_148 gk_148 gn_148 HW.1 dX11_plan_51 (fun H locs hG => ?_)
        replace HW := HW.2
        obtain ⟨h_51, eh_51⟩ : ∃ y : HI, y = hu h 148 (((4096 : Int32) * x1) + x3).toNatClampNeg (0 : Int32) := ⟨_, rfl⟩
        rw [← eh_51] at hG
        replace HW := HW h_51 eh_51
        obtain ⟨x3_52, ex3_52⟩ : ∃ y : Int32, y = (x3 + 1) := ⟨_, rfl⟩
        replace HW := HW x3_52 ex3_52
        refine lv_iinc (v := x3_52) (lv' := [(3, .int x3_52), (0, .ref (ad 135)), (1, .int x1), (2, .int x2)]) hx hb dX11_plan_52 hl (k := 3) rfl (by rw [ex3_52]; rfl) (by decide) rfl (fun ls hl => ?_)
        refine lv_goto (tgt := 32) hx hb dX11_plan_55 (by decide) ?_
        exact hK32 x1 x2 x3_52 h_51 g _ _ _ HW hG (lv_sub hl [1, 2, 3, 0] rfl)
  have E0 : ∀ (H : Heap) (locs : List Loc) (ls : Array Slot), gG D cy ad (gA ad s.heap.size) s.heap h g H locs → lv_has ls 6 [(0, .ref (ad 135)), (1, .int x1), (2, .int x2)] → W p l e ({ frames := 5, cells := 0, slots := 0, locals := 120 } : Room) s m args below meth c H locs 0 0 (MQ below (va_Qi (fun (r : Int32) (u : HI × HL) => Q r u.1 u.2) (gB D cy ad s.heap.size) (gA ad s.heap.size)) args s 0 0 (gA ad s.heap.size)) (F0 m 0 ls []) := by
    intro H locs ls hG hl
    unfold w_X11_plan at HW
    refine lv_iload_n hx hb dX11_plan_0 rfl (lv_at hl 1 rfl) ?_
    refine lv_i2l hx hb dX11_plan_1 rfl ?_
    refine lv_lconst (v := 1) hx hb dX11_plan_2 (by decide) ?_
    refine lv_ldc2 (v := 8) hx hb hown cn306 dX11_plan_3 ?_
    obtain ⟨P_6, HC_6, HW⟩ := HW
    refine g_callz (g_runS (As := [.long ((x1).toInt64), .long (1 : Int64), .long (8 : Int64)]) (rest := []) ⟨hx, hb, hml, hown, hts⟩ (m_X11_in l D cy ad h g H.size ((x1).toInt64) (1 : Int64) (8 : Int64) P_6 HC_6) (va_cwS 3 hts (gd_S (wm5 111 rfl rfl) (wm5 112 rfl rfl) (wm1 13 rfl rfl) (wm5 113 rfl rfl)) rfl rfl rfl (by decide +kernel) ⟨Nat.le_of_ble_eq_true rfl, Nat.le_of_ble_eq_true rfl⟩) hK hNw hG rfl rfl hl.1 rfl (lv_room (Nat.le_of_ble_eq_true rfl)) dX11_plan_6 ⟨Nat.zero_le _, Nat.zero_le _⟩) hG (fun r_6 h_6 g_6 H locs hz hq hG => ?_)
    replace HW := HW r_6 h_6 g_6 hz hq
    refine lv_if_eq (tgt := 27) hx hb dX11_plan_9 (by decide) (fun c_9 => ?_) (fun c_9 => ?_)
    · replace HW := HW.1 c_9
      refine lv_bipush (v := (-10)) hx hb dX11_plan_27 (by decide) ?_
      exact W.iret (v := (-10 : Int32)) hx hb hr (fun t ht hW => ⟨⟨(-10 : Int32), (h_6, g_6), rfl, HW, g_B ht hG⟩, hG.2.2.F ht⟩) hG.2.2.2.2 dX11_plan_29
    · replace HW := HW.2 c_9
      refine lv_iload_n hx hb dX11_plan_12 rfl (lv_at hl 2 rfl) ?_
      refine lv_i2l hx hb dX11_plan_13 rfl ?_
      refine lv_ldc2 (v := (-1)) hx hb hown cn65 dX11_plan_14 ?_
      refine lv_iload_n hx hb dX11_plan_17 rfl (lv_at hl 1 rfl) ?_
      refine lv_iconst (v := 1) hx hb dX11_plan_18 (by decide) ?_
      refine lv_isub hx hb dX11_plan_19 ?_
      refine lv_i2l hx hb dX11_plan_20 rfl ?_
      obtain ⟨P_21, HC_21, HW⟩ := HW
      refine g_callz (g_runS (As := [.long ((x2).toInt64), .long (-1 : Int64), .long (((x1 - (1 : Int32))).toInt64)]) (rest := []) ⟨hx, hb, hml, hown, hts⟩ (m_X11_in l D cy ad h_6 g_6 H.size ((x2).toInt64) (-1 : Int64) (((x1 - (1 : Int32))).toInt64) P_21 HC_21) (va_cwS 3 hts (gd_S (wm5 111 rfl rfl) (wm5 112 rfl rfl) (wm1 13 rfl rfl) (wm5 113 rfl rfl)) rfl rfl rfl (by decide +kernel) ⟨Nat.le_of_ble_eq_true rfl, Nat.le_of_ble_eq_true rfl⟩) hK hNw hG rfl rfl hl.1 rfl (lv_room (Nat.le_of_ble_eq_true rfl)) dX11_plan_21 ⟨Nat.zero_le _, Nat.zero_le _⟩) hG (fun r_21 h_21 g_21 H locs hz hq hG => ?_)
      replace HW := HW r_21 h_21 g_21 hz hq
      refine lv_if_ne (tgt := 30) hx hb dX11_plan_24 (by decide) (fun c_24 => ?_) (fun c_24 => ?_)
      · replace HW := HW.1 c_24
        refine lv_iconst (v := 0) hx hb dX11_plan_30 (by decide) ?_
        refine lv_istore_n (lv' := [(3, .int (0 : Int32)), (0, .ref (ad 135)), (1, .int x1), (2, .int x2)]) hx hb dX11_plan_31 rfl hl (by decide) rfl (fun ls hl => ?_)
        obtain ⟨n_32, HW⟩ := HW
        exact L32 n_32 x1 x2 (0 : Int32) h_21 g_21 _ _ _ HW hG (lv_sub hl [1, 2, 3, 0] rfl)
      · replace HW := HW.2 c_24
        refine lv_bipush (v := (-10)) hx hb dX11_plan_27 (by decide) ?_
        exact W.iret (v := (-10 : Int32)) hx hb hr (fun t ht hW => ⟨⟨(-10 : Int32), (h_21, g_21), rfl, HW, g_B ht hG⟩, hG.2.2.F ht⟩) hG.2.2.2.2 dX11_plan_29
  exact E0 _ _ _ hG hl
end
section
-- 03.w23
def b_X11_image_22 (Q : Int32 → HI → HL → Prop) (K22 : Int32 → Int32 → HI → HL → Prop) (x1 : Int32) (x2 : Int32) (h : HI) (g : HL) : Prop :=
  (((887 : Int32) ≤ x2 → Q (1 : Int32) h g) ∧ (¬ (887 : Int32) ≤ x2 → (vp_in x2 887 ∧ (vp_in (((887 : Int32) * x1) + x2) 1774 ∧ ∀ h_46 : HI, h_46 = hu h 137 (((887 : Int32) * x1) + x2).toNatClampNeg (h 136 x2.toNatClampNeg) → (∀ x2_47 : Int32, x2_47 = (x2 + 1) → K22 x1 x2_47 h_46 g)))))
def F_X11_image_22 (Q : Int32 → HI → HL → Prop) (K : Int32 × Int32 × HI × HL → Prop) (q : Int32 × Int32 × HI × HL) : Prop := b_X11_image_22 Q (fun x1 x2 h g => K (x1, x2, h, g)) q.1 q.2.1 q.2.2.1 q.2.2.2
def w_X11_image (x1 : Int32) (h : HI) (g : HL) (Q : Int32 → HI → HL → Prop) : Prop :=
  (∃ P_4 : Int32 → HI → HL → Prop, w_X11_in ((x1).toInt64) (0 : Int64) (1 : Int64) h g P_4 ∧ ∀ (r_4 : Int32) (h_4 : HI) (g_4 : HL), zb r_4 → P_4 r_4 h_4 g_4 → ((¬ r_4 = 0 → (vp_in x1 2 ∧ ∀ h_19 : HI, h_19 = hu h_4 138 x1.toNatClampNeg (vp_nar .boolean (1 : Int32)) → lpE (F_X11_image_22 Q) (x1, (0 : Int32), h_19, g_4))) ∧ (r_4 = 0 → Q (-2 : Int32) h_4 g_4)))
set_option maxHeartbeats 8000000 in
set_option maxRecDepth 100000 in
theorem m_X11_image (l : Launch) (D : va_G) (cy : Nat → ClassId) (ad : Nat → Nat) (h : HI) (g : HL) (sz : Nat) (x1 : Int32) (Q : Int32 → HI → HL → Prop) (HW : w_X11_image x1 h g Q) : Met l yX11_image (wa yX11_image cX11_image 3 (some .int)) ({ frames := 1, cells := 0, slots := 0, locals := 25 }) (va_Pc [.ref (ad 135), .int x1] (gI D cy ad h g sz)) (va_Qi (fun (r : Int32) (u : HI × HL) => Q r u.1 u.2) (gB D cy ad sz) (gA ad sz)) 0 0 (gA ad sz) := by
  refine Met.ofW (cc := cX11_image) (maxL := 3) (ret := (some .int)) (by decide) rfl ?_
  intro p e s m args below meth c s₁ B hml hv
  obtain ⟨hav, hsz, hP, hK, hD0, hNw⟩ := hv
  have hx := B.exec
  have hb := B.bytes
  have hr := B.returns
  have hts := atoms_spec (ws := (wa yX11_image cX11_image 3 (some .int))) B.pre
  have hw := wa_hw hts
  have hown : s.vm.findClass RX11 = some m.cls := findClass_of_methodNamed B.named
  have hlocks := B.notSynchronized
  subst hsz
  have hG : gG D cy ad (gA ad s.heap.size) s.heap h g s.heap [] := ⟨hP, gA_self hD0, va_S.rf⟩
  clear hP hD0
  have lk16 := hw (.fieldLink RX11 16 "OldWorksModel" "isKept" "[Z") (wm5 29 rfl rfl)
  have lk13 := hw (.fieldLink RX11 13 "OldWorksModel" "images" "[I") (wm5 28 rfl rfl)
  have lk7 := hw (.fieldLink RX11 7 "OldWorksModel" "st" "[I") (wm5 27 rfl rfl)
  rw [show (headSpec (wa yX11_image cX11_image 3 (some .int)) ({ frames := 1, cells := 0, slots := 0, locals := 25 } : Room)).room = ({ frames := 1, cells := 0, slots := 0, locals := 25 } : Room) from rfl]
  have hl := lv_entry ([.ref (ad 135), .int x1]) (n := 3) (Nat.le_of_ble_eq_true rfl)
  rw [show entryFrame m args 3 = entryFrame m ([.ref (ad 135), .int x1] : List Value).toArray 3 from by rw [hav], lg_entry_eq]
  generalize (lg_sl ([.ref (ad 135), .int x1]) ++ List.replicate (3 - (lg_sl ([.ref (ad 135), .int x1])).length) Slot.unset).toArray = ls at hl ⊢
  have hl : lv_has ls 3 [(0, .ref (ad 135)), (1, .int x1)] := hl
  have L22 : ∀ (n : Nat) (x1 : Int32) (x2 : Int32) (h : HI) (g : HL) (H : Heap) (locs : List Loc) (ls : Array Slot), lpN (F_X11_image_22 Q) n (x1, x2, h, g) → gG D cy ad (gA ad s.heap.size) s.heap h g H locs → lv_has ls 3 [(0, .ref (ad 135)), (1, .int x1), (2, .int x2)] → W p l e ({ frames := 1, cells := 0, slots := 0, locals := 25 } : Room) s m args below meth c H locs 0 0 (MQ below (va_Qi (fun (r : Int32) (u : HI × HL) => Q r u.1 u.2) (gB D cy ad s.heap.size) (gA ad s.heap.size)) args s 0 0 (gA ad s.heap.size)) (F0 m 22 ls []) := by
    intro n
    induction n with
    | zero => intro x1 x2 h g H locs ls HW; exact HW.elim
    | succ n ih =>
      intro x1 x2 h g H locs ls HW hG hl
      have HW : b_X11_image_22 Q (fun x1 x2 h g => lpN (F_X11_image_22 Q) n (x1, x2, h, g)) x1 x2 h g := HW
      generalize hKe : (fun (x1 : Int32) (x2 : Int32) (h : HI) (g : HL) => lpN (F_X11_image_22 Q) n (x1, x2, h, g)) = K22 at HW
      have hK22 : ∀ (x1 : Int32) (x2 : Int32) (h : HI) (g : HL) (H : Heap) (locs : List Loc) (ls : Array Slot), K22 x1 x2 h g → gG D cy ad (gA ad s.heap.size) s.heap h g H locs → lv_has ls 3 [(0, .ref (ad 135)), (1, .int x1), (2, .int x2)] → W p l e ({ frames := 1, cells := 0, slots := 0, locals := 25 } : Room) s m args below meth c H locs 0 0 (MQ below (va_Qi (fun (r : Int32) (u : HI × HL) => Q r u.1 u.2) (gB D cy ad s.heap.size) (gA ad s.heap.size)) args s 0 0 (gA ad s.heap.size)) (F0 m 22 ls []) := by subst hKe; exact ih
      clear ih
      clear hKe
      unfold b_X11_image_22 at HW
      refine lv_iload_n hx hb dX11_image_22 rfl (lv_at hl 2 rfl) ?_
      refine lv_sipush (v := 887) hx hb dX11_image_23 (by decide) ?_
      refine lv_icmp_ge (tgt := 53) hx hb dX11_image_26 (by decide) (fun c_26 => ?_) (fun c_26 => ?_)
      · replace HW := HW.1 c_26
        refine lv_iconst (v := 1) hx hb dX11_image_53 (by decide) ?_
        exact W.iret (v := (1 : Int32)) hx hb hr (fun t ht hW => ⟨⟨(1 : Int32), (h, g), rfl, HW, g_B ht hG⟩, hG.2.2.F ht⟩) hG.2.2.2.2 dX11_image_54
      · replace HW := HW.2 c_26
        refine lv_aload_n hx hb dX11_image_29 rfl (lv_at hl 0 rfl) ?_
        refine g_getr hx hb hw inG11 hown hK hG gl_135 rfl gk_135 (by decide) 1 (by decide) (by rw [gm_135]; decide) (r := 137) gr_135_1 lk13 dX11_image_30 ?_
        refine lv_sipush (v := 887) hx hb dX11_image_33 (by decide) ?_
        refine lv_iload_n hx hb dX11_image_36 rfl (lv_at hl 1 rfl) ?_
        refine lv_imul hx hb dX11_image_37 ?_
        refine lv_iload_n hx hb dX11_image_38 rfl (lv_at hl 2 rfl) ?_
        refine lv_iadd hx hb dX11_image_39 ?_
        refine lv_aload_n hx hb dX11_image_40 rfl (lv_at hl 0 rfl) ?_
        refine g_getr hx hb hw inG11 hown hK hG gl_135 rfl gk_135 (by decide) 0 (by decide) (by rw [gm_135]; decide) (r := 136) gr_135_0 lk7 dX11_image_41 ?_
        refine lv_iload_n hx hb dX11_image_44 rfl (lv_at hl 2 rfl) ?_
        refine g_iald hx hb hK hG gl_136 gk_136 gn_136 HW.1 dX11_image_45 ?_
        replace HW := HW.2
        refine g_iast hx hb hK hG gl_137 gk_137 gn_137 HW.1 dX11_image_46 (fun H locs hG => ?_)
        replace HW := HW.2
        obtain ⟨h_46, eh_46⟩ : ∃ y : HI, y = hu h 137 (((887 : Int32) * x1) + x2).toNatClampNeg (h 136 x2.toNatClampNeg) := ⟨_, rfl⟩
        rw [← eh_46] at hG
        replace HW := HW h_46 eh_46
        obtain ⟨x2_47, ex2_47⟩ : ∃ y : Int32, y = (x2 + 1) := ⟨_, rfl⟩
        replace HW := HW x2_47 ex2_47
        refine lv_iinc (v := x2_47) (lv' := [(2, .int x2_47), (0, .ref (ad 135)), (1, .int x1)]) hx hb dX11_image_47 hl (k := 2) rfl (by rw [ex2_47]; rfl) (by decide) rfl (fun ls hl => ?_)
        refine lv_goto (tgt := 22) hx hb dX11_image_50 (by decide) ?_
        exact hK22 x1 x2_47 h_46 g _ _ _ HW hG (lv_sub hl [1, 2, 0] rfl)
  have E0 : ∀ (H : Heap) (locs : List Loc) (ls : Array Slot), gG D cy ad (gA ad s.heap.size) s.heap h g H locs → lv_has ls 3 [(0, .ref (ad 135)), (1, .int x1)] → W p l e ({ frames := 1, cells := 0, slots := 0, locals := 25 } : Room) s m args below meth c H locs 0 0 (MQ below (va_Qi (fun (r : Int32) (u : HI × HL) => Q r u.1 u.2) (gB D cy ad s.heap.size) (gA ad s.heap.size)) args s 0 0 (gA ad s.heap.size)) (F0 m 0 ls []) := by
    intro H locs ls hG hl
    unfold w_X11_image at HW
    refine lv_iload_n hx hb dX11_image_0 rfl (lv_at hl 1 rfl) ?_
    refine lv_i2l hx hb dX11_image_1 rfl ?_
    refine lv_lconst (v := 0) hx hb dX11_image_2 (by decide) ?_
    refine lv_lconst (v := 1) hx hb dX11_image_3 (by decide) ?_
    obtain ⟨P_4, HC_4, HW⟩ := HW
    refine g_callz (g_runS (As := [.long ((x1).toInt64), .long (0 : Int64), .long (1 : Int64)]) (rest := []) ⟨hx, hb, hml, hown, hts⟩ (m_X11_in l D cy ad h g H.size ((x1).toInt64) (0 : Int64) (1 : Int64) P_4 HC_4) (va_cwS 3 hts (gd_S (wm5 111 rfl rfl) (wm5 112 rfl rfl) (wm1 13 rfl rfl) (wm5 113 rfl rfl)) rfl rfl rfl (by decide +kernel) ⟨Nat.le_of_ble_eq_true rfl, Nat.le_of_ble_eq_true rfl⟩) hK hNw hG rfl rfl hl.1 rfl (lv_room (Nat.le_of_ble_eq_true rfl)) dX11_image_4 ⟨Nat.zero_le _, Nat.zero_le _⟩) hG (fun r_4 h_4 g_4 H locs hz hq hG => ?_)
    replace HW := HW r_4 h_4 g_4 hz hq
    refine lv_if_ne (tgt := 13) hx hb dX11_image_7 (by decide) (fun c_7 => ?_) (fun c_7 => ?_)
    · replace HW := HW.1 c_7
      refine lv_aload_n hx hb dX11_image_13 rfl (lv_at hl 0 rfl) ?_
      refine g_getr hx hb hw inG11 hown hK hG gl_135 rfl gk_135 (by decide) 2 (by decide) (by rw [gm_135]; decide) (r := 138) gr_135_2 lk16 dX11_image_14 ?_
      refine lv_iload_n hx hb dX11_image_17 rfl (lv_at hl 1 rfl) ?_
      refine lv_iconst (v := 1) hx hb dX11_image_18 (by decide) ?_
      refine g_zast hx hb hK hG gl_138 gk_138 gn_138 HW.1 dX11_image_19 (fun H locs hG => ?_)
      replace HW := HW.2
      obtain ⟨h_19, eh_19⟩ : ∃ y : HI, y = hu h_4 138 x1.toNatClampNeg (vp_nar .boolean (1 : Int32)) := ⟨_, rfl⟩
      rw [← eh_19] at hG
      replace HW := HW h_19 eh_19
      refine lv_iconst (v := 0) hx hb dX11_image_20 (by decide) ?_
      refine lv_istore_n (lv' := [(2, .int (0 : Int32)), (0, .ref (ad 135)), (1, .int x1)]) hx hb dX11_image_21 rfl hl (by decide) rfl (fun ls hl => ?_)
      obtain ⟨n_22, HW⟩ := HW
      exact L22 n_22 x1 (0 : Int32) h_19 g_4 _ _ _ HW hG (lv_sub hl [1, 2, 0] rfl)
    · replace HW := HW.2 c_7
      refine lv_bipush (v := (-2)) hx hb dX11_image_10 (by decide) ?_
      exact W.iret (v := (-2 : Int32)) hx hb hr (fun t ht hW => ⟨⟨(-2 : Int32), (h_4, g_4), rfl, HW, g_B ht hG⟩, hG.2.2.F ht⟩) hG.2.2.2.2 dX11_image_12
  exact E0 _ _ _ hG hl

def b_X11_from_27 (Q : Int32 → HI → HL → Prop) (K27 : Int32 → Int32 → HI → HL → Prop) (x1 : Int32) (x2 : Int32) (h : HI) (g : HL) : Prop :=
  (((887 : Int32) ≤ x2 → Q (1 : Int32) h g) ∧ (¬ (887 : Int32) ≤ x2 → (vp_in (((887 : Int32) * x1) + x2) 1774 ∧ (vp_in x2 887 ∧ ∀ h_51 : HI, h_51 = hu h 136 x2.toNatClampNeg (h 137 (((887 : Int32) * x1) + x2).toNatClampNeg) → (∀ x2_52 : Int32, x2_52 = (x2 + 1) → K27 x1 x2_52 h_51 g)))))
def F_X11_from_27 (Q : Int32 → HI → HL → Prop) (K : Int32 × Int32 × HI × HL → Prop) (q : Int32 × Int32 × HI × HL) : Prop := b_X11_from_27 Q (fun x1 x2 h g => K (x1, x2, h, g)) q.1 q.2.1 q.2.2.1 q.2.2.2
def w_X11_from (x1 : Int32) (h : HI) (g : HL) (Q : Int32 → HI → HL → Prop) : Prop :=
  (∃ P_4 : Int32 → HI → HL → Prop, w_X11_in ((x1).toInt64) (0 : Int64) (1 : Int64) h g P_4 ∧ ∀ (r_4 : Int32) (h_4 : HI) (g_4 : HL), zb r_4 → P_4 r_4 h_4 g_4 → ((¬ r_4 = 0 → (vp_in x1 2 ∧ ((¬ (h_4 138 x1.toNatClampNeg) = 0 → lpE (F_X11_from_27 Q) (x1, (0 : Int32), h_4, g_4)) ∧ ((h_4 138 x1.toNatClampNeg) = 0 → Q (-3 : Int32) h_4 g_4)))) ∧ (r_4 = 0 → Q (-2 : Int32) h_4 g_4)))
set_option maxHeartbeats 8000000 in
set_option maxRecDepth 100000 in
theorem m_X11_from (l : Launch) (D : va_G) (cy : Nat → ClassId) (ad : Nat → Nat) (h : HI) (g : HL) (sz : Nat) (x1 : Int32) (Q : Int32 → HI → HL → Prop) (HW : w_X11_from x1 h g Q) : Met l yX11_from (wa yX11_from cX11_from 3 (some .int)) ({ frames := 1, cells := 0, slots := 0, locals := 25 }) (va_Pc [.ref (ad 135), .int x1] (gI D cy ad h g sz)) (va_Qi (fun (r : Int32) (u : HI × HL) => Q r u.1 u.2) (gB D cy ad sz) (gA ad sz)) 0 0 (gA ad sz) := by
  refine Met.ofW (cc := cX11_from) (maxL := 3) (ret := (some .int)) (by decide) rfl ?_
  intro p e s m args below meth c s₁ B hml hv
  obtain ⟨hav, hsz, hP, hK, hD0, hNw⟩ := hv
  have hx := B.exec
  have hb := B.bytes
  have hr := B.returns
  have hts := atoms_spec (ws := (wa yX11_from cX11_from 3 (some .int))) B.pre
  have hw := wa_hw hts
  have hown : s.vm.findClass RX11 = some m.cls := findClass_of_methodNamed B.named
  have hlocks := B.notSynchronized
  subst hsz
  have hG : gG D cy ad (gA ad s.heap.size) s.heap h g s.heap [] := ⟨hP, gA_self hD0, va_S.rf⟩
  clear hP hD0
  have lk16 := hw (.fieldLink RX11 16 "OldWorksModel" "isKept" "[Z") (wm5 29 rfl rfl)
  have lk7 := hw (.fieldLink RX11 7 "OldWorksModel" "st" "[I") (wm5 27 rfl rfl)
  have lk13 := hw (.fieldLink RX11 13 "OldWorksModel" "images" "[I") (wm5 28 rfl rfl)
  rw [show (headSpec (wa yX11_from cX11_from 3 (some .int)) ({ frames := 1, cells := 0, slots := 0, locals := 25 } : Room)).room = ({ frames := 1, cells := 0, slots := 0, locals := 25 } : Room) from rfl]
  have hl := lv_entry ([.ref (ad 135), .int x1]) (n := 3) (Nat.le_of_ble_eq_true rfl)
  rw [show entryFrame m args 3 = entryFrame m ([.ref (ad 135), .int x1] : List Value).toArray 3 from by rw [hav], lg_entry_eq]
  generalize (lg_sl ([.ref (ad 135), .int x1]) ++ List.replicate (3 - (lg_sl ([.ref (ad 135), .int x1])).length) Slot.unset).toArray = ls at hl ⊢
  have hl : lv_has ls 3 [(0, .ref (ad 135)), (1, .int x1)] := hl
  have L27 : ∀ (n : Nat) (x1 : Int32) (x2 : Int32) (h : HI) (g : HL) (H : Heap) (locs : List Loc) (ls : Array Slot), lpN (F_X11_from_27 Q) n (x1, x2, h, g) → gG D cy ad (gA ad s.heap.size) s.heap h g H locs → lv_has ls 3 [(0, .ref (ad 135)), (1, .int x1), (2, .int x2)] → W p l e ({ frames := 1, cells := 0, slots := 0, locals := 25 } : Room) s m args below meth c H locs 0 0 (MQ below (va_Qi (fun (r : Int32) (u : HI × HL) => Q r u.1 u.2) (gB D cy ad s.heap.size) (gA ad s.heap.size)) args s 0 0 (gA ad s.heap.size)) (F0 m 27 ls []) := by
    intro n
    induction n with
    | zero => intro x1 x2 h g H locs ls HW; exact HW.elim
    | succ n ih =>
      intro x1 x2 h g H locs ls HW hG hl
      have HW : b_X11_from_27 Q (fun x1 x2 h g => lpN (F_X11_from_27 Q) n (x1, x2, h, g)) x1 x2 h g := HW
      generalize hKe : (fun (x1 : Int32) (x2 : Int32) (h : HI) (g : HL) => lpN (F_X11_from_27 Q) n (x1, x2, h, g)) = K27 at HW
      have hK27 : ∀ (x1 : Int32) (x2 : Int32) (h : HI) (g : HL) (H : Heap) (locs : List Loc) (ls : Array Slot), K27 x1 x2 h g → gG D cy ad (gA ad s.heap.size) s.heap h g H locs → lv_has ls 3 [(0, .ref (ad 135)), (1, .int x1), (2, .int x2)] → W p l e ({ frames := 1, cells := 0, slots := 0, locals := 25 } : Room) s m args below meth c H locs 0 0 (MQ below (va_Qi (fun (r : Int32) (u : HI × HL) => Q r u.1 u.2) (gB D cy ad s.heap.size) (gA ad s.heap.size)) args s 0 0 (gA ad s.heap.size)) (F0 m 27 ls []) := by subst hKe; exact ih
      clear ih
      clear hKe
      unfold b_X11_from_27 at HW
      refine lv_iload_n hx hb dX11_from_27 rfl (lv_at hl 2 rfl) ?_
      refine lv_sipush (v := 887) hx hb dX11_from_28 (by decide) ?_
      refine lv_icmp_ge (tgt := 58) hx hb dX11_from_31 (by decide) (fun c_31 => ?_) (fun c_31 => ?_)
      · replace HW := HW.1 c_31
        refine lv_iconst (v := 1) hx hb dX11_from_58 (by decide) ?_
        exact W.iret (v := (1 : Int32)) hx hb hr (fun t ht hW => ⟨⟨(1 : Int32), (h, g), rfl, HW, g_B ht hG⟩, hG.2.2.F ht⟩) hG.2.2.2.2 dX11_from_59
      · replace HW := HW.2 c_31
        refine lv_aload_n hx hb dX11_from_34 rfl (lv_at hl 0 rfl) ?_
        refine g_getr hx hb hw inG11 hown hK hG gl_135 rfl gk_135 (by decide) 0 (by decide) (by rw [gm_135]; decide) (r := 136) gr_135_0 lk7 dX11_from_35 ?_
        refine lv_iload_n hx hb dX11_from_38 rfl (lv_at hl 2 rfl) ?_
        refine lv_aload_n hx hb dX11_from_39 rfl (lv_at hl 0 rfl) ?_
        refine g_getr hx hb hw inG11 hown hK hG gl_135 rfl gk_135 (by decide) 1 (by decide) (by rw [gm_135]; decide) (r := 137) gr_135_1 lk13 dX11_from_40 ?_
        refine lv_sipush (v := 887) hx hb dX11_from_43 (by decide) ?_
        refine lv_iload_n hx hb dX11_from_46 rfl (lv_at hl 1 rfl) ?_
        refine lv_imul hx hb dX11_from_47 ?_
        refine lv_iload_n hx hb dX11_from_48 rfl (lv_at hl 2 rfl) ?_
        refine lv_iadd hx hb dX11_from_49 ?_
        refine g_iald hx hb hK hG gl_137 gk_137 gn_137 HW.1 dX11_from_50 ?_
        replace HW := HW.2
        refine g_iast hx hb hK hG gl_136 gk_136 gn_136 HW.1 dX11_from_51 (fun H locs hG => ?_)
        replace HW := HW.2
        obtain ⟨h_51, eh_51⟩ : ∃ y : HI, y = hu h 136 x2.toNatClampNeg (h 137 (((887 : Int32) * x1) + x2).toNatClampNeg) := ⟨_, rfl⟩
        rw [← eh_51] at hG
        replace HW := HW h_51 eh_51
        obtain ⟨x2_52, ex2_52⟩ : ∃ y : Int32, y = (x2 + 1) := ⟨_, rfl⟩
        replace HW := HW x2_52 ex2_52
        refine lv_iinc (v := x2_52) (lv' := [(2, .int x2_52), (0, .ref (ad 135)), (1, .int x1)]) hx hb dX11_from_52 hl (k := 2) rfl (by rw [ex2_52]; rfl) (by decide) rfl (fun ls hl => ?_)
        refine lv_goto (tgt := 27) hx hb dX11_from_55 (by decide) ?_
        exact hK27 x1 x2_52 h_51 g _ _ _ HW hG (lv_sub hl [1, 2, 0] rfl)
  have E0 : ∀ (H : Heap) (locs : List Loc) (ls : Array Slot), gG D cy ad (gA ad s.heap.size) s.heap h g H locs → lv_has ls 3 [(0, .ref (ad 135)), (1, .int x1)] → W p l e ({ frames := 1, cells := 0, slots := 0, locals := 25 } : Room) s m args below meth c H locs 0 0 (MQ below (va_Qi (fun (r : Int32) (u : HI × HL) => Q r u.1 u.2) (gB D cy ad s.heap.size) (gA ad s.heap.size)) args s 0 0 (gA ad s.heap.size)) (F0 m 0 ls []) := by
    intro H locs ls hG hl
    unfold w_X11_from at HW
    refine lv_iload_n hx hb dX11_from_0 rfl (lv_at hl 1 rfl) ?_
    refine lv_i2l hx hb dX11_from_1 rfl ?_
    refine lv_lconst (v := 0) hx hb dX11_from_2 (by decide) ?_
    refine lv_lconst (v := 1) hx hb dX11_from_3 (by decide) ?_
    obtain ⟨P_4, HC_4, HW⟩ := HW
    refine g_callz (g_runS (As := [.long ((x1).toInt64), .long (0 : Int64), .long (1 : Int64)]) (rest := []) ⟨hx, hb, hml, hown, hts⟩ (m_X11_in l D cy ad h g H.size ((x1).toInt64) (0 : Int64) (1 : Int64) P_4 HC_4) (va_cwS 3 hts (gd_S (wm5 111 rfl rfl) (wm5 112 rfl rfl) (wm1 13 rfl rfl) (wm5 113 rfl rfl)) rfl rfl rfl (by decide +kernel) ⟨Nat.le_of_ble_eq_true rfl, Nat.le_of_ble_eq_true rfl⟩) hK hNw hG rfl rfl hl.1 rfl (lv_room (Nat.le_of_ble_eq_true rfl)) dX11_from_4 ⟨Nat.zero_le _, Nat.zero_le _⟩) hG (fun r_4 h_4 g_4 H locs hz hq hG => ?_)
    replace HW := HW r_4 h_4 g_4 hz hq
    refine lv_if_ne (tgt := 13) hx hb dX11_from_7 (by decide) (fun c_7 => ?_) (fun c_7 => ?_)
    · replace HW := HW.1 c_7
      refine lv_aload_n hx hb dX11_from_13 rfl (lv_at hl 0 rfl) ?_
      refine g_getr hx hb hw inG11 hown hK hG gl_135 rfl gk_135 (by decide) 2 (by decide) (by rw [gm_135]; decide) (r := 138) gr_135_2 lk16 dX11_from_14 ?_
      refine lv_iload_n hx hb dX11_from_17 rfl (lv_at hl 1 rfl) ?_
      refine g_zald hx hb hK hG gl_138 gk_138 gn_138 HW.1 dX11_from_18 ?_
      replace HW := HW.2
      refine lv_if_ne (tgt := 25) hx hb dX11_from_19 (by decide) (fun c_19 => ?_) (fun c_19 => ?_)
      · replace HW := HW.1 c_19
        refine lv_iconst (v := 0) hx hb dX11_from_25 (by decide) ?_
        refine lv_istore_n (lv' := [(2, .int (0 : Int32)), (0, .ref (ad 135)), (1, .int x1)]) hx hb dX11_from_26 rfl hl (by decide) rfl (fun ls hl => ?_)
        obtain ⟨n_27, HW⟩ := HW
        exact L27 n_27 x1 (0 : Int32) h_4 g_4 _ _ _ HW hG (lv_sub hl [1, 2, 0] rfl)
      · replace HW := HW.2 c_19
        refine lv_bipush (v := (-3)) hx hb dX11_from_22 (by decide) ?_
        exact W.iret (v := (-3 : Int32)) hx hb hr (fun t ht hW => ⟨⟨(-3 : Int32), (h_4, g_4), rfl, HW, g_B ht hG⟩, hG.2.2.F ht⟩) hG.2.2.2.2 dX11_from_24
    · replace HW := HW.2 c_7
      refine lv_bipush (v := (-2)) hx hb dX11_from_10 (by decide) ?_
      exact W.iret (v := (-2 : Int32)) hx hb hr (fun t ht hW => ⟨⟨(-2 : Int32), (h_4, g_4), rfl, HW, g_B ht hG⟩, hG.2.2.F ht⟩) hG.2.2.2.2 dX11_from_12
  exact E0 _ _ _ hG hl

def b_X11_denied_4 (Q : Int32 → HI → HL → Prop) (K4 : Int32 → Int32 → HI → HL → Prop) (x1 : Int32) (x2 : Int32) (h : HI) (g : HL) : Prop :=
  (vp_in (1 : Int32) 887 ∧ (((h 136 (1 : Int32).toNatClampNeg) ≤ x2 → Q x1 h g) ∧ (¬ (h 136 (1 : Int32).toNatClampNeg) ≤ x2 → (∃ P_18 : Int32 → HI → HL → Prop, w_X11_sayOf x2 (5 : Int32) h g P_18 ∧ ∀ (r_18 : Int32) (h_18 : HI) (g_18 : HL), P_18 r_18 h_18 g_18 → (∀ x1_22 : Int32, x1_22 = (x1 + r_18) → (∀ x2_23 : Int32, x2_23 = (x2 + 1) → K4 x1_22 x2_23 h_18 g_18))))))
def F_X11_denied_4 (Q : Int32 → HI → HL → Prop) (K : Int32 × Int32 × HI × HL → Prop) (q : Int32 × Int32 × HI × HL) : Prop := b_X11_denied_4 Q (fun x1 x2 h g => K (x1, x2, h, g)) q.1 q.2.1 q.2.2.1 q.2.2.2
def w_X11_denied  (h : HI) (g : HL) (Q : Int32 → HI → HL → Prop) : Prop :=
  lpE (F_X11_denied_4 Q) ((0 : Int32), (0 : Int32), h, g)
set_option maxHeartbeats 8000000 in
set_option maxRecDepth 100000 in
theorem m_X11_denied (l : Launch) (D : va_G) (cy : Nat → ClassId) (ad : Nat → Nat) (h : HI) (g : HL) (sz : Nat)  (Q : Int32 → HI → HL → Prop) (HW : w_X11_denied h g Q) : Met l yX11_denied (wa yX11_denied cX11_denied 3 (some .int)) ({ frames := 1, cells := 0, slots := 0, locals := 22 }) (va_Pc [.ref (ad 135)] (gI D cy ad h g sz)) (va_Qi (fun (r : Int32) (u : HI × HL) => Q r u.1 u.2) (gB D cy ad sz) (gA ad sz)) 0 0 (gA ad sz) := by
  refine Met.ofW (cc := cX11_denied) (maxL := 3) (ret := (some .int)) (by decide) rfl ?_
  intro p e s m args below meth c s₁ B hml hv
  obtain ⟨hav, hsz, hP, hK, hD0, hNw⟩ := hv
  have hx := B.exec
  have hb := B.bytes
  have hr := B.returns
  have hts := atoms_spec (ws := (wa yX11_denied cX11_denied 3 (some .int))) B.pre
  have hw := wa_hw hts
  have hown : s.vm.findClass RX11 = some m.cls := findClass_of_methodNamed B.named
  have hlocks := B.notSynchronized
  subst hsz
  have hG : gG D cy ad (gA ad s.heap.size) s.heap h g s.heap [] := ⟨hP, gA_self hD0, va_S.rf⟩
  clear hP hD0
  have lk7 := hw (.fieldLink RX11 7 "OldWorksModel" "st" "[I") (wm5 27 rfl rfl)
  rw [show (headSpec (wa yX11_denied cX11_denied 3 (some .int)) ({ frames := 1, cells := 0, slots := 0, locals := 22 } : Room)).room = ({ frames := 1, cells := 0, slots := 0, locals := 22 } : Room) from rfl]
  have hl := lv_entry ([.ref (ad 135)]) (n := 3) (Nat.le_of_ble_eq_true rfl)
  rw [show entryFrame m args 3 = entryFrame m ([.ref (ad 135)] : List Value).toArray 3 from by rw [hav], lg_entry_eq]
  generalize (lg_sl ([.ref (ad 135)]) ++ List.replicate (3 - (lg_sl ([.ref (ad 135)])).length) Slot.unset).toArray = ls at hl ⊢
  have hl : lv_has ls 3 [(0, .ref (ad 135))] := hl
  have L4 : ∀ (n : Nat) (x1 : Int32) (x2 : Int32) (h : HI) (g : HL) (H : Heap) (locs : List Loc) (ls : Array Slot), lpN (F_X11_denied_4 Q) n (x1, x2, h, g) → gG D cy ad (gA ad s.heap.size) s.heap h g H locs → lv_has ls 3 [(0, .ref (ad 135)), (1, .int x1), (2, .int x2)] → W p l e ({ frames := 1, cells := 0, slots := 0, locals := 22 } : Room) s m args below meth c H locs 0 0 (MQ below (va_Qi (fun (r : Int32) (u : HI × HL) => Q r u.1 u.2) (gB D cy ad s.heap.size) (gA ad s.heap.size)) args s 0 0 (gA ad s.heap.size)) (F0 m 4 ls []) := by
    intro n
    induction n with
    | zero => intro x1 x2 h g H locs ls HW; exact HW.elim
    | succ n ih =>
      intro x1 x2 h g H locs ls HW hG hl
      have HW : b_X11_denied_4 Q (fun x1 x2 h g => lpN (F_X11_denied_4 Q) n (x1, x2, h, g)) x1 x2 h g := HW
      generalize hKe : (fun (x1 : Int32) (x2 : Int32) (h : HI) (g : HL) => lpN (F_X11_denied_4 Q) n (x1, x2, h, g)) = K4 at HW
      have hK4 : ∀ (x1 : Int32) (x2 : Int32) (h : HI) (g : HL) (H : Heap) (locs : List Loc) (ls : Array Slot), K4 x1 x2 h g → gG D cy ad (gA ad s.heap.size) s.heap h g H locs → lv_has ls 3 [(0, .ref (ad 135)), (1, .int x1), (2, .int x2)] → W p l e ({ frames := 1, cells := 0, slots := 0, locals := 22 } : Room) s m args below meth c H locs 0 0 (MQ below (va_Qi (fun (r : Int32) (u : HI × HL) => Q r u.1 u.2) (gB D cy ad s.heap.size) (gA ad s.heap.size)) args s 0 0 (gA ad s.heap.size)) (F0 m 4 ls []) := by subst hKe; exact ih
      clear ih
      clear hKe
      unfold b_X11_denied_4 at HW
      refine lv_iload_n hx hb dX11_denied_4 rfl (lv_at hl 2 rfl) ?_
      refine lv_aload_n hx hb dX11_denied_5 rfl (lv_at hl 0 rfl) ?_
      refine g_getr hx hb hw inG11 hown hK hG gl_135 rfl gk_135 (by decide) 0 (by decide) (by rw [gm_135]; decide) (r := 136) gr_135_0 lk7 dX11_denied_6 ?_
      refine lv_iconst (v := 1) hx hb dX11_denied_9 (by decide) ?_
      refine g_iald hx hb hK hG gl_136 gk_136 gn_136 HW.1 dX11_denied_10 ?_
      replace HW := HW.2
      refine lv_icmp_ge (tgt := 29) hx hb dX11_denied_11 (by decide) (fun c_11 => ?_) (fun c_11 => ?_)
      · replace HW := HW.1 c_11
        refine lv_iload_n hx hb dX11_denied_29 rfl (lv_at hl 1 rfl) ?_
        exact W.iret (v := x1) hx hb hr (fun t ht hW => ⟨⟨x1, (h, g), rfl, HW, g_B ht hG⟩, hG.2.2.F ht⟩) hG.2.2.2.2 dX11_denied_30
      · replace HW := HW.2 c_11
        refine lv_iload_n hx hb dX11_denied_14 rfl (lv_at hl 1 rfl) ?_
        refine lv_aload_n hx hb dX11_denied_15 rfl (lv_at hl 0 rfl) ?_
        refine lv_iload_n hx hb dX11_denied_16 rfl (lv_at hl 2 rfl) ?_
        refine lv_iconst (v := 5) hx hb dX11_denied_17 (by decide) ?_
        obtain ⟨P_18, HC_18, HW⟩ := HW
        refine g_calli (g_runV (As := [.int x2, .int (5 : Int32)]) (rest := [.int x1]) ⟨hx, hb, hml, hown, hts⟩ (m_X11_sayOf l D cy ad h g H.size x2 (5 : Int32) P_18 HC_18) (cwV 2 hts (gd_V (wm5 213 rfl rfl) (wm5 215 rfl rfl) (wmp4 (q := (yX11_sayOf, 26)) 2 rfl) (wm1 13 rfl rfl) (wm5 216 rfl rfl)) rfl rfl rfl (by decide +kernel) ⟨Nat.le_of_ble_eq_true rfl, Nat.le_of_ble_eq_true rfl⟩) hK hNw hG gl_135 rfl gk_135 (by decide) rfl rfl hl.1 rfl (lv_room (Nat.le_of_ble_eq_true rfl)) dX11_denied_18 ⟨Nat.zero_le _, Nat.zero_le _⟩) hG (fun r_18 h_18 g_18 H locs hq hG => ?_)
        replace HW := HW r_18 h_18 g_18 hq
        refine lv_iadd hx hb dX11_denied_21 ?_
        refine lv_topi (fun x1_22 ex1_22 => ?_)
        replace HW := HW x1_22 ex1_22
        refine lv_istore_n (lv' := [(1, .int x1_22), (0, .ref (ad 135)), (2, .int x2)]) hx hb dX11_denied_22 rfl hl (by decide) rfl (fun ls hl => ?_)
        obtain ⟨x2_23, ex2_23⟩ : ∃ y : Int32, y = (x2 + 1) := ⟨_, rfl⟩
        replace HW := HW x2_23 ex2_23
        refine lv_iinc (v := x2_23) (lv' := [(2, .int x2_23), (1, .int x1_22), (0, .ref (ad 135))]) hx hb dX11_denied_23 hl (k := 2) rfl (by rw [ex2_23]; rfl) (by decide) rfl (fun ls hl => ?_)
        refine lv_goto (tgt := 4) hx hb dX11_denied_26 (by decide) ?_
        exact hK4 x1_22 x2_23 h_18 g_18 _ _ _ HW hG (lv_sub hl [2, 1, 0] rfl)
  have E0 : ∀ (H : Heap) (locs : List Loc) (ls : Array Slot), gG D cy ad (gA ad s.heap.size) s.heap h g H locs → lv_has ls 3 [(0, .ref (ad 135))] → W p l e ({ frames := 1, cells := 0, slots := 0, locals := 22 } : Room) s m args below meth c H locs 0 0 (MQ below (va_Qi (fun (r : Int32) (u : HI × HL) => Q r u.1 u.2) (gB D cy ad s.heap.size) (gA ad s.heap.size)) args s 0 0 (gA ad s.heap.size)) (F0 m 0 ls []) := by
    intro H locs ls hG hl
    unfold w_X11_denied at HW
    refine lv_iconst (v := 0) hx hb dX11_denied_0 (by decide) ?_
    refine lv_istore_n (lv' := [(1, .int (0 : Int32)), (0, .ref (ad 135))]) hx hb dX11_denied_1 rfl hl (by decide) rfl (fun ls hl => ?_)
    refine lv_iconst (v := 0) hx hb dX11_denied_2 (by decide) ?_
    refine lv_istore_n (lv' := [(2, .int (0 : Int32)), (1, .int (0 : Int32)), (0, .ref (ad 135))]) hx hb dX11_denied_3 rfl hl (by decide) rfl (fun ls hl => ?_)
    obtain ⟨n_4, HW⟩ := HW
    exact L4 n_4 (0 : Int32) (0 : Int32) h g _ _ _ HW hG (lv_sub hl [2, 1, 0] rfl)
  exact E0 _ _ _ hG hl

def w_X11_countOf (x1 : Int32) (h : HI) (g : HL) (Q : Int32 → HI → HL → Prop) : Prop :=
  (((2 : Int32) ≤ x1 → ((¬ x1 = (2 : Int32) → (vp_in (x1 - (1 : Int32)) 887 ∧ Q (h 136 (x1 - (1 : Int32)).toNatClampNeg) h g)) ∧ (x1 = (2 : Int32) → (∃ P_20 : Int32 → HI → HL → Prop, w_X11_denied h g P_20 ∧ ∀ (r_20 : Int32) (h_20 : HI) (g_20 : HL), P_20 r_20 h_20 g_20 → Q r_20 h_20 g_20)))) ∧ (¬ (2 : Int32) ≤ x1 → (vp_in x1 887 ∧ Q (h 136 x1.toNatClampNeg) h g)))
set_option maxHeartbeats 8000000 in
set_option maxRecDepth 100000 in
theorem m_X11_countOf (l : Launch) (D : va_G) (cy : Nat → ClassId) (ad : Nat → Nat) (h : HI) (g : HL) (sz : Nat) (x1 : Int32) (Q : Int32 → HI → HL → Prop) (HW : w_X11_countOf x1 h g Q) : Met l yX11_countOf (wa yX11_countOf cX11_countOf 2 (some .int)) ({ frames := 2, cells := 0, slots := 0, locals := 44 }) (va_Pc [.ref (ad 135), .int x1] (gI D cy ad h g sz)) (va_Qi (fun (r : Int32) (u : HI × HL) => Q r u.1 u.2) (gB D cy ad sz) (gA ad sz)) 0 0 (gA ad sz) := by
  refine Met.ofW (cc := cX11_countOf) (maxL := 2) (ret := (some .int)) (by decide) rfl ?_
  intro p e s m args below meth c s₁ B hml hv
  obtain ⟨hav, hsz, hP, hK, hD0, hNw⟩ := hv
  have hx := B.exec
  have hb := B.bytes
  have hr := B.returns
  have hts := atoms_spec (ws := (wa yX11_countOf cX11_countOf 2 (some .int))) B.pre
  have hw := wa_hw hts
  have hown : s.vm.findClass RX11 = some m.cls := findClass_of_methodNamed B.named
  have hlocks := B.notSynchronized
  subst hsz
  have hG : gG D cy ad (gA ad s.heap.size) s.heap h g s.heap [] := ⟨hP, gA_self hD0, va_S.rf⟩
  clear hP hD0
  have lk7 := hw (.fieldLink RX11 7 "OldWorksModel" "st" "[I") (wm5 27 rfl rfl)
  rw [show (headSpec (wa yX11_countOf cX11_countOf 2 (some .int)) ({ frames := 2, cells := 0, slots := 0, locals := 44 } : Room)).room = ({ frames := 2, cells := 0, slots := 0, locals := 44 } : Room) from rfl]
  have hl := lv_entry ([.ref (ad 135), .int x1]) (n := 2) (Nat.le_of_ble_eq_true rfl)
  rw [show entryFrame m args 2 = entryFrame m ([.ref (ad 135), .int x1] : List Value).toArray 2 from by rw [hav], lg_entry_eq]
  generalize (lg_sl ([.ref (ad 135), .int x1]) ++ List.replicate (2 - (lg_sl ([.ref (ad 135), .int x1])).length) Slot.unset).toArray = ls at hl ⊢
  have hl : lv_has ls 2 [(0, .ref (ad 135)), (1, .int x1)] := hl
  have E0 : ∀ (H : Heap) (locs : List Loc) (ls : Array Slot), gG D cy ad (gA ad s.heap.size) s.heap h g H locs → lv_has ls 2 [(0, .ref (ad 135)), (1, .int x1)] → W p l e ({ frames := 2, cells := 0, slots := 0, locals := 44 } : Room) s m args below meth c H locs 0 0 (MQ below (va_Qi (fun (r : Int32) (u : HI × HL) => Q r u.1 u.2) (gB D cy ad s.heap.size) (gA ad s.heap.size)) args s 0 0 (gA ad s.heap.size)) (F0 m 0 ls []) := by
    intro H locs ls hG hl
    unfold w_X11_countOf at HW
    refine lv_iload_n hx hb dX11_countOf_0 rfl (lv_at hl 1 rfl) ?_
    refine lv_iconst (v := 2) hx hb dX11_countOf_1 (by decide) ?_
    refine lv_icmp_ge (tgt := 14) hx hb dX11_countOf_2 (by decide) (fun c_2 => ?_) (fun c_2 => ?_)
    · replace HW := HW.1 c_2
      refine lv_iload_n hx hb dX11_countOf_14 rfl (lv_at hl 1 rfl) ?_
      refine lv_iconst (v := 2) hx hb dX11_countOf_15 (by decide) ?_
      refine lv_icmp_ne (tgt := 26) hx hb dX11_countOf_16 (by decide) (fun c_16 => ?_) (fun c_16 => ?_)
      · replace HW := HW.1 c_16
        refine lv_aload_n hx hb dX11_countOf_26 rfl (lv_at hl 0 rfl) ?_
        refine g_getr hx hb hw inG11 hown hK hG gl_135 rfl gk_135 (by decide) 0 (by decide) (by rw [gm_135]; decide) (r := 136) gr_135_0 lk7 dX11_countOf_27 ?_
        refine lv_iload_n hx hb dX11_countOf_30 rfl (lv_at hl 1 rfl) ?_
        refine lv_iconst (v := 1) hx hb dX11_countOf_31 (by decide) ?_
        refine lv_isub hx hb dX11_countOf_32 ?_
        refine g_iald hx hb hK hG gl_136 gk_136 gn_136 HW.1 dX11_countOf_33 ?_
        replace HW := HW.2
        exact W.iret (v := (h 136 (x1 - (1 : Int32)).toNatClampNeg)) hx hb hr (fun t ht hW => ⟨⟨(h 136 (x1 - (1 : Int32)).toNatClampNeg), (h, g), rfl, HW, g_B ht hG⟩, hG.2.2.F ht⟩) hG.2.2.2.2 dX11_countOf_34
      · replace HW := HW.2 c_16
        refine lv_aload_n hx hb dX11_countOf_19 rfl (lv_at hl 0 rfl) ?_
        obtain ⟨P_20, HC_20, HW⟩ := HW
        refine g_calli (g_runV (As := []) (rest := []) ⟨hx, hb, hml, hown, hts⟩ (m_X11_denied l D cy ad h g H.size  P_20 HC_20) (cwV 0 hts (gd_V (wm6 236 rfl rfl) (wm6 238 rfl rfl) (wmp6 (q := (yX11_denied, 26)) 1 rfl) (wm1 13 rfl rfl) (wm6 239 rfl rfl)) rfl rfl rfl (by decide +kernel) ⟨Nat.le_of_ble_eq_true rfl, Nat.le_of_ble_eq_true rfl⟩) hK hNw hG gl_135 rfl gk_135 (by decide) rfl rfl hl.1 rfl (lv_room (Nat.le_of_ble_eq_true rfl)) dX11_countOf_20 ⟨Nat.zero_le _, Nat.zero_le _⟩) hG (fun r_20 h_20 g_20 H locs hq hG => ?_)
        replace HW := HW r_20 h_20 g_20 hq
        refine lv_goto (tgt := 34) hx hb dX11_countOf_23 (by decide) ?_
        exact W.iret (v := r_20) hx hb hr (fun t ht hW => ⟨⟨r_20, (h_20, g_20), rfl, HW, g_B ht hG⟩, hG.2.2.F ht⟩) hG.2.2.2.2 dX11_countOf_34
    · replace HW := HW.2 c_2
      refine lv_aload_n hx hb dX11_countOf_5 rfl (lv_at hl 0 rfl) ?_
      refine g_getr hx hb hw inG11 hown hK hG gl_135 rfl gk_135 (by decide) 0 (by decide) (by rw [gm_135]; decide) (r := 136) gr_135_0 lk7 dX11_countOf_6 ?_
      refine lv_iload_n hx hb dX11_countOf_9 rfl (lv_at hl 1 rfl) ?_
      refine g_iald hx hb hK hG gl_136 gk_136 gn_136 HW.1 dX11_countOf_10 ?_
      replace HW := HW.2
      refine lv_goto (tgt := 34) hx hb dX11_countOf_11 (by decide) ?_
      exact W.iret (v := (h 136 x1.toNatClampNeg)) hx hb hr (fun t ht hW => ⟨⟨(h 136 x1.toNatClampNeg), (h, g), rfl, HW, g_B ht hG⟩, hG.2.2.F ht⟩) hG.2.2.2.2 dX11_countOf_34
  exact E0 _ _ _ hG hl

def w_X11_count (x1 : Int32) (h : HI) (g : HL) (Q : Int32 → HI → HL → Prop) : Prop :=
  (∃ P_6 : Int32 → HI → HL → Prop, w_X11_in ((x1).toInt64) (0 : Int64) (9 : Int64) h g P_6 ∧ ∀ (r_6 : Int32) (h_6 : HI) (g_6 : HL), zb r_6 → P_6 r_6 h_6 g_6 → ((r_6 = 0 → Q (-2 : Int32) h_6 g_6) ∧ (¬ r_6 = 0 → (∃ P_14 : Int32 → HI → HL → Prop, w_X11_countOf x1 h_6 g_6 P_14 ∧ ∀ (r_14 : Int32) (h_14 : HI) (g_14 : HL), P_14 r_14 h_14 g_14 → Q r_14 h_14 g_14))))
set_option maxHeartbeats 8000000 in
set_option maxRecDepth 100000 in
theorem m_X11_count (l : Launch) (D : va_G) (cy : Nat → ClassId) (ad : Nat → Nat) (h : HI) (g : HL) (sz : Nat) (x1 : Int32) (Q : Int32 → HI → HL → Prop) (HW : w_X11_count x1 h g Q) : Met l yX11_count (wa yX11_count cX11_count 2 (some .int)) ({ frames := 3, cells := 0, slots := 0, locals := 65 }) (va_Pc [.ref (ad 135), .int x1] (gI D cy ad h g sz)) (va_Qi (fun (r : Int32) (u : HI × HL) => Q r u.1 u.2) (gB D cy ad sz) (gA ad sz)) 0 0 (gA ad sz) := by
  refine Met.ofW (cc := cX11_count) (maxL := 2) (ret := (some .int)) (by decide) rfl ?_
  intro p e s m args below meth c s₁ B hml hv
  obtain ⟨hav, hsz, hP, hK, hD0, hNw⟩ := hv
  have hx := B.exec
  have hb := B.bytes
  have hr := B.returns
  have hts := atoms_spec (ws := (wa yX11_count cX11_count 2 (some .int))) B.pre
  have hw := wa_hw hts
  have hown : s.vm.findClass RX11 = some m.cls := findClass_of_methodNamed B.named
  have hlocks := B.notSynchronized
  subst hsz
  have hG : gG D cy ad (gA ad s.heap.size) s.heap h g s.heap [] := ⟨hP, gA_self hD0, va_S.rf⟩
  clear hP hD0
  have cn258 := hw (.constantLong RX11 258 (9)) (wm6 120 rfl rfl)
  rw [show (headSpec (wa yX11_count cX11_count 2 (some .int)) ({ frames := 3, cells := 0, slots := 0, locals := 65 } : Room)).room = ({ frames := 3, cells := 0, slots := 0, locals := 65 } : Room) from rfl]
  have hl := lv_entry ([.ref (ad 135), .int x1]) (n := 2) (Nat.le_of_ble_eq_true rfl)
  rw [show entryFrame m args 2 = entryFrame m ([.ref (ad 135), .int x1] : List Value).toArray 2 from by rw [hav], lg_entry_eq]
  generalize (lg_sl ([.ref (ad 135), .int x1]) ++ List.replicate (2 - (lg_sl ([.ref (ad 135), .int x1])).length) Slot.unset).toArray = ls at hl ⊢
  have hl : lv_has ls 2 [(0, .ref (ad 135)), (1, .int x1)] := hl
  have E0 : ∀ (H : Heap) (locs : List Loc) (ls : Array Slot), gG D cy ad (gA ad s.heap.size) s.heap h g H locs → lv_has ls 2 [(0, .ref (ad 135)), (1, .int x1)] → W p l e ({ frames := 3, cells := 0, slots := 0, locals := 65 } : Room) s m args below meth c H locs 0 0 (MQ below (va_Qi (fun (r : Int32) (u : HI × HL) => Q r u.1 u.2) (gB D cy ad s.heap.size) (gA ad s.heap.size)) args s 0 0 (gA ad s.heap.size)) (F0 m 0 ls []) := by
    intro H locs ls hG hl
    unfold w_X11_count at HW
    refine lv_iload_n hx hb dX11_count_0 rfl (lv_at hl 1 rfl) ?_
    refine lv_i2l hx hb dX11_count_1 rfl ?_
    refine lv_lconst (v := 0) hx hb dX11_count_2 (by decide) ?_
    refine lv_ldc2 (v := 9) hx hb hown cn258 dX11_count_3 ?_
    obtain ⟨P_6, HC_6, HW⟩ := HW
    refine g_callz (g_runS (As := [.long ((x1).toInt64), .long (0 : Int64), .long (9 : Int64)]) (rest := []) ⟨hx, hb, hml, hown, hts⟩ (m_X11_in l D cy ad h g H.size ((x1).toInt64) (0 : Int64) (9 : Int64) P_6 HC_6) (va_cwS 3 hts (gd_S (wm5 111 rfl rfl) (wm5 112 rfl rfl) (wm1 13 rfl rfl) (wm5 113 rfl rfl)) rfl rfl rfl (by decide +kernel) ⟨Nat.le_of_ble_eq_true rfl, Nat.le_of_ble_eq_true rfl⟩) hK hNw hG rfl rfl hl.1 rfl (lv_room (Nat.le_of_ble_eq_true rfl)) dX11_count_6 ⟨Nat.zero_le _, Nat.zero_le _⟩) hG (fun r_6 h_6 g_6 H locs hz hq hG => ?_)
    replace HW := HW r_6 h_6 g_6 hz hq
    refine lv_if_eq (tgt := 20) hx hb dX11_count_9 (by decide) (fun c_9 => ?_) (fun c_9 => ?_)
    · replace HW := HW.1 c_9
      refine lv_bipush (v := (-2)) hx hb dX11_count_20 (by decide) ?_
      exact W.iret (v := (-2 : Int32)) hx hb hr (fun t ht hW => ⟨⟨(-2 : Int32), (h_6, g_6), rfl, HW, g_B ht hG⟩, hG.2.2.F ht⟩) hG.2.2.2.2 dX11_count_22
    · replace HW := HW.2 c_9
      refine lv_aload_n hx hb dX11_count_12 rfl (lv_at hl 0 rfl) ?_
      refine lv_iload_n hx hb dX11_count_13 rfl (lv_at hl 1 rfl) ?_
      obtain ⟨P_14, HC_14, HW⟩ := HW
      refine g_calli (g_runV (As := [.int x1]) (rest := []) ⟨hx, hb, hml, hown, hts⟩ (m_X11_countOf l D cy ad h_6 g_6 H.size x1 P_14 HC_14) (cwV 1 hts (gd_V (wm6 232 rfl rfl) (wm6 234 rfl rfl) (wmp6 (q := (yX11_countOf, 26)) 0 rfl) (wm1 13 rfl rfl) (wm6 235 rfl rfl)) rfl rfl rfl (by decide +kernel) ⟨Nat.le_of_ble_eq_true rfl, Nat.le_of_ble_eq_true rfl⟩) hK hNw hG gl_135 rfl gk_135 (by decide) rfl rfl hl.1 rfl (lv_room (Nat.le_of_ble_eq_true rfl)) dX11_count_14 ⟨Nat.zero_le _, Nat.zero_le _⟩) hG (fun r_14 h_14 g_14 H locs hq hG => ?_)
      replace HW := HW r_14 h_14 g_14 hq
      refine lv_goto (tgt := 22) hx hb dX11_count_17 (by decide) ?_
      exact W.iret (v := r_14) hx hb hr (fun t ht hW => ⟨⟨r_14, (h_14, g_14), rfl, HW, g_B ht hG⟩, hG.2.2.F ht⟩) hG.2.2.2.2 dX11_count_22
  exact E0 _ _ _ hG hl

def b_X11_mixed_6 (Q : Int64 → HI → HL → Prop) (K6 : Int32 → Int32 → Int64 → Int32 → HI → HL → Prop) (x3 : Int32) (x4 : Int32) (x5 : Int64) (x7 : Int32) (h : HI) (g : HL) : Prop :=
  ((x4 ≤ x7 → Q x5 h g) ∧ (¬ x4 ≤ x7 → (vp_in (x3 + x7) 887 ∧ (∀ x5_30 : Int64, x5_30 = (((31 : Int64) * x5) + (((h 136 (x3 + x7).toNatClampNeg)).toInt64)) → (∀ x7_32 : Int32, x7_32 = (x7 + 1) → K6 x3 x4 x5_30 x7_32 h g)))))
def F_X11_mixed_6 (Q : Int64 → HI → HL → Prop) (K : Int32 × Int32 × Int64 × Int32 × HI × HL → Prop) (q : Int32 × Int32 × Int64 × Int32 × HI × HL) : Prop := b_X11_mixed_6 Q (fun x3 x4 x5 x7 h g => K (x3, x4, x5, x7, h, g)) q.1 q.2.1 q.2.2.1 q.2.2.2.1 q.2.2.2.2.1 q.2.2.2.2.2
def w_X11_mixed (x1 : Int64) (x3 : Int32) (x4 : Int32) (h : HI) (g : HL) (Q : Int64 → HI → HL → Prop) : Prop :=
  lpE (F_X11_mixed_6 Q) (x3, x4, x1, (0 : Int32), h, g)
set_option maxHeartbeats 8000000 in
set_option maxRecDepth 100000 in
theorem m_X11_mixed (l : Launch) (D : va_G) (cy : Nat → ClassId) (ad : Nat → Nat) (h : HI) (g : HL) (sz : Nat) (x1 : Int64) (x3 : Int32) (x4 : Int32) (Q : Int64 → HI → HL → Prop) (HW : w_X11_mixed x1 x3 x4 h g Q) : Met l yX11_mixed (wa yX11_mixed cX11_mixed 8 (some .long)) ({ frames := 0, cells := 0, slots := 0, locals := 0 }) (va_Pc [.ref (ad 135), .long x1, .int x3, .int x4] (gI D cy ad h g sz)) (va_Ql (fun (r : Int64) (u : HI × HL) => Q r u.1 u.2) (gB D cy ad sz) (gA ad sz)) 0 0 (gA ad sz) := by
  refine Met.ofW (cc := cX11_mixed) (maxL := 8) (ret := (some .long)) (by decide) rfl ?_
  intro p e s m args below meth c s₁ B hml hv
  obtain ⟨hav, hsz, hP, hK, hD0, hNw⟩ := hv
  have hx := B.exec
  have hb := B.bytes
  have hr := B.returns
  have hts := atoms_spec (ws := (wa yX11_mixed cX11_mixed 8 (some .long))) B.pre
  have hw := wa_hw hts
  have hown : s.vm.findClass RX11 = some m.cls := findClass_of_methodNamed B.named
  have hlocks := B.notSynchronized
  subst hsz
  have hG : gG D cy ad (gA ad s.heap.size) s.heap h g s.heap [] := ⟨hP, gA_self hD0, va_S.rf⟩
  clear hP hD0
  have cn317 := hw (.constantLong RX11 317 (31)) (wm7 5 rfl rfl)
  have lk7 := hw (.fieldLink RX11 7 "OldWorksModel" "st" "[I") (wm5 27 rfl rfl)
  rw [show (headSpec (wa yX11_mixed cX11_mixed 8 (some .long)) ({ frames := 0, cells := 0, slots := 0, locals := 0 } : Room)).room = ({ frames := 0, cells := 0, slots := 0, locals := 0 } : Room) from rfl]
  have hl := lv_entry ([.ref (ad 135), .long x1, .int x3, .int x4]) (n := 8) (Nat.le_of_ble_eq_true rfl)
  rw [show entryFrame m args 8 = entryFrame m ([.ref (ad 135), .long x1, .int x3, .int x4] : List Value).toArray 8 from by rw [hav], lg_entry_eq]
  generalize (lg_sl ([.ref (ad 135), .long x1, .int x3, .int x4]) ++ List.replicate (8 - (lg_sl ([.ref (ad 135), .long x1, .int x3, .int x4])).length) Slot.unset).toArray = ls at hl ⊢
  have hl : lv_has ls 8 [(0, .ref (ad 135)), (1, .long x1), (3, .int x3), (4, .int x4)] := hl
  have L6 : ∀ (n : Nat) (x3 : Int32) (x4 : Int32) (x5 : Int64) (x7 : Int32) (h : HI) (g : HL) (H : Heap) (locs : List Loc) (ls : Array Slot), lpN (F_X11_mixed_6 Q) n (x3, x4, x5, x7, h, g) → gG D cy ad (gA ad s.heap.size) s.heap h g H locs → lv_has ls 8 [(0, .ref (ad 135)), (3, .int x3), (4, .int x4), (5, .long x5), (7, .int x7)] → W p l e ({ frames := 0, cells := 0, slots := 0, locals := 0 } : Room) s m args below meth c H locs 0 0 (MQ below (va_Ql (fun (r : Int64) (u : HI × HL) => Q r u.1 u.2) (gB D cy ad s.heap.size) (gA ad s.heap.size)) args s 0 0 (gA ad s.heap.size)) (F0 m 6 ls []) := by
    intro n
    induction n with
    | zero => intro x3 x4 x5 x7 h g H locs ls HW; exact HW.elim
    | succ n ih =>
      intro x3 x4 x5 x7 h g H locs ls HW hG hl
      have HW : b_X11_mixed_6 Q (fun x3 x4 x5 x7 h g => lpN (F_X11_mixed_6 Q) n (x3, x4, x5, x7, h, g)) x3 x4 x5 x7 h g := HW
      generalize hKe : (fun (x3 : Int32) (x4 : Int32) (x5 : Int64) (x7 : Int32) (h : HI) (g : HL) => lpN (F_X11_mixed_6 Q) n (x3, x4, x5, x7, h, g)) = K6 at HW
      have hK6 : ∀ (x3 : Int32) (x4 : Int32) (x5 : Int64) (x7 : Int32) (h : HI) (g : HL) (H : Heap) (locs : List Loc) (ls : Array Slot), K6 x3 x4 x5 x7 h g → gG D cy ad (gA ad s.heap.size) s.heap h g H locs → lv_has ls 8 [(0, .ref (ad 135)), (3, .int x3), (4, .int x4), (5, .long x5), (7, .int x7)] → W p l e ({ frames := 0, cells := 0, slots := 0, locals := 0 } : Room) s m args below meth c H locs 0 0 (MQ below (va_Ql (fun (r : Int64) (u : HI × HL) => Q r u.1 u.2) (gB D cy ad s.heap.size) (gA ad s.heap.size)) args s 0 0 (gA ad s.heap.size)) (F0 m 6 ls []) := by subst hKe; exact ih
      clear ih
      clear hKe
      unfold b_X11_mixed_6 at HW
      refine lv_iload hx hb dX11_mixed_6 (lv_at hl 4 rfl) ?_
      refine lv_iload hx hb dX11_mixed_8 (lv_at hl 2 rfl) ?_
      refine lv_icmp_ge (tgt := 38) hx hb dX11_mixed_10 (by decide) (fun c_10 => ?_) (fun c_10 => ?_)
      · replace HW := HW.1 c_10
        refine lv_lload hx hb dX11_mixed_38 (lv_at hl 3 rfl) ?_
        exact W.lret (v := x5) hx hb hr (fun t ht hW => ⟨⟨x5, (h, g), rfl, HW, g_B ht hG⟩, hG.2.2.F ht⟩) hG.2.2.2.2 dX11_mixed_40
      · replace HW := HW.2 c_10
        refine lv_ldc2 (v := 31) hx hb hown cn317 dX11_mixed_13 ?_
        refine lv_lload hx hb dX11_mixed_16 (lv_at hl 3 rfl) ?_
        refine lv_lmul hx hb dX11_mixed_18 ?_
        refine lv_aload_n hx hb dX11_mixed_19 rfl (lv_at hl 0 rfl) ?_
        refine g_getr hx hb hw inG11 hown hK hG gl_135 rfl gk_135 (by decide) 0 (by decide) (by rw [gm_135]; decide) (r := 136) gr_135_0 lk7 dX11_mixed_20 ?_
        refine lv_iload_n hx hb dX11_mixed_23 rfl (lv_at hl 1 rfl) ?_
        refine lv_iload hx hb dX11_mixed_24 (lv_at hl 4 rfl) ?_
        refine lv_iadd hx hb dX11_mixed_26 ?_
        refine g_iald hx hb hK hG gl_136 gk_136 gn_136 HW.1 dX11_mixed_27 ?_
        replace HW := HW.2
        refine lv_i2l hx hb dX11_mixed_28 rfl ?_
        refine lv_ladd hx hb dX11_mixed_29 ?_
        refine lv_topl (fun x5_30 ex5_30 => ?_)
        replace HW := HW x5_30 ex5_30
        refine lv_lstore (lv' := [(5, .long x5_30), (0, .ref (ad 135)), (3, .int x3), (4, .int x4), (7, .int x7)]) hx hb dX11_mixed_30 hl (by decide) rfl (fun ls hl => ?_)
        obtain ⟨x7_32, ex7_32⟩ : ∃ y : Int32, y = (x7 + 1) := ⟨_, rfl⟩
        replace HW := HW x7_32 ex7_32
        refine lv_iinc (v := x7_32) (lv' := [(7, .int x7_32), (5, .long x5_30), (0, .ref (ad 135)), (3, .int x3), (4, .int x4)]) hx hb dX11_mixed_32 hl (k := 4) rfl (by rw [ex7_32]; rfl) (by decide) rfl (fun ls hl => ?_)
        refine lv_goto (tgt := 6) hx hb dX11_mixed_35 (by decide) ?_
        exact hK6 x3 x4 x5_30 x7_32 h g _ _ _ HW hG (lv_sub hl [2, 3, 4, 1, 0] rfl)
  have E0 : ∀ (H : Heap) (locs : List Loc) (ls : Array Slot), gG D cy ad (gA ad s.heap.size) s.heap h g H locs → lv_has ls 8 [(0, .ref (ad 135)), (1, .long x1), (3, .int x3), (4, .int x4)] → W p l e ({ frames := 0, cells := 0, slots := 0, locals := 0 } : Room) s m args below meth c H locs 0 0 (MQ below (va_Ql (fun (r : Int64) (u : HI × HL) => Q r u.1 u.2) (gB D cy ad s.heap.size) (gA ad s.heap.size)) args s 0 0 (gA ad s.heap.size)) (F0 m 0 ls []) := by
    intro H locs ls hG hl
    unfold w_X11_mixed at HW
    refine lv_lload_n hx hb dX11_mixed_0 rfl (lv_at hl 1 rfl) ?_
    refine lv_lstore (lv' := [(5, .long x1), (0, .ref (ad 135)), (1, .long x1), (3, .int x3), (4, .int x4)]) hx hb dX11_mixed_1 hl (by decide) rfl (fun ls hl => ?_)
    refine lv_iconst (v := 0) hx hb dX11_mixed_3 (by decide) ?_
    refine lv_istore (lv' := [(7, .int (0 : Int32)), (5, .long x1), (0, .ref (ad 135)), (1, .long x1), (3, .int x3), (4, .int x4)]) hx hb dX11_mixed_4 hl (by decide) rfl (fun ls hl => ?_)
    obtain ⟨n_6, HW⟩ := HW
    exact L6 n_6 x3 x4 x1 (0 : Int32) h g _ _ _ HW hG (lv_sub hl [2, 4, 5, 1, 0] rfl)
  exact E0 _ _ _ hG hl

def b_X11_digest_162 (Q : Int64 → HI → HL → Prop) (K134 : Int64 → Int32 → HI → HL → Prop) (K162 : Int64 → Int32 → Int32 → HI → HL → Prop) (x1 : Int64) (x3 : Int32) (x4 : Int32) (h : HI) (g : HL) : Prop :=
  (∃ P_167 : Int32 → HI → HL → Prop, w_X11_chainOf x3 (2 : Int32) h g P_167 ∧ ∀ (r_167 : Int32) (h_167 : HI) (g_167 : HL), P_167 r_167 h_167 g_167 → ((r_167 ≤ x4 → (∀ x3_214 : Int32, x3_214 = (x3 + 1) → K134 x1 x3_214 h_167 g_167)) ∧ (¬ r_167 ≤ x4 → (∃ P_187 : Int32 → HI → HL → Prop, w_X11_chainOf x3 ((3 : Int32) + x4) h_167 g_167 P_187 ∧ ∀ (r_187 : Int32) (h_187 : HI) (g_187 : HL), P_187 r_187 h_187 g_187 → (∃ P_197 : Int32 → HI → HL → Prop, w_X11_chainOf x3 (9 : Int32) h_187 g_187 P_197 ∧ ∀ (r_197 : Int32) (h_197 : HI) (g_197 : HL), P_197 r_197 h_197 g_197 → (∀ x1_207 : Int64, x1_207 = (((31 : Int64) * (((31 : Int64) * x1) + ((r_187).toInt64))) + ((((r_197 >>> (x4 &&& 31)) &&& (1 : Int32))).toInt64)) → (∀ x4_208 : Int32, x4_208 = (x4 + 1) → K162 x1_207 x3 x4_208 h_197 g_197)))))))
def F_X11_digest_162 (Q : Int64 → HI → HL → Prop) (K134 : Int64 → Int32 → HI → HL → Prop) (K : Int64 × Int32 × Int32 × HI × HL → Prop) (q : Int64 × Int32 × Int32 × HI × HL) : Prop := b_X11_digest_162 Q K134 (fun x1 x3 x4 h g => K (x1, x3, x4, h, g)) q.1 q.2.1 q.2.2.1 q.2.2.2.1 q.2.2.2.2
def b_X11_digest_134 (Q : Int64 → HI → HL → Prop) (K134 : Int64 → Int32 → HI → HL → Prop) (x1 : Int64) (x3 : Int32) (h : HI) (g : HL) : Prop :=
  (vp_in (2 : Int32) 887 ∧ (((h 136 (2 : Int32).toNatClampNeg) ≤ x3 → (vp_in (3 : Int32) 887 ∧ (∃ P_234 : Int64 → HI → HL → Prop, w_X11_mixed x1 (672 : Int32) ((4 : Int32) * (h 136 (3 : Int32).toNatClampNeg)) h g P_234 ∧ ∀ (r_234 : Int64) (h_234 : HI) (g_234 : HL), P_234 r_234 h_234 g_234 → (vp_in (4 : Int32) 887 ∧ (∃ P_246 : Int64 → HI → HL → Prop, w_X11_mixed r_234 (704 : Int32) (h_234 136 (4 : Int32).toNatClampNeg) h_234 g_234 P_246 ∧ ∀ (r_246 : Int64) (h_246 : HI) (g_246 : HL), P_246 r_246 h_246 g_246 → (vp_in (5 : Int32) 887 ∧ (∃ P_264 : Int64 → HI → HL → Prop, w_X11_mixed r_246 (710 : Int32) ((3 : Int32) * (h_246 136 (5 : Int32).toNatClampNeg)) h_246 g_246 P_264 ∧ ∀ (r_264 : Int64) (h_264 : HI) (g_264 : HL), P_264 r_264 h_264 g_264 → (∃ P_270 : Int64 → HI → HL → Prop, w_X11_mixed r_264 (9 : Int32) (2 : Int32) h_264 g_264 P_270 ∧ ∀ (r_270 : Int64) (h_270 : HI) (g_270 : HL), P_270 r_270 h_270 g_270 → (vp_in (6 : Int32) 887 ∧ (∃ P_289 : Int64 → HI → HL → Prop, w_X11_mixed r_270 (737 : Int32) ((2 : Int32) * (h_270 136 (6 : Int32).toNatClampNeg)) h_270 g_270 P_289 ∧ ∀ (r_289 : Int64) (h_289 : HI) (g_289 : HL), P_289 r_289 h_289 g_289 → (vp_in (7 : Int32) 887 ∧ (∃ P_304 : Int64 → HI → HL → Prop, w_X11_mixed r_289 (817 : Int32) ((2 : Int32) * (h_289 136 (7 : Int32).toNatClampNeg)) h_289 g_289 P_304 ∧ ∀ (r_304 : Int64) (h_304 : HI) (g_304 : HL), P_304 r_304 h_304 g_304 → (∃ P_315 : Int64 → HI → HL → Prop, w_X11_mixed r_304 (823 : Int32) (4 : Int32) h_304 g_304 P_315 ∧ ∀ (r_315 : Int64) (h_315 : HI) (g_315 : HL), P_315 r_315 h_315 g_315 → (vp_in (8 : Int32) 887 ∧ (∃ P_328 : Int64 → HI → HL → Prop, w_X11_mixed r_315 (827 : Int32) (h_315 136 (8 : Int32).toNatClampNeg) h_315 g_315 P_328 ∧ ∀ (r_328 : Int64) (h_328 : HI) (g_328 : HL), P_328 r_328 h_328 g_328 → Q r_328 h_328 g_328))))))))))))))) ∧ (¬ (h 136 (2 : Int32).toNatClampNeg) ≤ x3 → (∃ P_155 : Int64 → HI → HL → Prop, w_X11_mixed x1 ((512 : Int32) + ((10 : Int32) * x3)) (3 : Int32) h g P_155 ∧ ∀ (r_155 : Int64) (h_155 : HI) (g_155 : HL), P_155 r_155 h_155 g_155 → lpE (F_X11_digest_162 Q K134) (r_155, x3, (0 : Int32), h_155, g_155)))))
def F_X11_digest_134 (Q : Int64 → HI → HL → Prop) (K : Int64 × Int32 × HI × HL → Prop) (q : Int64 × Int32 × HI × HL) : Prop := b_X11_digest_134 Q (fun x1 x3 h g => K (x1, x3, h, g)) q.1 q.2.1 q.2.2.1 q.2.2.2
def b_X11_digest_59 (Q : Int64 → HI → HL → Prop) (K33 : Int64 → Int32 → HI → HL → Prop) (K59 : Int64 → Int32 → Int32 → HI → HL → Prop) (x1 : Int64) (x3 : Int32) (x4 : Int32) (h : HI) (g : HL) : Prop :=
  (((3 : Int32) ≤ x4 → (∃ P_93 : Int32 → HI → HL → Prop, w_X11_alongOf x3 h g P_93 ∧ ∀ (r_93 : Int32) (h_93 : HI) (g_93 : HL), P_93 r_93 h_93 g_93 → (∀ x1_98 : Int64, x1_98 = (((31 : Int64) * x1) + ((r_93).toInt64)) → (∀ x3_99 : Int32, x3_99 = (x3 + 1) → K33 x1_98 x3_99 h_93 g_93)))) ∧ (¬ (3 : Int32) ≤ x4 → (∃ P_74 : Int32 → HI → HL → Prop, w_X11_firstOf x3 x4 h g P_74 ∧ ∀ (r_74 : Int32) (h_74 : HI) (g_74 : HL), P_74 r_74 h_74 g_74 → (∀ x1_79 : Int64, x1_79 = (((31 : Int64) * x1) + ((r_74).toInt64)) → (∀ x4_80 : Int32, x4_80 = (x4 + 1) → K59 x1_79 x3 x4_80 h_74 g_74)))))
def F_X11_digest_59 (Q : Int64 → HI → HL → Prop) (K33 : Int64 → Int32 → HI → HL → Prop) (K : Int64 × Int32 × Int32 × HI × HL → Prop) (q : Int64 × Int32 × Int32 × HI × HL) : Prop := b_X11_digest_59 Q K33 (fun x1 x3 x4 h g => K (x1, x3, x4, h, g)) q.1 q.2.1 q.2.2.1 q.2.2.2.1 q.2.2.2.2
def b_X11_digest_33 (Q : Int64 → HI → HL → Prop) (K33 : Int64 → Int32 → HI → HL → Prop) (x1 : Int64) (x3 : Int32) (h : HI) (g : HL) : Prop :=
  (vp_in (0 : Int32) 887 ∧ (((h 136 (0 : Int32).toNatClampNeg) ≤ x3 → (∃ P_113 : Int64 → HI → HL → Prop, w_X11_mixed x1 (140 : Int32) (12 : Int32) h g P_113 ∧ ∀ (r_113 : Int64) (h_113 : HI) (g_113 : HL), P_113 r_113 h_113 g_113 → (vp_in (1 : Int32) 887 ∧ (∃ P_128 : Int64 → HI → HL → Prop, w_X11_mixed r_113 (152 : Int32) ((6 : Int32) * (h_113 136 (1 : Int32).toNatClampNeg)) h_113 g_113 P_128 ∧ ∀ (r_128 : Int64) (h_128 : HI) (g_128 : HL), P_128 r_128 h_128 g_128 → lpE (F_X11_digest_134 Q) (r_128, (0 : Int32), h_128, g_128))))) ∧ (¬ (h 136 (0 : Int32).toNatClampNeg) ≤ x3 → (∃ P_52 : Int64 → HI → HL → Prop, w_X11_mixed x1 ((20 : Int32) + ((5 : Int32) * x3)) (4 : Int32) h g P_52 ∧ ∀ (r_52 : Int64) (h_52 : HI) (g_52 : HL), P_52 r_52 h_52 g_52 → lpE (F_X11_digest_59 Q K33) (r_52, x3, (0 : Int32), h_52, g_52)))))
def F_X11_digest_33 (Q : Int64 → HI → HL → Prop) (K : Int64 × Int32 × HI × HL → Prop) (q : Int64 × Int32 × HI × HL) : Prop := b_X11_digest_33 Q (fun x1 x3 h g => K (x1, x3, h, g)) q.1 q.2.1 q.2.2.1 q.2.2.2
def b_X11_digest_6 (Q : Int64 → HI → HL → Prop) (K6 : Int64 → Int32 → HI → HL → Prop) (x1 : Int64) (x3 : Int32) (h : HI) (g : HL) : Prop :=
  (((10 : Int32) ≤ x3 → lpE (F_X11_digest_33 Q) (x1, (0 : Int32), h, g)) ∧ (¬ (10 : Int32) ≤ x3 → (∃ P_19 : Int32 → HI → HL → Prop, w_X11_countOf x3 h g P_19 ∧ ∀ (r_19 : Int32) (h_19 : HI) (g_19 : HL), P_19 r_19 h_19 g_19 → (∀ x1_24 : Int64, x1_24 = (((31 : Int64) * x1) + ((r_19).toInt64)) → (∀ x3_25 : Int32, x3_25 = (x3 + 1) → K6 x1_24 x3_25 h_19 g_19)))))
def F_X11_digest_6 (Q : Int64 → HI → HL → Prop) (K : Int64 × Int32 × HI × HL → Prop) (q : Int64 × Int32 × HI × HL) : Prop := b_X11_digest_6 Q (fun x1 x3 h g => K (x1, x3, h, g)) q.1 q.2.1 q.2.2.1 q.2.2.2
def w_X11_digest  (h : HI) (g : HL) (Q : Int64 → HI → HL → Prop) : Prop :=
  lpE (F_X11_digest_6 Q) ((383 : Int64), (0 : Int32), h, g)
set_option maxHeartbeats 8000000 in
set_option maxRecDepth 100000 in
theorem m_X11_digest (l : Launch) (D : va_G) (cy : Nat → ClassId) (ad : Nat → Nat) (h : HI) (g : HL) (sz : Nat)  (Q : Int64 → HI → HL → Prop) (HW : w_X11_digest h g Q) : Met l yX11_digest (wa yX11_digest cX11_digest 5 (some .long)) ({ frames := 8, cells := 0, slots := 0, locals := 188 }) (va_Pc [.ref (ad 135)] (gI D cy ad h g sz)) (va_Ql (fun (r : Int64) (u : HI × HL) => Q r u.1 u.2) (gB D cy ad sz) (gA ad sz)) 0 0 (gA ad sz) := by
  refine Met.ofW (cc := cX11_digest) (maxL := 5) (ret := (some .long)) (by decide) rfl ?_
  intro p e s m args below meth c s₁ B hml hv
  obtain ⟨hav, hsz, hP, hK, hD0, hNw⟩ := hv
  have hx := B.exec
  have hb := B.bytes
  have hr := B.returns
  have hts := atoms_spec (ws := (wa yX11_digest cX11_digest 5 (some .long))) B.pre
  have hw := wa_hw hts
  have hown : s.vm.findClass RX11 = some m.cls := findClass_of_methodNamed B.named
  have hlocks := B.notSynchronized
  subst hsz
  have hG : gG D cy ad (gA ad s.heap.size) s.heap h g s.heap [] := ⟨hP, gA_self hD0, va_S.rf⟩
  clear hP hD0
  have cn319 := hw (.constantLong RX11 319 (383)) (wm7 4 rfl rfl)
  have cn317 := hw (.constantLong RX11 317 (31)) (wm7 5 rfl rfl)
  have lk7 := hw (.fieldLink RX11 7 "OldWorksModel" "st" "[I") (wm5 27 rfl rfl)
  rw [show (headSpec (wa yX11_digest cX11_digest 5 (some .long)) ({ frames := 8, cells := 0, slots := 0, locals := 188 } : Room)).room = ({ frames := 8, cells := 0, slots := 0, locals := 188 } : Room) from rfl]
  have hl := lv_entry ([.ref (ad 135)]) (n := 5) (Nat.le_of_ble_eq_true rfl)
  rw [show entryFrame m args 5 = entryFrame m ([.ref (ad 135)] : List Value).toArray 5 from by rw [hav], lg_entry_eq]
  generalize (lg_sl ([.ref (ad 135)]) ++ List.replicate (5 - (lg_sl ([.ref (ad 135)])).length) Slot.unset).toArray = ls at hl ⊢
  have hl : lv_has ls 5 [(0, .ref (ad 135))] := hl
  have L162 : ∀ (K134 : Int64 → Int32 → HI → HL → Prop) (hK134 : ∀ (x1 : Int64) (x3 : Int32) (h : HI) (g : HL) (H : Heap) (locs : List Loc) (ls : Array Slot), K134 x1 x3 h g → gG D cy ad (gA ad s.heap.size) s.heap h g H locs → lv_has ls 5 [(0, .ref (ad 135)), (1, .long x1), (3, .int x3)] → W p l e ({ frames := 8, cells := 0, slots := 0, locals := 188 } : Room) s m args below meth c H locs 0 0 (MQ below (va_Ql (fun (r : Int64) (u : HI × HL) => Q r u.1 u.2) (gB D cy ad s.heap.size) (gA ad s.heap.size)) args s 0 0 (gA ad s.heap.size)) (F0 m 134 ls [])) (n : Nat) (x1 : Int64) (x3 : Int32) (x4 : Int32) (h : HI) (g : HL) (H : Heap) (locs : List Loc) (ls : Array Slot), lpN (F_X11_digest_162 Q K134) n (x1, x3, x4, h, g) → gG D cy ad (gA ad s.heap.size) s.heap h g H locs → lv_has ls 5 [(0, .ref (ad 135)), (1, .long x1), (3, .int x3), (4, .int x4)] → W p l e ({ frames := 8, cells := 0, slots := 0, locals := 188 } : Room) s m args below meth c H locs 0 0 (MQ below (va_Ql (fun (r : Int64) (u : HI × HL) => Q r u.1 u.2) (gB D cy ad s.heap.size) (gA ad s.heap.size)) args s 0 0 (gA ad s.heap.size)) (F0 m 162 ls []) := by
    intro K134 hK134 n
    induction n with
    | zero => intro x1 x3 x4 h g H locs ls HW; exact HW.elim
    | succ n ih =>
      intro x1 x3 x4 h g H locs ls HW hG hl
      have HW : b_X11_digest_162 Q K134 (fun x1 x3 x4 h g => lpN (F_X11_digest_162 Q K134) n (x1, x3, x4, h, g)) x1 x3 x4 h g := HW
      generalize hKe : (fun (x1 : Int64) (x3 : Int32) (x4 : Int32) (h : HI) (g : HL) => lpN (F_X11_digest_162 Q K134) n (x1, x3, x4, h, g)) = K162 at HW
      have hK162 : ∀ (x1 : Int64) (x3 : Int32) (x4 : Int32) (h : HI) (g : HL) (H : Heap) (locs : List Loc) (ls : Array Slot), K162 x1 x3 x4 h g → gG D cy ad (gA ad s.heap.size) s.heap h g H locs → lv_has ls 5 [(0, .ref (ad 135)), (1, .long x1), (3, .int x3), (4, .int x4)] → W p l e ({ frames := 8, cells := 0, slots := 0, locals := 188 } : Room) s m args below meth c H locs 0 0 (MQ below (va_Ql (fun (r : Int64) (u : HI × HL) => Q r u.1 u.2) (gB D cy ad s.heap.size) (gA ad s.heap.size)) args s 0 0 (gA ad s.heap.size)) (F0 m 162 ls []) := by subst hKe; exact ih
      clear ih
      clear hKe
      unfold b_X11_digest_162 at HW
      refine lv_iload hx hb dX11_digest_162 (lv_at hl 3 rfl) ?_
      refine lv_aload_n hx hb dX11_digest_164 rfl (lv_at hl 0 rfl) ?_
      refine lv_iload_n hx hb dX11_digest_165 rfl (lv_at hl 2 rfl) ?_
      refine lv_iconst (v := 2) hx hb dX11_digest_166 (by decide) ?_
      obtain ⟨P_167, HC_167, HW⟩ := HW
      refine g_calli (g_runV (As := [.int x3, .int (2 : Int32)]) (rest := [.int x4]) ⟨hx, hb, hml, hown, hts⟩ (m_X11_chainOf l D cy ad h g H.size x3 (2 : Int32) P_167 HC_167) (cwV 2 hts (gd_V (wm6 33 rfl rfl) (wm6 35 rfl rfl) (wmp4 (q := (yX11_chainOf, 26)) 12 rfl) (wm1 13 rfl rfl) (wm6 36 rfl rfl)) rfl rfl rfl (by decide +kernel) ⟨Nat.le_of_ble_eq_true rfl, Nat.le_of_ble_eq_true rfl⟩) hK hNw hG gl_135 rfl gk_135 (by decide) rfl rfl hl.1 rfl (lv_room (Nat.le_of_ble_eq_true rfl)) dX11_digest_167 ⟨Nat.zero_le _, Nat.zero_le _⟩) hG (fun r_167 h_167 g_167 H locs hq hG => ?_)
      replace HW := HW r_167 h_167 g_167 hq
      refine lv_icmp_ge (tgt := 214) hx hb dX11_digest_170 (by decide) (fun c_170 => ?_) (fun c_170 => ?_)
      · replace HW := HW.1 c_170
        obtain ⟨x3_214, ex3_214⟩ : ∃ y : Int32, y = (x3 + 1) := ⟨_, rfl⟩
        replace HW := HW x3_214 ex3_214
        refine lv_iinc (v := x3_214) (lv' := [(3, .int x3_214), (0, .ref (ad 135)), (1, .long x1), (4, .int x4)]) hx hb dX11_digest_214 hl (k := 2) rfl (by rw [ex3_214]; rfl) (by decide) rfl (fun ls hl => ?_)
        refine lv_goto (tgt := 134) hx hb dX11_digest_217 (by decide) ?_
        exact hK134 x1 x3_214 h_167 g_167 _ _ _ HW hG (lv_sub hl [1, 2, 0] rfl)
      · replace HW := HW.2 c_170
        refine lv_ldc2 (v := 31) hx hb hown cn317 dX11_digest_173 ?_
        refine lv_ldc2 (v := 31) hx hb hown cn317 dX11_digest_176 ?_
        refine lv_lload_n hx hb dX11_digest_179 rfl (lv_at hl 1 rfl) ?_
        refine lv_lmul hx hb dX11_digest_180 ?_
        refine lv_aload_n hx hb dX11_digest_181 rfl (lv_at hl 0 rfl) ?_
        refine lv_iload_n hx hb dX11_digest_182 rfl (lv_at hl 2 rfl) ?_
        refine lv_iconst (v := 3) hx hb dX11_digest_183 (by decide) ?_
        refine lv_iload hx hb dX11_digest_184 (lv_at hl 3 rfl) ?_
        refine lv_iadd hx hb dX11_digest_186 ?_
        obtain ⟨P_187, HC_187, HW⟩ := HW
        refine g_calli (g_runV (As := [.int x3, .int ((3 : Int32) + x4)]) (rest := [.long ((31 : Int64) * x1), .long (31 : Int64)]) ⟨hx, hb, hml, hown, hts⟩ (m_X11_chainOf l D cy ad h_167 g_167 H.size x3 ((3 : Int32) + x4) P_187 HC_187) (cwV 2 hts (gd_V (wm6 33 rfl rfl) (wm6 35 rfl rfl) (wmp4 (q := (yX11_chainOf, 26)) 12 rfl) (wm1 13 rfl rfl) (wm6 36 rfl rfl)) rfl rfl rfl (by decide +kernel) ⟨Nat.le_of_ble_eq_true rfl, Nat.le_of_ble_eq_true rfl⟩) hK hNw hG gl_135 rfl gk_135 (by decide) rfl rfl hl.1 rfl (lv_room (Nat.le_of_ble_eq_true rfl)) dX11_digest_187 ⟨Nat.zero_le _, Nat.zero_le _⟩) hG (fun r_187 h_187 g_187 H locs hq hG => ?_)
        replace HW := HW r_187 h_187 g_187 hq
        refine lv_i2l hx hb dX11_digest_190 rfl ?_
        refine lv_ladd hx hb dX11_digest_191 ?_
        refine lv_lmul hx hb dX11_digest_192 ?_
        refine lv_aload_n hx hb dX11_digest_193 rfl (lv_at hl 0 rfl) ?_
        refine lv_iload_n hx hb dX11_digest_194 rfl (lv_at hl 2 rfl) ?_
        refine lv_bipush (v := 9) hx hb dX11_digest_195 (by decide) ?_
        obtain ⟨P_197, HC_197, HW⟩ := HW
        refine g_calli (g_runV (As := [.int x3, .int (9 : Int32)]) (rest := [.long ((31 : Int64) * (((31 : Int64) * x1) + ((r_187).toInt64)))]) ⟨hx, hb, hml, hown, hts⟩ (m_X11_chainOf l D cy ad h_187 g_187 H.size x3 (9 : Int32) P_197 HC_197) (cwV 2 hts (gd_V (wm6 33 rfl rfl) (wm6 35 rfl rfl) (wmp4 (q := (yX11_chainOf, 26)) 12 rfl) (wm1 13 rfl rfl) (wm6 36 rfl rfl)) rfl rfl rfl (by decide +kernel) ⟨Nat.le_of_ble_eq_true rfl, Nat.le_of_ble_eq_true rfl⟩) hK hNw hG gl_135 rfl gk_135 (by decide) rfl rfl hl.1 rfl (lv_room (Nat.le_of_ble_eq_true rfl)) dX11_digest_197 ⟨Nat.zero_le _, Nat.zero_le _⟩) hG (fun r_197 h_197 g_197 H locs hq hG => ?_)
        replace HW := HW r_197 h_197 g_197 hq
        refine lv_iload hx hb dX11_digest_200 (lv_at hl 3 rfl) ?_
        refine lv_ishr hx hb dX11_digest_202 ?_
        refine lv_iconst (v := 1) hx hb dX11_digest_203 (by decide) ?_
        refine lv_iand hx hb dX11_digest_204 ?_
        refine lv_i2l hx hb dX11_digest_205 rfl ?_
        refine lv_ladd hx hb dX11_digest_206 ?_
        refine lv_topl (fun x1_207 ex1_207 => ?_)
        replace HW := HW x1_207 ex1_207
        refine lv_lstore_n (lv' := [(1, .long x1_207), (0, .ref (ad 135)), (3, .int x3), (4, .int x4)]) hx hb dX11_digest_207 rfl hl (by decide) rfl (fun ls hl => ?_)
        obtain ⟨x4_208, ex4_208⟩ : ∃ y : Int32, y = (x4 + 1) := ⟨_, rfl⟩
        replace HW := HW x4_208 ex4_208
        refine lv_iinc (v := x4_208) (lv' := [(4, .int x4_208), (1, .long x1_207), (0, .ref (ad 135)), (3, .int x3)]) hx hb dX11_digest_208 hl (k := 3) rfl (by rw [ex4_208]; rfl) (by decide) rfl (fun ls hl => ?_)
        refine lv_goto (tgt := 162) hx hb dX11_digest_211 (by decide) ?_
        exact hK162 x1_207 x3 x4_208 h_197 g_197 _ _ _ HW hG (lv_sub hl [2, 1, 3, 0] rfl)
  have L134 : ∀ (n : Nat) (x1 : Int64) (x3 : Int32) (h : HI) (g : HL) (H : Heap) (locs : List Loc) (ls : Array Slot), lpN (F_X11_digest_134 Q) n (x1, x3, h, g) → gG D cy ad (gA ad s.heap.size) s.heap h g H locs → lv_has ls 5 [(0, .ref (ad 135)), (1, .long x1), (3, .int x3)] → W p l e ({ frames := 8, cells := 0, slots := 0, locals := 188 } : Room) s m args below meth c H locs 0 0 (MQ below (va_Ql (fun (r : Int64) (u : HI × HL) => Q r u.1 u.2) (gB D cy ad s.heap.size) (gA ad s.heap.size)) args s 0 0 (gA ad s.heap.size)) (F0 m 134 ls []) := by
    intro n
    induction n with
    | zero => intro x1 x3 h g H locs ls HW; exact HW.elim
    | succ n ih =>
      intro x1 x3 h g H locs ls HW hG hl
      have HW : b_X11_digest_134 Q (fun x1 x3 h g => lpN (F_X11_digest_134 Q) n (x1, x3, h, g)) x1 x3 h g := HW
      generalize hKe : (fun (x1 : Int64) (x3 : Int32) (h : HI) (g : HL) => lpN (F_X11_digest_134 Q) n (x1, x3, h, g)) = K134 at HW
      have hK134 : ∀ (x1 : Int64) (x3 : Int32) (h : HI) (g : HL) (H : Heap) (locs : List Loc) (ls : Array Slot), K134 x1 x3 h g → gG D cy ad (gA ad s.heap.size) s.heap h g H locs → lv_has ls 5 [(0, .ref (ad 135)), (1, .long x1), (3, .int x3)] → W p l e ({ frames := 8, cells := 0, slots := 0, locals := 188 } : Room) s m args below meth c H locs 0 0 (MQ below (va_Ql (fun (r : Int64) (u : HI × HL) => Q r u.1 u.2) (gB D cy ad s.heap.size) (gA ad s.heap.size)) args s 0 0 (gA ad s.heap.size)) (F0 m 134 ls []) := by subst hKe; exact ih
      clear ih
      clear hKe
      unfold b_X11_digest_134 at HW
      refine lv_iload_n hx hb dX11_digest_134 rfl (lv_at hl 2 rfl) ?_
      refine lv_aload_n hx hb dX11_digest_135 rfl (lv_at hl 0 rfl) ?_
      refine g_getr hx hb hw inG11 hown hK hG gl_135 rfl gk_135 (by decide) 0 (by decide) (by rw [gm_135]; decide) (r := 136) gr_135_0 lk7 dX11_digest_136 ?_
      refine lv_iconst (v := 2) hx hb dX11_digest_139 (by decide) ?_
      refine g_iald hx hb hK hG gl_136 gk_136 gn_136 HW.1 dX11_digest_140 ?_
      replace HW := HW.2
      refine lv_icmp_ge (tgt := 220) hx hb dX11_digest_141 (by decide) (fun c_141 => ?_) (fun c_141 => ?_)
      · replace HW := HW.1 c_141
        refine lv_aload_n hx hb dX11_digest_220 rfl (lv_at hl 0 rfl) ?_
        refine lv_aload_n hx hb dX11_digest_221 rfl (lv_at hl 0 rfl) ?_
        refine lv_lload_n hx hb dX11_digest_222 rfl (lv_at hl 1 rfl) ?_
        refine lv_sipush (v := 672) hx hb dX11_digest_223 (by decide) ?_
        refine lv_iconst (v := 4) hx hb dX11_digest_226 (by decide) ?_
        refine lv_aload_n hx hb dX11_digest_227 rfl (lv_at hl 0 rfl) ?_
        refine g_getr hx hb hw inG11 hown hK hG gl_135 rfl gk_135 (by decide) 0 (by decide) (by rw [gm_135]; decide) (r := 136) gr_135_0 lk7 dX11_digest_228 ?_
        refine lv_iconst (v := 3) hx hb dX11_digest_231 (by decide) ?_
        refine g_iald hx hb hK hG gl_136 gk_136 gn_136 HW.1 dX11_digest_232 ?_
        replace HW := HW.2
        refine lv_imul hx hb dX11_digest_233 ?_
        obtain ⟨P_234, HC_234, HW⟩ := HW
        refine g_calll (g_runV (As := [.long x1, .int (672 : Int32), .int ((4 : Int32) * (h 136 (3 : Int32).toNatClampNeg))]) (rest := [.ref (ad 135)]) ⟨hx, hb, hml, hown, hts⟩ (m_X11_mixed l D cy ad h g H.size x1 (672 : Int32) ((4 : Int32) * (h 136 (3 : Int32).toNatClampNeg)) P_234 HC_234) (cwV 3 hts (gd_V (wm7 6 rfl rfl) (wm7 8 rfl rfl) (wmp6 (q := (yX11_mixed, 26)) 2 rfl) (wm1 13 rfl rfl) (wm7 9 rfl rfl)) rfl rfl rfl (by decide +kernel) ⟨Nat.le_of_ble_eq_true rfl, Nat.le_of_ble_eq_true rfl⟩) hK hNw hG gl_135 rfl gk_135 (by decide) rfl rfl hl.1 rfl (lv_room (Nat.le_of_ble_eq_true rfl)) dX11_digest_234 ⟨Nat.zero_le _, Nat.zero_le _⟩) hG (fun r_234 h_234 g_234 H locs hq hG => ?_)
        replace HW := HW r_234 h_234 g_234 hq
        refine lv_sipush (v := 704) hx hb dX11_digest_237 (by decide) ?_
        refine lv_aload_n hx hb dX11_digest_240 rfl (lv_at hl 0 rfl) ?_
        refine g_getr hx hb hw inG11 hown hK hG gl_135 rfl gk_135 (by decide) 0 (by decide) (by rw [gm_135]; decide) (r := 136) gr_135_0 lk7 dX11_digest_241 ?_
        refine lv_iconst (v := 4) hx hb dX11_digest_244 (by decide) ?_
        refine g_iald hx hb hK hG gl_136 gk_136 gn_136 HW.1 dX11_digest_245 ?_
        replace HW := HW.2
        obtain ⟨P_246, HC_246, HW⟩ := HW
        refine g_calll (g_runV (As := [.long r_234, .int (704 : Int32), .int (h_234 136 (4 : Int32).toNatClampNeg)]) (rest := []) ⟨hx, hb, hml, hown, hts⟩ (m_X11_mixed l D cy ad h_234 g_234 H.size r_234 (704 : Int32) (h_234 136 (4 : Int32).toNatClampNeg) P_246 HC_246) (cwV 3 hts (gd_V (wm7 6 rfl rfl) (wm7 8 rfl rfl) (wmp6 (q := (yX11_mixed, 26)) 2 rfl) (wm1 13 rfl rfl) (wm7 9 rfl rfl)) rfl rfl rfl (by decide +kernel) ⟨Nat.le_of_ble_eq_true rfl, Nat.le_of_ble_eq_true rfl⟩) hK hNw hG gl_135 rfl gk_135 (by decide) rfl rfl hl.1 rfl (lv_room (Nat.le_of_ble_eq_true rfl)) dX11_digest_246 ⟨Nat.zero_le _, Nat.zero_le _⟩) hG (fun r_246 h_246 g_246 H locs hq hG => ?_)
        replace HW := HW r_246 h_246 g_246 hq
        refine lv_lstore_n (lv' := [(1, .long r_246), (0, .ref (ad 135)), (3, .int x3)]) hx hb dX11_digest_249 rfl hl (by decide) rfl (fun ls hl => ?_)
        refine lv_aload_n hx hb dX11_digest_250 rfl (lv_at hl 1 rfl) ?_
        refine lv_aload_n hx hb dX11_digest_251 rfl (lv_at hl 1 rfl) ?_
        refine lv_lload_n hx hb dX11_digest_252 rfl (lv_at hl 0 rfl) ?_
        refine lv_sipush (v := 710) hx hb dX11_digest_253 (by decide) ?_
        refine lv_iconst (v := 3) hx hb dX11_digest_256 (by decide) ?_
        refine lv_aload_n hx hb dX11_digest_257 rfl (lv_at hl 1 rfl) ?_
        refine g_getr hx hb hw inG11 hown hK hG gl_135 rfl gk_135 (by decide) 0 (by decide) (by rw [gm_135]; decide) (r := 136) gr_135_0 lk7 dX11_digest_258 ?_
        refine lv_iconst (v := 5) hx hb dX11_digest_261 (by decide) ?_
        refine g_iald hx hb hK hG gl_136 gk_136 gn_136 HW.1 dX11_digest_262 ?_
        replace HW := HW.2
        refine lv_imul hx hb dX11_digest_263 ?_
        obtain ⟨P_264, HC_264, HW⟩ := HW
        refine g_calll (g_runV (As := [.long r_246, .int (710 : Int32), .int ((3 : Int32) * (h_246 136 (5 : Int32).toNatClampNeg))]) (rest := [.ref (ad 135)]) ⟨hx, hb, hml, hown, hts⟩ (m_X11_mixed l D cy ad h_246 g_246 H.size r_246 (710 : Int32) ((3 : Int32) * (h_246 136 (5 : Int32).toNatClampNeg)) P_264 HC_264) (cwV 3 hts (gd_V (wm7 6 rfl rfl) (wm7 8 rfl rfl) (wmp6 (q := (yX11_mixed, 26)) 2 rfl) (wm1 13 rfl rfl) (wm7 9 rfl rfl)) rfl rfl rfl (by decide +kernel) ⟨Nat.le_of_ble_eq_true rfl, Nat.le_of_ble_eq_true rfl⟩) hK hNw hG gl_135 rfl gk_135 (by decide) rfl rfl hl.1 rfl (lv_room (Nat.le_of_ble_eq_true rfl)) dX11_digest_264 ⟨Nat.zero_le _, Nat.zero_le _⟩) hG (fun r_264 h_264 g_264 H locs hq hG => ?_)
        replace HW := HW r_264 h_264 g_264 hq
        refine lv_bipush (v := 9) hx hb dX11_digest_267 (by decide) ?_
        refine lv_iconst (v := 2) hx hb dX11_digest_269 (by decide) ?_
        obtain ⟨P_270, HC_270, HW⟩ := HW
        refine g_calll (g_runV (As := [.long r_264, .int (9 : Int32), .int (2 : Int32)]) (rest := []) ⟨hx, hb, hml, hown, hts⟩ (m_X11_mixed l D cy ad h_264 g_264 H.size r_264 (9 : Int32) (2 : Int32) P_270 HC_270) (cwV 3 hts (gd_V (wm7 6 rfl rfl) (wm7 8 rfl rfl) (wmp6 (q := (yX11_mixed, 26)) 2 rfl) (wm1 13 rfl rfl) (wm7 9 rfl rfl)) rfl rfl rfl (by decide +kernel) ⟨Nat.le_of_ble_eq_true rfl, Nat.le_of_ble_eq_true rfl⟩) hK hNw hG gl_135 rfl gk_135 (by decide) rfl rfl hl.1 rfl (lv_room (Nat.le_of_ble_eq_true rfl)) dX11_digest_270 ⟨Nat.zero_le _, Nat.zero_le _⟩) hG (fun r_270 h_270 g_270 H locs hq hG => ?_)
        replace HW := HW r_270 h_270 g_270 hq
        refine lv_lstore_n (lv' := [(1, .long r_270), (0, .ref (ad 135)), (3, .int x3)]) hx hb dX11_digest_273 rfl hl (by decide) rfl (fun ls hl => ?_)
        refine lv_aload_n hx hb dX11_digest_274 rfl (lv_at hl 1 rfl) ?_
        refine lv_aload_n hx hb dX11_digest_275 rfl (lv_at hl 1 rfl) ?_
        refine lv_lload_n hx hb dX11_digest_276 rfl (lv_at hl 0 rfl) ?_
        refine lv_sipush (v := 737) hx hb dX11_digest_277 (by decide) ?_
        refine lv_iconst (v := 2) hx hb dX11_digest_280 (by decide) ?_
        refine lv_aload_n hx hb dX11_digest_281 rfl (lv_at hl 1 rfl) ?_
        refine g_getr hx hb hw inG11 hown hK hG gl_135 rfl gk_135 (by decide) 0 (by decide) (by rw [gm_135]; decide) (r := 136) gr_135_0 lk7 dX11_digest_282 ?_
        refine lv_bipush (v := 6) hx hb dX11_digest_285 (by decide) ?_
        refine g_iald hx hb hK hG gl_136 gk_136 gn_136 HW.1 dX11_digest_287 ?_
        replace HW := HW.2
        refine lv_imul hx hb dX11_digest_288 ?_
        obtain ⟨P_289, HC_289, HW⟩ := HW
        refine g_calll (g_runV (As := [.long r_270, .int (737 : Int32), .int ((2 : Int32) * (h_270 136 (6 : Int32).toNatClampNeg))]) (rest := [.ref (ad 135)]) ⟨hx, hb, hml, hown, hts⟩ (m_X11_mixed l D cy ad h_270 g_270 H.size r_270 (737 : Int32) ((2 : Int32) * (h_270 136 (6 : Int32).toNatClampNeg)) P_289 HC_289) (cwV 3 hts (gd_V (wm7 6 rfl rfl) (wm7 8 rfl rfl) (wmp6 (q := (yX11_mixed, 26)) 2 rfl) (wm1 13 rfl rfl) (wm7 9 rfl rfl)) rfl rfl rfl (by decide +kernel) ⟨Nat.le_of_ble_eq_true rfl, Nat.le_of_ble_eq_true rfl⟩) hK hNw hG gl_135 rfl gk_135 (by decide) rfl rfl hl.1 rfl (lv_room (Nat.le_of_ble_eq_true rfl)) dX11_digest_289 ⟨Nat.zero_le _, Nat.zero_le _⟩) hG (fun r_289 h_289 g_289 H locs hq hG => ?_)
        replace HW := HW r_289 h_289 g_289 hq
        refine lv_sipush (v := 817) hx hb dX11_digest_292 (by decide) ?_
        refine lv_iconst (v := 2) hx hb dX11_digest_295 (by decide) ?_
        refine lv_aload_n hx hb dX11_digest_296 rfl (lv_at hl 1 rfl) ?_
        refine g_getr hx hb hw inG11 hown hK hG gl_135 rfl gk_135 (by decide) 0 (by decide) (by rw [gm_135]; decide) (r := 136) gr_135_0 lk7 dX11_digest_297 ?_
        refine lv_bipush (v := 7) hx hb dX11_digest_300 (by decide) ?_
        refine g_iald hx hb hK hG gl_136 gk_136 gn_136 HW.1 dX11_digest_302 ?_
        replace HW := HW.2
        refine lv_imul hx hb dX11_digest_303 ?_
        obtain ⟨P_304, HC_304, HW⟩ := HW
        refine g_calll (g_runV (As := [.long r_289, .int (817 : Int32), .int ((2 : Int32) * (h_289 136 (7 : Int32).toNatClampNeg))]) (rest := []) ⟨hx, hb, hml, hown, hts⟩ (m_X11_mixed l D cy ad h_289 g_289 H.size r_289 (817 : Int32) ((2 : Int32) * (h_289 136 (7 : Int32).toNatClampNeg)) P_304 HC_304) (cwV 3 hts (gd_V (wm7 6 rfl rfl) (wm7 8 rfl rfl) (wmp6 (q := (yX11_mixed, 26)) 2 rfl) (wm1 13 rfl rfl) (wm7 9 rfl rfl)) rfl rfl rfl (by decide +kernel) ⟨Nat.le_of_ble_eq_true rfl, Nat.le_of_ble_eq_true rfl⟩) hK hNw hG gl_135 rfl gk_135 (by decide) rfl rfl hl.1 rfl (lv_room (Nat.le_of_ble_eq_true rfl)) dX11_digest_304 ⟨Nat.zero_le _, Nat.zero_le _⟩) hG (fun r_304 h_304 g_304 H locs hq hG => ?_)
        replace HW := HW r_304 h_304 g_304 hq
        refine lv_lstore_n (lv' := [(1, .long r_304), (0, .ref (ad 135)), (3, .int x3)]) hx hb dX11_digest_307 rfl hl (by decide) rfl (fun ls hl => ?_)
        refine lv_aload_n hx hb dX11_digest_308 rfl (lv_at hl 1 rfl) ?_
        refine lv_aload_n hx hb dX11_digest_309 rfl (lv_at hl 1 rfl) ?_
        refine lv_lload_n hx hb dX11_digest_310 rfl (lv_at hl 0 rfl) ?_
        refine lv_sipush (v := 823) hx hb dX11_digest_311 (by decide) ?_
        refine lv_iconst (v := 4) hx hb dX11_digest_314 (by decide) ?_
        obtain ⟨P_315, HC_315, HW⟩ := HW
        refine g_calll (g_runV (As := [.long r_304, .int (823 : Int32), .int (4 : Int32)]) (rest := [.ref (ad 135)]) ⟨hx, hb, hml, hown, hts⟩ (m_X11_mixed l D cy ad h_304 g_304 H.size r_304 (823 : Int32) (4 : Int32) P_315 HC_315) (cwV 3 hts (gd_V (wm7 6 rfl rfl) (wm7 8 rfl rfl) (wmp6 (q := (yX11_mixed, 26)) 2 rfl) (wm1 13 rfl rfl) (wm7 9 rfl rfl)) rfl rfl rfl (by decide +kernel) ⟨Nat.le_of_ble_eq_true rfl, Nat.le_of_ble_eq_true rfl⟩) hK hNw hG gl_135 rfl gk_135 (by decide) rfl rfl hl.1 rfl (lv_room (Nat.le_of_ble_eq_true rfl)) dX11_digest_315 ⟨Nat.zero_le _, Nat.zero_le _⟩) hG (fun r_315 h_315 g_315 H locs hq hG => ?_)
        replace HW := HW r_315 h_315 g_315 hq
        refine lv_sipush (v := 827) hx hb dX11_digest_318 (by decide) ?_
        refine lv_aload_n hx hb dX11_digest_321 rfl (lv_at hl 1 rfl) ?_
        refine g_getr hx hb hw inG11 hown hK hG gl_135 rfl gk_135 (by decide) 0 (by decide) (by rw [gm_135]; decide) (r := 136) gr_135_0 lk7 dX11_digest_322 ?_
        refine lv_bipush (v := 8) hx hb dX11_digest_325 (by decide) ?_
        refine g_iald hx hb hK hG gl_136 gk_136 gn_136 HW.1 dX11_digest_327 ?_
        replace HW := HW.2
        obtain ⟨P_328, HC_328, HW⟩ := HW
        refine g_calll (g_runV (As := [.long r_315, .int (827 : Int32), .int (h_315 136 (8 : Int32).toNatClampNeg)]) (rest := []) ⟨hx, hb, hml, hown, hts⟩ (m_X11_mixed l D cy ad h_315 g_315 H.size r_315 (827 : Int32) (h_315 136 (8 : Int32).toNatClampNeg) P_328 HC_328) (cwV 3 hts (gd_V (wm7 6 rfl rfl) (wm7 8 rfl rfl) (wmp6 (q := (yX11_mixed, 26)) 2 rfl) (wm1 13 rfl rfl) (wm7 9 rfl rfl)) rfl rfl rfl (by decide +kernel) ⟨Nat.le_of_ble_eq_true rfl, Nat.le_of_ble_eq_true rfl⟩) hK hNw hG gl_135 rfl gk_135 (by decide) rfl rfl hl.1 rfl (lv_room (Nat.le_of_ble_eq_true rfl)) dX11_digest_328 ⟨Nat.zero_le _, Nat.zero_le _⟩) hG (fun r_328 h_328 g_328 H locs hq hG => ?_)
        replace HW := HW r_328 h_328 g_328 hq
        exact W.lret (v := r_328) hx hb hr (fun t ht hW => ⟨⟨r_328, (h_328, g_328), rfl, HW, g_B ht hG⟩, hG.2.2.F ht⟩) hG.2.2.2.2 dX11_digest_331
      · replace HW := HW.2 c_141
        refine lv_aload_n hx hb dX11_digest_144 rfl (lv_at hl 0 rfl) ?_
        refine lv_lload_n hx hb dX11_digest_145 rfl (lv_at hl 1 rfl) ?_
        refine lv_sipush (v := 512) hx hb dX11_digest_146 (by decide) ?_
        refine lv_bipush (v := 10) hx hb dX11_digest_149 (by decide) ?_
        refine lv_iload_n hx hb dX11_digest_151 rfl (lv_at hl 2 rfl) ?_
        refine lv_imul hx hb dX11_digest_152 ?_
        refine lv_iadd hx hb dX11_digest_153 ?_
        refine lv_iconst (v := 3) hx hb dX11_digest_154 (by decide) ?_
        obtain ⟨P_155, HC_155, HW⟩ := HW
        refine g_calll (g_runV (As := [.long x1, .int ((512 : Int32) + ((10 : Int32) * x3)), .int (3 : Int32)]) (rest := []) ⟨hx, hb, hml, hown, hts⟩ (m_X11_mixed l D cy ad h g H.size x1 ((512 : Int32) + ((10 : Int32) * x3)) (3 : Int32) P_155 HC_155) (cwV 3 hts (gd_V (wm7 6 rfl rfl) (wm7 8 rfl rfl) (wmp6 (q := (yX11_mixed, 26)) 2 rfl) (wm1 13 rfl rfl) (wm7 9 rfl rfl)) rfl rfl rfl (by decide +kernel) ⟨Nat.le_of_ble_eq_true rfl, Nat.le_of_ble_eq_true rfl⟩) hK hNw hG gl_135 rfl gk_135 (by decide) rfl rfl hl.1 rfl (lv_room (Nat.le_of_ble_eq_true rfl)) dX11_digest_155 ⟨Nat.zero_le _, Nat.zero_le _⟩) hG (fun r_155 h_155 g_155 H locs hq hG => ?_)
        replace HW := HW r_155 h_155 g_155 hq
        refine lv_lstore_n (lv' := [(1, .long r_155), (0, .ref (ad 135)), (3, .int x3)]) hx hb dX11_digest_158 rfl hl (by decide) rfl (fun ls hl => ?_)
        refine lv_iconst (v := 0) hx hb dX11_digest_159 (by decide) ?_
        refine lv_istore (lv' := [(4, .int (0 : Int32)), (1, .long r_155), (0, .ref (ad 135)), (3, .int x3)]) hx hb dX11_digest_160 hl (by decide) rfl (fun ls hl => ?_)
        obtain ⟨n_162, HW⟩ := HW
        exact L162 K134 hK134 n_162 r_155 x3 (0 : Int32) h_155 g_155 _ _ _ HW hG (lv_sub hl [2, 1, 3, 0] rfl)
  have L59 : ∀ (K33 : Int64 → Int32 → HI → HL → Prop) (hK33 : ∀ (x1 : Int64) (x3 : Int32) (h : HI) (g : HL) (H : Heap) (locs : List Loc) (ls : Array Slot), K33 x1 x3 h g → gG D cy ad (gA ad s.heap.size) s.heap h g H locs → lv_has ls 5 [(0, .ref (ad 135)), (1, .long x1), (3, .int x3)] → W p l e ({ frames := 8, cells := 0, slots := 0, locals := 188 } : Room) s m args below meth c H locs 0 0 (MQ below (va_Ql (fun (r : Int64) (u : HI × HL) => Q r u.1 u.2) (gB D cy ad s.heap.size) (gA ad s.heap.size)) args s 0 0 (gA ad s.heap.size)) (F0 m 33 ls [])) (n : Nat) (x1 : Int64) (x3 : Int32) (x4 : Int32) (h : HI) (g : HL) (H : Heap) (locs : List Loc) (ls : Array Slot), lpN (F_X11_digest_59 Q K33) n (x1, x3, x4, h, g) → gG D cy ad (gA ad s.heap.size) s.heap h g H locs → lv_has ls 5 [(0, .ref (ad 135)), (1, .long x1), (3, .int x3), (4, .int x4)] → W p l e ({ frames := 8, cells := 0, slots := 0, locals := 188 } : Room) s m args below meth c H locs 0 0 (MQ below (va_Ql (fun (r : Int64) (u : HI × HL) => Q r u.1 u.2) (gB D cy ad s.heap.size) (gA ad s.heap.size)) args s 0 0 (gA ad s.heap.size)) (F0 m 59 ls []) := by
    intro K33 hK33 n
    induction n with
    | zero => intro x1 x3 x4 h g H locs ls HW; exact HW.elim
    | succ n ih =>
      intro x1 x3 x4 h g H locs ls HW hG hl
      have HW : b_X11_digest_59 Q K33 (fun x1 x3 x4 h g => lpN (F_X11_digest_59 Q K33) n (x1, x3, x4, h, g)) x1 x3 x4 h g := HW
      generalize hKe : (fun (x1 : Int64) (x3 : Int32) (x4 : Int32) (h : HI) (g : HL) => lpN (F_X11_digest_59 Q K33) n (x1, x3, x4, h, g)) = K59 at HW
      have hK59 : ∀ (x1 : Int64) (x3 : Int32) (x4 : Int32) (h : HI) (g : HL) (H : Heap) (locs : List Loc) (ls : Array Slot), K59 x1 x3 x4 h g → gG D cy ad (gA ad s.heap.size) s.heap h g H locs → lv_has ls 5 [(0, .ref (ad 135)), (1, .long x1), (3, .int x3), (4, .int x4)] → W p l e ({ frames := 8, cells := 0, slots := 0, locals := 188 } : Room) s m args below meth c H locs 0 0 (MQ below (va_Ql (fun (r : Int64) (u : HI × HL) => Q r u.1 u.2) (gB D cy ad s.heap.size) (gA ad s.heap.size)) args s 0 0 (gA ad s.heap.size)) (F0 m 59 ls []) := by subst hKe; exact ih
      clear ih
      clear hKe
      unfold b_X11_digest_59 at HW
      refine lv_iload hx hb dX11_digest_59 (lv_at hl 3 rfl) ?_
      refine lv_iconst (v := 3) hx hb dX11_digest_61 (by decide) ?_
      refine lv_icmp_ge (tgt := 86) hx hb dX11_digest_62 (by decide) (fun c_62 => ?_) (fun c_62 => ?_)
      · replace HW := HW.1 c_62
        refine lv_ldc2 (v := 31) hx hb hown cn317 dX11_digest_86 ?_
        refine lv_lload_n hx hb dX11_digest_89 rfl (lv_at hl 1 rfl) ?_
        refine lv_lmul hx hb dX11_digest_90 ?_
        refine lv_aload_n hx hb dX11_digest_91 rfl (lv_at hl 0 rfl) ?_
        refine lv_iload_n hx hb dX11_digest_92 rfl (lv_at hl 2 rfl) ?_
        obtain ⟨P_93, HC_93, HW⟩ := HW
        refine g_calli (g_runV (As := [.int x3]) (rest := [.long ((31 : Int64) * x1)]) ⟨hx, hb, hml, hown, hts⟩ (m_X11_alongOf l D cy ad h g H.size x3 P_93 HC_93) (cwV 1 hts (gd_V (wm6 183 rfl rfl) (wm6 185 rfl rfl) (wmp5 (q := (yX11_alongOf, 26)) 11 rfl) (wm1 13 rfl rfl) (wm6 186 rfl rfl)) rfl rfl rfl (by decide +kernel) ⟨Nat.le_of_ble_eq_true rfl, Nat.le_of_ble_eq_true rfl⟩) hK hNw hG gl_135 rfl gk_135 (by decide) rfl rfl hl.1 rfl (lv_room (Nat.le_of_ble_eq_true rfl)) dX11_digest_93 ⟨Nat.zero_le _, Nat.zero_le _⟩) hG (fun r_93 h_93 g_93 H locs hq hG => ?_)
        replace HW := HW r_93 h_93 g_93 hq
        refine lv_i2l hx hb dX11_digest_96 rfl ?_
        refine lv_ladd hx hb dX11_digest_97 ?_
        refine lv_topl (fun x1_98 ex1_98 => ?_)
        replace HW := HW x1_98 ex1_98
        refine lv_lstore_n (lv' := [(1, .long x1_98), (0, .ref (ad 135)), (3, .int x3), (4, .int x4)]) hx hb dX11_digest_98 rfl hl (by decide) rfl (fun ls hl => ?_)
        obtain ⟨x3_99, ex3_99⟩ : ∃ y : Int32, y = (x3 + 1) := ⟨_, rfl⟩
        replace HW := HW x3_99 ex3_99
        refine lv_iinc (v := x3_99) (lv' := [(3, .int x3_99), (1, .long x1_98), (0, .ref (ad 135)), (4, .int x4)]) hx hb dX11_digest_99 hl (k := 2) rfl (by rw [ex3_99]; rfl) (by decide) rfl (fun ls hl => ?_)
        refine lv_goto (tgt := 33) hx hb dX11_digest_102 (by decide) ?_
        exact hK33 x1_98 x3_99 h_93 g_93 _ _ _ HW hG (lv_sub hl [2, 1, 0] rfl)
      · replace HW := HW.2 c_62
        refine lv_ldc2 (v := 31) hx hb hown cn317 dX11_digest_65 ?_
        refine lv_lload_n hx hb dX11_digest_68 rfl (lv_at hl 1 rfl) ?_
        refine lv_lmul hx hb dX11_digest_69 ?_
        refine lv_aload_n hx hb dX11_digest_70 rfl (lv_at hl 0 rfl) ?_
        refine lv_iload_n hx hb dX11_digest_71 rfl (lv_at hl 2 rfl) ?_
        refine lv_iload hx hb dX11_digest_72 (lv_at hl 3 rfl) ?_
        obtain ⟨P_74, HC_74, HW⟩ := HW
        refine g_calli (g_runV (As := [.int x3, .int x4]) (rest := [.long ((31 : Int64) * x1)]) ⟨hx, hb, hml, hown, hts⟩ (m_X11_firstOf l D cy ad h g H.size x3 x4 P_74 HC_74) (cwV 2 hts (gd_V (wm5 222 rfl rfl) (wm5 224 rfl rfl) (wmp4 (q := (yX11_firstOf, 26)) 3 rfl) (wm1 13 rfl rfl) (wm5 225 rfl rfl)) rfl rfl rfl (by decide +kernel) ⟨Nat.le_of_ble_eq_true rfl, Nat.le_of_ble_eq_true rfl⟩) hK hNw hG gl_135 rfl gk_135 (by decide) rfl rfl hl.1 rfl (lv_room (Nat.le_of_ble_eq_true rfl)) dX11_digest_74 ⟨Nat.zero_le _, Nat.zero_le _⟩) hG (fun r_74 h_74 g_74 H locs hq hG => ?_)
        replace HW := HW r_74 h_74 g_74 hq
        refine lv_i2l hx hb dX11_digest_77 rfl ?_
        refine lv_ladd hx hb dX11_digest_78 ?_
        refine lv_topl (fun x1_79 ex1_79 => ?_)
        replace HW := HW x1_79 ex1_79
        refine lv_lstore_n (lv' := [(1, .long x1_79), (0, .ref (ad 135)), (3, .int x3), (4, .int x4)]) hx hb dX11_digest_79 rfl hl (by decide) rfl (fun ls hl => ?_)
        obtain ⟨x4_80, ex4_80⟩ : ∃ y : Int32, y = (x4 + 1) := ⟨_, rfl⟩
        replace HW := HW x4_80 ex4_80
        refine lv_iinc (v := x4_80) (lv' := [(4, .int x4_80), (1, .long x1_79), (0, .ref (ad 135)), (3, .int x3)]) hx hb dX11_digest_80 hl (k := 3) rfl (by rw [ex4_80]; rfl) (by decide) rfl (fun ls hl => ?_)
        refine lv_goto (tgt := 59) hx hb dX11_digest_83 (by decide) ?_
        exact hK59 x1_79 x3 x4_80 h_74 g_74 _ _ _ HW hG (lv_sub hl [2, 1, 3, 0] rfl)
  have L33 : ∀ (n : Nat) (x1 : Int64) (x3 : Int32) (h : HI) (g : HL) (H : Heap) (locs : List Loc) (ls : Array Slot), lpN (F_X11_digest_33 Q) n (x1, x3, h, g) → gG D cy ad (gA ad s.heap.size) s.heap h g H locs → lv_has ls 5 [(0, .ref (ad 135)), (1, .long x1), (3, .int x3)] → W p l e ({ frames := 8, cells := 0, slots := 0, locals := 188 } : Room) s m args below meth c H locs 0 0 (MQ below (va_Ql (fun (r : Int64) (u : HI × HL) => Q r u.1 u.2) (gB D cy ad s.heap.size) (gA ad s.heap.size)) args s 0 0 (gA ad s.heap.size)) (F0 m 33 ls []) := by
    intro n
    induction n with
    | zero => intro x1 x3 h g H locs ls HW; exact HW.elim
    | succ n ih =>
      intro x1 x3 h g H locs ls HW hG hl
      have HW : b_X11_digest_33 Q (fun x1 x3 h g => lpN (F_X11_digest_33 Q) n (x1, x3, h, g)) x1 x3 h g := HW
      generalize hKe : (fun (x1 : Int64) (x3 : Int32) (h : HI) (g : HL) => lpN (F_X11_digest_33 Q) n (x1, x3, h, g)) = K33 at HW
      have hK33 : ∀ (x1 : Int64) (x3 : Int32) (h : HI) (g : HL) (H : Heap) (locs : List Loc) (ls : Array Slot), K33 x1 x3 h g → gG D cy ad (gA ad s.heap.size) s.heap h g H locs → lv_has ls 5 [(0, .ref (ad 135)), (1, .long x1), (3, .int x3)] → W p l e ({ frames := 8, cells := 0, slots := 0, locals := 188 } : Room) s m args below meth c H locs 0 0 (MQ below (va_Ql (fun (r : Int64) (u : HI × HL) => Q r u.1 u.2) (gB D cy ad s.heap.size) (gA ad s.heap.size)) args s 0 0 (gA ad s.heap.size)) (F0 m 33 ls []) := by subst hKe; exact ih
      clear ih
      clear hKe
      unfold b_X11_digest_33 at HW
      refine lv_iload_n hx hb dX11_digest_33 rfl (lv_at hl 2 rfl) ?_
      refine lv_aload_n hx hb dX11_digest_34 rfl (lv_at hl 0 rfl) ?_
      refine g_getr hx hb hw inG11 hown hK hG gl_135 rfl gk_135 (by decide) 0 (by decide) (by rw [gm_135]; decide) (r := 136) gr_135_0 lk7 dX11_digest_35 ?_
      refine lv_iconst (v := 0) hx hb dX11_digest_38 (by decide) ?_
      refine g_iald hx hb hK hG gl_136 gk_136 gn_136 HW.1 dX11_digest_39 ?_
      replace HW := HW.2
      refine lv_icmp_ge (tgt := 105) hx hb dX11_digest_40 (by decide) (fun c_40 => ?_) (fun c_40 => ?_)
      · replace HW := HW.1 c_40
        refine lv_aload_n hx hb dX11_digest_105 rfl (lv_at hl 0 rfl) ?_
        refine lv_aload_n hx hb dX11_digest_106 rfl (lv_at hl 0 rfl) ?_
        refine lv_lload_n hx hb dX11_digest_107 rfl (lv_at hl 1 rfl) ?_
        refine lv_sipush (v := 140) hx hb dX11_digest_108 (by decide) ?_
        refine lv_bipush (v := 12) hx hb dX11_digest_111 (by decide) ?_
        obtain ⟨P_113, HC_113, HW⟩ := HW
        refine g_calll (g_runV (As := [.long x1, .int (140 : Int32), .int (12 : Int32)]) (rest := [.ref (ad 135)]) ⟨hx, hb, hml, hown, hts⟩ (m_X11_mixed l D cy ad h g H.size x1 (140 : Int32) (12 : Int32) P_113 HC_113) (cwV 3 hts (gd_V (wm7 6 rfl rfl) (wm7 8 rfl rfl) (wmp6 (q := (yX11_mixed, 26)) 2 rfl) (wm1 13 rfl rfl) (wm7 9 rfl rfl)) rfl rfl rfl (by decide +kernel) ⟨Nat.le_of_ble_eq_true rfl, Nat.le_of_ble_eq_true rfl⟩) hK hNw hG gl_135 rfl gk_135 (by decide) rfl rfl hl.1 rfl (lv_room (Nat.le_of_ble_eq_true rfl)) dX11_digest_113 ⟨Nat.zero_le _, Nat.zero_le _⟩) hG (fun r_113 h_113 g_113 H locs hq hG => ?_)
        replace HW := HW r_113 h_113 g_113 hq
        refine lv_sipush (v := 152) hx hb dX11_digest_116 (by decide) ?_
        refine lv_bipush (v := 6) hx hb dX11_digest_119 (by decide) ?_
        refine lv_aload_n hx hb dX11_digest_121 rfl (lv_at hl 0 rfl) ?_
        refine g_getr hx hb hw inG11 hown hK hG gl_135 rfl gk_135 (by decide) 0 (by decide) (by rw [gm_135]; decide) (r := 136) gr_135_0 lk7 dX11_digest_122 ?_
        refine lv_iconst (v := 1) hx hb dX11_digest_125 (by decide) ?_
        refine g_iald hx hb hK hG gl_136 gk_136 gn_136 HW.1 dX11_digest_126 ?_
        replace HW := HW.2
        refine lv_imul hx hb dX11_digest_127 ?_
        obtain ⟨P_128, HC_128, HW⟩ := HW
        refine g_calll (g_runV (As := [.long r_113, .int (152 : Int32), .int ((6 : Int32) * (h_113 136 (1 : Int32).toNatClampNeg))]) (rest := []) ⟨hx, hb, hml, hown, hts⟩ (m_X11_mixed l D cy ad h_113 g_113 H.size r_113 (152 : Int32) ((6 : Int32) * (h_113 136 (1 : Int32).toNatClampNeg)) P_128 HC_128) (cwV 3 hts (gd_V (wm7 6 rfl rfl) (wm7 8 rfl rfl) (wmp6 (q := (yX11_mixed, 26)) 2 rfl) (wm1 13 rfl rfl) (wm7 9 rfl rfl)) rfl rfl rfl (by decide +kernel) ⟨Nat.le_of_ble_eq_true rfl, Nat.le_of_ble_eq_true rfl⟩) hK hNw hG gl_135 rfl gk_135 (by decide) rfl rfl hl.1 rfl (lv_room (Nat.le_of_ble_eq_true rfl)) dX11_digest_128 ⟨Nat.zero_le _, Nat.zero_le _⟩) hG (fun r_128 h_128 g_128 H locs hq hG => ?_)
        replace HW := HW r_128 h_128 g_128 hq
        refine lv_lstore_n (lv' := [(1, .long r_128), (0, .ref (ad 135)), (3, .int x3)]) hx hb dX11_digest_131 rfl hl (by decide) rfl (fun ls hl => ?_)
        refine lv_iconst (v := 0) hx hb dX11_digest_132 (by decide) ?_
        refine lv_istore_n (lv' := [(3, .int (0 : Int32)), (1, .long r_128), (0, .ref (ad 135))]) hx hb dX11_digest_133 rfl hl (by decide) rfl (fun ls hl => ?_)
        obtain ⟨n_134, HW⟩ := HW
        exact L134 n_134 r_128 (0 : Int32) h_128 g_128 _ _ _ HW hG (lv_sub hl [2, 1, 0] rfl)
      · replace HW := HW.2 c_40
        refine lv_aload_n hx hb dX11_digest_43 rfl (lv_at hl 0 rfl) ?_
        refine lv_lload_n hx hb dX11_digest_44 rfl (lv_at hl 1 rfl) ?_
        refine lv_bipush (v := 20) hx hb dX11_digest_45 (by decide) ?_
        refine lv_iconst (v := 5) hx hb dX11_digest_47 (by decide) ?_
        refine lv_iload_n hx hb dX11_digest_48 rfl (lv_at hl 2 rfl) ?_
        refine lv_imul hx hb dX11_digest_49 ?_
        refine lv_iadd hx hb dX11_digest_50 ?_
        refine lv_iconst (v := 4) hx hb dX11_digest_51 (by decide) ?_
        obtain ⟨P_52, HC_52, HW⟩ := HW
        refine g_calll (g_runV (As := [.long x1, .int ((20 : Int32) + ((5 : Int32) * x3)), .int (4 : Int32)]) (rest := []) ⟨hx, hb, hml, hown, hts⟩ (m_X11_mixed l D cy ad h g H.size x1 ((20 : Int32) + ((5 : Int32) * x3)) (4 : Int32) P_52 HC_52) (cwV 3 hts (gd_V (wm7 6 rfl rfl) (wm7 8 rfl rfl) (wmp6 (q := (yX11_mixed, 26)) 2 rfl) (wm1 13 rfl rfl) (wm7 9 rfl rfl)) rfl rfl rfl (by decide +kernel) ⟨Nat.le_of_ble_eq_true rfl, Nat.le_of_ble_eq_true rfl⟩) hK hNw hG gl_135 rfl gk_135 (by decide) rfl rfl hl.1 rfl (lv_room (Nat.le_of_ble_eq_true rfl)) dX11_digest_52 ⟨Nat.zero_le _, Nat.zero_le _⟩) hG (fun r_52 h_52 g_52 H locs hq hG => ?_)
        replace HW := HW r_52 h_52 g_52 hq
        refine lv_lstore_n (lv' := [(1, .long r_52), (0, .ref (ad 135)), (3, .int x3)]) hx hb dX11_digest_55 rfl hl (by decide) rfl (fun ls hl => ?_)
        refine lv_iconst (v := 0) hx hb dX11_digest_56 (by decide) ?_
        refine lv_istore (lv' := [(4, .int (0 : Int32)), (1, .long r_52), (0, .ref (ad 135)), (3, .int x3)]) hx hb dX11_digest_57 hl (by decide) rfl (fun ls hl => ?_)
        obtain ⟨n_59, HW⟩ := HW
        exact L59 K33 hK33 n_59 r_52 x3 (0 : Int32) h_52 g_52 _ _ _ HW hG (lv_sub hl [2, 1, 3, 0] rfl)
  have L6 : ∀ (n : Nat) (x1 : Int64) (x3 : Int32) (h : HI) (g : HL) (H : Heap) (locs : List Loc) (ls : Array Slot), lpN (F_X11_digest_6 Q) n (x1, x3, h, g) → gG D cy ad (gA ad s.heap.size) s.heap h g H locs → lv_has ls 5 [(0, .ref (ad 135)), (1, .long x1), (3, .int x3)] → W p l e ({ frames := 8, cells := 0, slots := 0, locals := 188 } : Room) s m args below meth c H locs 0 0 (MQ below (va_Ql (fun (r : Int64) (u : HI × HL) => Q r u.1 u.2) (gB D cy ad s.heap.size) (gA ad s.heap.size)) args s 0 0 (gA ad s.heap.size)) (F0 m 6 ls []) := by
    intro n
    induction n with
    | zero => intro x1 x3 h g H locs ls HW; exact HW.elim
    | succ n ih =>
      intro x1 x3 h g H locs ls HW hG hl
      have HW : b_X11_digest_6 Q (fun x1 x3 h g => lpN (F_X11_digest_6 Q) n (x1, x3, h, g)) x1 x3 h g := HW
      generalize hKe : (fun (x1 : Int64) (x3 : Int32) (h : HI) (g : HL) => lpN (F_X11_digest_6 Q) n (x1, x3, h, g)) = K6 at HW
      have hK6 : ∀ (x1 : Int64) (x3 : Int32) (h : HI) (g : HL) (H : Heap) (locs : List Loc) (ls : Array Slot), K6 x1 x3 h g → gG D cy ad (gA ad s.heap.size) s.heap h g H locs → lv_has ls 5 [(0, .ref (ad 135)), (1, .long x1), (3, .int x3)] → W p l e ({ frames := 8, cells := 0, slots := 0, locals := 188 } : Room) s m args below meth c H locs 0 0 (MQ below (va_Ql (fun (r : Int64) (u : HI × HL) => Q r u.1 u.2) (gB D cy ad s.heap.size) (gA ad s.heap.size)) args s 0 0 (gA ad s.heap.size)) (F0 m 6 ls []) := by subst hKe; exact ih
      clear ih
      clear hKe
      unfold b_X11_digest_6 at HW
      refine lv_iload_n hx hb dX11_digest_6 rfl (lv_at hl 2 rfl) ?_
      refine lv_bipush (v := 10) hx hb dX11_digest_7 (by decide) ?_
      refine lv_icmp_ge (tgt := 31) hx hb dX11_digest_9 (by decide) (fun c_9 => ?_) (fun c_9 => ?_)
      · replace HW := HW.1 c_9
        refine lv_iconst (v := 0) hx hb dX11_digest_31 (by decide) ?_
        refine lv_istore_n (lv' := [(3, .int (0 : Int32)), (0, .ref (ad 135)), (1, .long x1)]) hx hb dX11_digest_32 rfl hl (by decide) rfl (fun ls hl => ?_)
        obtain ⟨n_33, HW⟩ := HW
        exact L33 n_33 x1 (0 : Int32) h g _ _ _ HW hG (lv_sub hl [1, 2, 0] rfl)
      · replace HW := HW.2 c_9
        refine lv_ldc2 (v := 31) hx hb hown cn317 dX11_digest_12 ?_
        refine lv_lload_n hx hb dX11_digest_15 rfl (lv_at hl 1 rfl) ?_
        refine lv_lmul hx hb dX11_digest_16 ?_
        refine lv_aload_n hx hb dX11_digest_17 rfl (lv_at hl 0 rfl) ?_
        refine lv_iload_n hx hb dX11_digest_18 rfl (lv_at hl 2 rfl) ?_
        obtain ⟨P_19, HC_19, HW⟩ := HW
        refine g_calli (g_runV (As := [.int x3]) (rest := [.long ((31 : Int64) * x1)]) ⟨hx, hb, hml, hown, hts⟩ (m_X11_countOf l D cy ad h g H.size x3 P_19 HC_19) (cwV 1 hts (gd_V (wm6 232 rfl rfl) (wm6 234 rfl rfl) (wmp6 (q := (yX11_countOf, 26)) 0 rfl) (wm1 13 rfl rfl) (wm6 235 rfl rfl)) rfl rfl rfl (by decide +kernel) ⟨Nat.le_of_ble_eq_true rfl, Nat.le_of_ble_eq_true rfl⟩) hK hNw hG gl_135 rfl gk_135 (by decide) rfl rfl hl.1 rfl (lv_room (Nat.le_of_ble_eq_true rfl)) dX11_digest_19 ⟨Nat.zero_le _, Nat.zero_le _⟩) hG (fun r_19 h_19 g_19 H locs hq hG => ?_)
        replace HW := HW r_19 h_19 g_19 hq
        refine lv_i2l hx hb dX11_digest_22 rfl ?_
        refine lv_ladd hx hb dX11_digest_23 ?_
        refine lv_topl (fun x1_24 ex1_24 => ?_)
        replace HW := HW x1_24 ex1_24
        refine lv_lstore_n (lv' := [(1, .long x1_24), (0, .ref (ad 135)), (3, .int x3)]) hx hb dX11_digest_24 rfl hl (by decide) rfl (fun ls hl => ?_)
        obtain ⟨x3_25, ex3_25⟩ : ∃ y : Int32, y = (x3 + 1) := ⟨_, rfl⟩
        replace HW := HW x3_25 ex3_25
        refine lv_iinc (v := x3_25) (lv' := [(3, .int x3_25), (1, .long x1_24), (0, .ref (ad 135))]) hx hb dX11_digest_25 hl (k := 2) rfl (by rw [ex3_25]; rfl) (by decide) rfl (fun ls hl => ?_)
        refine lv_goto (tgt := 6) hx hb dX11_digest_28 (by decide) ?_
        exact hK6 x1_24 x3_25 h_19 g_19 _ _ _ HW hG (lv_sub hl [2, 1, 0] rfl)
  have E0 : ∀ (H : Heap) (locs : List Loc) (ls : Array Slot), gG D cy ad (gA ad s.heap.size) s.heap h g H locs → lv_has ls 5 [(0, .ref (ad 135))] → W p l e ({ frames := 8, cells := 0, slots := 0, locals := 188 } : Room) s m args below meth c H locs 0 0 (MQ below (va_Ql (fun (r : Int64) (u : HI × HL) => Q r u.1 u.2) (gB D cy ad s.heap.size) (gA ad s.heap.size)) args s 0 0 (gA ad s.heap.size)) (F0 m 0 ls []) := by
    intro H locs ls hG hl
    unfold w_X11_digest at HW
    refine lv_ldc2 (v := 383) hx hb hown cn319 dX11_digest_0 ?_
    refine lv_lstore_n (lv' := [(1, .long (383 : Int64)), (0, .ref (ad 135))]) hx hb dX11_digest_3 rfl hl (by decide) rfl (fun ls hl => ?_)
    refine lv_iconst (v := 0) hx hb dX11_digest_4 (by decide) ?_
    refine lv_istore_n (lv' := [(3, .int (0 : Int32)), (1, .long (383 : Int64)), (0, .ref (ad 135))]) hx hb dX11_digest_5 rfl hl (by decide) rfl (fun ls hl => ?_)
    obtain ⟨n_6, HW⟩ := HW
    exact L6 n_6 (383 : Int64) (0 : Int32) h g _ _ _ HW hG (lv_sub hl [2, 1, 0] rfl)
  exact E0 _ _ _ hG hl
end
