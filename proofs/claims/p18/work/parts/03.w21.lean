def w_X11_limbs (x1 : Int32) (h : HI) (g : HL) (Q : Int32 → HI → HL → Prop) : Prop :=
  (∃ P_4 : Int32 → HI → HL → Prop, w_X11_in ((x1).toInt64) (0 : Int64) (1 : Int64) h g P_4 ∧ ∀ (r_4 : Int32) (h_4 : HI) (g_4 : HL), zb r_4 → P_4 r_4 h_4 g_4 → ((r_4 = 0 → Q (-2 : Int32) h_4 g_4) ∧ (¬ r_4 = 0 → (vp_in x1 5 ∧ Q (h_4 147 x1.toNatClampNeg) h_4 g_4))))
set_option maxHeartbeats 8000000 in
set_option maxRecDepth 100000 in
theorem m_X11_limbs (l : Launch) (D : va_G) (cy : Nat → ClassId) (ad : Nat → Nat) (h : HI) (g : HL) (sz : Nat) (x1 : Int32) (Q : Int32 → HI → HL → Prop) (HW : w_X11_limbs x1 h g Q) : Met l yX11_limbs (wa yX11_limbs cX11_limbs 2 (some .int)) ({ frames := 1, cells := 0, slots := 0, locals := 25 }) (va_Pc [.ref (ad 135), .int x1] (gI D cy ad h g sz)) (va_Qi (fun (r : Int32) (u : HI × HL) => Q r u.1 u.2) (gB D cy ad sz) (gA ad sz)) 0 0 (gA ad sz) := by
  refine Met.ofW (cc := cX11_limbs) (maxL := 2) (ret := (some .int)) (by decide) rfl ?_
  intro p e s m args below meth c s₁ B hml hv
  obtain ⟨hav, hsz, hP, hK, hD0, hNw⟩ := hv
  have hx := B.exec
  have hb := B.bytes
  have hr := B.returns
  have hts := atoms_spec (ws := (wa yX11_limbs cX11_limbs 2 (some .int))) B.pre
  have hw := wa_hw hts
  have hown : s.vm.findClass RX11 = some m.cls := findClass_of_methodNamed B.named
  have hlocks := B.notSynchronized
  subst hsz
  have hG : gG D cy ad (gA ad s.heap.size) s.heap h g s.heap [] := ⟨hP, gA_self hD0, va_S.rf⟩
  clear hP hD0
  have lk45 := hw (.fieldLink RX11 45 "OldWorksModel" "wide" "[I") (wm5 51 rfl rfl)
  rw [show (headSpec (wa yX11_limbs cX11_limbs 2 (some .int)) ({ frames := 1, cells := 0, slots := 0, locals := 25 } : Room)).room = ({ frames := 1, cells := 0, slots := 0, locals := 25 } : Room) from rfl]
  have hl := lv_entry ([.ref (ad 135), .int x1]) (n := 2) (Nat.le_of_ble_eq_true rfl)
  rw [show entryFrame m args 2 = entryFrame m ([.ref (ad 135), .int x1] : List Value).toArray 2 from by rw [hav], lg_entry_eq]
  generalize (lg_sl ([.ref (ad 135), .int x1]) ++ List.replicate (2 - (lg_sl ([.ref (ad 135), .int x1])).length) Slot.unset).toArray = ls at hl ⊢
  have hl : lv_has ls 2 [(0, .ref (ad 135)), (1, .int x1)] := hl
  have E0 : ∀ (H : Heap) (locs : List Loc) (ls : Array Slot), gG D cy ad (gA ad s.heap.size) s.heap h g H locs → lv_has ls 2 [(0, .ref (ad 135)), (1, .int x1)] → W p l e ({ frames := 1, cells := 0, slots := 0, locals := 25 } : Room) s m args below meth c H locs 0 0 (MQ below (va_Qi (fun (r : Int32) (u : HI × HL) => Q r u.1 u.2) (gB D cy ad s.heap.size) (gA ad s.heap.size)) args s 0 0 (gA ad s.heap.size)) (F0 m 0 ls []) := by
    intro H locs ls hG hl
    unfold w_X11_limbs at HW
    refine lv_iload_n hx hb dX11_limbs_0 rfl (lv_at hl 1 rfl) ?_
    refine lv_i2l hx hb dX11_limbs_1 rfl ?_
    refine lv_lconst (v := 0) hx hb dX11_limbs_2 (by decide) ?_
    refine lv_lconst (v := 1) hx hb dX11_limbs_3 (by decide) ?_
    obtain ⟨P_4, HC_4, HW⟩ := HW
    refine g_callz (g_runS (As := [.long ((x1).toInt64), .long (0 : Int64), .long (1 : Int64)]) (rest := []) ⟨hx, hb, hml, hown, hts⟩ (m_X11_in l D cy ad h g H.size ((x1).toInt64) (0 : Int64) (1 : Int64) P_4 HC_4) (va_cwS 3 hts (gd_S (wm5 111 rfl rfl) (wm5 112 rfl rfl) (wm1 13 rfl rfl) (wm5 113 rfl rfl)) rfl rfl rfl (by decide +kernel) ⟨Nat.le_of_ble_eq_true rfl, Nat.le_of_ble_eq_true rfl⟩) hK hNw hG rfl rfl hl.1 rfl (lv_room (Nat.le_of_ble_eq_true rfl)) dX11_limbs_4 ⟨Nat.zero_le _, Nat.zero_le _⟩) hG (fun r_4 h_4 g_4 H locs hz hq hG => ?_)
    replace HW := HW r_4 h_4 g_4 hz hq
    refine lv_if_eq (tgt := 19) hx hb dX11_limbs_7 (by decide) (fun c_7 => ?_) (fun c_7 => ?_)
    · replace HW := HW.1 c_7
      refine lv_bipush (v := (-2)) hx hb dX11_limbs_19 (by decide) ?_
      exact W.iret (v := (-2 : Int32)) hx hb hr (fun t ht hW => ⟨⟨(-2 : Int32), (h_4, g_4), rfl, HW, g_B ht hG⟩, hG.2.2.F ht⟩) hG.2.2.2.2 dX11_limbs_21
    · replace HW := HW.2 c_7
      refine lv_aload_n hx hb dX11_limbs_10 rfl (lv_at hl 0 rfl) ?_
      refine g_getr hx hb hw inG11 hown hK hG gl_135 rfl gk_135 (by decide) 24 (by decide) (by rw [gm_135]; decide) (r := 147) gr_135_24 lk45 dX11_limbs_11 ?_
      refine lv_iload_n hx hb dX11_limbs_14 rfl (lv_at hl 1 rfl) ?_
      refine g_iald hx hb hK hG gl_147 gk_147 gn_147 HW.1 dX11_limbs_15 ?_
      replace HW := HW.2
      refine lv_goto (tgt := 21) hx hb dX11_limbs_16 (by decide) ?_
      exact W.iret (v := (h_4 147 x1.toNatClampNeg)) hx hb hr (fun t ht hW => ⟨⟨(h_4 147 x1.toNatClampNeg), (h_4, g_4), rfl, HW, g_B ht hG⟩, hG.2.2.F ht⟩) hG.2.2.2.2 dX11_limbs_21
  exact E0 _ _ _ hG hl

def w_X11_limb (x1 : Int32) (x2 : Int32) (h : HI) (g : HL) (Q : Int32 → HI → HL → Prop) : Prop :=
  (∃ P_4 : Int32 → HI → HL → Prop, w_X11_in ((x1).toInt64) (0 : Int64) (1 : Int64) h g P_4 ∧ ∀ (r_4 : Int32) (h_4 : HI) (g_4 : HL), zb r_4 → P_4 r_4 h_4 g_4 → ((r_4 = 0 → Q (-2 : Int32) h_4 g_4) ∧ (¬ r_4 = 0 → ((0 ≤ x2 → (vp_in x1 5 ∧ (((h_4 147 x1.toNatClampNeg) ≤ x2 → Q (-1 : Int32) h_4 g_4) ∧ (¬ (h_4 147 x1.toNatClampNeg) ≤ x2 → (vp_in (((80 : Int32) * x1) + x2) 400 ∧ Q (h_4 146 (((80 : Int32) * x1) + x2).toNatClampNeg) h_4 g_4))))) ∧ (¬ 0 ≤ x2 → Q (-2 : Int32) h_4 g_4)))))
set_option maxHeartbeats 8000000 in
set_option maxRecDepth 100000 in
theorem m_X11_limb (l : Launch) (D : va_G) (cy : Nat → ClassId) (ad : Nat → Nat) (h : HI) (g : HL) (sz : Nat) (x1 : Int32) (x2 : Int32) (Q : Int32 → HI → HL → Prop) (HW : w_X11_limb x1 x2 h g Q) : Met l yX11_limb (wa yX11_limb cX11_limb 3 (some .int)) ({ frames := 1, cells := 0, slots := 0, locals := 25 }) (va_Pc [.ref (ad 135), .int x1, .int x2] (gI D cy ad h g sz)) (va_Qi (fun (r : Int32) (u : HI × HL) => Q r u.1 u.2) (gB D cy ad sz) (gA ad sz)) 0 0 (gA ad sz) := by
  refine Met.ofW (cc := cX11_limb) (maxL := 3) (ret := (some .int)) (by decide) rfl ?_
  intro p e s m args below meth c s₁ B hml hv
  obtain ⟨hav, hsz, hP, hK, hD0, hNw⟩ := hv
  have hx := B.exec
  have hb := B.bytes
  have hr := B.returns
  have hts := atoms_spec (ws := (wa yX11_limb cX11_limb 3 (some .int))) B.pre
  have hw := wa_hw hts
  have hown : s.vm.findClass RX11 = some m.cls := findClass_of_methodNamed B.named
  have hlocks := B.notSynchronized
  subst hsz
  have hG : gG D cy ad (gA ad s.heap.size) s.heap h g s.heap [] := ⟨hP, gA_self hD0, va_S.rf⟩
  clear hP hD0
  have lk45 := hw (.fieldLink RX11 45 "OldWorksModel" "wide" "[I") (wm5 51 rfl rfl)
  have lk42 := hw (.fieldLink RX11 42 "OldWorksModel" "limbs" "[I") (wm5 50 rfl rfl)
  rw [show (headSpec (wa yX11_limb cX11_limb 3 (some .int)) ({ frames := 1, cells := 0, slots := 0, locals := 25 } : Room)).room = ({ frames := 1, cells := 0, slots := 0, locals := 25 } : Room) from rfl]
  have hl := lv_entry ([.ref (ad 135), .int x1, .int x2]) (n := 3) (Nat.le_of_ble_eq_true rfl)
  rw [show entryFrame m args 3 = entryFrame m ([.ref (ad 135), .int x1, .int x2] : List Value).toArray 3 from by rw [hav], lg_entry_eq]
  generalize (lg_sl ([.ref (ad 135), .int x1, .int x2]) ++ List.replicate (3 - (lg_sl ([.ref (ad 135), .int x1, .int x2])).length) Slot.unset).toArray = ls at hl ⊢
  have hl : lv_has ls 3 [(0, .ref (ad 135)), (1, .int x1), (2, .int x2)] := hl
  have E0 : ∀ (H : Heap) (locs : List Loc) (ls : Array Slot), gG D cy ad (gA ad s.heap.size) s.heap h g H locs → lv_has ls 3 [(0, .ref (ad 135)), (1, .int x1), (2, .int x2)] → W p l e ({ frames := 1, cells := 0, slots := 0, locals := 25 } : Room) s m args below meth c H locs 0 0 (MQ below (va_Qi (fun (r : Int32) (u : HI × HL) => Q r u.1 u.2) (gB D cy ad s.heap.size) (gA ad s.heap.size)) args s 0 0 (gA ad s.heap.size)) (F0 m 0 ls []) := by
    intro H locs ls hG hl
    unfold w_X11_limb at HW
    refine lv_iload_n hx hb dX11_limb_0 rfl (lv_at hl 1 rfl) ?_
    refine lv_i2l hx hb dX11_limb_1 rfl ?_
    refine lv_lconst (v := 0) hx hb dX11_limb_2 (by decide) ?_
    refine lv_lconst (v := 1) hx hb dX11_limb_3 (by decide) ?_
    obtain ⟨P_4, HC_4, HW⟩ := HW
    refine g_callz (g_runS (As := [.long ((x1).toInt64), .long (0 : Int64), .long (1 : Int64)]) (rest := []) ⟨hx, hb, hml, hown, hts⟩ (m_X11_in l D cy ad h g H.size ((x1).toInt64) (0 : Int64) (1 : Int64) P_4 HC_4) (va_cwS 3 hts (gd_S (wm5 111 rfl rfl) (wm5 112 rfl rfl) (wm1 13 rfl rfl) (wm5 113 rfl rfl)) rfl rfl rfl (by decide +kernel) ⟨Nat.le_of_ble_eq_true rfl, Nat.le_of_ble_eq_true rfl⟩) hK hNw hG rfl rfl hl.1 rfl (lv_room (Nat.le_of_ble_eq_true rfl)) dX11_limb_4 ⟨Nat.zero_le _, Nat.zero_le _⟩) hG (fun r_4 h_4 g_4 H locs hz hq hG => ?_)
    replace HW := HW r_4 h_4 g_4 hz hq
    refine lv_if_eq (tgt := 14) hx hb dX11_limb_7 (by decide) (fun c_7 => ?_) (fun c_7 => ?_)
    · replace HW := HW.1 c_7
      refine lv_bipush (v := (-2)) hx hb dX11_limb_14 (by decide) ?_
      exact W.iret (v := (-2 : Int32)) hx hb hr (fun t ht hW => ⟨⟨(-2 : Int32), (h_4, g_4), rfl, HW, g_B ht hG⟩, hG.2.2.F ht⟩) hG.2.2.2.2 dX11_limb_16
    · replace HW := HW.2 c_7
      refine lv_iload_n hx hb dX11_limb_10 rfl (lv_at hl 2 rfl) ?_
      refine lv_if_ge (tgt := 17) hx hb dX11_limb_11 (by decide) (fun c_11 => ?_) (fun c_11 => ?_)
      · replace HW := HW.1 c_11
        refine lv_iload_n hx hb dX11_limb_17 rfl (lv_at hl 2 rfl) ?_
        refine lv_aload_n hx hb dX11_limb_18 rfl (lv_at hl 0 rfl) ?_
        refine g_getr hx hb hw inG11 hown hK hG gl_135 rfl gk_135 (by decide) 24 (by decide) (by rw [gm_135]; decide) (r := 147) gr_135_24 lk45 dX11_limb_19 ?_
        refine lv_iload_n hx hb dX11_limb_22 rfl (lv_at hl 1 rfl) ?_
        refine g_iald hx hb hK hG gl_147 gk_147 gn_147 HW.1 dX11_limb_23 ?_
        replace HW := HW.2
        refine lv_icmp_ge (tgt := 41) hx hb dX11_limb_24 (by decide) (fun c_24 => ?_) (fun c_24 => ?_)
        · replace HW := HW.1 c_24
          refine lv_iconst (v := (-1)) hx hb dX11_limb_41 (by decide) ?_
          exact W.iret (v := (-1 : Int32)) hx hb hr (fun t ht hW => ⟨⟨(-1 : Int32), (h_4, g_4), rfl, HW, g_B ht hG⟩, hG.2.2.F ht⟩) hG.2.2.2.2 dX11_limb_42
        · replace HW := HW.2 c_24
          refine lv_aload_n hx hb dX11_limb_27 rfl (lv_at hl 0 rfl) ?_
          refine g_getr hx hb hw inG11 hown hK hG gl_135 rfl gk_135 (by decide) 23 (by decide) (by rw [gm_135]; decide) (r := 146) gr_135_23 lk42 dX11_limb_28 ?_
          refine lv_bipush (v := 80) hx hb dX11_limb_31 (by decide) ?_
          refine lv_iload_n hx hb dX11_limb_33 rfl (lv_at hl 1 rfl) ?_
          refine lv_imul hx hb dX11_limb_34 ?_
          refine lv_iload_n hx hb dX11_limb_35 rfl (lv_at hl 2 rfl) ?_
          refine lv_iadd hx hb dX11_limb_36 ?_
          refine g_iald hx hb hK hG gl_146 gk_146 gn_146 HW.1 dX11_limb_37 ?_
          replace HW := HW.2
          refine lv_goto (tgt := 42) hx hb dX11_limb_38 (by decide) ?_
          exact W.iret (v := (h_4 146 (((80 : Int32) * x1) + x2).toNatClampNeg)) hx hb hr (fun t ht hW => ⟨⟨(h_4 146 (((80 : Int32) * x1) + x2).toNatClampNeg), (h_4, g_4), rfl, HW, g_B ht hG⟩, hG.2.2.F ht⟩) hG.2.2.2.2 dX11_limb_42
      · replace HW := HW.2 c_11
        refine lv_bipush (v := (-2)) hx hb dX11_limb_14 (by decide) ?_
        exact W.iret (v := (-2 : Int32)) hx hb hr (fun t ht hW => ⟨⟨(-2 : Int32), (h_4, g_4), rfl, HW, g_B ht hG⟩, hG.2.2.F ht⟩) hG.2.2.2.2 dX11_limb_16
  exact E0 _ _ _ hG hl

def j_X11_told_77 (Q : Int32 → HI → HL → Prop) (s1 : Int32) (s2 : Int32) (h : HI) (g : HL) : Prop :=
  (vp_in s1 887 ∧ ∀ h_77 : HI, h_77 = hu h 136 s1.toNatClampNeg s2 → (∃ P_81 : Int32 → HI → HL → Prop, w_X11_one (6 : Int32) h_77 g P_81 ∧ ∀ (r_81 : Int32) (h_81 : HI) (g_81 : HL), P_81 r_81 h_81 g_81 → Q (r_81 + (1 : Int32)) h_81 g_81))
def w_X11_told (x1 : Int32) (x2 : Int32) (h : HI) (g : HL) (Q : Int32 → HI → HL → Prop) : Prop :=
  (∃ P_6 : Int32 → HI → HL → Prop, w_X11_in ((x1).toInt64) (0 : Int64) (100 : Int64) h g P_6 ∧ ∀ (r_6 : Int32) (h_6 : HI) (g_6 : HL), zb r_6 → P_6 r_6 h_6 g_6 → ((¬ r_6 = 0 → (vp_in (6 : Int32) 887 ∧ ((¬ (h_6 136 (6 : Int32).toNatClampNeg) = (40 : Int32) → (vp_in (6 : Int32) 887 ∧ (vp_in ((737 : Int32) + ((2 : Int32) * (h_6 136 (6 : Int32).toNatClampNeg))) 887 ∧ ∀ h_48 : HI, h_48 = hu h_6 136 ((737 : Int32) + ((2 : Int32) * (h_6 136 (6 : Int32).toNatClampNeg))).toNatClampNeg x1 → (vp_in (6 : Int32) 887 ∧ ((x2 = 0 → j_X11_told_77 Q (((737 : Int32) + ((2 : Int32) * (h_48 136 (6 : Int32).toNatClampNeg))) + (1 : Int32)) (0 : Int32) h_48 g_6) ∧ (¬ x2 = 0 → j_X11_told_77 Q (((737 : Int32) + ((2 : Int32) * (h_48 136 (6 : Int32).toNatClampNeg))) + (1 : Int32)) (1 : Int32) h_48 g_6)))))) ∧ ((h_6 136 (6 : Int32).toNatClampNeg) = (40 : Int32) → Q (-4 : Int32) h_6 g_6)))) ∧ (r_6 = 0 → Q (-2 : Int32) h_6 g_6)))
set_option maxHeartbeats 8000000 in
set_option maxRecDepth 100000 in
theorem m_X11_told (l : Launch) (D : va_G) (cy : Nat → ClassId) (ad : Nat → Nat) (h : HI) (g : HL) (sz : Nat) (x1 : Int32) (x2 : Int32) (Q : Int32 → HI → HL → Prop) (HW : w_X11_told x1 x2 h g Q) : Met l yX11_told (wa yX11_told cX11_told 3 (some .int)) ({ frames := 1, cells := 0, slots := 0, locals := 25 }) (va_Pc [.ref (ad 135), .int x1, .int x2] (gI D cy ad h g sz)) (va_Qi (fun (r : Int32) (u : HI × HL) => Q r u.1 u.2) (gB D cy ad sz) (gA ad sz)) 0 0 (gA ad sz) := by
  refine Met.ofW (cc := cX11_told) (maxL := 3) (ret := (some .int)) (by decide) rfl ?_
  intro p e s m args below meth c s₁ B hml hv
  obtain ⟨hav, hsz, hP, hK, hD0, hNw⟩ := hv
  have hx := B.exec
  have hb := B.bytes
  have hr := B.returns
  have hts := atoms_spec (ws := (wa yX11_told cX11_told 3 (some .int))) B.pre
  have hw := wa_hw hts
  have hown : s.vm.findClass RX11 = some m.cls := findClass_of_methodNamed B.named
  have hlocks := B.notSynchronized
  subst hsz
  have hG : gG D cy ad (gA ad s.heap.size) s.heap h g s.heap [] := ⟨hP, gA_self hD0, va_S.rf⟩
  clear hP hD0
  have cn59 := hw (.constantLong RX11 59 (100)) (wm5 110 rfl rfl)
  have lk7 := hw (.fieldLink RX11 7 "OldWorksModel" "st" "[I") (wm5 27 rfl rfl)
  rw [show (headSpec (wa yX11_told cX11_told 3 (some .int)) ({ frames := 1, cells := 0, slots := 0, locals := 25 } : Room)).room = ({ frames := 1, cells := 0, slots := 0, locals := 25 } : Room) from rfl]
  have hl := lv_entry ([.ref (ad 135), .int x1, .int x2]) (n := 3) (Nat.le_of_ble_eq_true rfl)
  rw [show entryFrame m args 3 = entryFrame m ([.ref (ad 135), .int x1, .int x2] : List Value).toArray 3 from by rw [hav], lg_entry_eq]
  generalize (lg_sl ([.ref (ad 135), .int x1, .int x2]) ++ List.replicate (3 - (lg_sl ([.ref (ad 135), .int x1, .int x2])).length) Slot.unset).toArray = ls at hl ⊢
  have hl : lv_has ls 3 [(0, .ref (ad 135)), (1, .int x1), (2, .int x2)] := hl
  have B77 : ∀ (s1 : Int32) (s2 : Int32) (h : HI) (g : HL) (H : Heap) (locs : List Loc) (ls : Array Slot), j_X11_told_77 Q s1 s2 h g → gG D cy ad (gA ad s.heap.size) s.heap h g H locs → lv_has ls 3 [(0, .ref (ad 135))] → W p l e ({ frames := 1, cells := 0, slots := 0, locals := 25 } : Room) s m args below meth c H locs 0 0 (MQ below (va_Qi (fun (r : Int32) (u : HI × HL) => Q r u.1 u.2) (gB D cy ad s.heap.size) (gA ad s.heap.size)) args s 0 0 (gA ad s.heap.size)) (F0 m 77 ls [.int s2, .int s1, .ref (ad 136)]) := by
    intro s1 s2 h g H locs ls HW hG hl
    unfold j_X11_told_77 at HW
    refine g_iast hx hb hK hG gl_136 gk_136 gn_136 HW.1 dX11_told_77 (fun H locs hG => ?_)
    replace HW := HW.2
    obtain ⟨h_77, eh_77⟩ : ∃ y : HI, y = hu h 136 s1.toNatClampNeg s2 := ⟨_, rfl⟩
    rw [← eh_77] at hG
    replace HW := HW h_77 eh_77
    refine lv_aload_n hx hb dX11_told_78 rfl (lv_at hl 0 rfl) ?_
    refine lv_bipush (v := 6) hx hb dX11_told_79 (by decide) ?_
    obtain ⟨P_81, HC_81, HW⟩ := HW
    refine g_calli (g_runV (As := [.int (6 : Int32)]) (rest := []) ⟨hx, hb, hml, hown, hts⟩ (m_X11_one l D cy ad h_77 g H.size (6 : Int32) P_81 HC_81) (cwV 1 hts (gd_V (wm5 120 rfl rfl) (wm5 122 rfl rfl) (wmp3 (q := (yX11_one, 26)) 7 rfl) (wm1 13 rfl rfl) (wm5 123 rfl rfl)) rfl rfl rfl (by decide +kernel) ⟨Nat.le_of_ble_eq_true rfl, Nat.le_of_ble_eq_true rfl⟩) hK hNw hG gl_135 rfl gk_135 (by decide) rfl rfl hl.1 rfl (lv_room (Nat.le_of_ble_eq_true rfl)) dX11_told_81 ⟨Nat.zero_le _, Nat.zero_le _⟩) hG (fun r_81 h_81 g_81 H locs hq hG => ?_)
    replace HW := HW r_81 h_81 g_81 hq
    refine lv_iconst (v := 1) hx hb dX11_told_84 (by decide) ?_
    refine lv_iadd hx hb dX11_told_85 ?_
    exact W.iret (v := (r_81 + (1 : Int32))) hx hb hr (fun t ht hW => ⟨⟨(r_81 + (1 : Int32)), (h_81, g_81), rfl, HW, g_B ht hG⟩, hG.2.2.F ht⟩) hG.2.2.2.2 dX11_told_86
  have E0 : ∀ (H : Heap) (locs : List Loc) (ls : Array Slot), gG D cy ad (gA ad s.heap.size) s.heap h g H locs → lv_has ls 3 [(0, .ref (ad 135)), (1, .int x1), (2, .int x2)] → W p l e ({ frames := 1, cells := 0, slots := 0, locals := 25 } : Room) s m args below meth c H locs 0 0 (MQ below (va_Qi (fun (r : Int32) (u : HI × HL) => Q r u.1 u.2) (gB D cy ad s.heap.size) (gA ad s.heap.size)) args s 0 0 (gA ad s.heap.size)) (F0 m 0 ls []) := by
    intro H locs ls hG hl
    unfold w_X11_told at HW
    refine lv_iload_n hx hb dX11_told_0 rfl (lv_at hl 1 rfl) ?_
    refine lv_i2l hx hb dX11_told_1 rfl ?_
    refine lv_lconst (v := 0) hx hb dX11_told_2 (by decide) ?_
    refine lv_ldc2 (v := 100) hx hb hown cn59 dX11_told_3 ?_
    obtain ⟨P_6, HC_6, HW⟩ := HW
    refine g_callz (g_runS (As := [.long ((x1).toInt64), .long (0 : Int64), .long (100 : Int64)]) (rest := []) ⟨hx, hb, hml, hown, hts⟩ (m_X11_in l D cy ad h g H.size ((x1).toInt64) (0 : Int64) (100 : Int64) P_6 HC_6) (va_cwS 3 hts (gd_S (wm5 111 rfl rfl) (wm5 112 rfl rfl) (wm1 13 rfl rfl) (wm5 113 rfl rfl)) rfl rfl rfl (by decide +kernel) ⟨Nat.le_of_ble_eq_true rfl, Nat.le_of_ble_eq_true rfl⟩) hK hNw hG rfl rfl hl.1 rfl (lv_room (Nat.le_of_ble_eq_true rfl)) dX11_told_6 ⟨Nat.zero_le _, Nat.zero_le _⟩) hG (fun r_6 h_6 g_6 H locs hz hq hG => ?_)
    replace HW := HW r_6 h_6 g_6 hz hq
    refine lv_if_ne (tgt := 15) hx hb dX11_told_9 (by decide) (fun c_9 => ?_) (fun c_9 => ?_)
    · replace HW := HW.1 c_9
      refine lv_aload_n hx hb dX11_told_15 rfl (lv_at hl 0 rfl) ?_
      refine g_getr hx hb hw inG11 hown hK hG gl_135 rfl gk_135 (by decide) 0 (by decide) (by rw [gm_135]; decide) (r := 136) gr_135_0 lk7 dX11_told_16 ?_
      refine lv_bipush (v := 6) hx hb dX11_told_19 (by decide) ?_
      refine g_iald hx hb hK hG gl_136 gk_136 gn_136 HW.1 dX11_told_21 ?_
      replace HW := HW.2
      refine lv_bipush (v := 40) hx hb dX11_told_22 (by decide) ?_
      refine lv_icmp_ne (tgt := 30) hx hb dX11_told_24 (by decide) (fun c_24 => ?_) (fun c_24 => ?_)
      · replace HW := HW.1 c_24
        refine lv_aload_n hx hb dX11_told_30 rfl (lv_at hl 0 rfl) ?_
        refine g_getr hx hb hw inG11 hown hK hG gl_135 rfl gk_135 (by decide) 0 (by decide) (by rw [gm_135]; decide) (r := 136) gr_135_0 lk7 dX11_told_31 ?_
        refine lv_sipush (v := 737) hx hb dX11_told_34 (by decide) ?_
        refine lv_iconst (v := 2) hx hb dX11_told_37 (by decide) ?_
        refine lv_aload_n hx hb dX11_told_38 rfl (lv_at hl 0 rfl) ?_
        refine g_getr hx hb hw inG11 hown hK hG gl_135 rfl gk_135 (by decide) 0 (by decide) (by rw [gm_135]; decide) (r := 136) gr_135_0 lk7 dX11_told_39 ?_
        refine lv_bipush (v := 6) hx hb dX11_told_42 (by decide) ?_
        refine g_iald hx hb hK hG gl_136 gk_136 gn_136 HW.1 dX11_told_44 ?_
        replace HW := HW.2
        refine lv_imul hx hb dX11_told_45 ?_
        refine lv_iadd hx hb dX11_told_46 ?_
        refine lv_iload_n hx hb dX11_told_47 rfl (lv_at hl 1 rfl) ?_
        refine g_iast hx hb hK hG gl_136 gk_136 gn_136 HW.1 dX11_told_48 (fun H locs hG => ?_)
        replace HW := HW.2
        obtain ⟨h_48, eh_48⟩ : ∃ y : HI, y = hu h_6 136 ((737 : Int32) + ((2 : Int32) * (h_6 136 (6 : Int32).toNatClampNeg))).toNatClampNeg x1 := ⟨_, rfl⟩
        rw [← eh_48] at hG
        replace HW := HW h_48 eh_48
        refine lv_aload_n hx hb dX11_told_49 rfl (lv_at hl 0 rfl) ?_
        refine g_getr hx hb hw inG11 hown hK hG gl_135 rfl gk_135 (by decide) 0 (by decide) (by rw [gm_135]; decide) (r := 136) gr_135_0 lk7 dX11_told_50 ?_
        refine lv_sipush (v := 737) hx hb dX11_told_53 (by decide) ?_
        refine lv_iconst (v := 2) hx hb dX11_told_56 (by decide) ?_
        refine lv_aload_n hx hb dX11_told_57 rfl (lv_at hl 0 rfl) ?_
        refine g_getr hx hb hw inG11 hown hK hG gl_135 rfl gk_135 (by decide) 0 (by decide) (by rw [gm_135]; decide) (r := 136) gr_135_0 lk7 dX11_told_58 ?_
        refine lv_bipush (v := 6) hx hb dX11_told_61 (by decide) ?_
        refine g_iald hx hb hK hG gl_136 gk_136 gn_136 HW.1 dX11_told_63 ?_
        replace HW := HW.2
        refine lv_imul hx hb dX11_told_64 ?_
        refine lv_iadd hx hb dX11_told_65 ?_
        refine lv_iconst (v := 1) hx hb dX11_told_66 (by decide) ?_
        refine lv_iadd hx hb dX11_told_67 ?_
        refine lv_iload_n hx hb dX11_told_68 rfl (lv_at hl 2 rfl) ?_
        refine lv_if_eq (tgt := 76) hx hb dX11_told_69 (by decide) (fun c_69 => ?_) (fun c_69 => ?_)
        · replace HW := HW.1 c_69
          refine lv_iconst (v := 0) hx hb dX11_told_76 (by decide) ?_
          exact B77 (((737 : Int32) + ((2 : Int32) * (h_48 136 (6 : Int32).toNatClampNeg))) + (1 : Int32)) (0 : Int32) h_48 g_6 _ _ _ HW hG (lv_sub hl [0] rfl)
        · replace HW := HW.2 c_69
          refine lv_iconst (v := 1) hx hb dX11_told_72 (by decide) ?_
          refine lv_goto (tgt := 77) hx hb dX11_told_73 (by decide) ?_
          exact B77 (((737 : Int32) + ((2 : Int32) * (h_48 136 (6 : Int32).toNatClampNeg))) + (1 : Int32)) (1 : Int32) h_48 g_6 _ _ _ HW hG (lv_sub hl [0] rfl)
      · replace HW := HW.2 c_24
        refine lv_bipush (v := (-4)) hx hb dX11_told_27 (by decide) ?_
        exact W.iret (v := (-4 : Int32)) hx hb hr (fun t ht hW => ⟨⟨(-4 : Int32), (h_6, g_6), rfl, HW, g_B ht hG⟩, hG.2.2.F ht⟩) hG.2.2.2.2 dX11_told_29
    · replace HW := HW.2 c_9
      refine lv_bipush (v := (-2)) hx hb dX11_told_12 (by decide) ?_
      exact W.iret (v := (-2 : Int32)) hx hb hr (fun t ht hW => ⟨⟨(-2 : Int32), (h_6, g_6), rfl, HW, g_B ht hG⟩, hG.2.2.F ht⟩) hG.2.2.2.2 dX11_told_14
  exact E0 _ _ _ hG hl

def j_X11_likes_83 (Q : Int32 → HI → HL → Prop) (K8 : Int32 → Int32 → Int32 → HI → HL → Prop) (x1 : Int32) (x2 : Int32) (x3 : Int32) (s1 : Int32) (s2 : Int32) (h : HI) (g : HL) : Prop :=
  (∃ P_83 : HI → HL → Prop, w_X11_times s1 s2 h g P_83 ∧ ∀ (h_83 : HI) (g_83 : HL), P_83 h_83 g_83 → (∀ x3_86 : Int32, x3_86 = (x3 + 1) → K8 x1 x2 x3_86 h_83 g_83))
def b_X11_likes_8 (Q : Int32 → HI → HL → Prop) (K8 : Int32 → Int32 → Int32 → HI → HL → Prop) (x1 : Int32) (x2 : Int32) (x3 : Int32) (h : HI) (g : HL) : Prop :=
  (vp_in (6 : Int32) 887 ∧ (((h 136 (6 : Int32).toNatClampNeg) ≤ x3 → Q (1 : Int32) h g) ∧ (¬ (h 136 (6 : Int32).toNatClampNeg) ≤ x3 → (vp_in ((737 : Int32) + ((2 : Int32) * x3)) 887 ∧ (∀ x4_35 : Int32, x4_35 = (x1 + (x2 * (h 136 ((737 : Int32) + ((2 : Int32) * x3)).toNatClampNeg))) → (∃ P_44 : Int32 → HI → HL → Prop, w_X11_in ((x4_35).toInt64) (1 : Int64) (999 : Int64) h g P_44 ∧ ∀ (r_44 : Int32) (h_44 : HI) (g_44 : HL), zb r_44 → P_44 r_44 h_44 g_44 → ((¬ r_44 = 0 → (vp_in (((737 : Int32) + ((2 : Int32) * x3)) + (1 : Int32)) 887 ∧ ((¬ (h_44 136 (((737 : Int32) + ((2 : Int32) * x3)) + (1 : Int32)).toNatClampNeg) = (1 : Int32) → j_X11_likes_83 Q K8 x1 x2 x3 (2 : Int32) ((1000 : Int32) - x4_35) h_44 g_44) ∧ ((h_44 136 (((737 : Int32) + ((2 : Int32) * x3)) + (1 : Int32)).toNatClampNeg) = (1 : Int32) → j_X11_likes_83 Q K8 x1 x2 x3 (2 : Int32) x4_35 h_44 g_44)))) ∧ (r_44 = 0 → Q (0 : Int32) h_44 g_44))))))))
def F_X11_likes_8 (Q : Int32 → HI → HL → Prop) (K : Int32 × Int32 × Int32 × HI × HL → Prop) (q : Int32 × Int32 × Int32 × HI × HL) : Prop := b_X11_likes_8 Q (fun x1 x2 x3 h g => K (x1, x2, x3, h, g)) q.1 q.2.1 q.2.2.1 q.2.2.2.1 q.2.2.2.2
def w_X11_likes (x1 : Int32) (x2 : Int32) (h : HI) (g : HL) (Q : Int32 → HI → HL → Prop) : Prop :=
  (∃ P_3 : HI → HL → Prop, w_X11_sets (2 : Int32) (1 : Int32) h g P_3 ∧ ∀ (h_3 : HI) (g_3 : HL), P_3 h_3 g_3 → lpE (F_X11_likes_8 Q) (x1, x2, (0 : Int32), h_3, g_3))
set_option maxHeartbeats 8000000 in
set_option maxRecDepth 100000 in
theorem m_X11_likes (l : Launch) (D : va_G) (cy : Nat → ClassId) (ad : Nat → Nat) (h : HI) (g : HL) (sz : Nat) (x1 : Int32) (x2 : Int32) (Q : Int32 → HI → HL → Prop) (HW : w_X11_likes x1 x2 h g Q) : Met l yX11_likes (wa yX11_likes cX11_likes 5 (some .boolean)) ({ frames := 1, cells := 0, slots := 0, locals := 27 }) (va_Pc [.ref (ad 135), .int x1, .int x2] (gI D cy ad h g sz)) (va_Qi (fun (r : Int32) (u : HI × HL) => zb r ∧ Q r u.1 u.2) (gB D cy ad sz) (gA ad sz)) 0 0 (gA ad sz) := by
  refine Met.ofW (cc := cX11_likes) (maxL := 5) (ret := (some .boolean)) (by decide) rfl ?_
  intro p e s m args below meth c s₁ B hml hv
  obtain ⟨hav, hsz, hP, hK, hD0, hNw⟩ := hv
  have hx := B.exec
  have hb := B.bytes
  have hr := B.returns
  have hts := atoms_spec (ws := (wa yX11_likes cX11_likes 5 (some .boolean))) B.pre
  have hw := wa_hw hts
  have hown : s.vm.findClass RX11 = some m.cls := findClass_of_methodNamed B.named
  have hlocks := B.notSynchronized
  subst hsz
  have hG : gG D cy ad (gA ad s.heap.size) s.heap h g s.heap [] := ⟨hP, gA_self hD0, va_S.rf⟩
  clear hP hD0
  have lk7 := hw (.fieldLink RX11 7 "OldWorksModel" "st" "[I") (wm5 27 rfl rfl)
  have cn284 := hw (.constantLong RX11 284 (999)) (wm6 174 rfl rfl)
  rw [show (headSpec (wa yX11_likes cX11_likes 5 (some .boolean)) ({ frames := 1, cells := 0, slots := 0, locals := 27 } : Room)).room = ({ frames := 1, cells := 0, slots := 0, locals := 27 } : Room) from rfl]
  have hl := lv_entry ([.ref (ad 135), .int x1, .int x2]) (n := 5) (Nat.le_of_ble_eq_true rfl)
  rw [show entryFrame m args 5 = entryFrame m ([.ref (ad 135), .int x1, .int x2] : List Value).toArray 5 from by rw [hav], lg_entry_eq]
  generalize (lg_sl ([.ref (ad 135), .int x1, .int x2]) ++ List.replicate (5 - (lg_sl ([.ref (ad 135), .int x1, .int x2])).length) Slot.unset).toArray = ls at hl ⊢
  have hl : lv_has ls 5 [(0, .ref (ad 135)), (1, .int x1), (2, .int x2)] := hl
  have B83 : ∀ (K8 : Int32 → Int32 → Int32 → HI → HL → Prop) (hK8 : ∀ (x1 : Int32) (x2 : Int32) (x3 : Int32) (h : HI) (g : HL) (H : Heap) (locs : List Loc) (ls : Array Slot), K8 x1 x2 x3 h g → gG D cy ad (gA ad s.heap.size) s.heap h g H locs → lv_has ls 5 [(0, .ref (ad 135)), (1, .int x1), (2, .int x2), (3, .int x3)] → W p l e ({ frames := 1, cells := 0, slots := 0, locals := 27 } : Room) s m args below meth c H locs 0 0 (MQ below (va_Qi (fun (r : Int32) (u : HI × HL) => zb r ∧ Q r u.1 u.2) (gB D cy ad s.heap.size) (gA ad s.heap.size)) args s 0 0 (gA ad s.heap.size)) (F0 m 8 ls [])) (x1 : Int32) (x2 : Int32) (x3 : Int32) (s1 : Int32) (s2 : Int32) (h : HI) (g : HL) (H : Heap) (locs : List Loc) (ls : Array Slot), j_X11_likes_83 Q K8 x1 x2 x3 s1 s2 h g → gG D cy ad (gA ad s.heap.size) s.heap h g H locs → lv_has ls 5 [(0, .ref (ad 135)), (1, .int x1), (2, .int x2), (3, .int x3)] → W p l e ({ frames := 1, cells := 0, slots := 0, locals := 27 } : Room) s m args below meth c H locs 0 0 (MQ below (va_Qi (fun (r : Int32) (u : HI × HL) => zb r ∧ Q r u.1 u.2) (gB D cy ad s.heap.size) (gA ad s.heap.size)) args s 0 0 (gA ad s.heap.size)) (F0 m 83 ls [.int s2, .int s1, .ref (ad 135)]) := by
    intro K8 hK8 x1 x2 x3 s1 s2 h g H locs ls HW hG hl
    unfold j_X11_likes_83 at HW
    obtain ⟨P_83, HC_83, HW⟩ := HW
    refine g_callv (g_runV (As := [.int s1, .int s2]) (rest := []) ⟨hx, hb, hml, hown, hts⟩ (m_X11_times l D cy ad h g H.size s1 s2 P_83 HC_83) (cwV 2 hts (gd_V (wm6 141 rfl rfl) (wm6 143 rfl rfl) (wmp5 (q := (yX11_times, 26)) 8 rfl) (wm1 13 rfl rfl) (wm6 144 rfl rfl)) rfl rfl rfl (by decide +kernel) ⟨Nat.le_of_ble_eq_true rfl, Nat.le_of_ble_eq_true rfl⟩) hK hNw hG gl_135 rfl gk_135 (by decide) rfl rfl hl.1 rfl (lv_room (Nat.le_of_ble_eq_true rfl)) dX11_likes_83 ⟨Nat.zero_le _, Nat.zero_le _⟩) hG (fun h_83 g_83 H locs hq hG => ?_)
    replace HW := HW h_83 g_83 hq
    obtain ⟨x3_86, ex3_86⟩ : ∃ y : Int32, y = (x3 + 1) := ⟨_, rfl⟩
    replace HW := HW x3_86 ex3_86
    refine lv_iinc (v := x3_86) (lv' := [(3, .int x3_86), (0, .ref (ad 135)), (1, .int x1), (2, .int x2)]) hx hb dX11_likes_86 hl (k := 3) rfl (by rw [ex3_86]; rfl) (by decide) rfl (fun ls hl => ?_)
    refine lv_goto (tgt := 8) hx hb dX11_likes_89 (by decide) ?_
    exact hK8 x1 x2 x3_86 h_83 g_83 _ _ _ HW hG (lv_sub hl [1, 2, 3, 0] rfl)
  have L8 : ∀ (n : Nat) (x1 : Int32) (x2 : Int32) (x3 : Int32) (h : HI) (g : HL) (H : Heap) (locs : List Loc) (ls : Array Slot), lpN (F_X11_likes_8 Q) n (x1, x2, x3, h, g) → gG D cy ad (gA ad s.heap.size) s.heap h g H locs → lv_has ls 5 [(0, .ref (ad 135)), (1, .int x1), (2, .int x2), (3, .int x3)] → W p l e ({ frames := 1, cells := 0, slots := 0, locals := 27 } : Room) s m args below meth c H locs 0 0 (MQ below (va_Qi (fun (r : Int32) (u : HI × HL) => zb r ∧ Q r u.1 u.2) (gB D cy ad s.heap.size) (gA ad s.heap.size)) args s 0 0 (gA ad s.heap.size)) (F0 m 8 ls []) := by
    intro n
    induction n with
    | zero => intro x1 x2 x3 h g H locs ls HW; exact HW.elim
    | succ n ih =>
      intro x1 x2 x3 h g H locs ls HW hG hl
      have HW : b_X11_likes_8 Q (fun x1 x2 x3 h g => lpN (F_X11_likes_8 Q) n (x1, x2, x3, h, g)) x1 x2 x3 h g := HW
      generalize hKe : (fun (x1 : Int32) (x2 : Int32) (x3 : Int32) (h : HI) (g : HL) => lpN (F_X11_likes_8 Q) n (x1, x2, x3, h, g)) = K8 at HW
      have hK8 : ∀ (x1 : Int32) (x2 : Int32) (x3 : Int32) (h : HI) (g : HL) (H : Heap) (locs : List Loc) (ls : Array Slot), K8 x1 x2 x3 h g → gG D cy ad (gA ad s.heap.size) s.heap h g H locs → lv_has ls 5 [(0, .ref (ad 135)), (1, .int x1), (2, .int x2), (3, .int x3)] → W p l e ({ frames := 1, cells := 0, slots := 0, locals := 27 } : Room) s m args below meth c H locs 0 0 (MQ below (va_Qi (fun (r : Int32) (u : HI × HL) => zb r ∧ Q r u.1 u.2) (gB D cy ad s.heap.size) (gA ad s.heap.size)) args s 0 0 (gA ad s.heap.size)) (F0 m 8 ls []) := by subst hKe; exact ih
      clear ih
      clear hKe
      unfold b_X11_likes_8 at HW
      refine lv_iload_n hx hb dX11_likes_8 rfl (lv_at hl 3 rfl) ?_
      refine lv_aload_n hx hb dX11_likes_9 rfl (lv_at hl 0 rfl) ?_
      refine g_getr hx hb hw inG11 hown hK hG gl_135 rfl gk_135 (by decide) 0 (by decide) (by rw [gm_135]; decide) (r := 136) gr_135_0 lk7 dX11_likes_10 ?_
      refine lv_bipush (v := 6) hx hb dX11_likes_13 (by decide) ?_
      refine g_iald hx hb hK hG gl_136 gk_136 gn_136 HW.1 dX11_likes_15 ?_
      replace HW := HW.2
      refine lv_icmp_ge (tgt := 92) hx hb dX11_likes_16 (by decide) (fun c_16 => ?_) (fun c_16 => ?_)
      · replace HW := HW.1 c_16
        refine lv_iconst (v := 1) hx hb dX11_likes_92 (by decide) ?_
        exact W.zret (v := (1 : Int32)) hx hb hr rfl (fun t ht hW => ⟨⟨(1 : Int32), (h, g), rfl, ⟨Or.inr rfl, HW⟩, g_B ht hG⟩, hG.2.2.F ht⟩) hG.2.2.2.2 dX11_likes_93
      · replace HW := HW.2 c_16
        refine lv_iload_n hx hb dX11_likes_19 rfl (lv_at hl 1 rfl) ?_
        refine lv_iload_n hx hb dX11_likes_20 rfl (lv_at hl 2 rfl) ?_
        refine lv_aload_n hx hb dX11_likes_21 rfl (lv_at hl 0 rfl) ?_
        refine g_getr hx hb hw inG11 hown hK hG gl_135 rfl gk_135 (by decide) 0 (by decide) (by rw [gm_135]; decide) (r := 136) gr_135_0 lk7 dX11_likes_22 ?_
        refine lv_sipush (v := 737) hx hb dX11_likes_25 (by decide) ?_
        refine lv_iconst (v := 2) hx hb dX11_likes_28 (by decide) ?_
        refine lv_iload_n hx hb dX11_likes_29 rfl (lv_at hl 3 rfl) ?_
        refine lv_imul hx hb dX11_likes_30 ?_
        refine lv_iadd hx hb dX11_likes_31 ?_
        refine g_iald hx hb hK hG gl_136 gk_136 gn_136 HW.1 dX11_likes_32 ?_
        replace HW := HW.2
        refine lv_imul hx hb dX11_likes_33 ?_
        refine lv_iadd hx hb dX11_likes_34 ?_
        refine lv_topi (fun x4_35 ex4_35 => ?_)
        replace HW := HW x4_35 ex4_35
        refine lv_istore (lv' := [(4, .int x4_35), (0, .ref (ad 135)), (1, .int x1), (2, .int x2), (3, .int x3)]) hx hb dX11_likes_35 hl (by decide) rfl (fun ls hl => ?_)
        refine lv_iload hx hb dX11_likes_37 (lv_at hl 0 rfl) ?_
        refine lv_i2l hx hb dX11_likes_39 rfl ?_
        refine lv_lconst (v := 1) hx hb dX11_likes_40 (by decide) ?_
        refine lv_ldc2 (v := 999) hx hb hown cn284 dX11_likes_41 ?_
        obtain ⟨P_44, HC_44, HW⟩ := HW
        refine g_callz (g_runS (As := [.long ((x4_35).toInt64), .long (1 : Int64), .long (999 : Int64)]) (rest := []) ⟨hx, hb, hml, hown, hts⟩ (m_X11_in l D cy ad h g H.size ((x4_35).toInt64) (1 : Int64) (999 : Int64) P_44 HC_44) (va_cwS 3 hts (gd_S (wm5 111 rfl rfl) (wm5 112 rfl rfl) (wm1 13 rfl rfl) (wm5 113 rfl rfl)) rfl rfl rfl (by decide +kernel) ⟨Nat.le_of_ble_eq_true rfl, Nat.le_of_ble_eq_true rfl⟩) hK hNw hG rfl rfl hl.1 rfl (lv_room (Nat.le_of_ble_eq_true rfl)) dX11_likes_44 ⟨Nat.zero_le _, Nat.zero_le _⟩) hG (fun r_44 h_44 g_44 H locs hz hq hG => ?_)
        replace HW := HW r_44 h_44 g_44 hz hq
        refine lv_if_ne (tgt := 52) hx hb dX11_likes_47 (by decide) (fun c_47 => ?_) (fun c_47 => ?_)
        · replace HW := HW.1 c_47
          refine lv_aload_n hx hb dX11_likes_52 rfl (lv_at hl 1 rfl) ?_
          refine lv_iconst (v := 2) hx hb dX11_likes_53 (by decide) ?_
          refine lv_aload_n hx hb dX11_likes_54 rfl (lv_at hl 1 rfl) ?_
          refine g_getr hx hb hw inG11 hown hK hG gl_135 rfl gk_135 (by decide) 0 (by decide) (by rw [gm_135]; decide) (r := 136) gr_135_0 lk7 dX11_likes_55 ?_
          refine lv_sipush (v := 737) hx hb dX11_likes_58 (by decide) ?_
          refine lv_iconst (v := 2) hx hb dX11_likes_61 (by decide) ?_
          refine lv_iload_n hx hb dX11_likes_62 rfl (lv_at hl 4 rfl) ?_
          refine lv_imul hx hb dX11_likes_63 ?_
          refine lv_iadd hx hb dX11_likes_64 ?_
          refine lv_iconst (v := 1) hx hb dX11_likes_65 (by decide) ?_
          refine lv_iadd hx hb dX11_likes_66 ?_
          refine g_iald hx hb hK hG gl_136 gk_136 gn_136 HW.1 dX11_likes_67 ?_
          replace HW := HW.2
          refine lv_iconst (v := 1) hx hb dX11_likes_68 (by decide) ?_
          refine lv_icmp_ne (tgt := 77) hx hb dX11_likes_69 (by decide) (fun c_69 => ?_) (fun c_69 => ?_)
          · replace HW := HW.1 c_69
            refine lv_sipush (v := 1000) hx hb dX11_likes_77 (by decide) ?_
            refine lv_iload hx hb dX11_likes_80 (lv_at hl 0 rfl) ?_
            refine lv_isub hx hb dX11_likes_82 ?_
            exact B83 K8 hK8 x1 x2 x3 (2 : Int32) ((1000 : Int32) - x4_35) h_44 g_44 _ _ _ HW hG (lv_sub hl [1, 2, 3, 4] rfl)
          · replace HW := HW.2 c_69
            refine lv_iload hx hb dX11_likes_72 (lv_at hl 0 rfl) ?_
            refine lv_goto (tgt := 83) hx hb dX11_likes_74 (by decide) ?_
            exact B83 K8 hK8 x1 x2 x3 (2 : Int32) x4_35 h_44 g_44 _ _ _ HW hG (lv_sub hl [1, 2, 3, 4] rfl)
        · replace HW := HW.2 c_47
          refine lv_iconst (v := 0) hx hb dX11_likes_50 (by decide) ?_
          exact W.zret (v := (0 : Int32)) hx hb hr rfl (fun t ht hW => ⟨⟨(0 : Int32), (h_44, g_44), rfl, ⟨Or.inl rfl, HW⟩, g_B ht hG⟩, hG.2.2.F ht⟩) hG.2.2.2.2 dX11_likes_51
  have E0 : ∀ (H : Heap) (locs : List Loc) (ls : Array Slot), gG D cy ad (gA ad s.heap.size) s.heap h g H locs → lv_has ls 5 [(0, .ref (ad 135)), (1, .int x1), (2, .int x2)] → W p l e ({ frames := 1, cells := 0, slots := 0, locals := 27 } : Room) s m args below meth c H locs 0 0 (MQ below (va_Qi (fun (r : Int32) (u : HI × HL) => zb r ∧ Q r u.1 u.2) (gB D cy ad s.heap.size) (gA ad s.heap.size)) args s 0 0 (gA ad s.heap.size)) (F0 m 0 ls []) := by
    intro H locs ls hG hl
    unfold w_X11_likes at HW
    refine lv_aload_n hx hb dX11_likes_0 rfl (lv_at hl 0 rfl) ?_
    refine lv_iconst (v := 2) hx hb dX11_likes_1 (by decide) ?_
    refine lv_iconst (v := 1) hx hb dX11_likes_2 (by decide) ?_
    obtain ⟨P_3, HC_3, HW⟩ := HW
    refine g_callv (g_runV (As := [.int (2 : Int32), .int (1 : Int32)]) (rest := []) ⟨hx, hb, hml, hown, hts⟩ (m_X11_sets l D cy ad h g H.size (2 : Int32) (1 : Int32) P_3 HC_3) (cwV 2 hts (gd_V (wm6 137 rfl rfl) (wm6 139 rfl rfl) (wmp5 (q := (yX11_sets, 26)) 7 rfl) (wm1 13 rfl rfl) (wm6 140 rfl rfl)) rfl rfl rfl (by decide +kernel) ⟨Nat.le_of_ble_eq_true rfl, Nat.le_of_ble_eq_true rfl⟩) hK hNw hG gl_135 rfl gk_135 (by decide) rfl rfl hl.1 rfl (lv_room (Nat.le_of_ble_eq_true rfl)) dX11_likes_3 ⟨Nat.zero_le _, Nat.zero_le _⟩) hG (fun h_3 g_3 H locs hq hG => ?_)
    replace HW := HW h_3 g_3 hq
    refine lv_iconst (v := 0) hx hb dX11_likes_6 (by decide) ?_
    refine lv_istore_n (lv' := [(3, .int (0 : Int32)), (0, .ref (ad 135)), (1, .int x1), (2, .int x2)]) hx hb dX11_likes_7 rfl hl (by decide) rfl (fun ls hl => ?_)
    obtain ⟨n_8, HW⟩ := HW
    exact L8 n_8 x1 x2 (0 : Int32) h_3 g_3 _ _ _ HW hG (lv_sub hl [1, 2, 3, 0] rfl)
  exact E0 _ _ _ hG hl

def j_X11_fitted_91 (Q : Int32 → HI → HL → Prop) (K4 : Int32 → Int32 → HI → HL → Prop) (x1 : Int32) (x2 : Int32) (h : HI) (g : HL) : Prop :=
  (∀ x2_91 : Int32, x2_91 = (x2 + 1) → K4 x1 x2_91 h g)
def b_X11_fitted_55 (Q : Int32 → HI → HL → Prop) (K4 : Int32 → Int32 → HI → HL → Prop) (K55 : Int32 → Int32 → Int32 → HI → HL → Prop) (x1 : Int32) (x2 : Int32) (x3 : Int32) (h : HI) (g : HL) : Prop :=
  (vp_in (2 : Int32) 5 ∧ (((h 147 (2 : Int32).toNatClampNeg) ≤ x3 → j_X11_fitted_91 Q K4 x1 x2 h g) ∧ (¬ (h 147 (2 : Int32).toNatClampNeg) ≤ x3 → (vp_in ((160 : Int32) + x3) 400 ∧ (vp_in ((320 : Int32) + x3) 400 ∧ ∀ h_84 : HI, h_84 = hu h 146 ((320 : Int32) + x3).toNatClampNeg (h 146 ((160 : Int32) + x3).toNatClampNeg) → (∀ x3_85 : Int32, x3_85 = (x3 + 1) → K55 x1 x2 x3_85 h_84 g))))))
def F_X11_fitted_55 (Q : Int32 → HI → HL → Prop) (K4 : Int32 → Int32 → HI → HL → Prop) (K : Int32 × Int32 × Int32 × HI × HL → Prop) (q : Int32 × Int32 × Int32 × HI × HL) : Prop := b_X11_fitted_55 Q K4 (fun x1 x2 x3 h g => K (x1, x2, x3, h, g)) q.1 q.2.1 q.2.2.1 q.2.2.2.1 q.2.2.2.2
def j_X11_fitted_39 (Q : Int32 → HI → HL → Prop) (K4 : Int32 → Int32 → HI → HL → Prop) (x2 : Int32) (h : HI) (g : HL) : Prop :=
  (vp_in (2 : Int32) 5 ∧ (vp_in (4 : Int32) 5 ∧ ∀ h_52 : HI, h_52 = hu h 147 (4 : Int32).toNatClampNeg (h 147 (2 : Int32).toNatClampNeg) → lpE (F_X11_fitted_55 Q K4) (x2, x2, (0 : Int32), h_52, g)))
def b_X11_fitted_4 (Q : Int32 → HI → HL → Prop) (K4 : Int32 → Int32 → HI → HL → Prop) (x1 : Int32) (x2 : Int32) (h : HI) (g : HL) : Prop :=
  (((100 : Int32) ≤ x2 → Q x1 h g) ∧ (¬ (100 : Int32) ≤ x2 → (∃ P_19 : Int32 → HI → HL → Prop, w_X11_likes (x2 / (10 : Int32)) (x2 - x2 / (10 : Int32) * (10 : Int32)) h g P_19 ∧ ∀ (r_19 : Int32) (h_19 : HI) (g_19 : HL), zb r_19 → P_19 r_19 h_19 g_19 → ((r_19 = 0 → j_X11_fitted_91 Q K4 x1 x2 h_19 g_19) ∧ (¬ r_19 = 0 → ((x1 = (-1 : Int32) → j_X11_fitted_39 Q K4 x2 h_19 g_19) ∧ (¬ x1 = (-1 : Int32) → (∃ P_33 : Int32 → HI → HL → Prop, w_X11_against (2 : Int32) (4 : Int32) h_19 g_19 P_33 ∧ ∀ (r_33 : Int32) (h_33 : HI) (g_33 : HL), P_33 r_33 h_33 g_33 → ((r_33 ≤ 0 → j_X11_fitted_91 Q K4 x1 x2 h_33 g_33) ∧ (¬ r_33 ≤ 0 → j_X11_fitted_39 Q K4 x2 h_33 g_33))))))))))
def F_X11_fitted_4 (Q : Int32 → HI → HL → Prop) (K : Int32 × Int32 × HI × HL → Prop) (q : Int32 × Int32 × HI × HL) : Prop := b_X11_fitted_4 Q (fun x1 x2 h g => K (x1, x2, h, g)) q.1 q.2.1 q.2.2.1 q.2.2.2
def w_X11_fitted  (h : HI) (g : HL) (Q : Int32 → HI → HL → Prop) : Prop :=
  lpE (F_X11_fitted_4 Q) ((-1 : Int32), (0 : Int32), h, g)
set_option maxHeartbeats 8000000 in
set_option maxRecDepth 100000 in
theorem m_X11_fitted (l : Launch) (D : va_G) (cy : Nat → ClassId) (ad : Nat → Nat) (h : HI) (g : HL) (sz : Nat)  (Q : Int32 → HI → HL → Prop) (HW : w_X11_fitted h g Q) : Met l yX11_fitted (wa yX11_fitted cX11_fitted 4 (some .int)) ({ frames := 2, cells := 0, slots := 0, locals := 51 }) (va_Pc [.ref (ad 135)] (gI D cy ad h g sz)) (va_Qi (fun (r : Int32) (u : HI × HL) => Q r u.1 u.2) (gB D cy ad sz) (gA ad sz)) 0 0 (gA ad sz) := by
  refine Met.ofW (cc := cX11_fitted) (maxL := 4) (ret := (some .int)) (by decide) rfl ?_
  intro p e s m args below meth c s₁ B hml hv
  obtain ⟨hav, hsz, hP, hK, hD0, hNw⟩ := hv
  have hx := B.exec
  have hb := B.bytes
  have hr := B.returns
  have hts := atoms_spec (ws := (wa yX11_fitted cX11_fitted 4 (some .int))) B.pre
  have hw := wa_hw hts
  have hown : s.vm.findClass RX11 = some m.cls := findClass_of_methodNamed B.named
  have hlocks := B.notSynchronized
  subst hsz
  have hG : gG D cy ad (gA ad s.heap.size) s.heap h g s.heap [] := ⟨hP, gA_self hD0, va_S.rf⟩
  clear hP hD0
  have lk45 := hw (.fieldLink RX11 45 "OldWorksModel" "wide" "[I") (wm5 51 rfl rfl)
  have lk42 := hw (.fieldLink RX11 42 "OldWorksModel" "limbs" "[I") (wm5 50 rfl rfl)
  rw [show (headSpec (wa yX11_fitted cX11_fitted 4 (some .int)) ({ frames := 2, cells := 0, slots := 0, locals := 51 } : Room)).room = ({ frames := 2, cells := 0, slots := 0, locals := 51 } : Room) from rfl]
  have hl := lv_entry ([.ref (ad 135)]) (n := 4) (Nat.le_of_ble_eq_true rfl)
  rw [show entryFrame m args 4 = entryFrame m ([.ref (ad 135)] : List Value).toArray 4 from by rw [hav], lg_entry_eq]
  generalize (lg_sl ([.ref (ad 135)]) ++ List.replicate (4 - (lg_sl ([.ref (ad 135)])).length) Slot.unset).toArray = ls at hl ⊢
  have hl : lv_has ls 4 [(0, .ref (ad 135))] := hl
  have B91 : ∀ (K4 : Int32 → Int32 → HI → HL → Prop) (hK4 : ∀ (x1 : Int32) (x2 : Int32) (h : HI) (g : HL) (H : Heap) (locs : List Loc) (ls : Array Slot), K4 x1 x2 h g → gG D cy ad (gA ad s.heap.size) s.heap h g H locs → lv_has ls 4 [(0, .ref (ad 135)), (1, .int x1), (2, .int x2)] → W p l e ({ frames := 2, cells := 0, slots := 0, locals := 51 } : Room) s m args below meth c H locs 0 0 (MQ below (va_Qi (fun (r : Int32) (u : HI × HL) => Q r u.1 u.2) (gB D cy ad s.heap.size) (gA ad s.heap.size)) args s 0 0 (gA ad s.heap.size)) (F0 m 4 ls [])) (x1 : Int32) (x2 : Int32) (h : HI) (g : HL) (H : Heap) (locs : List Loc) (ls : Array Slot), j_X11_fitted_91 Q K4 x1 x2 h g → gG D cy ad (gA ad s.heap.size) s.heap h g H locs → lv_has ls 4 [(0, .ref (ad 135)), (1, .int x1), (2, .int x2)] → W p l e ({ frames := 2, cells := 0, slots := 0, locals := 51 } : Room) s m args below meth c H locs 0 0 (MQ below (va_Qi (fun (r : Int32) (u : HI × HL) => Q r u.1 u.2) (gB D cy ad s.heap.size) (gA ad s.heap.size)) args s 0 0 (gA ad s.heap.size)) (F0 m 91 ls []) := by
    intro K4 hK4 x1 x2 h g H locs ls HW hG hl
    unfold j_X11_fitted_91 at HW
    obtain ⟨x2_91, ex2_91⟩ : ∃ y : Int32, y = (x2 + 1) := ⟨_, rfl⟩
    replace HW := HW x2_91 ex2_91
    refine lv_iinc (v := x2_91) (lv' := [(2, .int x2_91), (0, .ref (ad 135)), (1, .int x1)]) hx hb dX11_fitted_91 hl (k := 2) rfl (by rw [ex2_91]; rfl) (by decide) rfl (fun ls hl => ?_)
    refine lv_goto (tgt := 4) hx hb dX11_fitted_94 (by decide) ?_
    exact hK4 x1 x2_91 h g _ _ _ HW hG (lv_sub hl [1, 2, 0] rfl)
  have L55 : ∀ (K4 : Int32 → Int32 → HI → HL → Prop) (hK4 : ∀ (x1 : Int32) (x2 : Int32) (h : HI) (g : HL) (H : Heap) (locs : List Loc) (ls : Array Slot), K4 x1 x2 h g → gG D cy ad (gA ad s.heap.size) s.heap h g H locs → lv_has ls 4 [(0, .ref (ad 135)), (1, .int x1), (2, .int x2)] → W p l e ({ frames := 2, cells := 0, slots := 0, locals := 51 } : Room) s m args below meth c H locs 0 0 (MQ below (va_Qi (fun (r : Int32) (u : HI × HL) => Q r u.1 u.2) (gB D cy ad s.heap.size) (gA ad s.heap.size)) args s 0 0 (gA ad s.heap.size)) (F0 m 4 ls [])) (n : Nat) (x1 : Int32) (x2 : Int32) (x3 : Int32) (h : HI) (g : HL) (H : Heap) (locs : List Loc) (ls : Array Slot), lpN (F_X11_fitted_55 Q K4) n (x1, x2, x3, h, g) → gG D cy ad (gA ad s.heap.size) s.heap h g H locs → lv_has ls 4 [(0, .ref (ad 135)), (1, .int x1), (2, .int x2), (3, .int x3)] → W p l e ({ frames := 2, cells := 0, slots := 0, locals := 51 } : Room) s m args below meth c H locs 0 0 (MQ below (va_Qi (fun (r : Int32) (u : HI × HL) => Q r u.1 u.2) (gB D cy ad s.heap.size) (gA ad s.heap.size)) args s 0 0 (gA ad s.heap.size)) (F0 m 55 ls []) := by
    intro K4 hK4 n
    induction n with
    | zero => intro x1 x2 x3 h g H locs ls HW; exact HW.elim
    | succ n ih =>
      intro x1 x2 x3 h g H locs ls HW hG hl
      have HW : b_X11_fitted_55 Q K4 (fun x1 x2 x3 h g => lpN (F_X11_fitted_55 Q K4) n (x1, x2, x3, h, g)) x1 x2 x3 h g := HW
      generalize hKe : (fun (x1 : Int32) (x2 : Int32) (x3 : Int32) (h : HI) (g : HL) => lpN (F_X11_fitted_55 Q K4) n (x1, x2, x3, h, g)) = K55 at HW
      have hK55 : ∀ (x1 : Int32) (x2 : Int32) (x3 : Int32) (h : HI) (g : HL) (H : Heap) (locs : List Loc) (ls : Array Slot), K55 x1 x2 x3 h g → gG D cy ad (gA ad s.heap.size) s.heap h g H locs → lv_has ls 4 [(0, .ref (ad 135)), (1, .int x1), (2, .int x2), (3, .int x3)] → W p l e ({ frames := 2, cells := 0, slots := 0, locals := 51 } : Room) s m args below meth c H locs 0 0 (MQ below (va_Qi (fun (r : Int32) (u : HI × HL) => Q r u.1 u.2) (gB D cy ad s.heap.size) (gA ad s.heap.size)) args s 0 0 (gA ad s.heap.size)) (F0 m 55 ls []) := by subst hKe; exact ih
      clear ih
      clear hKe
      unfold b_X11_fitted_55 at HW
      refine lv_iload_n hx hb dX11_fitted_55 rfl (lv_at hl 3 rfl) ?_
      refine lv_aload_n hx hb dX11_fitted_56 rfl (lv_at hl 0 rfl) ?_
      refine g_getr hx hb hw inG11 hown hK hG gl_135 rfl gk_135 (by decide) 24 (by decide) (by rw [gm_135]; decide) (r := 147) gr_135_24 lk45 dX11_fitted_57 ?_
      refine lv_iconst (v := 2) hx hb dX11_fitted_60 (by decide) ?_
      refine g_iald hx hb hK hG gl_147 gk_147 gn_147 HW.1 dX11_fitted_61 ?_
      replace HW := HW.2
      refine lv_icmp_ge (tgt := 91) hx hb dX11_fitted_62 (by decide) (fun c_62 => ?_) (fun c_62 => ?_)
      · replace HW := HW.1 c_62
        exact B91 K4 hK4 x1 x2 h g _ _ _ HW hG (lv_sub hl [0, 1, 2] rfl)
      · replace HW := HW.2 c_62
        refine lv_aload_n hx hb dX11_fitted_65 rfl (lv_at hl 0 rfl) ?_
        refine g_getr hx hb hw inG11 hown hK hG gl_135 rfl gk_135 (by decide) 23 (by decide) (by rw [gm_135]; decide) (r := 146) gr_135_23 lk42 dX11_fitted_66 ?_
        refine lv_sipush (v := 320) hx hb dX11_fitted_69 (by decide) ?_
        refine lv_iload_n hx hb dX11_fitted_72 rfl (lv_at hl 3 rfl) ?_
        refine lv_iadd hx hb dX11_fitted_73 ?_
        refine lv_aload_n hx hb dX11_fitted_74 rfl (lv_at hl 0 rfl) ?_
        refine g_getr hx hb hw inG11 hown hK hG gl_135 rfl gk_135 (by decide) 23 (by decide) (by rw [gm_135]; decide) (r := 146) gr_135_23 lk42 dX11_fitted_75 ?_
        refine lv_sipush (v := 160) hx hb dX11_fitted_78 (by decide) ?_
        refine lv_iload_n hx hb dX11_fitted_81 rfl (lv_at hl 3 rfl) ?_
        refine lv_iadd hx hb dX11_fitted_82 ?_
        refine g_iald hx hb hK hG gl_146 gk_146 gn_146 HW.1 dX11_fitted_83 ?_
        replace HW := HW.2
        refine g_iast hx hb hK hG gl_146 gk_146 gn_146 HW.1 dX11_fitted_84 (fun H locs hG => ?_)
        replace HW := HW.2
        obtain ⟨h_84, eh_84⟩ : ∃ y : HI, y = hu h 146 ((320 : Int32) + x3).toNatClampNeg (h 146 ((160 : Int32) + x3).toNatClampNeg) := ⟨_, rfl⟩
        rw [← eh_84] at hG
        replace HW := HW h_84 eh_84
        obtain ⟨x3_85, ex3_85⟩ : ∃ y : Int32, y = (x3 + 1) := ⟨_, rfl⟩
        replace HW := HW x3_85 ex3_85
        refine lv_iinc (v := x3_85) (lv' := [(3, .int x3_85), (0, .ref (ad 135)), (1, .int x1), (2, .int x2)]) hx hb dX11_fitted_85 hl (k := 3) rfl (by rw [ex3_85]; rfl) (by decide) rfl (fun ls hl => ?_)
        refine lv_goto (tgt := 55) hx hb dX11_fitted_88 (by decide) ?_
        exact hK55 x1 x2 x3_85 h_84 g _ _ _ HW hG (lv_sub hl [1, 2, 3, 0] rfl)
  have B39 : ∀ (K4 : Int32 → Int32 → HI → HL → Prop) (hK4 : ∀ (x1 : Int32) (x2 : Int32) (h : HI) (g : HL) (H : Heap) (locs : List Loc) (ls : Array Slot), K4 x1 x2 h g → gG D cy ad (gA ad s.heap.size) s.heap h g H locs → lv_has ls 4 [(0, .ref (ad 135)), (1, .int x1), (2, .int x2)] → W p l e ({ frames := 2, cells := 0, slots := 0, locals := 51 } : Room) s m args below meth c H locs 0 0 (MQ below (va_Qi (fun (r : Int32) (u : HI × HL) => Q r u.1 u.2) (gB D cy ad s.heap.size) (gA ad s.heap.size)) args s 0 0 (gA ad s.heap.size)) (F0 m 4 ls [])) (x2 : Int32) (h : HI) (g : HL) (H : Heap) (locs : List Loc) (ls : Array Slot), j_X11_fitted_39 Q K4 x2 h g → gG D cy ad (gA ad s.heap.size) s.heap h g H locs → lv_has ls 4 [(0, .ref (ad 135)), (2, .int x2)] → W p l e ({ frames := 2, cells := 0, slots := 0, locals := 51 } : Room) s m args below meth c H locs 0 0 (MQ below (va_Qi (fun (r : Int32) (u : HI × HL) => Q r u.1 u.2) (gB D cy ad s.heap.size) (gA ad s.heap.size)) args s 0 0 (gA ad s.heap.size)) (F0 m 39 ls []) := by
    intro K4 hK4 x2 h g H locs ls HW hG hl
    unfold j_X11_fitted_39 at HW
    refine lv_iload_n hx hb dX11_fitted_39 rfl (lv_at hl 1 rfl) ?_
    refine lv_istore_n (lv' := [(1, .int x2), (0, .ref (ad 135)), (2, .int x2)]) hx hb dX11_fitted_40 rfl hl (by decide) rfl (fun ls hl => ?_)
    refine lv_aload_n hx hb dX11_fitted_41 rfl (lv_at hl 1 rfl) ?_
    refine g_getr hx hb hw inG11 hown hK hG gl_135 rfl gk_135 (by decide) 24 (by decide) (by rw [gm_135]; decide) (r := 147) gr_135_24 lk45 dX11_fitted_42 ?_
    refine lv_iconst (v := 4) hx hb dX11_fitted_45 (by decide) ?_
    refine lv_aload_n hx hb dX11_fitted_46 rfl (lv_at hl 1 rfl) ?_
    refine g_getr hx hb hw inG11 hown hK hG gl_135 rfl gk_135 (by decide) 24 (by decide) (by rw [gm_135]; decide) (r := 147) gr_135_24 lk45 dX11_fitted_47 ?_
    refine lv_iconst (v := 2) hx hb dX11_fitted_50 (by decide) ?_
    refine g_iald hx hb hK hG gl_147 gk_147 gn_147 HW.1 dX11_fitted_51 ?_
    replace HW := HW.2
    refine g_iast hx hb hK hG gl_147 gk_147 gn_147 HW.1 dX11_fitted_52 (fun H locs hG => ?_)
    replace HW := HW.2
    obtain ⟨h_52, eh_52⟩ : ∃ y : HI, y = hu h 147 (4 : Int32).toNatClampNeg (h 147 (2 : Int32).toNatClampNeg) := ⟨_, rfl⟩
    rw [← eh_52] at hG
    replace HW := HW h_52 eh_52
    refine lv_iconst (v := 0) hx hb dX11_fitted_53 (by decide) ?_
    refine lv_istore_n (lv' := [(3, .int (0 : Int32)), (1, .int x2), (0, .ref (ad 135)), (2, .int x2)]) hx hb dX11_fitted_54 rfl hl (by decide) rfl (fun ls hl => ?_)
    obtain ⟨n_55, HW⟩ := HW
    exact L55 K4 hK4 n_55 x2 x2 (0 : Int32) h_52 g _ _ _ HW hG (lv_sub hl [2, 1, 3, 0] rfl)
  have L4 : ∀ (n : Nat) (x1 : Int32) (x2 : Int32) (h : HI) (g : HL) (H : Heap) (locs : List Loc) (ls : Array Slot), lpN (F_X11_fitted_4 Q) n (x1, x2, h, g) → gG D cy ad (gA ad s.heap.size) s.heap h g H locs → lv_has ls 4 [(0, .ref (ad 135)), (1, .int x1), (2, .int x2)] → W p l e ({ frames := 2, cells := 0, slots := 0, locals := 51 } : Room) s m args below meth c H locs 0 0 (MQ below (va_Qi (fun (r : Int32) (u : HI × HL) => Q r u.1 u.2) (gB D cy ad s.heap.size) (gA ad s.heap.size)) args s 0 0 (gA ad s.heap.size)) (F0 m 4 ls []) := by
    intro n
    induction n with
    | zero => intro x1 x2 h g H locs ls HW; exact HW.elim
    | succ n ih =>
      intro x1 x2 h g H locs ls HW hG hl
      have HW : b_X11_fitted_4 Q (fun x1 x2 h g => lpN (F_X11_fitted_4 Q) n (x1, x2, h, g)) x1 x2 h g := HW
      generalize hKe : (fun (x1 : Int32) (x2 : Int32) (h : HI) (g : HL) => lpN (F_X11_fitted_4 Q) n (x1, x2, h, g)) = K4 at HW
      have hK4 : ∀ (x1 : Int32) (x2 : Int32) (h : HI) (g : HL) (H : Heap) (locs : List Loc) (ls : Array Slot), K4 x1 x2 h g → gG D cy ad (gA ad s.heap.size) s.heap h g H locs → lv_has ls 4 [(0, .ref (ad 135)), (1, .int x1), (2, .int x2)] → W p l e ({ frames := 2, cells := 0, slots := 0, locals := 51 } : Room) s m args below meth c H locs 0 0 (MQ below (va_Qi (fun (r : Int32) (u : HI × HL) => Q r u.1 u.2) (gB D cy ad s.heap.size) (gA ad s.heap.size)) args s 0 0 (gA ad s.heap.size)) (F0 m 4 ls []) := by subst hKe; exact ih
      clear ih
      clear hKe
      unfold b_X11_fitted_4 at HW
      refine lv_iload_n hx hb dX11_fitted_4 rfl (lv_at hl 2 rfl) ?_
      refine lv_bipush (v := 100) hx hb dX11_fitted_5 (by decide) ?_
      refine lv_icmp_ge (tgt := 97) hx hb dX11_fitted_7 (by decide) (fun c_7 => ?_) (fun c_7 => ?_)
      · replace HW := HW.1 c_7
        refine lv_iload_n hx hb dX11_fitted_97 rfl (lv_at hl 1 rfl) ?_
        exact W.iret (v := x1) hx hb hr (fun t ht hW => ⟨⟨x1, (h, g), rfl, HW, g_B ht hG⟩, hG.2.2.F ht⟩) hG.2.2.2.2 dX11_fitted_98
      · replace HW := HW.2 c_7
        refine lv_aload_n hx hb dX11_fitted_10 rfl (lv_at hl 0 rfl) ?_
        refine lv_iload_n hx hb dX11_fitted_11 rfl (lv_at hl 2 rfl) ?_
        refine lv_bipush (v := 10) hx hb dX11_fitted_12 (by decide) ?_
        refine lv_idiv hx hb dX11_fitted_14 (by decide) ?_
        refine lv_iload_n hx hb dX11_fitted_15 rfl (lv_at hl 2 rfl) ?_
        refine lv_bipush (v := 10) hx hb dX11_fitted_16 (by decide) ?_
        refine lv_irem hx hb dX11_fitted_18 (by decide) ?_
        obtain ⟨P_19, HC_19, HW⟩ := HW
        refine g_callz (g_runV (As := [.int (x2 / (10 : Int32)), .int (x2 - x2 / (10 : Int32) * (10 : Int32))]) (rest := []) ⟨hx, hb, hml, hown, hts⟩ (m_X11_likes l D cy ad h g H.size (x2 / (10 : Int32)) (x2 - x2 / (10 : Int32) * (10 : Int32)) P_19 HC_19) (cwV 2 hts (gd_V (wm6 170 rfl rfl) (wm6 172 rfl rfl) (wmp5 (q := (yX11_likes, 26)) 10 rfl) (wm1 13 rfl rfl) (wm6 173 rfl rfl)) rfl rfl rfl (by decide +kernel) ⟨Nat.le_of_ble_eq_true rfl, Nat.le_of_ble_eq_true rfl⟩) hK hNw hG gl_135 rfl gk_135 (by decide) rfl rfl hl.1 rfl (lv_room (Nat.le_of_ble_eq_true rfl)) dX11_fitted_19 ⟨Nat.zero_le _, Nat.zero_le _⟩) hG (fun r_19 h_19 g_19 H locs hz hq hG => ?_)
        replace HW := HW r_19 h_19 g_19 hz hq
        refine lv_if_eq (tgt := 91) hx hb dX11_fitted_22 (by decide) (fun c_22 => ?_) (fun c_22 => ?_)
        · replace HW := HW.1 c_22
          exact B91 K4 hK4 x1 x2 h_19 g_19 _ _ _ HW hG (lv_sub hl [0, 1, 2] rfl)
        · replace HW := HW.2 c_22
          refine lv_iload_n hx hb dX11_fitted_25 rfl (lv_at hl 1 rfl) ?_
          refine lv_iconst (v := (-1)) hx hb dX11_fitted_26 (by decide) ?_
          refine lv_icmp_eq (tgt := 39) hx hb dX11_fitted_27 (by decide) (fun c_27 => ?_) (fun c_27 => ?_)
          · replace HW := HW.1 c_27
            exact B39 K4 hK4 x2 h_19 g_19 _ _ _ HW hG (lv_sub hl [0, 2] rfl)
          · replace HW := HW.2 c_27
            refine lv_aload_n hx hb dX11_fitted_30 rfl (lv_at hl 0 rfl) ?_
            refine lv_iconst (v := 2) hx hb dX11_fitted_31 (by decide) ?_
            refine lv_iconst (v := 4) hx hb dX11_fitted_32 (by decide) ?_
            obtain ⟨P_33, HC_33, HW⟩ := HW
            refine g_calli (g_runV (As := [.int (2 : Int32), .int (4 : Int32)]) (rest := []) ⟨hx, hb, hml, hown, hts⟩ (m_X11_against l D cy ad h_19 g_19 H.size (2 : Int32) (4 : Int32) P_33 HC_33) (cwV 2 hts (gd_V (wm6 150 rfl rfl) (wm6 152 rfl rfl) (wmp5 (q := (yX11_against, 26)) 9 rfl) (wm1 13 rfl rfl) (wm6 153 rfl rfl)) rfl rfl rfl (by decide +kernel) ⟨Nat.le_of_ble_eq_true rfl, Nat.le_of_ble_eq_true rfl⟩) hK hNw hG gl_135 rfl gk_135 (by decide) rfl rfl hl.1 rfl (lv_room (Nat.le_of_ble_eq_true rfl)) dX11_fitted_33 ⟨Nat.zero_le _, Nat.zero_le _⟩) hG (fun r_33 h_33 g_33 H locs hq hG => ?_)
            replace HW := HW r_33 h_33 g_33 hq
            refine lv_if_le (tgt := 91) hx hb dX11_fitted_36 (by decide) (fun c_36 => ?_) (fun c_36 => ?_)
            · replace HW := HW.1 c_36
              exact B91 K4 hK4 x1 x2 h_33 g_33 _ _ _ HW hG (lv_sub hl [0, 1, 2] rfl)
            · replace HW := HW.2 c_36
              exact B39 K4 hK4 x2 h_33 g_33 _ _ _ HW hG (lv_sub hl [0, 2] rfl)
  have E0 : ∀ (H : Heap) (locs : List Loc) (ls : Array Slot), gG D cy ad (gA ad s.heap.size) s.heap h g H locs → lv_has ls 4 [(0, .ref (ad 135))] → W p l e ({ frames := 2, cells := 0, slots := 0, locals := 51 } : Room) s m args below meth c H locs 0 0 (MQ below (va_Qi (fun (r : Int32) (u : HI × HL) => Q r u.1 u.2) (gB D cy ad s.heap.size) (gA ad s.heap.size)) args s 0 0 (gA ad s.heap.size)) (F0 m 0 ls []) := by
    intro H locs ls hG hl
    unfold w_X11_fitted at HW
    refine lv_iconst (v := (-1)) hx hb dX11_fitted_0 (by decide) ?_
    refine lv_istore_n (lv' := [(1, .int (-1 : Int32)), (0, .ref (ad 135))]) hx hb dX11_fitted_1 rfl hl (by decide) rfl (fun ls hl => ?_)
    refine lv_iconst (v := 0) hx hb dX11_fitted_2 (by decide) ?_
    refine lv_istore_n (lv' := [(2, .int (0 : Int32)), (1, .int (-1 : Int32)), (0, .ref (ad 135))]) hx hb dX11_fitted_3 rfl hl (by decide) rfl (fun ls hl => ?_)
    obtain ⟨n_4, HW⟩ := HW
    exact L4 n_4 (-1 : Int32) (0 : Int32) h g _ _ _ HW hG (lv_sub hl [2, 1, 0] rfl)
  exact E0 _ _ _ hG hl

def j_X11_bear_45 (Q : Int32 → HI → HL → Prop) (x1 : Int32) (x2 : Int32) (x3 : Int32) (s0 : Int32) (h : HI) (g : HL) : Prop :=
  ((¬ s0 = x3 → (vp_in (((20 : Int32) + ((5 : Int32) * x1)) + (4 : Int32)) 887 ∧ (vp_in (((20 : Int32) + ((5 : Int32) * x1)) + (4 : Int32)) 887 ∧ ∀ h_70 : HI, h_70 = hu h 136 (((20 : Int32) + ((5 : Int32) * x1)) + (4 : Int32)).toNatClampNeg ((h 136 (((20 : Int32) + ((5 : Int32) * x1)) + (4 : Int32)).toNatClampNeg) ^^^ ((1 : Int32) <<< (x2 &&& 31))) → Q (1 : Int32) h_70 g))) ∧ (s0 = x3 → Q (-3 : Int32) h g))
def w_X11_bear (x1 : Int32) (x2 : Int32) (x3 : Int32) (h : HI) (g : HL) (Q : Int32 → HI → HL → Prop) : Prop :=
  (∃ P_3 : Int32 → HI → HL → Prop, w_X11_is (0 : Int32) x1 h g P_3 ∧ ∀ (r_3 : Int32) (h_3 : HI) (g_3 : HL), zb r_3 → P_3 r_3 h_3 g_3 → ((r_3 = 0 → Q (-2 : Int32) h_3 g_3) ∧ (¬ r_3 = 0 → (∃ P_12 : Int32 → HI → HL → Prop, w_X11_is (0 : Int32) x2 h_3 g_3 P_12 ∧ ∀ (r_12 : Int32) (h_12 : HI) (g_12 : HL), zb r_12 → P_12 r_12 h_12 g_12 → ((r_12 = 0 → Q (-2 : Int32) h_12 g_12) ∧ (¬ r_12 = 0 → ((¬ x1 = x2 → (∃ P_29 : Int32 → HI → HL → Prop, w_X11_partOf x1 (4 : Int32) h_12 g_12 P_29 ∧ ∀ (r_29 : Int32) (h_29 : HI) (g_29 : HL), P_29 r_29 h_29 g_29 → ((¬ ((r_29 >>> (x2 &&& 31)) &&& (1 : Int32)) = (1 : Int32) → j_X11_bear_45 Q x1 x2 x3 (0 : Int32) h_29 g_29) ∧ (((r_29 >>> (x2 &&& 31)) &&& (1 : Int32)) = (1 : Int32) → j_X11_bear_45 Q x1 x2 x3 (1 : Int32) h_29 g_29)))) ∧ (x1 = x2 → Q (-2 : Int32) h_12 g_12))))))))
set_option maxHeartbeats 8000000 in
set_option maxRecDepth 100000 in
theorem m_X11_bear (l : Launch) (D : va_G) (cy : Nat → ClassId) (ad : Nat → Nat) (h : HI) (g : HL) (sz : Nat) (x1 : Int32) (x2 : Int32) (x3 : Int32) (Q : Int32 → HI → HL → Prop) (HW : w_X11_bear x1 x2 x3 h g Q) : Met l yX11_bear (wa yX11_bear cX11_bear 4 (some .int)) ({ frames := 2, cells := 0, slots := 0, locals := 47 }) (va_Pc [.ref (ad 135), .int x1, .int x2, .int x3] (gI D cy ad h g sz)) (va_Qi (fun (r : Int32) (u : HI × HL) => Q r u.1 u.2) (gB D cy ad sz) (gA ad sz)) 0 0 (gA ad sz) := by
  refine Met.ofW (cc := cX11_bear) (maxL := 4) (ret := (some .int)) (by decide) rfl ?_
  intro p e s m args below meth c s₁ B hml hv
  obtain ⟨hav, hsz, hP, hK, hD0, hNw⟩ := hv
  have hx := B.exec
  have hb := B.bytes
  have hr := B.returns
  have hts := atoms_spec (ws := (wa yX11_bear cX11_bear 4 (some .int))) B.pre
  have hw := wa_hw hts
  have hown : s.vm.findClass RX11 = some m.cls := findClass_of_methodNamed B.named
  have hlocks := B.notSynchronized
  subst hsz
  have hG : gG D cy ad (gA ad s.heap.size) s.heap h g s.heap [] := ⟨hP, gA_self hD0, va_S.rf⟩
  clear hP hD0
  have lk7 := hw (.fieldLink RX11 7 "OldWorksModel" "st" "[I") (wm5 27 rfl rfl)
  rw [show (headSpec (wa yX11_bear cX11_bear 4 (some .int)) ({ frames := 2, cells := 0, slots := 0, locals := 47 } : Room)).room = ({ frames := 2, cells := 0, slots := 0, locals := 47 } : Room) from rfl]
  have hl := lv_entry ([.ref (ad 135), .int x1, .int x2, .int x3]) (n := 4) (Nat.le_of_ble_eq_true rfl)
  rw [show entryFrame m args 4 = entryFrame m ([.ref (ad 135), .int x1, .int x2, .int x3] : List Value).toArray 4 from by rw [hav], lg_entry_eq]
  generalize (lg_sl ([.ref (ad 135), .int x1, .int x2, .int x3]) ++ List.replicate (4 - (lg_sl ([.ref (ad 135), .int x1, .int x2, .int x3])).length) Slot.unset).toArray = ls at hl ⊢
  have hl : lv_has ls 4 [(0, .ref (ad 135)), (1, .int x1), (2, .int x2), (3, .int x3)] := hl
  have B45 : ∀ (x1 : Int32) (x2 : Int32) (x3 : Int32) (s0 : Int32) (h : HI) (g : HL) (H : Heap) (locs : List Loc) (ls : Array Slot), j_X11_bear_45 Q x1 x2 x3 s0 h g → gG D cy ad (gA ad s.heap.size) s.heap h g H locs → lv_has ls 4 [(0, .ref (ad 135)), (1, .int x1), (2, .int x2), (3, .int x3)] → W p l e ({ frames := 2, cells := 0, slots := 0, locals := 47 } : Room) s m args below meth c H locs 0 0 (MQ below (va_Qi (fun (r : Int32) (u : HI × HL) => Q r u.1 u.2) (gB D cy ad s.heap.size) (gA ad s.heap.size)) args s 0 0 (gA ad s.heap.size)) (F0 m 45 ls [.int s0]) := by
    intro x1 x2 x3 s0 h g H locs ls HW hG hl
    unfold j_X11_bear_45 at HW
    refine lv_iload_n hx hb dX11_bear_45 rfl (lv_at hl 3 rfl) ?_
    refine lv_icmp_ne (tgt := 52) hx hb dX11_bear_46 (by decide) (fun c_46 => ?_) (fun c_46 => ?_)
    · replace HW := HW.1 c_46
      refine lv_aload_n hx hb dX11_bear_52 rfl (lv_at hl 0 rfl) ?_
      refine g_getr hx hb hw inG11 hown hK hG gl_135 rfl gk_135 (by decide) 0 (by decide) (by rw [gm_135]; decide) (r := 136) gr_135_0 lk7 dX11_bear_53 ?_
      refine lv_bipush (v := 20) hx hb dX11_bear_56 (by decide) ?_
      refine lv_iconst (v := 5) hx hb dX11_bear_58 (by decide) ?_
      refine lv_iload_n hx hb dX11_bear_59 rfl (lv_at hl 1 rfl) ?_
      refine lv_imul hx hb dX11_bear_60 ?_
      refine lv_iadd hx hb dX11_bear_61 ?_
      refine lv_iconst (v := 4) hx hb dX11_bear_62 (by decide) ?_
      refine lv_iadd hx hb dX11_bear_63 ?_
      refine lv_dup2_11 hx hb dX11_bear_64 rfl rfl ?_
      refine g_iald hx hb hK hG gl_136 gk_136 gn_136 HW.1 dX11_bear_65 ?_
      replace HW := HW.2
      refine lv_iconst (v := 1) hx hb dX11_bear_66 (by decide) ?_
      refine lv_iload_n hx hb dX11_bear_67 rfl (lv_at hl 2 rfl) ?_
      refine lv_ishl hx hb dX11_bear_68 ?_
      refine lv_ixor hx hb dX11_bear_69 ?_
      refine g_iast hx hb hK hG gl_136 gk_136 gn_136 HW.1 dX11_bear_70 (fun H locs hG => ?_)
      replace HW := HW.2
      obtain ⟨h_70, eh_70⟩ : ∃ y : HI, y = hu h 136 (((20 : Int32) + ((5 : Int32) * x1)) + (4 : Int32)).toNatClampNeg ((h 136 (((20 : Int32) + ((5 : Int32) * x1)) + (4 : Int32)).toNatClampNeg) ^^^ ((1 : Int32) <<< (x2 &&& 31))) := ⟨_, rfl⟩
      rw [← eh_70] at hG
      replace HW := HW h_70 eh_70
      refine lv_iconst (v := 1) hx hb dX11_bear_71 (by decide) ?_
      exact W.iret (v := (1 : Int32)) hx hb hr (fun t ht hW => ⟨⟨(1 : Int32), (h_70, g), rfl, HW, g_B ht hG⟩, hG.2.2.F ht⟩) hG.2.2.2.2 dX11_bear_72
    · replace HW := HW.2 c_46
      refine lv_bipush (v := (-3)) hx hb dX11_bear_49 (by decide) ?_
      exact W.iret (v := (-3 : Int32)) hx hb hr (fun t ht hW => ⟨⟨(-3 : Int32), (h, g), rfl, HW, g_B ht hG⟩, hG.2.2.F ht⟩) hG.2.2.2.2 dX11_bear_51
  have E0 : ∀ (H : Heap) (locs : List Loc) (ls : Array Slot), gG D cy ad (gA ad s.heap.size) s.heap h g H locs → lv_has ls 4 [(0, .ref (ad 135)), (1, .int x1), (2, .int x2), (3, .int x3)] → W p l e ({ frames := 2, cells := 0, slots := 0, locals := 47 } : Room) s m args below meth c H locs 0 0 (MQ below (va_Qi (fun (r : Int32) (u : HI × HL) => Q r u.1 u.2) (gB D cy ad s.heap.size) (gA ad s.heap.size)) args s 0 0 (gA ad s.heap.size)) (F0 m 0 ls []) := by
    intro H locs ls hG hl
    unfold w_X11_bear at HW
    refine lv_aload_n hx hb dX11_bear_0 rfl (lv_at hl 0 rfl) ?_
    refine lv_iconst (v := 0) hx hb dX11_bear_1 (by decide) ?_
    refine lv_iload_n hx hb dX11_bear_2 rfl (lv_at hl 1 rfl) ?_
    obtain ⟨P_3, HC_3, HW⟩ := HW
    refine g_callz (g_runV (As := [.int (0 : Int32), .int x1]) (rest := []) ⟨hx, hb, hml, hown, hts⟩ (m_X11_is l D cy ad h g H.size (0 : Int32) x1 P_3 HC_3) (cwV 2 hts (gd_V (wm5 184 rfl rfl) (wm5 186 rfl rfl) (wmp3 (q := (yX11_is, 26)) 14 rfl) (wm1 13 rfl rfl) (wm5 187 rfl rfl)) rfl rfl rfl (by decide +kernel) ⟨Nat.le_of_ble_eq_true rfl, Nat.le_of_ble_eq_true rfl⟩) hK hNw hG gl_135 rfl gk_135 (by decide) rfl rfl hl.1 rfl (lv_room (Nat.le_of_ble_eq_true rfl)) dX11_bear_3 ⟨Nat.zero_le _, Nat.zero_le _⟩) hG (fun r_3 h_3 g_3 H locs hz hq hG => ?_)
    replace HW := HW r_3 h_3 g_3 hz hq
    refine lv_if_eq (tgt := 23) hx hb dX11_bear_6 (by decide) (fun c_6 => ?_) (fun c_6 => ?_)
    · replace HW := HW.1 c_6
      refine lv_bipush (v := (-2)) hx hb dX11_bear_23 (by decide) ?_
      exact W.iret (v := (-2 : Int32)) hx hb hr (fun t ht hW => ⟨⟨(-2 : Int32), (h_3, g_3), rfl, HW, g_B ht hG⟩, hG.2.2.F ht⟩) hG.2.2.2.2 dX11_bear_25
    · replace HW := HW.2 c_6
      refine lv_aload_n hx hb dX11_bear_9 rfl (lv_at hl 0 rfl) ?_
      refine lv_iconst (v := 0) hx hb dX11_bear_10 (by decide) ?_
      refine lv_iload_n hx hb dX11_bear_11 rfl (lv_at hl 2 rfl) ?_
      obtain ⟨P_12, HC_12, HW⟩ := HW
      refine g_callz (g_runV (As := [.int (0 : Int32), .int x2]) (rest := []) ⟨hx, hb, hml, hown, hts⟩ (m_X11_is l D cy ad h_3 g_3 H.size (0 : Int32) x2 P_12 HC_12) (cwV 2 hts (gd_V (wm5 184 rfl rfl) (wm5 186 rfl rfl) (wmp3 (q := (yX11_is, 26)) 14 rfl) (wm1 13 rfl rfl) (wm5 187 rfl rfl)) rfl rfl rfl (by decide +kernel) ⟨Nat.le_of_ble_eq_true rfl, Nat.le_of_ble_eq_true rfl⟩) hK hNw hG gl_135 rfl gk_135 (by decide) rfl rfl hl.1 rfl (lv_room (Nat.le_of_ble_eq_true rfl)) dX11_bear_12 ⟨Nat.zero_le _, Nat.zero_le _⟩) hG (fun r_12 h_12 g_12 H locs hz hq hG => ?_)
      replace HW := HW r_12 h_12 g_12 hz hq
      refine lv_if_eq (tgt := 23) hx hb dX11_bear_15 (by decide) (fun c_15 => ?_) (fun c_15 => ?_)
      · replace HW := HW.1 c_15
        refine lv_bipush (v := (-2)) hx hb dX11_bear_23 (by decide) ?_
        exact W.iret (v := (-2 : Int32)) hx hb hr (fun t ht hW => ⟨⟨(-2 : Int32), (h_12, g_12), rfl, HW, g_B ht hG⟩, hG.2.2.F ht⟩) hG.2.2.2.2 dX11_bear_25
      · replace HW := HW.2 c_15
        refine lv_iload_n hx hb dX11_bear_18 rfl (lv_at hl 1 rfl) ?_
        refine lv_iload_n hx hb dX11_bear_19 rfl (lv_at hl 2 rfl) ?_
        refine lv_icmp_ne (tgt := 26) hx hb dX11_bear_20 (by decide) (fun c_20 => ?_) (fun c_20 => ?_)
        · replace HW := HW.1 c_20
          refine lv_aload_n hx hb dX11_bear_26 rfl (lv_at hl 0 rfl) ?_
          refine lv_iload_n hx hb dX11_bear_27 rfl (lv_at hl 1 rfl) ?_
          refine lv_iconst (v := 4) hx hb dX11_bear_28 (by decide) ?_
          obtain ⟨P_29, HC_29, HW⟩ := HW
          refine g_calli (g_runV (As := [.int x1, .int (4 : Int32)]) (rest := []) ⟨hx, hb, hml, hown, hts⟩ (m_X11_partOf l D cy ad h_12 g_12 H.size x1 (4 : Int32) P_29 HC_29) (cwV 2 hts (gd_V (wm5 192 rfl rfl) (wm5 194 rfl rfl) (wmp4 (q := (yX11_partOf, 26)) 0 rfl) (wm1 13 rfl rfl) (wm5 195 rfl rfl)) rfl rfl rfl (by decide +kernel) ⟨Nat.le_of_ble_eq_true rfl, Nat.le_of_ble_eq_true rfl⟩) hK hNw hG gl_135 rfl gk_135 (by decide) rfl rfl hl.1 rfl (lv_room (Nat.le_of_ble_eq_true rfl)) dX11_bear_29 ⟨Nat.zero_le _, Nat.zero_le _⟩) hG (fun r_29 h_29 g_29 H locs hq hG => ?_)
          replace HW := HW r_29 h_29 g_29 hq
          refine lv_iload_n hx hb dX11_bear_32 rfl (lv_at hl 2 rfl) ?_
          refine lv_ishr hx hb dX11_bear_33 ?_
          refine lv_iconst (v := 1) hx hb dX11_bear_34 (by decide) ?_
          refine lv_iand hx hb dX11_bear_35 ?_
          refine lv_iconst (v := 1) hx hb dX11_bear_36 (by decide) ?_
          refine lv_icmp_ne (tgt := 44) hx hb dX11_bear_37 (by decide) (fun c_37 => ?_) (fun c_37 => ?_)
          · replace HW := HW.1 c_37
            refine lv_iconst (v := 0) hx hb dX11_bear_44 (by decide) ?_
            exact B45 x1 x2 x3 (0 : Int32) h_29 g_29 _ _ _ HW hG (lv_sub hl [0, 1, 2, 3] rfl)
          · replace HW := HW.2 c_37
            refine lv_iconst (v := 1) hx hb dX11_bear_40 (by decide) ?_
            refine lv_goto (tgt := 45) hx hb dX11_bear_41 (by decide) ?_
            exact B45 x1 x2 x3 (1 : Int32) h_29 g_29 _ _ _ HW hG (lv_sub hl [0, 1, 2, 3] rfl)
        · replace HW := HW.2 c_20
          refine lv_bipush (v := (-2)) hx hb dX11_bear_23 (by decide) ?_
          exact W.iret (v := (-2 : Int32)) hx hb hr (fun t ht hW => ⟨⟨(-2 : Int32), (h_12, g_12), rfl, HW, g_B ht hG⟩, hG.2.2.F ht⟩) hG.2.2.2.2 dX11_bear_25
  exact E0 _ _ _ hG hl

def j_X11_alongOf_71 (Q : Int32 → HI → HL → Prop) (K4 : Int32 → Int32 → Int32 → HI → HL → Prop) (x1 : Int32) (x4 : Int32) (s0 : Int32) (h : HI) (g : HL) : Prop :=
  K4 x1 x4 s0 h g
def j_X11_alongOf_51 (Q : Int32 → HI → HL → Prop) (K4 : Int32 → Int32 → Int32 → HI → HL → Prop) (K14 : Int32 → Int32 → Int32 → Int32 → HI → HL → Prop) (x1 : Int32) (x2 : Int32) (x5 : Int32) (s0 : Int32) (s1 : Int32) (h : HI) (g : HL) : Prop :=
  (∀ x4_52 : Int32, x4_52 = (s0 ||| s1) → (∀ x5_54 : Int32, x5_54 = (x5 + 1) → K14 x1 x2 x4_52 x5_54 h g))
def b_X11_alongOf_14 (Q : Int32 → HI → HL → Prop) (K4 : Int32 → Int32 → Int32 → HI → HL → Prop) (K14 : Int32 → Int32 → Int32 → Int32 → HI → HL → Prop) (x1 : Int32) (x2 : Int32) (x4 : Int32) (x5 : Int32) (h : HI) (g : HL) : Prop :=
  (vp_in (0 : Int32) 887 ∧ (((h 136 (0 : Int32).toNatClampNeg) ≤ x5 → ((x4 = x2 → j_X11_alongOf_71 Q K4 x1 x4 (0 : Int32) h g) ∧ (¬ x4 = x2 → j_X11_alongOf_71 Q K4 x1 x4 (1 : Int32) h g))) ∧ (¬ (h 136 (0 : Int32).toNatClampNeg) ≤ x5 → (∃ P_31 : Int32 → HI → HL → Prop, w_X11_partOf x5 (4 : Int32) h g P_31 ∧ ∀ (r_31 : Int32) (h_31 : HI) (g_31 : HL), P_31 r_31 h_31 g_31 → (((r_31 &&& (x2 ||| ((1 : Int32) <<< (x1 &&& 31)))) = 0 → j_X11_alongOf_51 Q K4 K14 x1 x2 x5 x4 (0 : Int32) h_31 g_31) ∧ (¬ (r_31 &&& (x2 ||| ((1 : Int32) <<< (x1 &&& 31)))) = 0 → j_X11_alongOf_51 Q K4 K14 x1 x2 x5 x4 ((1 : Int32) <<< (x5 &&& 31)) h_31 g_31))))))
def F_X11_alongOf_14 (Q : Int32 → HI → HL → Prop) (K4 : Int32 → Int32 → Int32 → HI → HL → Prop) (K : Int32 × Int32 × Int32 × Int32 × HI × HL → Prop) (q : Int32 × Int32 × Int32 × Int32 × HI × HL) : Prop := b_X11_alongOf_14 Q K4 (fun x1 x2 x4 x5 h g => K (x1, x2, x4, x5, h, g)) q.1 q.2.1 q.2.2.1 q.2.2.2.1 q.2.2.2.2.1 q.2.2.2.2.2
def b_X11_alongOf_4 (Q : Int32 → HI → HL → Prop) (K4 : Int32 → Int32 → Int32 → HI → HL → Prop) (x1 : Int32) (x2 : Int32) (x3 : Int32) (h : HI) (g : HL) : Prop :=
  ((x3 = 0 → Q x2 h g) ∧ (¬ x3 = 0 → lpE (F_X11_alongOf_14 Q K4) (x1, x2, x2, (0 : Int32), h, g)))
def F_X11_alongOf_4 (Q : Int32 → HI → HL → Prop) (K : Int32 × Int32 × Int32 × HI × HL → Prop) (q : Int32 × Int32 × Int32 × HI × HL) : Prop := b_X11_alongOf_4 Q (fun x1 x2 x3 h g => K (x1, x2, x3, h, g)) q.1 q.2.1 q.2.2.1 q.2.2.2.1 q.2.2.2.2
def w_X11_alongOf (x1 : Int32) (h : HI) (g : HL) (Q : Int32 → HI → HL → Prop) : Prop :=
  lpE (F_X11_alongOf_4 Q) (x1, (0 : Int32), (1 : Int32), h, g)
set_option maxHeartbeats 8000000 in
set_option maxRecDepth 100000 in
theorem m_X11_alongOf (l : Launch) (D : va_G) (cy : Nat → ClassId) (ad : Nat → Nat) (h : HI) (g : HL) (sz : Nat) (x1 : Int32) (Q : Int32 → HI → HL → Prop) (HW : w_X11_alongOf x1 h g Q) : Met l yX11_alongOf (wa yX11_alongOf cX11_alongOf 6 (some .int)) ({ frames := 1, cells := 0, slots := 0, locals := 22 }) (va_Pc [.ref (ad 135), .int x1] (gI D cy ad h g sz)) (va_Qi (fun (r : Int32) (u : HI × HL) => Q r u.1 u.2) (gB D cy ad sz) (gA ad sz)) 0 0 (gA ad sz) := by
  refine Met.ofW (cc := cX11_alongOf) (maxL := 6) (ret := (some .int)) (by decide) rfl ?_
  intro p e s m args below meth c s₁ B hml hv
  obtain ⟨hav, hsz, hP, hK, hD0, hNw⟩ := hv
  have hx := B.exec
  have hb := B.bytes
  have hr := B.returns
  have hts := atoms_spec (ws := (wa yX11_alongOf cX11_alongOf 6 (some .int))) B.pre
  have hw := wa_hw hts
  have hown : s.vm.findClass RX11 = some m.cls := findClass_of_methodNamed B.named
  have hlocks := B.notSynchronized
  subst hsz
  have hG : gG D cy ad (gA ad s.heap.size) s.heap h g s.heap [] := ⟨hP, gA_self hD0, va_S.rf⟩
  clear hP hD0
  have lk7 := hw (.fieldLink RX11 7 "OldWorksModel" "st" "[I") (wm5 27 rfl rfl)
  rw [show (headSpec (wa yX11_alongOf cX11_alongOf 6 (some .int)) ({ frames := 1, cells := 0, slots := 0, locals := 22 } : Room)).room = ({ frames := 1, cells := 0, slots := 0, locals := 22 } : Room) from rfl]
  have hl := lv_entry ([.ref (ad 135), .int x1]) (n := 6) (Nat.le_of_ble_eq_true rfl)
  rw [show entryFrame m args 6 = entryFrame m ([.ref (ad 135), .int x1] : List Value).toArray 6 from by rw [hav], lg_entry_eq]
  generalize (lg_sl ([.ref (ad 135), .int x1]) ++ List.replicate (6 - (lg_sl ([.ref (ad 135), .int x1])).length) Slot.unset).toArray = ls at hl ⊢
  have hl : lv_has ls 6 [(0, .ref (ad 135)), (1, .int x1)] := hl
  have B71 : ∀ (K4 : Int32 → Int32 → Int32 → HI → HL → Prop) (hK4 : ∀ (x1 : Int32) (x2 : Int32) (x3 : Int32) (h : HI) (g : HL) (H : Heap) (locs : List Loc) (ls : Array Slot), K4 x1 x2 x3 h g → gG D cy ad (gA ad s.heap.size) s.heap h g H locs → lv_has ls 6 [(0, .ref (ad 135)), (1, .int x1), (2, .int x2), (3, .int x3)] → W p l e ({ frames := 1, cells := 0, slots := 0, locals := 22 } : Room) s m args below meth c H locs 0 0 (MQ below (va_Qi (fun (r : Int32) (u : HI × HL) => Q r u.1 u.2) (gB D cy ad s.heap.size) (gA ad s.heap.size)) args s 0 0 (gA ad s.heap.size)) (F0 m 4 ls [])) (x1 : Int32) (x4 : Int32) (s0 : Int32) (h : HI) (g : HL) (H : Heap) (locs : List Loc) (ls : Array Slot), j_X11_alongOf_71 Q K4 x1 x4 s0 h g → gG D cy ad (gA ad s.heap.size) s.heap h g H locs → lv_has ls 6 [(0, .ref (ad 135)), (1, .int x1), (4, .int x4)] → W p l e ({ frames := 1, cells := 0, slots := 0, locals := 22 } : Room) s m args below meth c H locs 0 0 (MQ below (va_Qi (fun (r : Int32) (u : HI × HL) => Q r u.1 u.2) (gB D cy ad s.heap.size) (gA ad s.heap.size)) args s 0 0 (gA ad s.heap.size)) (F0 m 71 ls [.int s0]) := by
    intro K4 hK4 x1 x4 s0 h g H locs ls HW hG hl
    unfold j_X11_alongOf_71 at HW
    refine lv_istore_n (lv' := [(3, .int s0), (0, .ref (ad 135)), (1, .int x1), (4, .int x4)]) hx hb dX11_alongOf_71 rfl hl (by decide) rfl (fun ls hl => ?_)
    refine lv_iload hx hb dX11_alongOf_72 (lv_at hl 3 rfl) ?_
    refine lv_istore_n (lv' := [(2, .int x4), (3, .int s0), (0, .ref (ad 135)), (1, .int x1), (4, .int x4)]) hx hb dX11_alongOf_74 rfl hl (by decide) rfl (fun ls hl => ?_)
    refine lv_goto (tgt := 4) hx hb dX11_alongOf_75 (by decide) ?_
    exact hK4 x1 x4 s0 h g _ _ _ HW hG (lv_sub hl [2, 3, 0, 1] rfl)
  have B51 : ∀ (K4 : Int32 → Int32 → Int32 → HI → HL → Prop) (hK4 : ∀ (x1 : Int32) (x2 : Int32) (x3 : Int32) (h : HI) (g : HL) (H : Heap) (locs : List Loc) (ls : Array Slot), K4 x1 x2 x3 h g → gG D cy ad (gA ad s.heap.size) s.heap h g H locs → lv_has ls 6 [(0, .ref (ad 135)), (1, .int x1), (2, .int x2), (3, .int x3)] → W p l e ({ frames := 1, cells := 0, slots := 0, locals := 22 } : Room) s m args below meth c H locs 0 0 (MQ below (va_Qi (fun (r : Int32) (u : HI × HL) => Q r u.1 u.2) (gB D cy ad s.heap.size) (gA ad s.heap.size)) args s 0 0 (gA ad s.heap.size)) (F0 m 4 ls [])) (K14 : Int32 → Int32 → Int32 → Int32 → HI → HL → Prop) (hK14 : ∀ (x1 : Int32) (x2 : Int32) (x4 : Int32) (x5 : Int32) (h : HI) (g : HL) (H : Heap) (locs : List Loc) (ls : Array Slot), K14 x1 x2 x4 x5 h g → gG D cy ad (gA ad s.heap.size) s.heap h g H locs → lv_has ls 6 [(0, .ref (ad 135)), (1, .int x1), (2, .int x2), (4, .int x4), (5, .int x5)] → W p l e ({ frames := 1, cells := 0, slots := 0, locals := 22 } : Room) s m args below meth c H locs 0 0 (MQ below (va_Qi (fun (r : Int32) (u : HI × HL) => Q r u.1 u.2) (gB D cy ad s.heap.size) (gA ad s.heap.size)) args s 0 0 (gA ad s.heap.size)) (F0 m 14 ls [])) (x1 : Int32) (x2 : Int32) (x5 : Int32) (s0 : Int32) (s1 : Int32) (h : HI) (g : HL) (H : Heap) (locs : List Loc) (ls : Array Slot), j_X11_alongOf_51 Q K4 K14 x1 x2 x5 s0 s1 h g → gG D cy ad (gA ad s.heap.size) s.heap h g H locs → lv_has ls 6 [(0, .ref (ad 135)), (1, .int x1), (2, .int x2), (5, .int x5)] → W p l e ({ frames := 1, cells := 0, slots := 0, locals := 22 } : Room) s m args below meth c H locs 0 0 (MQ below (va_Qi (fun (r : Int32) (u : HI × HL) => Q r u.1 u.2) (gB D cy ad s.heap.size) (gA ad s.heap.size)) args s 0 0 (gA ad s.heap.size)) (F0 m 51 ls [.int s1, .int s0]) := by
    intro K4 hK4 K14 hK14 x1 x2 x5 s0 s1 h g H locs ls HW hG hl
    unfold j_X11_alongOf_51 at HW
    refine lv_ior hx hb dX11_alongOf_51 ?_
    refine lv_topi (fun x4_52 ex4_52 => ?_)
    replace HW := HW x4_52 ex4_52
    refine lv_istore (lv' := [(4, .int x4_52), (0, .ref (ad 135)), (1, .int x1), (2, .int x2), (5, .int x5)]) hx hb dX11_alongOf_52 hl (by decide) rfl (fun ls hl => ?_)
    obtain ⟨x5_54, ex5_54⟩ : ∃ y : Int32, y = (x5 + 1) := ⟨_, rfl⟩
    replace HW := HW x5_54 ex5_54
    refine lv_iinc (v := x5_54) (lv' := [(5, .int x5_54), (4, .int x4_52), (0, .ref (ad 135)), (1, .int x1), (2, .int x2)]) hx hb dX11_alongOf_54 hl (k := 4) rfl (by rw [ex5_54]; rfl) (by decide) rfl (fun ls hl => ?_)
    refine lv_goto (tgt := 14) hx hb dX11_alongOf_57 (by decide) ?_
    exact hK14 x1 x2 x4_52 x5_54 h g _ _ _ HW hG (lv_sub hl [2, 3, 4, 1, 0] rfl)
  have L14 : ∀ (K4 : Int32 → Int32 → Int32 → HI → HL → Prop) (hK4 : ∀ (x1 : Int32) (x2 : Int32) (x3 : Int32) (h : HI) (g : HL) (H : Heap) (locs : List Loc) (ls : Array Slot), K4 x1 x2 x3 h g → gG D cy ad (gA ad s.heap.size) s.heap h g H locs → lv_has ls 6 [(0, .ref (ad 135)), (1, .int x1), (2, .int x2), (3, .int x3)] → W p l e ({ frames := 1, cells := 0, slots := 0, locals := 22 } : Room) s m args below meth c H locs 0 0 (MQ below (va_Qi (fun (r : Int32) (u : HI × HL) => Q r u.1 u.2) (gB D cy ad s.heap.size) (gA ad s.heap.size)) args s 0 0 (gA ad s.heap.size)) (F0 m 4 ls [])) (n : Nat) (x1 : Int32) (x2 : Int32) (x4 : Int32) (x5 : Int32) (h : HI) (g : HL) (H : Heap) (locs : List Loc) (ls : Array Slot), lpN (F_X11_alongOf_14 Q K4) n (x1, x2, x4, x5, h, g) → gG D cy ad (gA ad s.heap.size) s.heap h g H locs → lv_has ls 6 [(0, .ref (ad 135)), (1, .int x1), (2, .int x2), (4, .int x4), (5, .int x5)] → W p l e ({ frames := 1, cells := 0, slots := 0, locals := 22 } : Room) s m args below meth c H locs 0 0 (MQ below (va_Qi (fun (r : Int32) (u : HI × HL) => Q r u.1 u.2) (gB D cy ad s.heap.size) (gA ad s.heap.size)) args s 0 0 (gA ad s.heap.size)) (F0 m 14 ls []) := by
    intro K4 hK4 n
    induction n with
    | zero => intro x1 x2 x4 x5 h g H locs ls HW; exact HW.elim
    | succ n ih =>
      intro x1 x2 x4 x5 h g H locs ls HW hG hl
      have HW : b_X11_alongOf_14 Q K4 (fun x1 x2 x4 x5 h g => lpN (F_X11_alongOf_14 Q K4) n (x1, x2, x4, x5, h, g)) x1 x2 x4 x5 h g := HW
      generalize hKe : (fun (x1 : Int32) (x2 : Int32) (x4 : Int32) (x5 : Int32) (h : HI) (g : HL) => lpN (F_X11_alongOf_14 Q K4) n (x1, x2, x4, x5, h, g)) = K14 at HW
      have hK14 : ∀ (x1 : Int32) (x2 : Int32) (x4 : Int32) (x5 : Int32) (h : HI) (g : HL) (H : Heap) (locs : List Loc) (ls : Array Slot), K14 x1 x2 x4 x5 h g → gG D cy ad (gA ad s.heap.size) s.heap h g H locs → lv_has ls 6 [(0, .ref (ad 135)), (1, .int x1), (2, .int x2), (4, .int x4), (5, .int x5)] → W p l e ({ frames := 1, cells := 0, slots := 0, locals := 22 } : Room) s m args below meth c H locs 0 0 (MQ below (va_Qi (fun (r : Int32) (u : HI × HL) => Q r u.1 u.2) (gB D cy ad s.heap.size) (gA ad s.heap.size)) args s 0 0 (gA ad s.heap.size)) (F0 m 14 ls []) := by subst hKe; exact ih
      clear ih
      clear hKe
      unfold b_X11_alongOf_14 at HW
      refine lv_iload hx hb dX11_alongOf_14 (lv_at hl 4 rfl) ?_
      refine lv_aload_n hx hb dX11_alongOf_16 rfl (lv_at hl 0 rfl) ?_
      refine g_getr hx hb hw inG11 hown hK hG gl_135 rfl gk_135 (by decide) 0 (by decide) (by rw [gm_135]; decide) (r := 136) gr_135_0 lk7 dX11_alongOf_17 ?_
      refine lv_iconst (v := 0) hx hb dX11_alongOf_20 (by decide) ?_
      refine g_iald hx hb hK hG gl_136 gk_136 gn_136 HW.1 dX11_alongOf_21 ?_
      replace HW := HW.2
      refine lv_icmp_ge (tgt := 60) hx hb dX11_alongOf_22 (by decide) (fun c_22 => ?_) (fun c_22 => ?_)
      · replace HW := HW.1 c_22
        refine lv_iload hx hb dX11_alongOf_60 (lv_at hl 3 rfl) ?_
        refine lv_iload_n hx hb dX11_alongOf_62 rfl (lv_at hl 2 rfl) ?_
        refine lv_icmp_eq (tgt := 70) hx hb dX11_alongOf_63 (by decide) (fun c_63 => ?_) (fun c_63 => ?_)
        · replace HW := HW.1 c_63
          refine lv_iconst (v := 0) hx hb dX11_alongOf_70 (by decide) ?_
          exact B71 K4 hK4 x1 x4 (0 : Int32) h g _ _ _ HW hG (lv_sub hl [0, 1, 3] rfl)
        · replace HW := HW.2 c_63
          refine lv_iconst (v := 1) hx hb dX11_alongOf_66 (by decide) ?_
          refine lv_goto (tgt := 71) hx hb dX11_alongOf_67 (by decide) ?_
          exact B71 K4 hK4 x1 x4 (1 : Int32) h g _ _ _ HW hG (lv_sub hl [0, 1, 3] rfl)
      · replace HW := HW.2 c_22
        refine lv_iload hx hb dX11_alongOf_25 (lv_at hl 3 rfl) ?_
        refine lv_aload_n hx hb dX11_alongOf_27 rfl (lv_at hl 0 rfl) ?_
        refine lv_iload hx hb dX11_alongOf_28 (lv_at hl 4 rfl) ?_
        refine lv_iconst (v := 4) hx hb dX11_alongOf_30 (by decide) ?_
        obtain ⟨P_31, HC_31, HW⟩ := HW
        refine g_calli (g_runV (As := [.int x5, .int (4 : Int32)]) (rest := [.int x4]) ⟨hx, hb, hml, hown, hts⟩ (m_X11_partOf l D cy ad h g H.size x5 (4 : Int32) P_31 HC_31) (cwV 2 hts (gd_V (wm5 192 rfl rfl) (wm5 194 rfl rfl) (wmp4 (q := (yX11_partOf, 26)) 0 rfl) (wm1 13 rfl rfl) (wm5 195 rfl rfl)) rfl rfl rfl (by decide +kernel) ⟨Nat.le_of_ble_eq_true rfl, Nat.le_of_ble_eq_true rfl⟩) hK hNw hG gl_135 rfl gk_135 (by decide) rfl rfl hl.1 rfl (lv_room (Nat.le_of_ble_eq_true rfl)) dX11_alongOf_31 ⟨Nat.zero_le _, Nat.zero_le _⟩) hG (fun r_31 h_31 g_31 H locs hq hG => ?_)
        replace HW := HW r_31 h_31 g_31 hq
        refine lv_iload_n hx hb dX11_alongOf_34 rfl (lv_at hl 2 rfl) ?_
        refine lv_iconst (v := 1) hx hb dX11_alongOf_35 (by decide) ?_
        refine lv_iload_n hx hb dX11_alongOf_36 rfl (lv_at hl 1 rfl) ?_
        refine lv_ishl hx hb dX11_alongOf_37 ?_
        refine lv_ior hx hb dX11_alongOf_38 ?_
        refine lv_iand hx hb dX11_alongOf_39 ?_
        refine lv_if_eq (tgt := 50) hx hb dX11_alongOf_40 (by decide) (fun c_40 => ?_) (fun c_40 => ?_)
        · replace HW := HW.1 c_40
          refine lv_iconst (v := 0) hx hb dX11_alongOf_50 (by decide) ?_
          exact B51 K4 hK4 K14 hK14 x1 x2 x5 x4 (0 : Int32) h_31 g_31 _ _ _ HW hG (lv_sub hl [0, 1, 2, 4] rfl)
        · replace HW := HW.2 c_40
          refine lv_iconst (v := 1) hx hb dX11_alongOf_43 (by decide) ?_
          refine lv_iload hx hb dX11_alongOf_44 (lv_at hl 4 rfl) ?_
          refine lv_ishl hx hb dX11_alongOf_46 ?_
          refine lv_goto (tgt := 51) hx hb dX11_alongOf_47 (by decide) ?_
          exact B51 K4 hK4 K14 hK14 x1 x2 x5 x4 ((1 : Int32) <<< (x5 &&& 31)) h_31 g_31 _ _ _ HW hG (lv_sub hl [0, 1, 2, 4] rfl)
  have L4 : ∀ (n : Nat) (x1 : Int32) (x2 : Int32) (x3 : Int32) (h : HI) (g : HL) (H : Heap) (locs : List Loc) (ls : Array Slot), lpN (F_X11_alongOf_4 Q) n (x1, x2, x3, h, g) → gG D cy ad (gA ad s.heap.size) s.heap h g H locs → lv_has ls 6 [(0, .ref (ad 135)), (1, .int x1), (2, .int x2), (3, .int x3)] → W p l e ({ frames := 1, cells := 0, slots := 0, locals := 22 } : Room) s m args below meth c H locs 0 0 (MQ below (va_Qi (fun (r : Int32) (u : HI × HL) => Q r u.1 u.2) (gB D cy ad s.heap.size) (gA ad s.heap.size)) args s 0 0 (gA ad s.heap.size)) (F0 m 4 ls []) := by
    intro n
    induction n with
    | zero => intro x1 x2 x3 h g H locs ls HW; exact HW.elim
    | succ n ih =>
      intro x1 x2 x3 h g H locs ls HW hG hl
      have HW : b_X11_alongOf_4 Q (fun x1 x2 x3 h g => lpN (F_X11_alongOf_4 Q) n (x1, x2, x3, h, g)) x1 x2 x3 h g := HW
      generalize hKe : (fun (x1 : Int32) (x2 : Int32) (x3 : Int32) (h : HI) (g : HL) => lpN (F_X11_alongOf_4 Q) n (x1, x2, x3, h, g)) = K4 at HW
      have hK4 : ∀ (x1 : Int32) (x2 : Int32) (x3 : Int32) (h : HI) (g : HL) (H : Heap) (locs : List Loc) (ls : Array Slot), K4 x1 x2 x3 h g → gG D cy ad (gA ad s.heap.size) s.heap h g H locs → lv_has ls 6 [(0, .ref (ad 135)), (1, .int x1), (2, .int x2), (3, .int x3)] → W p l e ({ frames := 1, cells := 0, slots := 0, locals := 22 } : Room) s m args below meth c H locs 0 0 (MQ below (va_Qi (fun (r : Int32) (u : HI × HL) => Q r u.1 u.2) (gB D cy ad s.heap.size) (gA ad s.heap.size)) args s 0 0 (gA ad s.heap.size)) (F0 m 4 ls []) := by subst hKe; exact ih
      clear ih
      clear hKe
      unfold b_X11_alongOf_4 at HW
      refine lv_iload_n hx hb dX11_alongOf_4 rfl (lv_at hl 3 rfl) ?_
      refine lv_if_eq (tgt := 78) hx hb dX11_alongOf_5 (by decide) (fun c_5 => ?_) (fun c_5 => ?_)
      · replace HW := HW.1 c_5
        refine lv_iload_n hx hb dX11_alongOf_78 rfl (lv_at hl 2 rfl) ?_
        exact W.iret (v := x2) hx hb hr (fun t ht hW => ⟨⟨x2, (h, g), rfl, HW, g_B ht hG⟩, hG.2.2.F ht⟩) hG.2.2.2.2 dX11_alongOf_79
      · replace HW := HW.2 c_5
        refine lv_iload_n hx hb dX11_alongOf_8 rfl (lv_at hl 2 rfl) ?_
        refine lv_istore (lv' := [(4, .int x2), (0, .ref (ad 135)), (1, .int x1), (2, .int x2), (3, .int x3)]) hx hb dX11_alongOf_9 hl (by decide) rfl (fun ls hl => ?_)
        refine lv_iconst (v := 0) hx hb dX11_alongOf_11 (by decide) ?_
        refine lv_istore (lv' := [(5, .int (0 : Int32)), (4, .int x2), (0, .ref (ad 135)), (1, .int x1), (2, .int x2), (3, .int x3)]) hx hb dX11_alongOf_12 hl (by decide) rfl (fun ls hl => ?_)
        obtain ⟨n_14, HW⟩ := HW
        exact L14 K4 hK4 n_14 x1 x2 x2 (0 : Int32) h g _ _ _ HW hG (lv_sub hl [2, 3, 4, 1, 0] rfl)
  have E0 : ∀ (H : Heap) (locs : List Loc) (ls : Array Slot), gG D cy ad (gA ad s.heap.size) s.heap h g H locs → lv_has ls 6 [(0, .ref (ad 135)), (1, .int x1)] → W p l e ({ frames := 1, cells := 0, slots := 0, locals := 22 } : Room) s m args below meth c H locs 0 0 (MQ below (va_Qi (fun (r : Int32) (u : HI × HL) => Q r u.1 u.2) (gB D cy ad s.heap.size) (gA ad s.heap.size)) args s 0 0 (gA ad s.heap.size)) (F0 m 0 ls []) := by
    intro H locs ls hG hl
    unfold w_X11_alongOf at HW
    refine lv_iconst (v := 0) hx hb dX11_alongOf_0 (by decide) ?_
    refine lv_istore_n (lv' := [(2, .int (0 : Int32)), (0, .ref (ad 135)), (1, .int x1)]) hx hb dX11_alongOf_1 rfl hl (by decide) rfl (fun ls hl => ?_)
    refine lv_iconst (v := 1) hx hb dX11_alongOf_2 (by decide) ?_
    refine lv_istore_n (lv' := [(3, .int (1 : Int32)), (2, .int (0 : Int32)), (0, .ref (ad 135)), (1, .int x1)]) hx hb dX11_alongOf_3 rfl hl (by decide) rfl (fun ls hl => ?_)
    obtain ⟨n_4, HW⟩ := HW
    exact L4 n_4 x1 (0 : Int32) (1 : Int32) h g _ _ _ HW hG (lv_sub hl [2, 3, 1, 0] rfl)
  exact E0 _ _ _ hG hl

def w_X11_along (x1 : Int32) (h : HI) (g : HL) (Q : Int32 → HI → HL → Prop) : Prop :=
  (∃ P_3 : Int32 → HI → HL → Prop, w_X11_is (0 : Int32) x1 h g P_3 ∧ ∀ (r_3 : Int32) (h_3 : HI) (g_3 : HL), zb r_3 → P_3 r_3 h_3 g_3 → ((r_3 = 0 → Q (-2 : Int32) h_3 g_3) ∧ (¬ r_3 = 0 → (∃ P_11 : Int32 → HI → HL → Prop, w_X11_alongOf x1 h_3 g_3 P_11 ∧ ∀ (r_11 : Int32) (h_11 : HI) (g_11 : HL), P_11 r_11 h_11 g_11 → Q r_11 h_11 g_11))))
set_option maxHeartbeats 8000000 in
set_option maxRecDepth 100000 in
theorem m_X11_along (l : Launch) (D : va_G) (cy : Nat → ClassId) (ad : Nat → Nat) (h : HI) (g : HL) (sz : Nat) (x1 : Int32) (Q : Int32 → HI → HL → Prop) (HW : w_X11_along x1 h g Q) : Met l yX11_along (wa yX11_along cX11_along 2 (some .int)) ({ frames := 2, cells := 0, slots := 0, locals := 47 }) (va_Pc [.ref (ad 135), .int x1] (gI D cy ad h g sz)) (va_Qi (fun (r : Int32) (u : HI × HL) => Q r u.1 u.2) (gB D cy ad sz) (gA ad sz)) 0 0 (gA ad sz) := by
  refine Met.ofW (cc := cX11_along) (maxL := 2) (ret := (some .int)) (by decide) rfl ?_
  intro p e s m args below meth c s₁ B hml hv
  obtain ⟨hav, hsz, hP, hK, hD0, hNw⟩ := hv
  have hx := B.exec
  have hb := B.bytes
  have hr := B.returns
  have hts := atoms_spec (ws := (wa yX11_along cX11_along 2 (some .int))) B.pre
  have hw := wa_hw hts
  have hown : s.vm.findClass RX11 = some m.cls := findClass_of_methodNamed B.named
  have hlocks := B.notSynchronized
  subst hsz
  have hG : gG D cy ad (gA ad s.heap.size) s.heap h g s.heap [] := ⟨hP, gA_self hD0, va_S.rf⟩
  clear hP hD0
  rw [show (headSpec (wa yX11_along cX11_along 2 (some .int)) ({ frames := 2, cells := 0, slots := 0, locals := 47 } : Room)).room = ({ frames := 2, cells := 0, slots := 0, locals := 47 } : Room) from rfl]
  have hl := lv_entry ([.ref (ad 135), .int x1]) (n := 2) (Nat.le_of_ble_eq_true rfl)
  rw [show entryFrame m args 2 = entryFrame m ([.ref (ad 135), .int x1] : List Value).toArray 2 from by rw [hav], lg_entry_eq]
  generalize (lg_sl ([.ref (ad 135), .int x1]) ++ List.replicate (2 - (lg_sl ([.ref (ad 135), .int x1])).length) Slot.unset).toArray = ls at hl ⊢
  have hl : lv_has ls 2 [(0, .ref (ad 135)), (1, .int x1)] := hl
  have E0 : ∀ (H : Heap) (locs : List Loc) (ls : Array Slot), gG D cy ad (gA ad s.heap.size) s.heap h g H locs → lv_has ls 2 [(0, .ref (ad 135)), (1, .int x1)] → W p l e ({ frames := 2, cells := 0, slots := 0, locals := 47 } : Room) s m args below meth c H locs 0 0 (MQ below (va_Qi (fun (r : Int32) (u : HI × HL) => Q r u.1 u.2) (gB D cy ad s.heap.size) (gA ad s.heap.size)) args s 0 0 (gA ad s.heap.size)) (F0 m 0 ls []) := by
    intro H locs ls hG hl
    unfold w_X11_along at HW
    refine lv_aload_n hx hb dX11_along_0 rfl (lv_at hl 0 rfl) ?_
    refine lv_iconst (v := 0) hx hb dX11_along_1 (by decide) ?_
    refine lv_iload_n hx hb dX11_along_2 rfl (lv_at hl 1 rfl) ?_
    obtain ⟨P_3, HC_3, HW⟩ := HW
    refine g_callz (g_runV (As := [.int (0 : Int32), .int x1]) (rest := []) ⟨hx, hb, hml, hown, hts⟩ (m_X11_is l D cy ad h g H.size (0 : Int32) x1 P_3 HC_3) (cwV 2 hts (gd_V (wm5 184 rfl rfl) (wm5 186 rfl rfl) (wmp3 (q := (yX11_is, 26)) 14 rfl) (wm1 13 rfl rfl) (wm5 187 rfl rfl)) rfl rfl rfl (by decide +kernel) ⟨Nat.le_of_ble_eq_true rfl, Nat.le_of_ble_eq_true rfl⟩) hK hNw hG gl_135 rfl gk_135 (by decide) rfl rfl hl.1 rfl (lv_room (Nat.le_of_ble_eq_true rfl)) dX11_along_3 ⟨Nat.zero_le _, Nat.zero_le _⟩) hG (fun r_3 h_3 g_3 H locs hz hq hG => ?_)
    replace HW := HW r_3 h_3 g_3 hz hq
    refine lv_if_eq (tgt := 17) hx hb dX11_along_6 (by decide) (fun c_6 => ?_) (fun c_6 => ?_)
    · replace HW := HW.1 c_6
      refine lv_bipush (v := (-2)) hx hb dX11_along_17 (by decide) ?_
      exact W.iret (v := (-2 : Int32)) hx hb hr (fun t ht hW => ⟨⟨(-2 : Int32), (h_3, g_3), rfl, HW, g_B ht hG⟩, hG.2.2.F ht⟩) hG.2.2.2.2 dX11_along_19
    · replace HW := HW.2 c_6
      refine lv_aload_n hx hb dX11_along_9 rfl (lv_at hl 0 rfl) ?_
      refine lv_iload_n hx hb dX11_along_10 rfl (lv_at hl 1 rfl) ?_
      obtain ⟨P_11, HC_11, HW⟩ := HW
      refine g_calli (g_runV (As := [.int x1]) (rest := []) ⟨hx, hb, hml, hown, hts⟩ (m_X11_alongOf l D cy ad h_3 g_3 H.size x1 P_11 HC_11) (cwV 1 hts (gd_V (wm6 183 rfl rfl) (wm6 185 rfl rfl) (wmp5 (q := (yX11_alongOf, 26)) 11 rfl) (wm1 13 rfl rfl) (wm6 186 rfl rfl)) rfl rfl rfl (by decide +kernel) ⟨Nat.le_of_ble_eq_true rfl, Nat.le_of_ble_eq_true rfl⟩) hK hNw hG gl_135 rfl gk_135 (by decide) rfl rfl hl.1 rfl (lv_room (Nat.le_of_ble_eq_true rfl)) dX11_along_11 ⟨Nat.zero_le _, Nat.zero_le _⟩) hG (fun r_11 h_11 g_11 H locs hq hG => ?_)
      replace HW := HW r_11 h_11 g_11 hq
      refine lv_goto (tgt := 19) hx hb dX11_along_14 (by decide) ?_
      exact W.iret (v := r_11) hx hb hr (fun t ht hW => ⟨⟨r_11, (h_11, g_11), rfl, HW, g_B ht hG⟩, hG.2.2.F ht⟩) hG.2.2.2.2 dX11_along_19
  exact E0 _ _ _ hG hl

def w_X11_hand (x1 : Int32) (x2 : Int32) (h : HI) (g : HL) (Q : Int32 → HI → HL → Prop) : Prop :=
  (∃ P_6 : Int32 → HI → HL → Prop, w_X11_in ((x1).toInt64) (0 : Int64) (15 : Int64) h g P_6 ∧ ∀ (r_6 : Int32) (h_6 : HI) (g_6 : HL), zb r_6 → P_6 r_6 h_6 g_6 → ((r_6 = 0 → Q (-2 : Int32) h_6 g_6) ∧ (¬ r_6 = 0 → (∃ P_18 : Int32 → HI → HL → Prop, w_X11_in ((x2).toInt64) (0 : Int64) (9 : Int64) h_6 g_6 P_18 ∧ ∀ (r_18 : Int32) (h_18 : HI) (g_18 : HL), zb r_18 → P_18 r_18 h_18 g_18 → ((¬ r_18 = 0 → (vp_in (7 : Int32) 887 ∧ ((¬ (h_18 136 (7 : Int32).toNatClampNeg) = (3 : Int32) → (vp_in (7 : Int32) 887 ∧ (vp_in ((817 : Int32) + ((2 : Int32) * (h_18 136 (7 : Int32).toNatClampNeg))) 887 ∧ ∀ h_59 : HI, h_59 = hu h_18 136 ((817 : Int32) + ((2 : Int32) * (h_18 136 (7 : Int32).toNatClampNeg))).toNatClampNeg x1 → (vp_in (7 : Int32) 887 ∧ (vp_in (((817 : Int32) + ((2 : Int32) * (h_59 136 (7 : Int32).toNatClampNeg))) + (1 : Int32)) 887 ∧ ∀ h_80 : HI, h_80 = hu h_59 136 (((817 : Int32) + ((2 : Int32) * (h_59 136 (7 : Int32).toNatClampNeg))) + (1 : Int32)).toNatClampNeg x2 → (∃ P_84 : Int32 → HI → HL → Prop, w_X11_one (7 : Int32) h_80 g_18 P_84 ∧ ∀ (r_84 : Int32) (h_84 : HI) (g_84 : HL), P_84 r_84 h_84 g_84 → Q r_84 h_84 g_84)))))) ∧ ((h_18 136 (7 : Int32).toNatClampNeg) = (3 : Int32) → Q (-4 : Int32) h_18 g_18)))) ∧ (r_18 = 0 → Q (-2 : Int32) h_18 g_18))))))
set_option maxHeartbeats 8000000 in
set_option maxRecDepth 100000 in
theorem m_X11_hand (l : Launch) (D : va_G) (cy : Nat → ClassId) (ad : Nat → Nat) (h : HI) (g : HL) (sz : Nat) (x1 : Int32) (x2 : Int32) (Q : Int32 → HI → HL → Prop) (HW : w_X11_hand x1 x2 h g Q) : Met l yX11_hand (wa yX11_hand cX11_hand 3 (some .int)) ({ frames := 1, cells := 0, slots := 0, locals := 25 }) (va_Pc [.ref (ad 135), .int x1, .int x2] (gI D cy ad h g sz)) (va_Qi (fun (r : Int32) (u : HI × HL) => Q r u.1 u.2) (gB D cy ad sz) (gA ad sz)) 0 0 (gA ad sz) := by
  refine Met.ofW (cc := cX11_hand) (maxL := 3) (ret := (some .int)) (by decide) rfl ?_
  intro p e s m args below meth c s₁ B hml hv
  obtain ⟨hav, hsz, hP, hK, hD0, hNw⟩ := hv
  have hx := B.exec
  have hb := B.bytes
  have hr := B.returns
  have hts := atoms_spec (ws := (wa yX11_hand cX11_hand 3 (some .int))) B.pre
  have hw := wa_hw hts
  have hown : s.vm.findClass RX11 = some m.cls := findClass_of_methodNamed B.named
  have hlocks := B.notSynchronized
  subst hsz
  have hG : gG D cy ad (gA ad s.heap.size) s.heap h g s.heap [] := ⟨hP, gA_self hD0, va_S.rf⟩
  clear hP hD0
  have cn292 := hw (.constantLong RX11 292 (15)) (wm6 191 rfl rfl)
  have cn258 := hw (.constantLong RX11 258 (9)) (wm6 120 rfl rfl)
  have lk7 := hw (.fieldLink RX11 7 "OldWorksModel" "st" "[I") (wm5 27 rfl rfl)
  rw [show (headSpec (wa yX11_hand cX11_hand 3 (some .int)) ({ frames := 1, cells := 0, slots := 0, locals := 25 } : Room)).room = ({ frames := 1, cells := 0, slots := 0, locals := 25 } : Room) from rfl]
  have hl := lv_entry ([.ref (ad 135), .int x1, .int x2]) (n := 3) (Nat.le_of_ble_eq_true rfl)
  rw [show entryFrame m args 3 = entryFrame m ([.ref (ad 135), .int x1, .int x2] : List Value).toArray 3 from by rw [hav], lg_entry_eq]
  generalize (lg_sl ([.ref (ad 135), .int x1, .int x2]) ++ List.replicate (3 - (lg_sl ([.ref (ad 135), .int x1, .int x2])).length) Slot.unset).toArray = ls at hl ⊢
  have hl : lv_has ls 3 [(0, .ref (ad 135)), (1, .int x1), (2, .int x2)] := hl
  have E0 : ∀ (H : Heap) (locs : List Loc) (ls : Array Slot), gG D cy ad (gA ad s.heap.size) s.heap h g H locs → lv_has ls 3 [(0, .ref (ad 135)), (1, .int x1), (2, .int x2)] → W p l e ({ frames := 1, cells := 0, slots := 0, locals := 25 } : Room) s m args below meth c H locs 0 0 (MQ below (va_Qi (fun (r : Int32) (u : HI × HL) => Q r u.1 u.2) (gB D cy ad s.heap.size) (gA ad s.heap.size)) args s 0 0 (gA ad s.heap.size)) (F0 m 0 ls []) := by
    intro H locs ls hG hl
    unfold w_X11_hand at HW
    refine lv_iload_n hx hb dX11_hand_0 rfl (lv_at hl 1 rfl) ?_
    refine lv_i2l hx hb dX11_hand_1 rfl ?_
    refine lv_lconst (v := 0) hx hb dX11_hand_2 (by decide) ?_
    refine lv_ldc2 (v := 15) hx hb hown cn292 dX11_hand_3 ?_
    obtain ⟨P_6, HC_6, HW⟩ := HW
    refine g_callz (g_runS (As := [.long ((x1).toInt64), .long (0 : Int64), .long (15 : Int64)]) (rest := []) ⟨hx, hb, hml, hown, hts⟩ (m_X11_in l D cy ad h g H.size ((x1).toInt64) (0 : Int64) (15 : Int64) P_6 HC_6) (va_cwS 3 hts (gd_S (wm5 111 rfl rfl) (wm5 112 rfl rfl) (wm1 13 rfl rfl) (wm5 113 rfl rfl)) rfl rfl rfl (by decide +kernel) ⟨Nat.le_of_ble_eq_true rfl, Nat.le_of_ble_eq_true rfl⟩) hK hNw hG rfl rfl hl.1 rfl (lv_room (Nat.le_of_ble_eq_true rfl)) dX11_hand_6 ⟨Nat.zero_le _, Nat.zero_le _⟩) hG (fun r_6 h_6 g_6 H locs hz hq hG => ?_)
    replace HW := HW r_6 h_6 g_6 hz hq
    refine lv_if_eq (tgt := 24) hx hb dX11_hand_9 (by decide) (fun c_9 => ?_) (fun c_9 => ?_)
    · replace HW := HW.1 c_9
      refine lv_bipush (v := (-2)) hx hb dX11_hand_24 (by decide) ?_
      exact W.iret (v := (-2 : Int32)) hx hb hr (fun t ht hW => ⟨⟨(-2 : Int32), (h_6, g_6), rfl, HW, g_B ht hG⟩, hG.2.2.F ht⟩) hG.2.2.2.2 dX11_hand_26
    · replace HW := HW.2 c_9
      refine lv_iload_n hx hb dX11_hand_12 rfl (lv_at hl 2 rfl) ?_
      refine lv_i2l hx hb dX11_hand_13 rfl ?_
      refine lv_lconst (v := 0) hx hb dX11_hand_14 (by decide) ?_
      refine lv_ldc2 (v := 9) hx hb hown cn258 dX11_hand_15 ?_
      obtain ⟨P_18, HC_18, HW⟩ := HW
      refine g_callz (g_runS (As := [.long ((x2).toInt64), .long (0 : Int64), .long (9 : Int64)]) (rest := []) ⟨hx, hb, hml, hown, hts⟩ (m_X11_in l D cy ad h_6 g_6 H.size ((x2).toInt64) (0 : Int64) (9 : Int64) P_18 HC_18) (va_cwS 3 hts (gd_S (wm5 111 rfl rfl) (wm5 112 rfl rfl) (wm1 13 rfl rfl) (wm5 113 rfl rfl)) rfl rfl rfl (by decide +kernel) ⟨Nat.le_of_ble_eq_true rfl, Nat.le_of_ble_eq_true rfl⟩) hK hNw hG rfl rfl hl.1 rfl (lv_room (Nat.le_of_ble_eq_true rfl)) dX11_hand_18 ⟨Nat.zero_le _, Nat.zero_le _⟩) hG (fun r_18 h_18 g_18 H locs hz hq hG => ?_)
      replace HW := HW r_18 h_18 g_18 hz hq
      refine lv_if_ne (tgt := 27) hx hb dX11_hand_21 (by decide) (fun c_21 => ?_) (fun c_21 => ?_)
      · replace HW := HW.1 c_21
        refine lv_aload_n hx hb dX11_hand_27 rfl (lv_at hl 0 rfl) ?_
        refine g_getr hx hb hw inG11 hown hK hG gl_135 rfl gk_135 (by decide) 0 (by decide) (by rw [gm_135]; decide) (r := 136) gr_135_0 lk7 dX11_hand_28 ?_
        refine lv_bipush (v := 7) hx hb dX11_hand_31 (by decide) ?_
        refine g_iald hx hb hK hG gl_136 gk_136 gn_136 HW.1 dX11_hand_33 ?_
        replace HW := HW.2
        refine lv_iconst (v := 3) hx hb dX11_hand_34 (by decide) ?_
        refine lv_icmp_ne (tgt := 41) hx hb dX11_hand_35 (by decide) (fun c_35 => ?_) (fun c_35 => ?_)
        · replace HW := HW.1 c_35
          refine lv_aload_n hx hb dX11_hand_41 rfl (lv_at hl 0 rfl) ?_
          refine g_getr hx hb hw inG11 hown hK hG gl_135 rfl gk_135 (by decide) 0 (by decide) (by rw [gm_135]; decide) (r := 136) gr_135_0 lk7 dX11_hand_42 ?_
          refine lv_sipush (v := 817) hx hb dX11_hand_45 (by decide) ?_
          refine lv_iconst (v := 2) hx hb dX11_hand_48 (by decide) ?_
          refine lv_aload_n hx hb dX11_hand_49 rfl (lv_at hl 0 rfl) ?_
          refine g_getr hx hb hw inG11 hown hK hG gl_135 rfl gk_135 (by decide) 0 (by decide) (by rw [gm_135]; decide) (r := 136) gr_135_0 lk7 dX11_hand_50 ?_
          refine lv_bipush (v := 7) hx hb dX11_hand_53 (by decide) ?_
          refine g_iald hx hb hK hG gl_136 gk_136 gn_136 HW.1 dX11_hand_55 ?_
          replace HW := HW.2
          refine lv_imul hx hb dX11_hand_56 ?_
          refine lv_iadd hx hb dX11_hand_57 ?_
          refine lv_iload_n hx hb dX11_hand_58 rfl (lv_at hl 1 rfl) ?_
          refine g_iast hx hb hK hG gl_136 gk_136 gn_136 HW.1 dX11_hand_59 (fun H locs hG => ?_)
          replace HW := HW.2
          obtain ⟨h_59, eh_59⟩ : ∃ y : HI, y = hu h_18 136 ((817 : Int32) + ((2 : Int32) * (h_18 136 (7 : Int32).toNatClampNeg))).toNatClampNeg x1 := ⟨_, rfl⟩
          rw [← eh_59] at hG
          replace HW := HW h_59 eh_59
          refine lv_aload_n hx hb dX11_hand_60 rfl (lv_at hl 0 rfl) ?_
          refine g_getr hx hb hw inG11 hown hK hG gl_135 rfl gk_135 (by decide) 0 (by decide) (by rw [gm_135]; decide) (r := 136) gr_135_0 lk7 dX11_hand_61 ?_
          refine lv_sipush (v := 817) hx hb dX11_hand_64 (by decide) ?_
          refine lv_iconst (v := 2) hx hb dX11_hand_67 (by decide) ?_
          refine lv_aload_n hx hb dX11_hand_68 rfl (lv_at hl 0 rfl) ?_
          refine g_getr hx hb hw inG11 hown hK hG gl_135 rfl gk_135 (by decide) 0 (by decide) (by rw [gm_135]; decide) (r := 136) gr_135_0 lk7 dX11_hand_69 ?_
          refine lv_bipush (v := 7) hx hb dX11_hand_72 (by decide) ?_
          refine g_iald hx hb hK hG gl_136 gk_136 gn_136 HW.1 dX11_hand_74 ?_
          replace HW := HW.2
          refine lv_imul hx hb dX11_hand_75 ?_
          refine lv_iadd hx hb dX11_hand_76 ?_
          refine lv_iconst (v := 1) hx hb dX11_hand_77 (by decide) ?_
          refine lv_iadd hx hb dX11_hand_78 ?_
          refine lv_iload_n hx hb dX11_hand_79 rfl (lv_at hl 2 rfl) ?_
          refine g_iast hx hb hK hG gl_136 gk_136 gn_136 HW.1 dX11_hand_80 (fun H locs hG => ?_)
          replace HW := HW.2
          obtain ⟨h_80, eh_80⟩ : ∃ y : HI, y = hu h_59 136 (((817 : Int32) + ((2 : Int32) * (h_59 136 (7 : Int32).toNatClampNeg))) + (1 : Int32)).toNatClampNeg x2 := ⟨_, rfl⟩
          rw [← eh_80] at hG
          replace HW := HW h_80 eh_80
          refine lv_aload_n hx hb dX11_hand_81 rfl (lv_at hl 0 rfl) ?_
          refine lv_bipush (v := 7) hx hb dX11_hand_82 (by decide) ?_
          obtain ⟨P_84, HC_84, HW⟩ := HW
          refine g_calli (g_runV (As := [.int (7 : Int32)]) (rest := []) ⟨hx, hb, hml, hown, hts⟩ (m_X11_one l D cy ad h_80 g_18 H.size (7 : Int32) P_84 HC_84) (cwV 1 hts (gd_V (wm5 120 rfl rfl) (wm5 122 rfl rfl) (wmp3 (q := (yX11_one, 26)) 7 rfl) (wm1 13 rfl rfl) (wm5 123 rfl rfl)) rfl rfl rfl (by decide +kernel) ⟨Nat.le_of_ble_eq_true rfl, Nat.le_of_ble_eq_true rfl⟩) hK hNw hG gl_135 rfl gk_135 (by decide) rfl rfl hl.1 rfl (lv_room (Nat.le_of_ble_eq_true rfl)) dX11_hand_84 ⟨Nat.zero_le _, Nat.zero_le _⟩) hG (fun r_84 h_84 g_84 H locs hq hG => ?_)
          replace HW := HW r_84 h_84 g_84 hq
          exact W.iret (v := r_84) hx hb hr (fun t ht hW => ⟨⟨r_84, (h_84, g_84), rfl, HW, g_B ht hG⟩, hG.2.2.F ht⟩) hG.2.2.2.2 dX11_hand_87
        · replace HW := HW.2 c_35
          refine lv_bipush (v := (-4)) hx hb dX11_hand_38 (by decide) ?_
          exact W.iret (v := (-4 : Int32)) hx hb hr (fun t ht hW => ⟨⟨(-4 : Int32), (h_18, g_18), rfl, HW, g_B ht hG⟩, hG.2.2.F ht⟩) hG.2.2.2.2 dX11_hand_40
      · replace HW := HW.2 c_21
        refine lv_bipush (v := (-2)) hx hb dX11_hand_24 (by decide) ?_
        exact W.iret (v := (-2 : Int32)) hx hb hr (fun t ht hW => ⟨⟨(-2 : Int32), (h_18, g_18), rfl, HW, g_B ht hG⟩, hG.2.2.F ht⟩) hG.2.2.2.2 dX11_hand_26
  exact E0 _ _ _ hG hl
