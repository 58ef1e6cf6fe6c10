def j_X11_deny_57 (Q : Int32 → HI → HL → Prop) (s1 : Int32) (s2 : Int32) (h : HI) (g : HL) : Prop :=
  (vp_in s1 887 ∧ ∀ h_57 : HI, h_57 = hu h 136 s1.toNatClampNeg s2 → Q (1 : Int32) h_57 g)
def j_X11_deny_27 (Q : Int32 → HI → HL → Prop) (x1 : Int32) (x2 : Int32) (s0 : Int32) (h : HI) (g : HL) : Prop :=
  ((¬ s0 = x2 → ((x2 = 0 → j_X11_deny_57 Q (((152 : Int32) + ((6 : Int32) * x1)) + (5 : Int32)) (0 : Int32) h g) ∧ (¬ x2 = 0 → j_X11_deny_57 Q (((152 : Int32) + ((6 : Int32) * x1)) + (5 : Int32)) (1 : Int32) h g))) ∧ (s0 = x2 → Q (-3 : Int32) h g))
def w_X11_deny (x1 : Int32) (x2 : Int32) (h : HI) (g : HL) (Q : Int32 → HI → HL → Prop) : Prop :=
  (∃ P_3 : Int32 → HI → HL → Prop, w_X11_is (1 : Int32) x1 h g P_3 ∧ ∀ (r_3 : Int32) (h_3 : HI) (g_3 : HL), zb r_3 → P_3 r_3 h_3 g_3 → ((¬ r_3 = 0 → (∃ P_15 : Int32 → HI → HL → Prop, w_X11_sayOf x1 (5 : Int32) h_3 g_3 P_15 ∧ ∀ (r_15 : Int32) (h_15 : HI) (g_15 : HL), P_15 r_15 h_15 g_15 → ((¬ r_15 = (1 : Int32) → j_X11_deny_27 Q x1 x2 (0 : Int32) h_15 g_15) ∧ (r_15 = (1 : Int32) → j_X11_deny_27 Q x1 x2 (1 : Int32) h_15 g_15)))) ∧ (r_3 = 0 → Q (-2 : Int32) h_3 g_3)))
set_option maxHeartbeats 8000000 in
set_option maxRecDepth 100000 in
theorem m_X11_deny (l : Launch) (D : va_G) (cy : Nat → ClassId) (ad : Nat → Nat) (h : HI) (g : HL) (sz : Nat) (x1 : Int32) (x2 : Int32) (Q : Int32 → HI → HL → Prop) (HW : w_X11_deny x1 x2 h g Q) : Met l yX11_deny (wa yX11_deny cX11_deny 3 (some .int)) ({ frames := 2, cells := 0, slots := 0, locals := 47 }) (va_Pc [.ref (ad 135), .int x1, .int x2] (gI D cy ad h g sz)) (va_Qi (fun (r : Int32) (u : HI × HL) => Q r u.1 u.2) (gB D cy ad sz) (gA ad sz)) 0 0 (gA ad sz) := by
  refine Met.ofW (cc := cX11_deny) (maxL := 3) (ret := (some .int)) (by decide) rfl ?_
  intro p e s m args below meth c s₁ B hml hv
  obtain ⟨hav, hsz, hP, hK, hD0, hNw⟩ := hv
  have hx := B.exec
  have hb := B.bytes
  have hr := B.returns
  have hts := atoms_spec (ws := (wa yX11_deny cX11_deny 3 (some .int))) B.pre
  have hw := wa_hw hts
  have hown : s.vm.findClass RX11 = some m.cls := findClass_of_methodNamed B.named
  have hlocks := B.notSynchronized
  subst hsz
  have hG : gG D cy ad (gA ad s.heap.size) s.heap h g s.heap [] := ⟨hP, gA_self hD0, va_S.rf⟩
  clear hP hD0
  have lk7 := hw (.fieldLink RX11 7 "OldWorksModel" "st" "[I") (wm5 27 rfl rfl)
  rw [show (headSpec (wa yX11_deny cX11_deny 3 (some .int)) ({ frames := 2, cells := 0, slots := 0, locals := 47 } : Room)).room = ({ frames := 2, cells := 0, slots := 0, locals := 47 } : Room) from rfl]
  have hl := lv_entry ([.ref (ad 135), .int x1, .int x2]) (n := 3) (Nat.le_of_ble_eq_true rfl)
  rw [show entryFrame m args 3 = entryFrame m ([.ref (ad 135), .int x1, .int x2] : List Value).toArray 3 from by rw [hav], lg_entry_eq]
  generalize (lg_sl ([.ref (ad 135), .int x1, .int x2]) ++ List.replicate (3 - (lg_sl ([.ref (ad 135), .int x1, .int x2])).length) Slot.unset).toArray = ls at hl ⊢
  have hl : lv_has ls 3 [(0, .ref (ad 135)), (1, .int x1), (2, .int x2)] := hl
  have B57 : ∀ (s1 : Int32) (s2 : Int32) (h : HI) (g : HL) (H : Heap) (locs : List Loc) (ls : Array Slot), j_X11_deny_57 Q s1 s2 h g → gG D cy ad (gA ad s.heap.size) s.heap h g H locs → lv_has ls 3 [] → W p l e ({ frames := 2, cells := 0, slots := 0, locals := 47 } : Room) s m args below meth c H locs 0 0 (MQ below (va_Qi (fun (r : Int32) (u : HI × HL) => Q r u.1 u.2) (gB D cy ad s.heap.size) (gA ad s.heap.size)) args s 0 0 (gA ad s.heap.size)) (F0 m 57 ls [.int s2, .int s1, .ref (ad 136)]) := by
    intro s1 s2 h g H locs ls HW hG hl
    unfold j_X11_deny_57 at HW
    refine g_iast hx hb hK hG gl_136 gk_136 gn_136 HW.1 dX11_deny_57 (fun H locs hG => ?_)
    replace HW := HW.2
    obtain ⟨h_57, eh_57⟩ : ∃ y : HI, y = hu h 136 s1.toNatClampNeg s2 := ⟨_, rfl⟩
    rw [← eh_57] at hG
    replace HW := HW h_57 eh_57
    refine lv_iconst (v := 1) hx hb dX11_deny_58 (by decide) ?_
    exact W.iret (v := (1 : Int32)) hx hb hr (fun t ht hW => ⟨⟨(1 : Int32), (h_57, g), rfl, HW, g_B ht hG⟩, hG.2.2.F ht⟩) hG.2.2.2.2 dX11_deny_59
  have B27 : ∀ (x1 : Int32) (x2 : Int32) (s0 : Int32) (h : HI) (g : HL) (H : Heap) (locs : List Loc) (ls : Array Slot), j_X11_deny_27 Q x1 x2 s0 h g → gG D cy ad (gA ad s.heap.size) s.heap h g H locs → lv_has ls 3 [(0, .ref (ad 135)), (1, .int x1), (2, .int x2)] → W p l e ({ frames := 2, cells := 0, slots := 0, locals := 47 } : Room) s m args below meth c H locs 0 0 (MQ below (va_Qi (fun (r : Int32) (u : HI × HL) => Q r u.1 u.2) (gB D cy ad s.heap.size) (gA ad s.heap.size)) args s 0 0 (gA ad s.heap.size)) (F0 m 27 ls [.int s0]) := by
    intro x1 x2 s0 h g H locs ls HW hG hl
    unfold j_X11_deny_27 at HW
    refine lv_iload_n hx hb dX11_deny_27 rfl (lv_at hl 2 rfl) ?_
    refine lv_icmp_ne (tgt := 34) hx hb dX11_deny_28 (by decide) (fun c_28 => ?_) (fun c_28 => ?_)
    · replace HW := HW.1 c_28
      refine lv_aload_n hx hb dX11_deny_34 rfl (lv_at hl 0 rfl) ?_
      refine g_getr hx hb hw inG11 hown hK hG gl_135 rfl gk_135 (by decide) 0 (by decide) (by rw [gm_135]; decide) (r := 136) gr_135_0 lk7 dX11_deny_35 ?_
      refine lv_sipush (v := 152) hx hb dX11_deny_38 (by decide) ?_
      refine lv_bipush (v := 6) hx hb dX11_deny_41 (by decide) ?_
      refine lv_iload_n hx hb dX11_deny_43 rfl (lv_at hl 1 rfl) ?_
      refine lv_imul hx hb dX11_deny_44 ?_
      refine lv_iadd hx hb dX11_deny_45 ?_
      refine lv_iconst (v := 5) hx hb dX11_deny_46 (by decide) ?_
      refine lv_iadd hx hb dX11_deny_47 ?_
      refine lv_iload_n hx hb dX11_deny_48 rfl (lv_at hl 2 rfl) ?_
      refine lv_if_eq (tgt := 56) hx hb dX11_deny_49 (by decide) (fun c_49 => ?_) (fun c_49 => ?_)
      · replace HW := HW.1 c_49
        refine lv_iconst (v := 0) hx hb dX11_deny_56 (by decide) ?_
        exact B57 (((152 : Int32) + ((6 : Int32) * x1)) + (5 : Int32)) (0 : Int32) h g _ _ _ HW hG (lv_sub hl [] rfl)
      · replace HW := HW.2 c_49
        refine lv_iconst (v := 1) hx hb dX11_deny_52 (by decide) ?_
        refine lv_goto (tgt := 57) hx hb dX11_deny_53 (by decide) ?_
        exact B57 (((152 : Int32) + ((6 : Int32) * x1)) + (5 : Int32)) (1 : Int32) h g _ _ _ HW hG (lv_sub hl [] rfl)
    · replace HW := HW.2 c_28
      refine lv_bipush (v := (-3)) hx hb dX11_deny_31 (by decide) ?_
      exact W.iret (v := (-3 : Int32)) hx hb hr (fun t ht hW => ⟨⟨(-3 : Int32), (h, g), rfl, HW, g_B ht hG⟩, hG.2.2.F ht⟩) hG.2.2.2.2 dX11_deny_33
  have E0 : ∀ (H : Heap) (locs : List Loc) (ls : Array Slot), gG D cy ad (gA ad s.heap.size) s.heap h g H locs → lv_has ls 3 [(0, .ref (ad 135)), (1, .int x1), (2, .int x2)] → W p l e ({ frames := 2, cells := 0, slots := 0, locals := 47 } : Room) s m args below meth c H locs 0 0 (MQ below (va_Qi (fun (r : Int32) (u : HI × HL) => Q r u.1 u.2) (gB D cy ad s.heap.size) (gA ad s.heap.size)) args s 0 0 (gA ad s.heap.size)) (F0 m 0 ls []) := by
    intro H locs ls hG hl
    unfold w_X11_deny at HW
    refine lv_aload_n hx hb dX11_deny_0 rfl (lv_at hl 0 rfl) ?_
    refine lv_iconst (v := 1) hx hb dX11_deny_1 (by decide) ?_
    refine lv_iload_n hx hb dX11_deny_2 rfl (lv_at hl 1 rfl) ?_
    obtain ⟨P_3, HC_3, HW⟩ := HW
    refine g_callz (g_runV (As := [.int (1 : Int32), .int x1]) (rest := []) ⟨hx, hb, hml, hown, hts⟩ (m_X11_is l D cy ad h g H.size (1 : Int32) x1 P_3 HC_3) (cwV 2 hts (gd_V (wm5 184 rfl rfl) (wm5 186 rfl rfl) (wmp3 (q := (yX11_is, 26)) 14 rfl) (wm1 13 rfl rfl) (wm5 187 rfl rfl)) rfl rfl rfl (by decide +kernel) ⟨Nat.le_of_ble_eq_true rfl, Nat.le_of_ble_eq_true rfl⟩) hK hNw hG gl_135 rfl gk_135 (by decide) rfl rfl hl.1 rfl (lv_room (Nat.le_of_ble_eq_true rfl)) dX11_deny_3 ⟨Nat.zero_le _, Nat.zero_le _⟩) hG (fun r_3 h_3 g_3 H locs hz hq hG => ?_)
    replace HW := HW r_3 h_3 g_3 hz hq
    refine lv_if_ne (tgt := 12) hx hb dX11_deny_6 (by decide) (fun c_6 => ?_) (fun c_6 => ?_)
    · replace HW := HW.1 c_6
      refine lv_aload_n hx hb dX11_deny_12 rfl (lv_at hl 0 rfl) ?_
      refine lv_iload_n hx hb dX11_deny_13 rfl (lv_at hl 1 rfl) ?_
      refine lv_iconst (v := 5) hx hb dX11_deny_14 (by decide) ?_
      obtain ⟨P_15, HC_15, HW⟩ := HW
      refine g_calli (g_runV (As := [.int x1, .int (5 : Int32)]) (rest := []) ⟨hx, hb, hml, hown, hts⟩ (m_X11_sayOf l D cy ad h_3 g_3 H.size x1 (5 : Int32) P_15 HC_15) (cwV 2 hts (gd_V (wm5 213 rfl rfl) (wm5 215 rfl rfl) (wmp4 (q := (yX11_sayOf, 26)) 2 rfl) (wm1 13 rfl rfl) (wm5 216 rfl rfl)) rfl rfl rfl (by decide +kernel) ⟨Nat.le_of_ble_eq_true rfl, Nat.le_of_ble_eq_true rfl⟩) hK hNw hG gl_135 rfl gk_135 (by decide) rfl rfl hl.1 rfl (lv_room (Nat.le_of_ble_eq_true rfl)) dX11_deny_15 ⟨Nat.zero_le _, Nat.zero_le _⟩) hG (fun r_15 h_15 g_15 H locs hq hG => ?_)
      replace HW := HW r_15 h_15 g_15 hq
      refine lv_iconst (v := 1) hx hb dX11_deny_18 (by decide) ?_
      refine lv_icmp_ne (tgt := 26) hx hb dX11_deny_19 (by decide) (fun c_19 => ?_) (fun c_19 => ?_)
      · replace HW := HW.1 c_19
        refine lv_iconst (v := 0) hx hb dX11_deny_26 (by decide) ?_
        exact B27 x1 x2 (0 : Int32) h_15 g_15 _ _ _ HW hG (lv_sub hl [0, 1, 2] rfl)
      · replace HW := HW.2 c_19
        refine lv_iconst (v := 1) hx hb dX11_deny_22 (by decide) ?_
        refine lv_goto (tgt := 27) hx hb dX11_deny_23 (by decide) ?_
        exact B27 x1 x2 (1 : Int32) h_15 g_15 _ _ _ HW hG (lv_sub hl [0, 1, 2] rfl)
    · replace HW := HW.2 c_6
      refine lv_bipush (v := (-2)) hx hb dX11_deny_9 (by decide) ?_
      exact W.iret (v := (-2 : Int32)) hx hb hr (fun t ht hW => ⟨⟨(-2 : Int32), (h_3, g_3), rfl, HW, g_B ht hG⟩, hG.2.2.F ht⟩) hG.2.2.2.2 dX11_deny_11
  exact E0 _ _ _ hG hl

def j_X11_lets_87 (Q : HI → HL → Prop) (s1 : Int32) (h : HI) (g : HL) : Prop :=
  (∀ h_87 : HI, h_87 = hu h 135 10 s1 → Q h_87 g)
def j_X11_lets_58 (Q : HI → HL → Prop) (x1 : Int32) (x2 : Int32) (x3 : Int32) (s1 : Int32) (h : HI) (g : HL) : Prop :=
  (∀ h_58 : HI, h_58 = hu h 135 9 s1 → ((¬ x2 = (3 : Int32) → (∃ P_75 : Int32 → HI → HL → Prop, w_X11_sayOf x1 (2 : Int32) h_58 g P_75 ∧ ∀ (r_75 : Int32) (h_75 : HI) (g_75 : HL), P_75 r_75 h_75 g_75 → (∃ P_81 : Int32 → HI → HL → Prop, w_X11_sayOf x1 (3 : Int32) h_75 g_75 P_81 ∧ ∀ (r_81 : Int32) (h_81 : HI) (g_81 : HL), P_81 r_81 h_81 g_81 → j_X11_lets_87 Q ((r_75 + r_81) + x3) h_81 g_81))) ∧ (x2 = (3 : Int32) → j_X11_lets_87 Q (300000 : Int32) h_58 g)))
def j_X11_lets_31 (Q : HI → HL → Prop) (x1 : Int32) (x2 : Int32) (s0 : Int32) (h : HI) (g : HL) : Prop :=
  ((¬ x2 = (2 : Int32) → (∃ P_46 : Int32 → HI → HL → Prop, w_X11_sayOf x1 (2 : Int32) h g P_46 ∧ ∀ (r_46 : Int32) (h_46 : HI) (g_46 : HL), P_46 r_46 h_46 g_46 → (∃ P_52 : Int32 → HI → HL → Prop, w_X11_sayOf x1 (3 : Int32) h_46 g_46 P_52 ∧ ∀ (r_52 : Int32) (h_52 : HI) (g_52 : HL), P_52 r_52 h_52 g_52 → j_X11_lets_58 Q x1 x2 s0 ((r_46 - r_52) + s0) h_52 g_52))) ∧ (x2 = (2 : Int32) → j_X11_lets_58 Q x1 x2 s0 (-100000 : Int32) h g))
def w_X11_lets (x1 : Int32) (h : HI) (g : HL) (Q : HI → HL → Prop) : Prop :=
  (∃ P_3 : Int32 → HI → HL → Prop, w_X11_sayOf x1 (1 : Int32) h g P_3 ∧ ∀ (r_3 : Int32) (h_3 : HI) (g_3 : HL), P_3 r_3 h_3 g_3 → ((¬ r_3 = 0 → j_X11_lets_31 Q x1 r_3 (0 : Int32) h_3 g_3) ∧ (r_3 = 0 → (∃ P_15 : Int32 → HI → HL → Prop, w_X11_sayOf x1 (0 : Int32) h_3 g_3 P_15 ∧ ∀ (r_15 : Int32) (h_15 : HI) (g_15 : HL), P_15 r_15 h_15 g_15 → (∃ P_21 : Int32 → HI → HL → Prop, w_X11_sayOf x1 (4 : Int32) h_15 g_15 P_21 ∧ ∀ (r_21 : Int32) (h_21 : HI) (g_21 : HL), P_21 r_21 h_21 g_21 → (∃ P_24 : Int32 → HI → HL → Prop, w_X11_wornOf r_15 r_21 h_21 g_21 P_24 ∧ ∀ (r_24 : Int32) (h_24 : HI) (g_24 : HL), P_24 r_24 h_24 g_24 → j_X11_lets_31 Q x1 r_3 r_24 h_24 g_24))))))
set_option maxHeartbeats 8000000 in
set_option maxRecDepth 100000 in
theorem m_X11_lets (l : Launch) (D : va_G) (cy : Nat → ClassId) (ad : Nat → Nat) (h : HI) (g : HL) (sz : Nat) (x1 : Int32) (Q : HI → HL → Prop) (HW : w_X11_lets x1 h g Q) : Met l yX11_lets (wa yX11_lets cX11_lets 4 none) ({ frames := 5, cells := 0, slots := 0, locals := 117 }) (va_Pc [.ref (ad 135), .int x1] (gI D cy ad h g sz)) (va_Qv (fun (u : HI × HL) => Q u.1 u.2) (gB D cy ad sz) (gA ad sz)) 0 0 (gA ad sz) := by
  refine Met.ofW (cc := cX11_lets) (maxL := 4) (ret := none) (by decide) rfl ?_
  intro p e s m args below meth c s₁ B hml hv
  obtain ⟨hav, hsz, hP, hK, hD0, hNw⟩ := hv
  have hx := B.exec
  have hb := B.bytes
  have hr := B.returns
  have hts := atoms_spec (ws := (wa yX11_lets cX11_lets 4 none)) B.pre
  have hw := wa_hw hts
  have hown : s.vm.findClass RX11 = some m.cls := findClass_of_methodNamed B.named
  have hlocks := B.notSynchronized
  subst hsz
  have hG : gG D cy ad (gA ad s.heap.size) s.heap h g s.heap [] := ⟨hP, gA_self hD0, va_S.rf⟩
  clear hP hD0
  have cn147 := hw (.constant RX11 147 (-100000)) (wm6 2 rfl rfl)
  have lk148 := hw (.fieldLink RX11 148 "OldWorksModel" "low" "I") (wm5 36 rfl rfl)
  have cn151 := hw (.constant RX11 151 (300000)) (wm6 3 rfl rfl)
  have lk152 := hw (.fieldLink RX11 152 "OldWorksModel" "high" "I") (wm5 37 rfl rfl)
  rw [show (headSpec (wa yX11_lets cX11_lets 4 none) ({ frames := 5, cells := 0, slots := 0, locals := 117 } : Room)).room = ({ frames := 5, cells := 0, slots := 0, locals := 117 } : Room) from rfl]
  have hl := lv_entry ([.ref (ad 135), .int x1]) (n := 4) (Nat.le_of_ble_eq_true rfl)
  rw [show entryFrame m args 4 = entryFrame m ([.ref (ad 135), .int x1] : List Value).toArray 4 from by rw [hav], lg_entry_eq]
  generalize (lg_sl ([.ref (ad 135), .int x1]) ++ List.replicate (4 - (lg_sl ([.ref (ad 135), .int x1])).length) Slot.unset).toArray = ls at hl ⊢
  have hl : lv_has ls 4 [(0, .ref (ad 135)), (1, .int x1)] := hl
  have B87 : ∀ (s1 : Int32) (h : HI) (g : HL) (H : Heap) (locs : List Loc) (ls : Array Slot), j_X11_lets_87 Q s1 h g → gG D cy ad (gA ad s.heap.size) s.heap h g H locs → lv_has ls 4 [] → W p l e ({ frames := 5, cells := 0, slots := 0, locals := 117 } : Room) s m args below meth c H locs 0 0 (MQ below (va_Qv (fun (u : HI × HL) => Q u.1 u.2) (gB D cy ad s.heap.size) (gA ad s.heap.size)) args s 0 0 (gA ad s.heap.size)) (F0 m 87 ls [.int s1, .ref (ad 135)]) := by
    intro s1 h g H locs ls HW hG hl
    unfold j_X11_lets_87 at HW
    refine g_put hx hb hw inG11 tyX11 tyX11_ok nmX11 hown hK hG gl_135 rfl gk_135 (by decide) 10 (by decide) (by rw [gm_135]; decide) gr_135_10 rfl (ty := .int) (by decide +kernel) rfl rfl lk152 dX11_lets_87 (fun H locs hG => ?_)
    obtain ⟨h_87, eh_87⟩ : ∃ y : HI, y = hu h 135 10 s1 := ⟨_, rfl⟩
    rw [← eh_87] at hG
    replace HW := HW h_87 eh_87
    exact W.vret hx hb hr (fun t ht hW => ⟨⟨(h_87, g), rfl, HW, g_B ht hG⟩, hG.2.2.F ht⟩) hG.2.2.2.2 dX11_lets_90
  have B58 : ∀ (x1 : Int32) (x2 : Int32) (x3 : Int32) (s1 : Int32) (h : HI) (g : HL) (H : Heap) (locs : List Loc) (ls : Array Slot), j_X11_lets_58 Q x1 x2 x3 s1 h g → gG D cy ad (gA ad s.heap.size) s.heap h g H locs → lv_has ls 4 [(0, .ref (ad 135)), (1, .int x1), (2, .int x2), (3, .int x3)] → W p l e ({ frames := 5, cells := 0, slots := 0, locals := 117 } : Room) s m args below meth c H locs 0 0 (MQ below (va_Qv (fun (u : HI × HL) => Q u.1 u.2) (gB D cy ad s.heap.size) (gA ad s.heap.size)) args s 0 0 (gA ad s.heap.size)) (F0 m 58 ls [.int s1, .ref (ad 135)]) := by
    intro x1 x2 x3 s1 h g H locs ls HW hG hl
    unfold j_X11_lets_58 at HW
    refine g_put hx hb hw inG11 tyX11 tyX11_ok nmX11 hown hK hG gl_135 rfl gk_135 (by decide) 9 (by decide) (by rw [gm_135]; decide) gr_135_9 rfl (ty := .int) (by decide +kernel) rfl rfl lk148 dX11_lets_58 (fun H locs hG => ?_)
    obtain ⟨h_58, eh_58⟩ : ∃ y : HI, y = hu h 135 9 s1 := ⟨_, rfl⟩
    rw [← eh_58] at hG
    replace HW := HW h_58 eh_58
    refine lv_aload_n hx hb dX11_lets_61 rfl (lv_at hl 0 rfl) ?_
    refine lv_iload_n hx hb dX11_lets_62 rfl (lv_at hl 2 rfl) ?_
    refine lv_iconst (v := 3) hx hb dX11_lets_63 (by decide) ?_
    refine lv_icmp_ne (tgt := 72) hx hb dX11_lets_64 (by decide) (fun c_64 => ?_) (fun c_64 => ?_)
    · replace HW := HW.1 c_64
      refine lv_aload_n hx hb dX11_lets_72 rfl (lv_at hl 0 rfl) ?_
      refine lv_iload_n hx hb dX11_lets_73 rfl (lv_at hl 1 rfl) ?_
      refine lv_iconst (v := 2) hx hb dX11_lets_74 (by decide) ?_
      obtain ⟨P_75, HC_75, HW⟩ := HW
      refine g_calli (g_runV (As := [.int x1, .int (2 : Int32)]) (rest := [.ref (ad 135)]) ⟨hx, hb, hml, hown, hts⟩ (m_X11_sayOf l D cy ad h_58 g H.size x1 (2 : Int32) P_75 HC_75) (cwV 2 hts (gd_V (wm5 213 rfl rfl) (wm5 215 rfl rfl) (wmp4 (q := (yX11_sayOf, 26)) 2 rfl) (wm1 13 rfl rfl) (wm5 216 rfl rfl)) rfl rfl rfl (by decide +kernel) ⟨Nat.le_of_ble_eq_true rfl, Nat.le_of_ble_eq_true rfl⟩) hK hNw hG gl_135 rfl gk_135 (by decide) rfl rfl hl.1 rfl (lv_room (Nat.le_of_ble_eq_true rfl)) dX11_lets_75 ⟨Nat.zero_le _, Nat.zero_le _⟩) hG (fun r_75 h_75 g_75 H locs hq hG => ?_)
      replace HW := HW r_75 h_75 g_75 hq
      refine lv_aload_n hx hb dX11_lets_78 rfl (lv_at hl 0 rfl) ?_
      refine lv_iload_n hx hb dX11_lets_79 rfl (lv_at hl 1 rfl) ?_
      refine lv_iconst (v := 3) hx hb dX11_lets_80 (by decide) ?_
      obtain ⟨P_81, HC_81, HW⟩ := HW
      refine g_calli (g_runV (As := [.int x1, .int (3 : Int32)]) (rest := [.int r_75, .ref (ad 135)]) ⟨hx, hb, hml, hown, hts⟩ (m_X11_sayOf l D cy ad h_75 g_75 H.size x1 (3 : Int32) P_81 HC_81) (cwV 2 hts (gd_V (wm5 213 rfl rfl) (wm5 215 rfl rfl) (wmp4 (q := (yX11_sayOf, 26)) 2 rfl) (wm1 13 rfl rfl) (wm5 216 rfl rfl)) rfl rfl rfl (by decide +kernel) ⟨Nat.le_of_ble_eq_true rfl, Nat.le_of_ble_eq_true rfl⟩) hK hNw hG gl_135 rfl gk_135 (by decide) rfl rfl hl.1 rfl (lv_room (Nat.le_of_ble_eq_true rfl)) dX11_lets_81 ⟨Nat.zero_le _, Nat.zero_le _⟩) hG (fun r_81 h_81 g_81 H locs hq hG => ?_)
      replace HW := HW r_81 h_81 g_81 hq
      refine lv_iadd hx hb dX11_lets_84 ?_
      refine lv_iload_n hx hb dX11_lets_85 rfl (lv_at hl 3 rfl) ?_
      refine lv_iadd hx hb dX11_lets_86 ?_
      exact B87 ((r_75 + r_81) + x3) h_81 g_81 _ _ _ HW hG (lv_sub hl [] rfl)
    · replace HW := HW.2 c_64
      refine lv_ldc (v := 300000) hx hb hown cn151 dX11_lets_67 ?_
      refine lv_goto (tgt := 87) hx hb dX11_lets_69 (by decide) ?_
      exact B87 (300000 : Int32) h_58 g _ _ _ HW hG (lv_sub hl [] rfl)
  have B31 : ∀ (x1 : Int32) (x2 : Int32) (s0 : Int32) (h : HI) (g : HL) (H : Heap) (locs : List Loc) (ls : Array Slot), j_X11_lets_31 Q x1 x2 s0 h g → gG D cy ad (gA ad s.heap.size) s.heap h g H locs → lv_has ls 4 [(0, .ref (ad 135)), (1, .int x1), (2, .int x2)] → W p l e ({ frames := 5, cells := 0, slots := 0, locals := 117 } : Room) s m args below meth c H locs 0 0 (MQ below (va_Qv (fun (u : HI × HL) => Q u.1 u.2) (gB D cy ad s.heap.size) (gA ad s.heap.size)) args s 0 0 (gA ad s.heap.size)) (F0 m 31 ls [.int s0]) := by
    intro x1 x2 s0 h g H locs ls HW hG hl
    unfold j_X11_lets_31 at HW
    refine lv_istore_n (lv' := [(3, .int s0), (0, .ref (ad 135)), (1, .int x1), (2, .int x2)]) hx hb dX11_lets_31 rfl hl (by decide) rfl (fun ls hl => ?_)
    refine lv_aload_n hx hb dX11_lets_32 rfl (lv_at hl 1 rfl) ?_
    refine lv_iload_n hx hb dX11_lets_33 rfl (lv_at hl 3 rfl) ?_
    refine lv_iconst (v := 2) hx hb dX11_lets_34 (by decide) ?_
    refine lv_icmp_ne (tgt := 43) hx hb dX11_lets_35 (by decide) (fun c_35 => ?_) (fun c_35 => ?_)
    · replace HW := HW.1 c_35
      refine lv_aload_n hx hb dX11_lets_43 rfl (lv_at hl 1 rfl) ?_
      refine lv_iload_n hx hb dX11_lets_44 rfl (lv_at hl 2 rfl) ?_
      refine lv_iconst (v := 2) hx hb dX11_lets_45 (by decide) ?_
      obtain ⟨P_46, HC_46, HW⟩ := HW
      refine g_calli (g_runV (As := [.int x1, .int (2 : Int32)]) (rest := [.ref (ad 135)]) ⟨hx, hb, hml, hown, hts⟩ (m_X11_sayOf l D cy ad h g H.size x1 (2 : Int32) P_46 HC_46) (cwV 2 hts (gd_V (wm5 213 rfl rfl) (wm5 215 rfl rfl) (wmp4 (q := (yX11_sayOf, 26)) 2 rfl) (wm1 13 rfl rfl) (wm5 216 rfl rfl)) rfl rfl rfl (by decide +kernel) ⟨Nat.le_of_ble_eq_true rfl, Nat.le_of_ble_eq_true rfl⟩) hK hNw hG gl_135 rfl gk_135 (by decide) rfl rfl hl.1 rfl (lv_room (Nat.le_of_ble_eq_true rfl)) dX11_lets_46 ⟨Nat.zero_le _, Nat.zero_le _⟩) hG (fun r_46 h_46 g_46 H locs hq hG => ?_)
      replace HW := HW r_46 h_46 g_46 hq
      refine lv_aload_n hx hb dX11_lets_49 rfl (lv_at hl 1 rfl) ?_
      refine lv_iload_n hx hb dX11_lets_50 rfl (lv_at hl 2 rfl) ?_
      refine lv_iconst (v := 3) hx hb dX11_lets_51 (by decide) ?_
      obtain ⟨P_52, HC_52, HW⟩ := HW
      refine g_calli (g_runV (As := [.int x1, .int (3 : Int32)]) (rest := [.int r_46, .ref (ad 135)]) ⟨hx, hb, hml, hown, hts⟩ (m_X11_sayOf l D cy ad h_46 g_46 H.size x1 (3 : Int32) P_52 HC_52) (cwV 2 hts (gd_V (wm5 213 rfl rfl) (wm5 215 rfl rfl) (wmp4 (q := (yX11_sayOf, 26)) 2 rfl) (wm1 13 rfl rfl) (wm5 216 rfl rfl)) rfl rfl rfl (by decide +kernel) ⟨Nat.le_of_ble_eq_true rfl, Nat.le_of_ble_eq_true rfl⟩) hK hNw hG gl_135 rfl gk_135 (by decide) rfl rfl hl.1 rfl (lv_room (Nat.le_of_ble_eq_true rfl)) dX11_lets_52 ⟨Nat.zero_le _, Nat.zero_le _⟩) hG (fun r_52 h_52 g_52 H locs hq hG => ?_)
      replace HW := HW r_52 h_52 g_52 hq
      refine lv_isub hx hb dX11_lets_55 ?_
      refine lv_iload_n hx hb dX11_lets_56 rfl (lv_at hl 0 rfl) ?_
      refine lv_iadd hx hb dX11_lets_57 ?_
      exact B58 x1 x2 s0 ((r_46 - r_52) + s0) h_52 g_52 _ _ _ HW hG (lv_sub hl [1, 2, 3, 0] rfl)
    · replace HW := HW.2 c_35
      refine lv_ldc (v := (-100000)) hx hb hown cn147 dX11_lets_38 ?_
      refine lv_goto (tgt := 58) hx hb dX11_lets_40 (by decide) ?_
      exact B58 x1 x2 s0 (-100000 : Int32) h g _ _ _ HW hG (lv_sub hl [1, 2, 3, 0] rfl)
  have E0 : ∀ (H : Heap) (locs : List Loc) (ls : Array Slot), gG D cy ad (gA ad s.heap.size) s.heap h g H locs → lv_has ls 4 [(0, .ref (ad 135)), (1, .int x1)] → W p l e ({ frames := 5, cells := 0, slots := 0, locals := 117 } : Room) s m args below meth c H locs 0 0 (MQ below (va_Qv (fun (u : HI × HL) => Q u.1 u.2) (gB D cy ad s.heap.size) (gA ad s.heap.size)) args s 0 0 (gA ad s.heap.size)) (F0 m 0 ls []) := by
    intro H locs ls hG hl
    unfold w_X11_lets at HW
    refine lv_aload_n hx hb dX11_lets_0 rfl (lv_at hl 0 rfl) ?_
    refine lv_iload_n hx hb dX11_lets_1 rfl (lv_at hl 1 rfl) ?_
    refine lv_iconst (v := 1) hx hb dX11_lets_2 (by decide) ?_
    obtain ⟨P_3, HC_3, HW⟩ := HW
    refine g_calli (g_runV (As := [.int x1, .int (1 : Int32)]) (rest := []) ⟨hx, hb, hml, hown, hts⟩ (m_X11_sayOf l D cy ad h g H.size x1 (1 : Int32) P_3 HC_3) (cwV 2 hts (gd_V (wm5 213 rfl rfl) (wm5 215 rfl rfl) (wmp4 (q := (yX11_sayOf, 26)) 2 rfl) (wm1 13 rfl rfl) (wm5 216 rfl rfl)) rfl rfl rfl (by decide +kernel) ⟨Nat.le_of_ble_eq_true rfl, Nat.le_of_ble_eq_true rfl⟩) hK hNw hG gl_135 rfl gk_135 (by decide) rfl rfl hl.1 rfl (lv_room (Nat.le_of_ble_eq_true rfl)) dX11_lets_3 ⟨Nat.zero_le _, Nat.zero_le _⟩) hG (fun r_3 h_3 g_3 H locs hq hG => ?_)
    replace HW := HW r_3 h_3 g_3 hq
    refine lv_istore_n (lv' := [(2, .int r_3), (0, .ref (ad 135)), (1, .int x1)]) hx hb dX11_lets_6 rfl hl (by decide) rfl (fun ls hl => ?_)
    refine lv_iload_n hx hb dX11_lets_7 rfl (lv_at hl 0 rfl) ?_
    refine lv_if_ne (tgt := 30) hx hb dX11_lets_8 (by decide) (fun c_8 => ?_) (fun c_8 => ?_)
    · replace HW := HW.1 c_8
      refine lv_iconst (v := 0) hx hb dX11_lets_30 (by decide) ?_
      exact B31 x1 r_3 (0 : Int32) h_3 g_3 _ _ _ HW hG (lv_sub hl [1, 2, 0] rfl)
    · replace HW := HW.2 c_8
      refine lv_aload_n hx hb dX11_lets_11 rfl (lv_at hl 1 rfl) ?_
      refine lv_aload_n hx hb dX11_lets_12 rfl (lv_at hl 1 rfl) ?_
      refine lv_iload_n hx hb dX11_lets_13 rfl (lv_at hl 2 rfl) ?_
      refine lv_iconst (v := 0) hx hb dX11_lets_14 (by decide) ?_
      obtain ⟨P_15, HC_15, HW⟩ := HW
      refine g_calli (g_runV (As := [.int x1, .int (0 : Int32)]) (rest := [.ref (ad 135)]) ⟨hx, hb, hml, hown, hts⟩ (m_X11_sayOf l D cy ad h_3 g_3 H.size x1 (0 : Int32) P_15 HC_15) (cwV 2 hts (gd_V (wm5 213 rfl rfl) (wm5 215 rfl rfl) (wmp4 (q := (yX11_sayOf, 26)) 2 rfl) (wm1 13 rfl rfl) (wm5 216 rfl rfl)) rfl rfl rfl (by decide +kernel) ⟨Nat.le_of_ble_eq_true rfl, Nat.le_of_ble_eq_true rfl⟩) hK hNw hG gl_135 rfl gk_135 (by decide) rfl rfl hl.1 rfl (lv_room (Nat.le_of_ble_eq_true rfl)) dX11_lets_15 ⟨Nat.zero_le _, Nat.zero_le _⟩) hG (fun r_15 h_15 g_15 H locs hq hG => ?_)
      replace HW := HW r_15 h_15 g_15 hq
      refine lv_aload_n hx hb dX11_lets_18 rfl (lv_at hl 1 rfl) ?_
      refine lv_iload_n hx hb dX11_lets_19 rfl (lv_at hl 2 rfl) ?_
      refine lv_iconst (v := 4) hx hb dX11_lets_20 (by decide) ?_
      obtain ⟨P_21, HC_21, HW⟩ := HW
      refine g_calli (g_runV (As := [.int x1, .int (4 : Int32)]) (rest := [.int r_15, .ref (ad 135)]) ⟨hx, hb, hml, hown, hts⟩ (m_X11_sayOf l D cy ad h_15 g_15 H.size x1 (4 : Int32) P_21 HC_21) (cwV 2 hts (gd_V (wm5 213 rfl rfl) (wm5 215 rfl rfl) (wmp4 (q := (yX11_sayOf, 26)) 2 rfl) (wm1 13 rfl rfl) (wm5 216 rfl rfl)) rfl rfl rfl (by decide +kernel) ⟨Nat.le_of_ble_eq_true rfl, Nat.le_of_ble_eq_true rfl⟩) hK hNw hG gl_135 rfl gk_135 (by decide) rfl rfl hl.1 rfl (lv_room (Nat.le_of_ble_eq_true rfl)) dX11_lets_21 ⟨Nat.zero_le _, Nat.zero_le _⟩) hG (fun r_21 h_21 g_21 H locs hq hG => ?_)
      replace HW := HW r_21 h_21 g_21 hq
      obtain ⟨P_24, HC_24, HW⟩ := HW
      refine g_calli (g_runV (As := [.int r_15, .int r_21]) (rest := []) ⟨hx, hb, hml, hown, hts⟩ (m_X11_wornOf l D cy ad h_21 g_21 H.size r_15 r_21 P_24 HC_24) (cwV 2 hts (gd_V (wm5 188 rfl rfl) (wm5 190 rfl rfl) (wmp3 (q := (yX11_wornOf, 26)) 15 rfl) (wm1 13 rfl rfl) (wm5 191 rfl rfl)) rfl rfl rfl (by decide +kernel) ⟨Nat.le_of_ble_eq_true rfl, Nat.le_of_ble_eq_true rfl⟩) hK hNw hG gl_135 rfl gk_135 (by decide) rfl rfl hl.1 rfl (lv_room (Nat.le_of_ble_eq_true rfl)) dX11_lets_24 ⟨Nat.zero_le _, Nat.zero_le _⟩) hG (fun r_24 h_24 g_24 H locs hq hG => ?_)
      replace HW := HW r_24 h_24 g_24 hq
      refine lv_goto (tgt := 31) hx hb dX11_lets_27 (by decide) ?_
      exact B31 x1 r_3 r_24 h_24 g_24 _ _ _ HW hG (lv_sub hl [1, 2, 0] rfl)
  exact E0 _ _ _ hG hl

def w_X11_isOf (x1 : Int32) (x2 : Int32) (h : HI) (g : HL) (Q : Int32 → HI → HL → Prop) : Prop :=
  (∃ P_3 : Int32 → HI → HL → Prop, w_X11_sayOf x1 (0 : Int32) h g P_3 ∧ ∀ (r_3 : Int32) (h_3 : HI) (g_3 : HL), P_3 r_3 h_3 g_3 → ((¬ r_3 = x2 → Q (0 : Int32) h_3 g_3) ∧ (r_3 = x2 → (∃ P_13 : Int32 → HI → HL → Prop, w_X11_sayOf x1 (5 : Int32) h_3 g_3 P_13 ∧ ∀ (r_13 : Int32) (h_13 : HI) (g_13 : HL), P_13 r_13 h_13 g_13 → ((¬ r_13 = 0 → Q (0 : Int32) h_13 g_13) ∧ (r_13 = 0 → Q (1 : Int32) h_13 g_13))))))
set_option maxHeartbeats 8000000 in
set_option maxRecDepth 100000 in
theorem m_X11_isOf (l : Launch) (D : va_G) (cy : Nat → ClassId) (ad : Nat → Nat) (h : HI) (g : HL) (sz : Nat) (x1 : Int32) (x2 : Int32) (Q : Int32 → HI → HL → Prop) (HW : w_X11_isOf x1 x2 h g Q) : Met l yX11_isOf (wa yX11_isOf cX11_isOf 3 (some .boolean)) ({ frames := 1, cells := 0, slots := 0, locals := 22 }) (va_Pc [.ref (ad 135), .int x1, .int x2] (gI D cy ad h g sz)) (va_Qi (fun (r : Int32) (u : HI × HL) => zb r ∧ Q r u.1 u.2) (gB D cy ad sz) (gA ad sz)) 0 0 (gA ad sz) := by
  refine Met.ofW (cc := cX11_isOf) (maxL := 3) (ret := (some .boolean)) (by decide) rfl ?_
  intro p e s m args below meth c s₁ B hml hv
  obtain ⟨hav, hsz, hP, hK, hD0, hNw⟩ := hv
  have hx := B.exec
  have hb := B.bytes
  have hr := B.returns
  have hts := atoms_spec (ws := (wa yX11_isOf cX11_isOf 3 (some .boolean))) B.pre
  have hw := wa_hw hts
  have hown : s.vm.findClass RX11 = some m.cls := findClass_of_methodNamed B.named
  have hlocks := B.notSynchronized
  subst hsz
  have hG : gG D cy ad (gA ad s.heap.size) s.heap h g s.heap [] := ⟨hP, gA_self hD0, va_S.rf⟩
  clear hP hD0
  rw [show (headSpec (wa yX11_isOf cX11_isOf 3 (some .boolean)) ({ frames := 1, cells := 0, slots := 0, locals := 22 } : Room)).room = ({ frames := 1, cells := 0, slots := 0, locals := 22 } : Room) from rfl]
  have hl := lv_entry ([.ref (ad 135), .int x1, .int x2]) (n := 3) (Nat.le_of_ble_eq_true rfl)
  rw [show entryFrame m args 3 = entryFrame m ([.ref (ad 135), .int x1, .int x2] : List Value).toArray 3 from by rw [hav], lg_entry_eq]
  generalize (lg_sl ([.ref (ad 135), .int x1, .int x2]) ++ List.replicate (3 - (lg_sl ([.ref (ad 135), .int x1, .int x2])).length) Slot.unset).toArray = ls at hl ⊢
  have hl : lv_has ls 3 [(0, .ref (ad 135)), (1, .int x1), (2, .int x2)] := hl
  have E0 : ∀ (H : Heap) (locs : List Loc) (ls : Array Slot), gG D cy ad (gA ad s.heap.size) s.heap h g H locs → lv_has ls 3 [(0, .ref (ad 135)), (1, .int x1), (2, .int x2)] → W p l e ({ frames := 1, cells := 0, slots := 0, locals := 22 } : Room) s m args below meth c H locs 0 0 (MQ below (va_Qi (fun (r : Int32) (u : HI × HL) => zb r ∧ Q r u.1 u.2) (gB D cy ad s.heap.size) (gA ad s.heap.size)) args s 0 0 (gA ad s.heap.size)) (F0 m 0 ls []) := by
    intro H locs ls hG hl
    unfold w_X11_isOf at HW
    refine lv_aload_n hx hb dX11_isOf_0 rfl (lv_at hl 0 rfl) ?_
    refine lv_iload_n hx hb dX11_isOf_1 rfl (lv_at hl 1 rfl) ?_
    refine lv_iconst (v := 0) hx hb dX11_isOf_2 (by decide) ?_
    obtain ⟨P_3, HC_3, HW⟩ := HW
    refine g_calli (g_runV (As := [.int x1, .int (0 : Int32)]) (rest := []) ⟨hx, hb, hml, hown, hts⟩ (m_X11_sayOf l D cy ad h g H.size x1 (0 : Int32) P_3 HC_3) (cwV 2 hts (gd_V (wm5 213 rfl rfl) (wm5 215 rfl rfl) (wmp4 (q := (yX11_sayOf, 26)) 2 rfl) (wm1 13 rfl rfl) (wm5 216 rfl rfl)) rfl rfl rfl (by decide +kernel) ⟨Nat.le_of_ble_eq_true rfl, Nat.le_of_ble_eq_true rfl⟩) hK hNw hG gl_135 rfl gk_135 (by decide) rfl rfl hl.1 rfl (lv_room (Nat.le_of_ble_eq_true rfl)) dX11_isOf_3 ⟨Nat.zero_le _, Nat.zero_le _⟩) hG (fun r_3 h_3 g_3 H locs hq hG => ?_)
    replace HW := HW r_3 h_3 g_3 hq
    refine lv_iload_n hx hb dX11_isOf_6 rfl (lv_at hl 2 rfl) ?_
    refine lv_icmp_ne (tgt := 23) hx hb dX11_isOf_7 (by decide) (fun c_7 => ?_) (fun c_7 => ?_)
    · replace HW := HW.1 c_7
      refine lv_iconst (v := 0) hx hb dX11_isOf_23 (by decide) ?_
      exact W.zret (v := (0 : Int32)) hx hb hr rfl (fun t ht hW => ⟨⟨(0 : Int32), (h_3, g_3), rfl, ⟨Or.inl rfl, HW⟩, g_B ht hG⟩, hG.2.2.F ht⟩) hG.2.2.2.2 dX11_isOf_24
    · replace HW := HW.2 c_7
      refine lv_aload_n hx hb dX11_isOf_10 rfl (lv_at hl 0 rfl) ?_
      refine lv_iload_n hx hb dX11_isOf_11 rfl (lv_at hl 1 rfl) ?_
      refine lv_iconst (v := 5) hx hb dX11_isOf_12 (by decide) ?_
      obtain ⟨P_13, HC_13, HW⟩ := HW
      refine g_calli (g_runV (As := [.int x1, .int (5 : Int32)]) (rest := []) ⟨hx, hb, hml, hown, hts⟩ (m_X11_sayOf l D cy ad h_3 g_3 H.size x1 (5 : Int32) P_13 HC_13) (cwV 2 hts (gd_V (wm5 213 rfl rfl) (wm5 215 rfl rfl) (wmp4 (q := (yX11_sayOf, 26)) 2 rfl) (wm1 13 rfl rfl) (wm5 216 rfl rfl)) rfl rfl rfl (by decide +kernel) ⟨Nat.le_of_ble_eq_true rfl, Nat.le_of_ble_eq_true rfl⟩) hK hNw hG gl_135 rfl gk_135 (by decide) rfl rfl hl.1 rfl (lv_room (Nat.le_of_ble_eq_true rfl)) dX11_isOf_13 ⟨Nat.zero_le _, Nat.zero_le _⟩) hG (fun r_13 h_13 g_13 H locs hq hG => ?_)
      replace HW := HW r_13 h_13 g_13 hq
      refine lv_if_ne (tgt := 23) hx hb dX11_isOf_16 (by decide) (fun c_16 => ?_) (fun c_16 => ?_)
      · replace HW := HW.1 c_16
        refine lv_iconst (v := 0) hx hb dX11_isOf_23 (by decide) ?_
        exact W.zret (v := (0 : Int32)) hx hb hr rfl (fun t ht hW => ⟨⟨(0 : Int32), (h_13, g_13), rfl, ⟨Or.inl rfl, HW⟩, g_B ht hG⟩, hG.2.2.F ht⟩) hG.2.2.2.2 dX11_isOf_24
      · replace HW := HW.2 c_16
        refine lv_iconst (v := 1) hx hb dX11_isOf_19 (by decide) ?_
        refine lv_goto (tgt := 24) hx hb dX11_isOf_20 (by decide) ?_
        exact W.zret (v := (1 : Int32)) hx hb hr rfl (fun t ht hW => ⟨⟨(1 : Int32), (h_13, g_13), rfl, ⟨Or.inr rfl, HW⟩, g_B ht hG⟩, hG.2.2.F ht⟩) hG.2.2.2.2 dX11_isOf_24
  exact E0 _ _ _ hG hl

def j_X11_findFamily_84 (Q : HI → HL → Prop) (s1 : Int32) (h : HI) (g : HL) : Prop :=
  (∀ h_84 : HI, h_84 = hu h 135 13 s1 → Q h_84 g)
def j_X11_findFamily_56 (Q : HI → HL → Prop) (x2 : Int32) (s1 : Int32) (h : HI) (g : HL) : Prop :=
  (∀ h_56 : HI, h_56 = hu h 135 12 s1 → ((¬ x2 = (-1 : Int32) → (vp_in (((140 : Int32) + ((3 : Int32) * x2)) + (2 : Int32)) 887 ∧ j_X11_findFamily_84 Q (h_56 136 (((140 : Int32) + ((3 : Int32) * x2)) + (2 : Int32)).toNatClampNeg) h_56 g)) ∧ (x2 = (-1 : Int32) → j_X11_findFamily_84 Q (100000 : Int32) h_56 g)))
def j_X11_findFamily_29 (Q : HI → HL → Prop) (x2 : Int32) (s1 : Int32) (h : HI) (g : HL) : Prop :=
  (∀ h_29 : HI, h_29 = hu h 135 11 s1 → ((¬ x2 = (-1 : Int32) → (vp_in (((140 : Int32) + ((3 : Int32) * x2)) + (1 : Int32)) 887 ∧ j_X11_findFamily_56 Q x2 (h_29 136 (((140 : Int32) + ((3 : Int32) * x2)) + (1 : Int32)).toNatClampNeg) h_29 g)) ∧ (x2 = (-1 : Int32) → j_X11_findFamily_56 Q x2 (1 : Int32) h_29 g)))
def w_X11_findFamily (x1 : Int32) (h : HI) (g : HL) (Q : HI → HL → Prop) : Prop :=
  (∃ P_3 : Int32 → HI → HL → Prop, w_X11_partOf x1 (3 : Int32) h g P_3 ∧ ∀ (r_3 : Int32) (h_3 : HI) (g_3 : HL), P_3 r_3 h_3 g_3 → ((¬ r_3 = (-1 : Int32) → (vp_in ((140 : Int32) + ((3 : Int32) * r_3)) 887 ∧ j_X11_findFamily_29 Q r_3 (h_3 136 ((140 : Int32) + ((3 : Int32) * r_3)).toNatClampNeg) h_3 g_3)) ∧ (r_3 = (-1 : Int32) → j_X11_findFamily_29 Q r_3 (1 : Int32) h_3 g_3)))
set_option maxHeartbeats 8000000 in
set_option maxRecDepth 100000 in
theorem m_X11_findFamily (l : Launch) (D : va_G) (cy : Nat → ClassId) (ad : Nat → Nat) (h : HI) (g : HL) (sz : Nat) (x1 : Int32) (Q : HI → HL → Prop) (HW : w_X11_findFamily x1 h g Q) : Met l yX11_findFamily (wa yX11_findFamily cX11_findFamily 3 none) ({ frames := 1, cells := 0, slots := 0, locals := 22 }) (va_Pc [.ref (ad 135), .int x1] (gI D cy ad h g sz)) (va_Qv (fun (u : HI × HL) => Q u.1 u.2) (gB D cy ad sz) (gA ad sz)) 0 0 (gA ad sz) := by
  refine Met.ofW (cc := cX11_findFamily) (maxL := 3) (ret := none) (by decide) rfl ?_
  intro p e s m args below meth c s₁ B hml hv
  obtain ⟨hav, hsz, hP, hK, hD0, hNw⟩ := hv
  have hx := B.exec
  have hb := B.bytes
  have hr := B.returns
  have hts := atoms_spec (ws := (wa yX11_findFamily cX11_findFamily 3 none)) B.pre
  have hw := wa_hw hts
  have hown : s.vm.findClass RX11 = some m.cls := findClass_of_methodNamed B.named
  have hlocks := B.notSynchronized
  subst hsz
  have hG : gG D cy ad (gA ad s.heap.size) s.heap h g s.heap [] := ⟨hP, gA_self hD0, va_S.rf⟩
  clear hP hD0
  have lk7 := hw (.fieldLink RX11 7 "OldWorksModel" "st" "[I") (wm5 27 rfl rfl)
  have lk155 := hw (.fieldLink RX11 155 "OldWorksModel" "least" "I") (wm5 38 rfl rfl)
  have lk158 := hw (.fieldLink RX11 158 "OldWorksModel" "stride" "I") (wm5 39 rfl rfl)
  have cn52 := hw (.constant RX11 52 (100000)) (wm5 26 rfl rfl)
  have lk161 := hw (.fieldLink RX11 161 "OldWorksModel" "many" "I") (wm5 40 rfl rfl)
  rw [show (headSpec (wa yX11_findFamily cX11_findFamily 3 none) ({ frames := 1, cells := 0, slots := 0, locals := 22 } : Room)).room = ({ frames := 1, cells := 0, slots := 0, locals := 22 } : Room) from rfl]
  have hl := lv_entry ([.ref (ad 135), .int x1]) (n := 3) (Nat.le_of_ble_eq_true rfl)
  rw [show entryFrame m args 3 = entryFrame m ([.ref (ad 135), .int x1] : List Value).toArray 3 from by rw [hav], lg_entry_eq]
  generalize (lg_sl ([.ref (ad 135), .int x1]) ++ List.replicate (3 - (lg_sl ([.ref (ad 135), .int x1])).length) Slot.unset).toArray = ls at hl ⊢
  have hl : lv_has ls 3 [(0, .ref (ad 135)), (1, .int x1)] := hl
  have B84 : ∀ (s1 : Int32) (h : HI) (g : HL) (H : Heap) (locs : List Loc) (ls : Array Slot), j_X11_findFamily_84 Q s1 h g → gG D cy ad (gA ad s.heap.size) s.heap h g H locs → lv_has ls 3 [] → W p l e ({ frames := 1, cells := 0, slots := 0, locals := 22 } : Room) s m args below meth c H locs 0 0 (MQ below (va_Qv (fun (u : HI × HL) => Q u.1 u.2) (gB D cy ad s.heap.size) (gA ad s.heap.size)) args s 0 0 (gA ad s.heap.size)) (F0 m 84 ls [.int s1, .ref (ad 135)]) := by
    intro s1 h g H locs ls HW hG hl
    unfold j_X11_findFamily_84 at HW
    refine g_put hx hb hw inG11 tyX11 tyX11_ok nmX11 hown hK hG gl_135 rfl gk_135 (by decide) 13 (by decide) (by rw [gm_135]; decide) gr_135_13 rfl (ty := .int) (by decide +kernel) rfl rfl lk161 dX11_findFamily_84 (fun H locs hG => ?_)
    obtain ⟨h_84, eh_84⟩ : ∃ y : HI, y = hu h 135 13 s1 := ⟨_, rfl⟩
    rw [← eh_84] at hG
    replace HW := HW h_84 eh_84
    exact W.vret hx hb hr (fun t ht hW => ⟨⟨(h_84, g), rfl, HW, g_B ht hG⟩, hG.2.2.F ht⟩) hG.2.2.2.2 dX11_findFamily_87
  have B56 : ∀ (x2 : Int32) (s1 : Int32) (h : HI) (g : HL) (H : Heap) (locs : List Loc) (ls : Array Slot), j_X11_findFamily_56 Q x2 s1 h g → gG D cy ad (gA ad s.heap.size) s.heap h g H locs → lv_has ls 3 [(0, .ref (ad 135)), (2, .int x2)] → W p l e ({ frames := 1, cells := 0, slots := 0, locals := 22 } : Room) s m args below meth c H locs 0 0 (MQ below (va_Qv (fun (u : HI × HL) => Q u.1 u.2) (gB D cy ad s.heap.size) (gA ad s.heap.size)) args s 0 0 (gA ad s.heap.size)) (F0 m 56 ls [.int s1, .ref (ad 135)]) := by
    intro x2 s1 h g H locs ls HW hG hl
    unfold j_X11_findFamily_56 at HW
    refine g_put hx hb hw inG11 tyX11 tyX11_ok nmX11 hown hK hG gl_135 rfl gk_135 (by decide) 12 (by decide) (by rw [gm_135]; decide) gr_135_12 rfl (ty := .int) (by decide +kernel) rfl rfl lk158 dX11_findFamily_56 (fun H locs hG => ?_)
    obtain ⟨h_56, eh_56⟩ : ∃ y : HI, y = hu h 135 12 s1 := ⟨_, rfl⟩
    rw [← eh_56] at hG
    replace HW := HW h_56 eh_56
    refine lv_aload_n hx hb dX11_findFamily_59 rfl (lv_at hl 0 rfl) ?_
    refine lv_iload_n hx hb dX11_findFamily_60 rfl (lv_at hl 1 rfl) ?_
    refine lv_iconst (v := (-1)) hx hb dX11_findFamily_61 (by decide) ?_
    refine lv_icmp_ne (tgt := 70) hx hb dX11_findFamily_62 (by decide) (fun c_62 => ?_) (fun c_62 => ?_)
    · replace HW := HW.1 c_62
      refine lv_aload_n hx hb dX11_findFamily_70 rfl (lv_at hl 0 rfl) ?_
      refine g_getr hx hb hw inG11 hown hK hG gl_135 rfl gk_135 (by decide) 0 (by decide) (by rw [gm_135]; decide) (r := 136) gr_135_0 lk7 dX11_findFamily_71 ?_
      refine lv_sipush (v := 140) hx hb dX11_findFamily_74 (by decide) ?_
      refine lv_iconst (v := 3) hx hb dX11_findFamily_77 (by decide) ?_
      refine lv_iload_n hx hb dX11_findFamily_78 rfl (lv_at hl 1 rfl) ?_
      refine lv_imul hx hb dX11_findFamily_79 ?_
      refine lv_iadd hx hb dX11_findFamily_80 ?_
      refine lv_iconst (v := 2) hx hb dX11_findFamily_81 (by decide) ?_
      refine lv_iadd hx hb dX11_findFamily_82 ?_
      refine g_iald hx hb hK hG gl_136 gk_136 gn_136 HW.1 dX11_findFamily_83 ?_
      replace HW := HW.2
      exact B84 (h_56 136 (((140 : Int32) + ((3 : Int32) * x2)) + (2 : Int32)).toNatClampNeg) h_56 g _ _ _ HW hG (lv_sub hl [] rfl)
    · replace HW := HW.2 c_62
      refine lv_ldc (v := 100000) hx hb hown cn52 dX11_findFamily_65 ?_
      refine lv_goto (tgt := 84) hx hb dX11_findFamily_67 (by decide) ?_
      exact B84 (100000 : Int32) h_56 g _ _ _ HW hG (lv_sub hl [] rfl)
  have B29 : ∀ (x2 : Int32) (s1 : Int32) (h : HI) (g : HL) (H : Heap) (locs : List Loc) (ls : Array Slot), j_X11_findFamily_29 Q x2 s1 h g → gG D cy ad (gA ad s.heap.size) s.heap h g H locs → lv_has ls 3 [(0, .ref (ad 135)), (2, .int x2)] → W p l e ({ frames := 1, cells := 0, slots := 0, locals := 22 } : Room) s m args below meth c H locs 0 0 (MQ below (va_Qv (fun (u : HI × HL) => Q u.1 u.2) (gB D cy ad s.heap.size) (gA ad s.heap.size)) args s 0 0 (gA ad s.heap.size)) (F0 m 29 ls [.int s1, .ref (ad 135)]) := by
    intro x2 s1 h g H locs ls HW hG hl
    unfold j_X11_findFamily_29 at HW
    refine g_put hx hb hw inG11 tyX11 tyX11_ok nmX11 hown hK hG gl_135 rfl gk_135 (by decide) 11 (by decide) (by rw [gm_135]; decide) gr_135_11 rfl (ty := .int) (by decide +kernel) rfl rfl lk155 dX11_findFamily_29 (fun H locs hG => ?_)
    obtain ⟨h_29, eh_29⟩ : ∃ y : HI, y = hu h 135 11 s1 := ⟨_, rfl⟩
    rw [← eh_29] at hG
    replace HW := HW h_29 eh_29
    refine lv_aload_n hx hb dX11_findFamily_32 rfl (lv_at hl 0 rfl) ?_
    refine lv_iload_n hx hb dX11_findFamily_33 rfl (lv_at hl 1 rfl) ?_
    refine lv_iconst (v := (-1)) hx hb dX11_findFamily_34 (by decide) ?_
    refine lv_icmp_ne (tgt := 42) hx hb dX11_findFamily_35 (by decide) (fun c_35 => ?_) (fun c_35 => ?_)
    · replace HW := HW.1 c_35
      refine lv_aload_n hx hb dX11_findFamily_42 rfl (lv_at hl 0 rfl) ?_
      refine g_getr hx hb hw inG11 hown hK hG gl_135 rfl gk_135 (by decide) 0 (by decide) (by rw [gm_135]; decide) (r := 136) gr_135_0 lk7 dX11_findFamily_43 ?_
      refine lv_sipush (v := 140) hx hb dX11_findFamily_46 (by decide) ?_
      refine lv_iconst (v := 3) hx hb dX11_findFamily_49 (by decide) ?_
      refine lv_iload_n hx hb dX11_findFamily_50 rfl (lv_at hl 1 rfl) ?_
      refine lv_imul hx hb dX11_findFamily_51 ?_
      refine lv_iadd hx hb dX11_findFamily_52 ?_
      refine lv_iconst (v := 1) hx hb dX11_findFamily_53 (by decide) ?_
      refine lv_iadd hx hb dX11_findFamily_54 ?_
      refine g_iald hx hb hK hG gl_136 gk_136 gn_136 HW.1 dX11_findFamily_55 ?_
      replace HW := HW.2
      exact B56 x2 (h_29 136 (((140 : Int32) + ((3 : Int32) * x2)) + (1 : Int32)).toNatClampNeg) h_29 g _ _ _ HW hG (lv_sub hl [0, 1] rfl)
    · replace HW := HW.2 c_35
      refine lv_iconst (v := 1) hx hb dX11_findFamily_38 (by decide) ?_
      refine lv_goto (tgt := 56) hx hb dX11_findFamily_39 (by decide) ?_
      exact B56 x2 (1 : Int32) h_29 g _ _ _ HW hG (lv_sub hl [0, 1] rfl)
  have E0 : ∀ (H : Heap) (locs : List Loc) (ls : Array Slot), gG D cy ad (gA ad s.heap.size) s.heap h g H locs → lv_has ls 3 [(0, .ref (ad 135)), (1, .int x1)] → W p l e ({ frames := 1, cells := 0, slots := 0, locals := 22 } : Room) s m args below meth c H locs 0 0 (MQ below (va_Qv (fun (u : HI × HL) => Q u.1 u.2) (gB D cy ad s.heap.size) (gA ad s.heap.size)) args s 0 0 (gA ad s.heap.size)) (F0 m 0 ls []) := by
    intro H locs ls hG hl
    unfold w_X11_findFamily at HW
    refine lv_aload_n hx hb dX11_findFamily_0 rfl (lv_at hl 0 rfl) ?_
    refine lv_iload_n hx hb dX11_findFamily_1 rfl (lv_at hl 1 rfl) ?_
    refine lv_iconst (v := 3) hx hb dX11_findFamily_2 (by decide) ?_
    obtain ⟨P_3, HC_3, HW⟩ := HW
    refine g_calli (g_runV (As := [.int x1, .int (3 : Int32)]) (rest := []) ⟨hx, hb, hml, hown, hts⟩ (m_X11_partOf l D cy ad h g H.size x1 (3 : Int32) P_3 HC_3) (cwV 2 hts (gd_V (wm5 192 rfl rfl) (wm5 194 rfl rfl) (wmp4 (q := (yX11_partOf, 26)) 0 rfl) (wm1 13 rfl rfl) (wm5 195 rfl rfl)) rfl rfl rfl (by decide +kernel) ⟨Nat.le_of_ble_eq_true rfl, Nat.le_of_ble_eq_true rfl⟩) hK hNw hG gl_135 rfl gk_135 (by decide) rfl rfl hl.1 rfl (lv_room (Nat.le_of_ble_eq_true rfl)) dX11_findFamily_3 ⟨Nat.zero_le _, Nat.zero_le _⟩) hG (fun r_3 h_3 g_3 H locs hq hG => ?_)
    replace HW := HW r_3 h_3 g_3 hq
    refine lv_istore_n (lv' := [(2, .int r_3), (0, .ref (ad 135)), (1, .int x1)]) hx hb dX11_findFamily_6 rfl hl (by decide) rfl (fun ls hl => ?_)
    refine lv_aload_n hx hb dX11_findFamily_7 rfl (lv_at hl 1 rfl) ?_
    refine lv_iload_n hx hb dX11_findFamily_8 rfl (lv_at hl 0 rfl) ?_
    refine lv_iconst (v := (-1)) hx hb dX11_findFamily_9 (by decide) ?_
    refine lv_icmp_ne (tgt := 17) hx hb dX11_findFamily_10 (by decide) (fun c_10 => ?_) (fun c_10 => ?_)
    · replace HW := HW.1 c_10
      refine lv_aload_n hx hb dX11_findFamily_17 rfl (lv_at hl 1 rfl) ?_
      refine g_getr hx hb hw inG11 hown hK hG gl_135 rfl gk_135 (by decide) 0 (by decide) (by rw [gm_135]; decide) (r := 136) gr_135_0 lk7 dX11_findFamily_18 ?_
      refine lv_sipush (v := 140) hx hb dX11_findFamily_21 (by decide) ?_
      refine lv_iconst (v := 3) hx hb dX11_findFamily_24 (by decide) ?_
      refine lv_iload_n hx hb dX11_findFamily_25 rfl (lv_at hl 0 rfl) ?_
      refine lv_imul hx hb dX11_findFamily_26 ?_
      refine lv_iadd hx hb dX11_findFamily_27 ?_
      refine g_iald hx hb hK hG gl_136 gk_136 gn_136 HW.1 dX11_findFamily_28 ?_
      replace HW := HW.2
      exact B29 r_3 (h_3 136 ((140 : Int32) + ((3 : Int32) * r_3)).toNatClampNeg) h_3 g_3 _ _ _ HW hG (lv_sub hl [1, 0] rfl)
    · replace HW := HW.2 c_10
      refine lv_iconst (v := 1) hx hb dX11_findFamily_13 (by decide) ?_
      refine lv_goto (tgt := 29) hx hb dX11_findFamily_14 (by decide) ?_
      exact B29 r_3 (1 : Int32) h_3 g_3 _ _ _ HW hG (lv_sub hl [1, 0] rfl)
  exact E0 _ _ _ hG hl

def w_X11_numberFrom (x1 : Int32) (h : HI) (g : HL) (Q : Int32 → HI → HL → Prop) : Prop :=
  (((h 135 11) < x1 → (¬ (h 135 12) = 0 ∧ Q ((((x1 - (h 135 11)) + (h 135 12)) - (1 : Int32)) / (h 135 12)) h g)) ∧ (¬ (h 135 11) < x1 → Q (0 : Int32) h g))
set_option maxHeartbeats 8000000 in
set_option maxRecDepth 100000 in
theorem m_X11_numberFrom (l : Launch) (D : va_G) (cy : Nat → ClassId) (ad : Nat → Nat) (h : HI) (g : HL) (sz : Nat) (x1 : Int32) (Q : Int32 → HI → HL → Prop) (HW : w_X11_numberFrom x1 h g Q) : Met l yX11_numberFrom (wa yX11_numberFrom cX11_numberFrom 2 (some .int)) ({ frames := 0, cells := 0, slots := 0, locals := 0 }) (va_Pc [.ref (ad 135), .int x1] (gI D cy ad h g sz)) (va_Qi (fun (r : Int32) (u : HI × HL) => Q r u.1 u.2) (gB D cy ad sz) (gA ad sz)) 0 0 (gA ad sz) := by
  refine Met.ofW (cc := cX11_numberFrom) (maxL := 2) (ret := (some .int)) (by decide) rfl ?_
  intro p e s m args below meth c s₁ B hml hv
  obtain ⟨hav, hsz, hP, hK, hD0, hNw⟩ := hv
  have hx := B.exec
  have hb := B.bytes
  have hr := B.returns
  have hts := atoms_spec (ws := (wa yX11_numberFrom cX11_numberFrom 2 (some .int))) B.pre
  have hw := wa_hw hts
  have hown : s.vm.findClass RX11 = some m.cls := findClass_of_methodNamed B.named
  have hlocks := B.notSynchronized
  subst hsz
  have hG : gG D cy ad (gA ad s.heap.size) s.heap h g s.heap [] := ⟨hP, gA_self hD0, va_S.rf⟩
  clear hP hD0
  have lk155 := hw (.fieldLink RX11 155 "OldWorksModel" "least" "I") (wm5 38 rfl rfl)
  have lk158 := hw (.fieldLink RX11 158 "OldWorksModel" "stride" "I") (wm5 39 rfl rfl)
  rw [show (headSpec (wa yX11_numberFrom cX11_numberFrom 2 (some .int)) ({ frames := 0, cells := 0, slots := 0, locals := 0 } : Room)).room = ({ frames := 0, cells := 0, slots := 0, locals := 0 } : Room) from rfl]
  have hl := lv_entry ([.ref (ad 135), .int x1]) (n := 2) (Nat.le_of_ble_eq_true rfl)
  rw [show entryFrame m args 2 = entryFrame m ([.ref (ad 135), .int x1] : List Value).toArray 2 from by rw [hav], lg_entry_eq]
  generalize (lg_sl ([.ref (ad 135), .int x1]) ++ List.replicate (2 - (lg_sl ([.ref (ad 135), .int x1])).length) Slot.unset).toArray = ls at hl ⊢
  have hl : lv_has ls 2 [(0, .ref (ad 135)), (1, .int x1)] := hl
  have E0 : ∀ (H : Heap) (locs : List Loc) (ls : Array Slot), gG D cy ad (gA ad s.heap.size) s.heap h g H locs → lv_has ls 2 [(0, .ref (ad 135)), (1, .int x1)] → W p l e ({ frames := 0, cells := 0, slots := 0, locals := 0 } : Room) s m args below meth c H locs 0 0 (MQ below (va_Qi (fun (r : Int32) (u : HI × HL) => Q r u.1 u.2) (gB D cy ad s.heap.size) (gA ad s.heap.size)) args s 0 0 (gA ad s.heap.size)) (F0 m 0 ls []) := by
    intro H locs ls hG hl
    unfold w_X11_numberFrom at HW
    refine lv_iload_n hx hb dX11_numberFrom_0 rfl (lv_at hl 1 rfl) ?_
    refine lv_aload_n hx hb dX11_numberFrom_1 rfl (lv_at hl 0 rfl) ?_
    refine g_geti hx hb hw inG11 hown hK hG gl_135 rfl gk_135 (by decide) 11 (by decide) (by rw [gm_135]; decide) gr_135_11 lk155 dX11_numberFrom_2 ?_
    refine lv_icmp_gt (tgt := 12) hx hb dX11_numberFrom_5 (by decide) (fun c_5 => ?_) (fun c_5 => ?_)
    · replace HW := HW.1 c_5
      refine lv_iload_n hx hb dX11_numberFrom_12 rfl (lv_at hl 1 rfl) ?_
      refine lv_aload_n hx hb dX11_numberFrom_13 rfl (lv_at hl 0 rfl) ?_
      refine g_geti hx hb hw inG11 hown hK hG gl_135 rfl gk_135 (by decide) 11 (by decide) (by rw [gm_135]; decide) gr_135_11 lk155 dX11_numberFrom_14 ?_
      refine lv_isub hx hb dX11_numberFrom_17 ?_
      refine lv_aload_n hx hb dX11_numberFrom_18 rfl (lv_at hl 0 rfl) ?_
      refine g_geti hx hb hw inG11 hown hK hG gl_135 rfl gk_135 (by decide) 12 (by decide) (by rw [gm_135]; decide) gr_135_12 lk158 dX11_numberFrom_19 ?_
      refine lv_iadd hx hb dX11_numberFrom_22 ?_
      refine lv_iconst (v := 1) hx hb dX11_numberFrom_23 (by decide) ?_
      refine lv_isub hx hb dX11_numberFrom_24 ?_
      refine lv_aload_n hx hb dX11_numberFrom_25 rfl (lv_at hl 0 rfl) ?_
      refine g_geti hx hb hw inG11 hown hK hG gl_135 rfl gk_135 (by decide) 12 (by decide) (by rw [gm_135]; decide) gr_135_12 lk158 dX11_numberFrom_26 ?_
      refine lv_idiv hx hb dX11_numberFrom_29 HW.1 ?_
      replace HW := HW.2
      exact W.iret (v := ((((x1 - (h 135 11)) + (h 135 12)) - (1 : Int32)) / (h 135 12))) hx hb hr (fun t ht hW => ⟨⟨((((x1 - (h 135 11)) + (h 135 12)) - (1 : Int32)) / (h 135 12)), (h, g), rfl, HW, g_B ht hG⟩, hG.2.2.F ht⟩) hG.2.2.2.2 dX11_numberFrom_30
    · replace HW := HW.2 c_5
      refine lv_iconst (v := 0) hx hb dX11_numberFrom_8 (by decide) ?_
      refine lv_goto (tgt := 30) hx hb dX11_numberFrom_9 (by decide) ?_
      exact W.iret (v := (0 : Int32)) hx hb hr (fun t ht hW => ⟨⟨(0 : Int32), (h, g), rfl, HW, g_B ht hG⟩, hG.2.2.F ht⟩) hG.2.2.2.2 dX11_numberFrom_30
  exact E0 _ _ _ hG hl

def j_X11_findFirst_137 (Q : HI → HL → Prop) (s1 : Int32) (h : HI) (g : HL) : Prop :=
  (∀ h_137 : HI, h_137 = hu h 135 15 s1 → Q h_137 g)
def j_X11_findFirst_111 (Q : HI → HL → Prop) (K17 : Int32 → Int32 → Int32 → Int32 → HI → HL → Prop) (x1 : Int32) (x2 : Int32) (x3 : Int32) (x4 : Int32) (h : HI) (g : HL) : Prop :=
  (∀ x4_111 : Int32, x4_111 = (x4 + 1) → K17 x1 x2 x3 x4_111 h g)
def j_X11_findFirst_110 (Q : HI → HL → Prop) (K17 : Int32 → Int32 → Int32 → Int32 → HI → HL → Prop) (x1 : Int32) (x2 : Int32) (x4 : Int32) (s0 : Int32) (h : HI) (g : HL) : Prop :=
  j_X11_findFirst_111 Q K17 x1 x2 s0 x4 h g
def j_X11_findFirst_97 (Q : HI → HL → Prop) (K17 : Int32 → Int32 → Int32 → Int32 → HI → HL → Prop) (x1 : Int32) (x3 : Int32) (x4 : Int32) (x6 : Int32) (s0 : Int32) (h : HI) (g : HL) : Prop :=
  ((x3 ≤ x6 → j_X11_findFirst_110 Q K17 x1 s0 x4 x3 h g) ∧ (¬ x3 ≤ x6 → j_X11_findFirst_110 Q K17 x1 s0 x4 x6 h g))
def j_X11_findFirst_83 (Q : HI → HL → Prop) (K17 : Int32 → Int32 → Int32 → Int32 → HI → HL → Prop) (x1 : Int32) (x2 : Int32) (x3 : Int32) (x4 : Int32) (x5 : Int32) (s0 : Int32) (h : HI) (g : HL) : Prop :=
  ((x5 ≤ x2 → j_X11_findFirst_97 Q K17 x1 x3 x4 s0 x2 h g) ∧ (¬ x5 ≤ x2 → j_X11_findFirst_97 Q K17 x1 x3 x4 s0 x5 h g))
def b_X11_findFirst_17 (Q : HI → HL → Prop) (K17 : Int32 → Int32 → Int32 → Int32 → HI → HL → Prop) (x1 : Int32) (x2 : Int32) (x3 : Int32) (x4 : Int32) (h : HI) (g : HL) : Prop :=
  (vp_in (1 : Int32) 887 ∧ (((h 136 (1 : Int32).toNatClampNeg) ≤ x4 → (∀ h_119 : HI, h_119 = hu h 135 14 x2 → ((x2 ≤ x3 → j_X11_findFirst_137 Q ((x3 - x2) + (1 : Int32)) h_119 g) ∧ (¬ x2 ≤ x3 → j_X11_findFirst_137 Q (0 : Int32) h_119 g)))) ∧ (¬ (h 136 (1 : Int32).toNatClampNeg) ≤ x4 → (∃ P_32 : Int32 → HI → HL → Prop, w_X11_isOf x4 x1 h g P_32 ∧ ∀ (r_32 : Int32) (h_32 : HI) (g_32 : HL), zb r_32 → P_32 r_32 h_32 g_32 → ((r_32 = 0 → j_X11_findFirst_111 Q K17 x1 x2 x3 x4 h_32 g_32) ∧ (¬ r_32 = 0 → (∃ P_41 : HI → HL → Prop, w_X11_lets x4 h_32 g_32 P_41 ∧ ∀ (h_41 : HI) (g_41 : HL), P_41 h_41 g_41 → (∃ P_49 : Int32 → HI → HL → Prop, w_X11_numberFrom (h_41 135 9) h_41 g_41 P_49 ∧ ∀ (r_49 : Int32) (h_49 : HI) (g_49 : HL), P_49 r_49 h_49 g_49 → (((h_49 135 11) ≤ (h_49 135 10) → (¬ (h_49 135 12) = 0 ∧ j_X11_findFirst_83 Q K17 x1 x2 x3 x4 r_49 (((h_49 135 10) - (h_49 135 11)) / (h_49 135 12)) h_49 g_49)) ∧ (¬ (h_49 135 11) ≤ (h_49 135 10) → j_X11_findFirst_83 Q K17 x1 x2 x3 x4 r_49 (-1 : Int32) h_49 g_49))))))))))
def F_X11_findFirst_17 (Q : HI → HL → Prop) (K : Int32 × Int32 × Int32 × Int32 × HI × HL → Prop) (q : Int32 × Int32 × Int32 × Int32 × HI × HL) : Prop := b_X11_findFirst_17 Q (fun x1 x2 x3 x4 h g => K (x1, x2, x3, x4, h, g)) q.1 q.2.1 q.2.2.1 q.2.2.2.1 q.2.2.2.2.1 q.2.2.2.2.2
def w_X11_findFirst (x1 : Int32) (h : HI) (g : HL) (Q : HI → HL → Prop) : Prop :=
  (∃ P_2 : HI → HL → Prop, w_X11_findFamily x1 h g P_2 ∧ ∀ (h_2 : HI) (g_2 : HL), P_2 h_2 g_2 → (∀ x3_13 : Int32, x3_13 = ((h_2 135 13) - (1 : Int32)) → lpE (F_X11_findFirst_17 Q) (x1, (0 : Int32), x3_13, (0 : Int32), h_2, g_2)))
set_option maxHeartbeats 8000000 in
set_option maxRecDepth 100000 in
theorem m_X11_findFirst (l : Launch) (D : va_G) (cy : Nat → ClassId) (ad : Nat → Nat) (h : HI) (g : HL) (sz : Nat) (x1 : Int32) (Q : HI → HL → Prop) (HW : w_X11_findFirst x1 h g Q) : Met l yX11_findFirst (wa yX11_findFirst cX11_findFirst 7 none) ({ frames := 6, cells := 0, slots := 0, locals := 140 }) (va_Pc [.ref (ad 135), .int x1] (gI D cy ad h g sz)) (va_Qv (fun (u : HI × HL) => Q u.1 u.2) (gB D cy ad sz) (gA ad sz)) 0 0 (gA ad sz) := by
  refine Met.ofW (cc := cX11_findFirst) (maxL := 7) (ret := none) (by decide) rfl ?_
  intro p e s m args below meth c s₁ B hml hv
  obtain ⟨hav, hsz, hP, hK, hD0, hNw⟩ := hv
  have hx := B.exec
  have hb := B.bytes
  have hr := B.returns
  have hts := atoms_spec (ws := (wa yX11_findFirst cX11_findFirst 7 none)) B.pre
  have hw := wa_hw hts
  have hown : s.vm.findClass RX11 = some m.cls := findClass_of_methodNamed B.named
  have hlocks := B.notSynchronized
  subst hsz
  have hG : gG D cy ad (gA ad s.heap.size) s.heap h g s.heap [] := ⟨hP, gA_self hD0, va_S.rf⟩
  clear hP hD0
  have lk161 := hw (.fieldLink RX11 161 "OldWorksModel" "many" "I") (wm5 40 rfl rfl)
  have lk7 := hw (.fieldLink RX11 7 "OldWorksModel" "st" "[I") (wm5 27 rfl rfl)
  have lk176 := hw (.fieldLink RX11 176 "OldWorksModel" "firstNumber" "I") (wm5 41 rfl rfl)
  have lk148 := hw (.fieldLink RX11 148 "OldWorksModel" "low" "I") (wm5 36 rfl rfl)
  have lk152 := hw (.fieldLink RX11 152 "OldWorksModel" "high" "I") (wm5 37 rfl rfl)
  have lk155 := hw (.fieldLink RX11 155 "OldWorksModel" "least" "I") (wm5 38 rfl rfl)
  have lk158 := hw (.fieldLink RX11 158 "OldWorksModel" "stride" "I") (wm5 39 rfl rfl)
  have lk179 := hw (.fieldLink RX11 179 "OldWorksModel" "firstMany" "I") (wm5 42 rfl rfl)
  rw [show (headSpec (wa yX11_findFirst cX11_findFirst 7 none) ({ frames := 6, cells := 0, slots := 0, locals := 140 } : Room)).room = ({ frames := 6, cells := 0, slots := 0, locals := 140 } : Room) from rfl]
  have hl := lv_entry ([.ref (ad 135), .int x1]) (n := 7) (Nat.le_of_ble_eq_true rfl)
  rw [show entryFrame m args 7 = entryFrame m ([.ref (ad 135), .int x1] : List Value).toArray 7 from by rw [hav], lg_entry_eq]
  generalize (lg_sl ([.ref (ad 135), .int x1]) ++ List.replicate (7 - (lg_sl ([.ref (ad 135), .int x1])).length) Slot.unset).toArray = ls at hl ⊢
  have hl : lv_has ls 7 [(0, .ref (ad 135)), (1, .int x1)] := hl
  have B137 : ∀ (s1 : Int32) (h : HI) (g : HL) (H : Heap) (locs : List Loc) (ls : Array Slot), j_X11_findFirst_137 Q s1 h g → gG D cy ad (gA ad s.heap.size) s.heap h g H locs → lv_has ls 7 [] → W p l e ({ frames := 6, cells := 0, slots := 0, locals := 140 } : Room) s m args below meth c H locs 0 0 (MQ below (va_Qv (fun (u : HI × HL) => Q u.1 u.2) (gB D cy ad s.heap.size) (gA ad s.heap.size)) args s 0 0 (gA ad s.heap.size)) (F0 m 137 ls [.int s1, .ref (ad 135)]) := by
    intro s1 h g H locs ls HW hG hl
    unfold j_X11_findFirst_137 at HW
    refine g_put hx hb hw inG11 tyX11 tyX11_ok nmX11 hown hK hG gl_135 rfl gk_135 (by decide) 15 (by decide) (by rw [gm_135]; decide) gr_135_15 rfl (ty := .int) (by decide +kernel) rfl rfl lk179 dX11_findFirst_137 (fun H locs hG => ?_)
    obtain ⟨h_137, eh_137⟩ : ∃ y : HI, y = hu h 135 15 s1 := ⟨_, rfl⟩
    rw [← eh_137] at hG
    replace HW := HW h_137 eh_137
    exact W.vret hx hb hr (fun t ht hW => ⟨⟨(h_137, g), rfl, HW, g_B ht hG⟩, hG.2.2.F ht⟩) hG.2.2.2.2 dX11_findFirst_140
  have B111 : ∀ (K17 : Int32 → Int32 → Int32 → Int32 → HI → HL → Prop) (hK17 : ∀ (x1 : Int32) (x2 : Int32) (x3 : Int32) (x4 : Int32) (h : HI) (g : HL) (H : Heap) (locs : List Loc) (ls : Array Slot), K17 x1 x2 x3 x4 h g → gG D cy ad (gA ad s.heap.size) s.heap h g H locs → lv_has ls 7 [(0, .ref (ad 135)), (1, .int x1), (2, .int x2), (3, .int x3), (4, .int x4)] → W p l e ({ frames := 6, cells := 0, slots := 0, locals := 140 } : Room) s m args below meth c H locs 0 0 (MQ below (va_Qv (fun (u : HI × HL) => Q u.1 u.2) (gB D cy ad s.heap.size) (gA ad s.heap.size)) args s 0 0 (gA ad s.heap.size)) (F0 m 17 ls [])) (x1 : Int32) (x2 : Int32) (x3 : Int32) (x4 : Int32) (h : HI) (g : HL) (H : Heap) (locs : List Loc) (ls : Array Slot), j_X11_findFirst_111 Q K17 x1 x2 x3 x4 h g → gG D cy ad (gA ad s.heap.size) s.heap h g H locs → lv_has ls 7 [(0, .ref (ad 135)), (1, .int x1), (2, .int x2), (3, .int x3), (4, .int x4)] → W p l e ({ frames := 6, cells := 0, slots := 0, locals := 140 } : Room) s m args below meth c H locs 0 0 (MQ below (va_Qv (fun (u : HI × HL) => Q u.1 u.2) (gB D cy ad s.heap.size) (gA ad s.heap.size)) args s 0 0 (gA ad s.heap.size)) (F0 m 111 ls []) := by
    intro K17 hK17 x1 x2 x3 x4 h g H locs ls HW hG hl
    unfold j_X11_findFirst_111 at HW
    obtain ⟨x4_111, ex4_111⟩ : ∃ y : Int32, y = (x4 + 1) := ⟨_, rfl⟩
    replace HW := HW x4_111 ex4_111
    refine lv_iinc (v := x4_111) (lv' := [(4, .int x4_111), (0, .ref (ad 135)), (1, .int x1), (2, .int x2), (3, .int x3)]) hx hb dX11_findFirst_111 hl (k := 4) rfl (by rw [ex4_111]; rfl) (by decide) rfl (fun ls hl => ?_)
    refine lv_goto (tgt := 17) hx hb dX11_findFirst_114 (by decide) ?_
    exact hK17 x1 x2 x3 x4_111 h g _ _ _ HW hG (lv_sub hl [1, 2, 3, 4, 0] rfl)
  have B110 : ∀ (K17 : Int32 → Int32 → Int32 → Int32 → HI → HL → Prop) (hK17 : ∀ (x1 : Int32) (x2 : Int32) (x3 : Int32) (x4 : Int32) (h : HI) (g : HL) (H : Heap) (locs : List Loc) (ls : Array Slot), K17 x1 x2 x3 x4 h g → gG D cy ad (gA ad s.heap.size) s.heap h g H locs → lv_has ls 7 [(0, .ref (ad 135)), (1, .int x1), (2, .int x2), (3, .int x3), (4, .int x4)] → W p l e ({ frames := 6, cells := 0, slots := 0, locals := 140 } : Room) s m args below meth c H locs 0 0 (MQ below (va_Qv (fun (u : HI × HL) => Q u.1 u.2) (gB D cy ad s.heap.size) (gA ad s.heap.size)) args s 0 0 (gA ad s.heap.size)) (F0 m 17 ls [])) (x1 : Int32) (x2 : Int32) (x4 : Int32) (s0 : Int32) (h : HI) (g : HL) (H : Heap) (locs : List Loc) (ls : Array Slot), j_X11_findFirst_110 Q K17 x1 x2 x4 s0 h g → gG D cy ad (gA ad s.heap.size) s.heap h g H locs → lv_has ls 7 [(0, .ref (ad 135)), (1, .int x1), (2, .int x2), (4, .int x4)] → W p l e ({ frames := 6, cells := 0, slots := 0, locals := 140 } : Room) s m args below meth c H locs 0 0 (MQ below (va_Qv (fun (u : HI × HL) => Q u.1 u.2) (gB D cy ad s.heap.size) (gA ad s.heap.size)) args s 0 0 (gA ad s.heap.size)) (F0 m 110 ls [.int s0]) := by
    intro K17 hK17 x1 x2 x4 s0 h g H locs ls HW hG hl
    unfold j_X11_findFirst_110 at HW
    refine lv_istore_n (lv' := [(3, .int s0), (0, .ref (ad 135)), (1, .int x1), (2, .int x2), (4, .int x4)]) hx hb dX11_findFirst_110 rfl hl (by decide) rfl (fun ls hl => ?_)
    exact B111 K17 hK17 x1 x2 s0 x4 h g _ _ _ HW hG (lv_sub hl [1, 2, 3, 0, 4] rfl)
  have B97 : ∀ (K17 : Int32 → Int32 → Int32 → Int32 → HI → HL → Prop) (hK17 : ∀ (x1 : Int32) (x2 : Int32) (x3 : Int32) (x4 : Int32) (h : HI) (g : HL) (H : Heap) (locs : List Loc) (ls : Array Slot), K17 x1 x2 x3 x4 h g → gG D cy ad (gA ad s.heap.size) s.heap h g H locs → lv_has ls 7 [(0, .ref (ad 135)), (1, .int x1), (2, .int x2), (3, .int x3), (4, .int x4)] → W p l e ({ frames := 6, cells := 0, slots := 0, locals := 140 } : Room) s m args below meth c H locs 0 0 (MQ below (va_Qv (fun (u : HI × HL) => Q u.1 u.2) (gB D cy ad s.heap.size) (gA ad s.heap.size)) args s 0 0 (gA ad s.heap.size)) (F0 m 17 ls [])) (x1 : Int32) (x3 : Int32) (x4 : Int32) (x6 : Int32) (s0 : Int32) (h : HI) (g : HL) (H : Heap) (locs : List Loc) (ls : Array Slot), j_X11_findFirst_97 Q K17 x1 x3 x4 x6 s0 h g → gG D cy ad (gA ad s.heap.size) s.heap h g H locs → lv_has ls 7 [(0, .ref (ad 135)), (1, .int x1), (3, .int x3), (4, .int x4), (6, .int x6)] → W p l e ({ frames := 6, cells := 0, slots := 0, locals := 140 } : Room) s m args below meth c H locs 0 0 (MQ below (va_Qv (fun (u : HI × HL) => Q u.1 u.2) (gB D cy ad s.heap.size) (gA ad s.heap.size)) args s 0 0 (gA ad s.heap.size)) (F0 m 97 ls [.int s0]) := by
    intro K17 hK17 x1 x3 x4 x6 s0 h g H locs ls HW hG hl
    unfold j_X11_findFirst_97 at HW
    refine lv_istore_n (lv' := [(2, .int s0), (0, .ref (ad 135)), (1, .int x1), (3, .int x3), (4, .int x4), (6, .int x6)]) hx hb dX11_findFirst_97 rfl hl (by decide) rfl (fun ls hl => ?_)
    refine lv_iload hx hb dX11_findFirst_98 (lv_at hl 5 rfl) ?_
    refine lv_iload_n hx hb dX11_findFirst_100 rfl (lv_at hl 3 rfl) ?_
    refine lv_icmp_ge (tgt := 109) hx hb dX11_findFirst_101 (by decide) (fun c_101 => ?_) (fun c_101 => ?_)
    · replace HW := HW.1 c_101
      refine lv_iload_n hx hb dX11_findFirst_109 rfl (lv_at hl 3 rfl) ?_
      exact B110 K17 hK17 x1 s0 x4 x3 h g _ _ _ HW hG (lv_sub hl [1, 2, 0, 4] rfl)
    · replace HW := HW.2 c_101
      refine lv_iload hx hb dX11_findFirst_104 (lv_at hl 5 rfl) ?_
      refine lv_goto (tgt := 110) hx hb dX11_findFirst_106 (by decide) ?_
      exact B110 K17 hK17 x1 s0 x4 x6 h g _ _ _ HW hG (lv_sub hl [1, 2, 0, 4] rfl)
  have B83 : ∀ (K17 : Int32 → Int32 → Int32 → Int32 → HI → HL → Prop) (hK17 : ∀ (x1 : Int32) (x2 : Int32) (x3 : Int32) (x4 : Int32) (h : HI) (g : HL) (H : Heap) (locs : List Loc) (ls : Array Slot), K17 x1 x2 x3 x4 h g → gG D cy ad (gA ad s.heap.size) s.heap h g H locs → lv_has ls 7 [(0, .ref (ad 135)), (1, .int x1), (2, .int x2), (3, .int x3), (4, .int x4)] → W p l e ({ frames := 6, cells := 0, slots := 0, locals := 140 } : Room) s m args below meth c H locs 0 0 (MQ below (va_Qv (fun (u : HI × HL) => Q u.1 u.2) (gB D cy ad s.heap.size) (gA ad s.heap.size)) args s 0 0 (gA ad s.heap.size)) (F0 m 17 ls [])) (x1 : Int32) (x2 : Int32) (x3 : Int32) (x4 : Int32) (x5 : Int32) (s0 : Int32) (h : HI) (g : HL) (H : Heap) (locs : List Loc) (ls : Array Slot), j_X11_findFirst_83 Q K17 x1 x2 x3 x4 x5 s0 h g → gG D cy ad (gA ad s.heap.size) s.heap h g H locs → lv_has ls 7 [(0, .ref (ad 135)), (1, .int x1), (2, .int x2), (3, .int x3), (4, .int x4), (5, .int x5)] → W p l e ({ frames := 6, cells := 0, slots := 0, locals := 140 } : Room) s m args below meth c H locs 0 0 (MQ below (va_Qv (fun (u : HI × HL) => Q u.1 u.2) (gB D cy ad s.heap.size) (gA ad s.heap.size)) args s 0 0 (gA ad s.heap.size)) (F0 m 83 ls [.int s0]) := by
    intro K17 hK17 x1 x2 x3 x4 x5 s0 h g H locs ls HW hG hl
    unfold j_X11_findFirst_83 at HW
    refine lv_istore (lv' := [(6, .int s0), (0, .ref (ad 135)), (1, .int x1), (2, .int x2), (3, .int x3), (4, .int x4), (5, .int x5)]) hx hb dX11_findFirst_83 hl (by decide) rfl (fun ls hl => ?_)
    refine lv_iload hx hb dX11_findFirst_85 (lv_at hl 6 rfl) ?_
    refine lv_iload_n hx hb dX11_findFirst_87 rfl (lv_at hl 3 rfl) ?_
    refine lv_icmp_le (tgt := 96) hx hb dX11_findFirst_88 (by decide) (fun c_88 => ?_) (fun c_88 => ?_)
    · replace HW := HW.1 c_88
      refine lv_iload_n hx hb dX11_findFirst_96 rfl (lv_at hl 3 rfl) ?_
      exact B97 K17 hK17 x1 x3 x4 s0 x2 h g _ _ _ HW hG (lv_sub hl [1, 2, 4, 5, 0] rfl)
    · replace HW := HW.2 c_88
      refine lv_iload hx hb dX11_findFirst_91 (lv_at hl 6 rfl) ?_
      refine lv_goto (tgt := 97) hx hb dX11_findFirst_93 (by decide) ?_
      exact B97 K17 hK17 x1 x3 x4 s0 x5 h g _ _ _ HW hG (lv_sub hl [1, 2, 4, 5, 0] rfl)
  have L17 : ∀ (n : Nat) (x1 : Int32) (x2 : Int32) (x3 : Int32) (x4 : Int32) (h : HI) (g : HL) (H : Heap) (locs : List Loc) (ls : Array Slot), lpN (F_X11_findFirst_17 Q) n (x1, x2, x3, x4, h, g) → gG D cy ad (gA ad s.heap.size) s.heap h g H locs → lv_has ls 7 [(0, .ref (ad 135)), (1, .int x1), (2, .int x2), (3, .int x3), (4, .int x4)] → W p l e ({ frames := 6, cells := 0, slots := 0, locals := 140 } : Room) s m args below meth c H locs 0 0 (MQ below (va_Qv (fun (u : HI × HL) => Q u.1 u.2) (gB D cy ad s.heap.size) (gA ad s.heap.size)) args s 0 0 (gA ad s.heap.size)) (F0 m 17 ls []) := by
    intro n
    induction n with
    | zero => intro x1 x2 x3 x4 h g H locs ls HW; exact HW.elim
    | succ n ih =>
      intro x1 x2 x3 x4 h g H locs ls HW hG hl
      have HW : b_X11_findFirst_17 Q (fun x1 x2 x3 x4 h g => lpN (F_X11_findFirst_17 Q) n (x1, x2, x3, x4, h, g)) x1 x2 x3 x4 h g := HW
      generalize hKe : (fun (x1 : Int32) (x2 : Int32) (x3 : Int32) (x4 : Int32) (h : HI) (g : HL) => lpN (F_X11_findFirst_17 Q) n (x1, x2, x3, x4, h, g)) = K17 at HW
      have hK17 : ∀ (x1 : Int32) (x2 : Int32) (x3 : Int32) (x4 : Int32) (h : HI) (g : HL) (H : Heap) (locs : List Loc) (ls : Array Slot), K17 x1 x2 x3 x4 h g → gG D cy ad (gA ad s.heap.size) s.heap h g H locs → lv_has ls 7 [(0, .ref (ad 135)), (1, .int x1), (2, .int x2), (3, .int x3), (4, .int x4)] → W p l e ({ frames := 6, cells := 0, slots := 0, locals := 140 } : Room) s m args below meth c H locs 0 0 (MQ below (va_Qv (fun (u : HI × HL) => Q u.1 u.2) (gB D cy ad s.heap.size) (gA ad s.heap.size)) args s 0 0 (gA ad s.heap.size)) (F0 m 17 ls []) := by subst hKe; exact ih
      clear ih
      clear hKe
      unfold b_X11_findFirst_17 at HW
      refine lv_iload hx hb dX11_findFirst_17 (lv_at hl 4 rfl) ?_
      refine lv_aload_n hx hb dX11_findFirst_19 rfl (lv_at hl 0 rfl) ?_
      refine g_getr hx hb hw inG11 hown hK hG gl_135 rfl gk_135 (by decide) 0 (by decide) (by rw [gm_135]; decide) (r := 136) gr_135_0 lk7 dX11_findFirst_20 ?_
      refine lv_iconst (v := 1) hx hb dX11_findFirst_23 (by decide) ?_
      refine g_iald hx hb hK hG gl_136 gk_136 gn_136 HW.1 dX11_findFirst_24 ?_
      replace HW := HW.2
      refine lv_icmp_ge (tgt := 117) hx hb dX11_findFirst_25 (by decide) (fun c_25 => ?_) (fun c_25 => ?_)
      · replace HW := HW.1 c_25
        refine lv_aload_n hx hb dX11_findFirst_117 rfl (lv_at hl 0 rfl) ?_
        refine lv_iload_n hx hb dX11_findFirst_118 rfl (lv_at hl 2 rfl) ?_
        refine g_put hx hb hw inG11 tyX11 tyX11_ok nmX11 hown hK hG gl_135 rfl gk_135 (by decide) 14 (by decide) (by rw [gm_135]; decide) gr_135_14 rfl (ty := .int) (by decide +kernel) rfl rfl lk176 dX11_findFirst_119 (fun H locs hG => ?_)
        obtain ⟨h_119, eh_119⟩ : ∃ y : HI, y = hu h 135 14 x2 := ⟨_, rfl⟩
        rw [← eh_119] at hG
        replace HW := HW h_119 eh_119
        refine lv_aload_n hx hb dX11_findFirst_122 rfl (lv_at hl 0 rfl) ?_
        refine lv_iload_n hx hb dX11_findFirst_123 rfl (lv_at hl 3 rfl) ?_
        refine lv_iload_n hx hb dX11_findFirst_124 rfl (lv_at hl 2 rfl) ?_
        refine lv_icmp_ge (tgt := 132) hx hb dX11_findFirst_125 (by decide) (fun c_125 => ?_) (fun c_125 => ?_)
        · replace HW := HW.1 c_125
          refine lv_iload_n hx hb dX11_findFirst_132 rfl (lv_at hl 3 rfl) ?_
          refine lv_iload_n hx hb dX11_findFirst_133 rfl (lv_at hl 2 rfl) ?_
          refine lv_isub hx hb dX11_findFirst_134 ?_
          refine lv_iconst (v := 1) hx hb dX11_findFirst_135 (by decide) ?_
          refine lv_iadd hx hb dX11_findFirst_136 ?_
          exact B137 ((x3 - x2) + (1 : Int32)) h_119 g _ _ _ HW hG (lv_sub hl [] rfl)
        · replace HW := HW.2 c_125
          refine lv_iconst (v := 0) hx hb dX11_findFirst_128 (by decide) ?_
          refine lv_goto (tgt := 137) hx hb dX11_findFirst_129 (by decide) ?_
          exact B137 (0 : Int32) h_119 g _ _ _ HW hG (lv_sub hl [] rfl)
      · replace HW := HW.2 c_25
        refine lv_aload_n hx hb dX11_findFirst_28 rfl (lv_at hl 0 rfl) ?_
        refine lv_iload hx hb dX11_findFirst_29 (lv_at hl 4 rfl) ?_
        refine lv_iload_n hx hb dX11_findFirst_31 rfl (lv_at hl 1 rfl) ?_
        obtain ⟨P_32, HC_32, HW⟩ := HW
        refine g_callz (g_runV (As := [.int x4, .int x1]) (rest := []) ⟨hx, hb, hml, hown, hts⟩ (m_X11_isOf l D cy ad h g H.size x4 x1 P_32 HC_32) (cwV 2 hts (gd_V (wm5 234 rfl rfl) (wm5 236 rfl rfl) (wmp4 (q := (yX11_isOf, 26)) 6 rfl) (wm1 13 rfl rfl) (wm5 237 rfl rfl)) rfl rfl rfl (by decide +kernel) ⟨Nat.le_of_ble_eq_true rfl, Nat.le_of_ble_eq_true rfl⟩) hK hNw hG gl_135 rfl gk_135 (by decide) rfl rfl hl.1 rfl (lv_room (Nat.le_of_ble_eq_true rfl)) dX11_findFirst_32 ⟨Nat.zero_le _, Nat.zero_le _⟩) hG (fun r_32 h_32 g_32 H locs hz hq hG => ?_)
        replace HW := HW r_32 h_32 g_32 hz hq
        refine lv_if_eq (tgt := 111) hx hb dX11_findFirst_35 (by decide) (fun c_35 => ?_) (fun c_35 => ?_)
        · replace HW := HW.1 c_35
          exact B111 K17 hK17 x1 x2 x3 x4 h_32 g_32 _ _ _ HW hG (lv_sub hl [0, 1, 2, 3, 4] rfl)
        · replace HW := HW.2 c_35
          refine lv_aload_n hx hb dX11_findFirst_38 rfl (lv_at hl 0 rfl) ?_
          refine lv_iload hx hb dX11_findFirst_39 (lv_at hl 4 rfl) ?_
          obtain ⟨P_41, HC_41, HW⟩ := HW
          refine g_callv (g_runV (As := [.int x4]) (rest := []) ⟨hx, hb, hml, hown, hts⟩ (m_X11_lets l D cy ad h_32 g_32 H.size x4 P_41 HC_41) (cwV 1 hts (gd_V (wm5 238 rfl rfl) (wm6 0 rfl rfl) (wmp4 (q := (yX11_lets, 26)) 7 rfl) (wm1 13 rfl rfl) (wm6 1 rfl rfl)) rfl rfl rfl (by decide +kernel) ⟨Nat.le_of_ble_eq_true rfl, Nat.le_of_ble_eq_true rfl⟩) hK hNw hG gl_135 rfl gk_135 (by decide) rfl rfl hl.1 rfl (lv_room (Nat.le_of_ble_eq_true rfl)) dX11_findFirst_41 ⟨Nat.zero_le _, Nat.zero_le _⟩) hG (fun h_41 g_41 H locs hq hG => ?_)
          replace HW := HW h_41 g_41 hq
          refine lv_aload_n hx hb dX11_findFirst_44 rfl (lv_at hl 0 rfl) ?_
          refine lv_aload_n hx hb dX11_findFirst_45 rfl (lv_at hl 0 rfl) ?_
          refine g_geti hx hb hw inG11 hown hK hG gl_135 rfl gk_135 (by decide) 9 (by decide) (by rw [gm_135]; decide) gr_135_9 lk148 dX11_findFirst_46 ?_
          obtain ⟨P_49, HC_49, HW⟩ := HW
          refine g_calli (g_runV (As := [.int (h_41 135 9)]) (rest := []) ⟨hx, hb, hml, hown, hts⟩ (m_X11_numberFrom l D cy ad h_41 g_41 H.size (h_41 135 9) P_49 HC_49) (cwV 1 hts (gd_V (wm6 4 rfl rfl) (wm6 6 rfl rfl) (wmp4 (q := (yX11_numberFrom, 26)) 8 rfl) (wm1 13 rfl rfl) (wm6 7 rfl rfl)) rfl rfl rfl (by decide +kernel) ⟨Nat.le_of_ble_eq_true rfl, Nat.le_of_ble_eq_true rfl⟩) hK hNw hG gl_135 rfl gk_135 (by decide) rfl rfl hl.1 rfl (lv_room (Nat.le_of_ble_eq_true rfl)) dX11_findFirst_49 ⟨Nat.zero_le _, Nat.zero_le _⟩) hG (fun r_49 h_49 g_49 H locs hq hG => ?_)
          replace HW := HW r_49 h_49 g_49 hq
          refine lv_istore (lv' := [(5, .int r_49), (0, .ref (ad 135)), (1, .int x1), (2, .int x2), (3, .int x3), (4, .int x4)]) hx hb dX11_findFirst_52 hl (by decide) rfl (fun ls hl => ?_)
          refine lv_aload_n hx hb dX11_findFirst_54 rfl (lv_at hl 1 rfl) ?_
          refine g_geti hx hb hw inG11 hown hK hG gl_135 rfl gk_135 (by decide) 10 (by decide) (by rw [gm_135]; decide) gr_135_10 lk152 dX11_findFirst_55 ?_
          refine lv_aload_n hx hb dX11_findFirst_58 rfl (lv_at hl 1 rfl) ?_
          refine g_geti hx hb hw inG11 hown hK hG gl_135 rfl gk_135 (by decide) 11 (by decide) (by rw [gm_135]; decide) gr_135_11 lk155 dX11_findFirst_59 ?_
          refine lv_icmp_ge (tgt := 69) hx hb dX11_findFirst_62 (by decide) (fun c_62 => ?_) (fun c_62 => ?_)
          · replace HW := HW.1 c_62
            refine lv_aload_n hx hb dX11_findFirst_69 rfl (lv_at hl 1 rfl) ?_
            refine g_geti hx hb hw inG11 hown hK hG gl_135 rfl gk_135 (by decide) 10 (by decide) (by rw [gm_135]; decide) gr_135_10 lk152 dX11_findFirst_70 ?_
            refine lv_aload_n hx hb dX11_findFirst_73 rfl (lv_at hl 1 rfl) ?_
            refine g_geti hx hb hw inG11 hown hK hG gl_135 rfl gk_135 (by decide) 11 (by decide) (by rw [gm_135]; decide) gr_135_11 lk155 dX11_findFirst_74 ?_
            refine lv_isub hx hb dX11_findFirst_77 ?_
            refine lv_aload_n hx hb dX11_findFirst_78 rfl (lv_at hl 1 rfl) ?_
            refine g_geti hx hb hw inG11 hown hK hG gl_135 rfl gk_135 (by decide) 12 (by decide) (by rw [gm_135]; decide) gr_135_12 lk158 dX11_findFirst_79 ?_
            refine lv_idiv hx hb dX11_findFirst_82 HW.1 ?_
            replace HW := HW.2
            exact B83 K17 hK17 x1 x2 x3 x4 r_49 (((h_49 135 10) - (h_49 135 11)) / (h_49 135 12)) h_49 g_49 _ _ _ HW hG (lv_sub hl [1, 2, 3, 4, 5, 0] rfl)
          · replace HW := HW.2 c_62
            refine lv_iconst (v := (-1)) hx hb dX11_findFirst_65 (by decide) ?_
            refine lv_goto (tgt := 83) hx hb dX11_findFirst_66 (by decide) ?_
            exact B83 K17 hK17 x1 x2 x3 x4 r_49 (-1 : Int32) h_49 g_49 _ _ _ HW hG (lv_sub hl [1, 2, 3, 4, 5, 0] rfl)
  have E0 : ∀ (H : Heap) (locs : List Loc) (ls : Array Slot), gG D cy ad (gA ad s.heap.size) s.heap h g H locs → lv_has ls 7 [(0, .ref (ad 135)), (1, .int x1)] → W p l e ({ frames := 6, cells := 0, slots := 0, locals := 140 } : Room) s m args below meth c H locs 0 0 (MQ below (va_Qv (fun (u : HI × HL) => Q u.1 u.2) (gB D cy ad s.heap.size) (gA ad s.heap.size)) args s 0 0 (gA ad s.heap.size)) (F0 m 0 ls []) := by
    intro H locs ls hG hl
    unfold w_X11_findFirst at HW
    refine lv_aload_n hx hb dX11_findFirst_0 rfl (lv_at hl 0 rfl) ?_
    refine lv_iload_n hx hb dX11_findFirst_1 rfl (lv_at hl 1 rfl) ?_
    obtain ⟨P_2, HC_2, HW⟩ := HW
    refine g_callv (g_runV (As := [.int x1]) (rest := []) ⟨hx, hb, hml, hown, hts⟩ (m_X11_findFamily l D cy ad h g H.size x1 P_2 HC_2) (cwV 1 hts (gd_V (wm5 230 rfl rfl) (wm5 232 rfl rfl) (wmp4 (q := (yX11_findFamily, 26)) 5 rfl) (wm1 13 rfl rfl) (wm5 233 rfl rfl)) rfl rfl rfl (by decide +kernel) ⟨Nat.le_of_ble_eq_true rfl, Nat.le_of_ble_eq_true rfl⟩) hK hNw hG gl_135 rfl gk_135 (by decide) rfl rfl hl.1 rfl (lv_room (Nat.le_of_ble_eq_true rfl)) dX11_findFirst_2 ⟨Nat.zero_le _, Nat.zero_le _⟩) hG (fun h_2 g_2 H locs hq hG => ?_)
    replace HW := HW h_2 g_2 hq
    refine lv_iconst (v := 0) hx hb dX11_findFirst_5 (by decide) ?_
    refine lv_istore_n (lv' := [(2, .int (0 : Int32)), (0, .ref (ad 135)), (1, .int x1)]) hx hb dX11_findFirst_6 rfl hl (by decide) rfl (fun ls hl => ?_)
    refine lv_aload_n hx hb dX11_findFirst_7 rfl (lv_at hl 1 rfl) ?_
    refine g_geti hx hb hw inG11 hown hK hG gl_135 rfl gk_135 (by decide) 13 (by decide) (by rw [gm_135]; decide) gr_135_13 lk161 dX11_findFirst_8 ?_
    refine lv_iconst (v := 1) hx hb dX11_findFirst_11 (by decide) ?_
    refine lv_isub hx hb dX11_findFirst_12 ?_
    refine lv_topi (fun x3_13 ex3_13 => ?_)
    replace HW := HW x3_13 ex3_13
    refine lv_istore_n (lv' := [(3, .int x3_13), (2, .int (0 : Int32)), (0, .ref (ad 135)), (1, .int x1)]) hx hb dX11_findFirst_13 rfl hl (by decide) rfl (fun ls hl => ?_)
    refine lv_iconst (v := 0) hx hb dX11_findFirst_14 (by decide) ?_
    refine lv_istore (lv' := [(4, .int (0 : Int32)), (3, .int x3_13), (2, .int (0 : Int32)), (0, .ref (ad 135)), (1, .int x1)]) hx hb dX11_findFirst_15 hl (by decide) rfl (fun ls hl => ?_)
    obtain ⟨n_17, HW⟩ := HW
    exact L17 n_17 x1 (0 : Int32) x3_13 (0 : Int32) h_2 g_2 _ _ _ HW hG (lv_sub hl [3, 4, 2, 1, 0] rfl)
  exact E0 _ _ _ hG hl

def j_X11_firstOf_56 (Q : Int32 → HI → HL → Prop) (s0 : Int32) (s1 : Int32) (s2 : Int32) (h : HI) (g : HL) : Prop :=
  Q (s0 + (s1 * s2)) h g
def w_X11_firstOf (x1 : Int32) (x2 : Int32) (h : HI) (g : HL) (Q : Int32 → HI → HL → Prop) : Prop :=
  (∃ P_2 : HI → HL → Prop, w_X11_findFirst x1 h g P_2 ∧ ∀ (h_2 : HI) (g_2 : HL), P_2 h_2 g_2 → ((¬ x2 = (2 : Int32) → ((¬ (h_2 135 15) = 0 → ((¬ x2 = 0 → j_X11_firstOf_56 Q (h_2 135 11) (h_2 135 12) (((h_2 135 14) + (h_2 135 15)) - (1 : Int32)) h_2 g_2) ∧ (x2 = 0 → j_X11_firstOf_56 Q (h_2 135 11) (h_2 135 12) (h_2 135 14) h_2 g_2))) ∧ ((h_2 135 15) = 0 → Q (-1 : Int32) h_2 g_2))) ∧ (x2 = (2 : Int32) → Q (h_2 135 15) h_2 g_2)))
set_option maxHeartbeats 8000000 in
set_option maxRecDepth 100000 in
theorem m_X11_firstOf (l : Launch) (D : va_G) (cy : Nat → ClassId) (ad : Nat → Nat) (h : HI) (g : HL) (sz : Nat) (x1 : Int32) (x2 : Int32) (Q : Int32 → HI → HL → Prop) (HW : w_X11_firstOf x1 x2 h g Q) : Met l yX11_firstOf (wa yX11_firstOf cX11_firstOf 3 (some .int)) ({ frames := 7, cells := 0, slots := 0, locals := 166 }) (va_Pc [.ref (ad 135), .int x1, .int x2] (gI D cy ad h g sz)) (va_Qi (fun (r : Int32) (u : HI × HL) => Q r u.1 u.2) (gB D cy ad sz) (gA ad sz)) 0 0 (gA ad sz) := by
  refine Met.ofW (cc := cX11_firstOf) (maxL := 3) (ret := (some .int)) (by decide) rfl ?_
  intro p e s m args below meth c s₁ B hml hv
  obtain ⟨hav, hsz, hP, hK, hD0, hNw⟩ := hv
  have hx := B.exec
  have hb := B.bytes
  have hr := B.returns
  have hts := atoms_spec (ws := (wa yX11_firstOf cX11_firstOf 3 (some .int))) B.pre
  have hw := wa_hw hts
  have hown : s.vm.findClass RX11 = some m.cls := findClass_of_methodNamed B.named
  have hlocks := B.notSynchronized
  subst hsz
  have hG : gG D cy ad (gA ad s.heap.size) s.heap h g s.heap [] := ⟨hP, gA_self hD0, va_S.rf⟩
  clear hP hD0
  have lk179 := hw (.fieldLink RX11 179 "OldWorksModel" "firstMany" "I") (wm5 42 rfl rfl)
  have lk155 := hw (.fieldLink RX11 155 "OldWorksModel" "least" "I") (wm5 38 rfl rfl)
  have lk158 := hw (.fieldLink RX11 158 "OldWorksModel" "stride" "I") (wm5 39 rfl rfl)
  have lk176 := hw (.fieldLink RX11 176 "OldWorksModel" "firstNumber" "I") (wm5 41 rfl rfl)
  rw [show (headSpec (wa yX11_firstOf cX11_firstOf 3 (some .int)) ({ frames := 7, cells := 0, slots := 0, locals := 166 } : Room)).room = ({ frames := 7, cells := 0, slots := 0, locals := 166 } : Room) from rfl]
  have hl := lv_entry ([.ref (ad 135), .int x1, .int x2]) (n := 3) (Nat.le_of_ble_eq_true rfl)
  rw [show entryFrame m args 3 = entryFrame m ([.ref (ad 135), .int x1, .int x2] : List Value).toArray 3 from by rw [hav], lg_entry_eq]
  generalize (lg_sl ([.ref (ad 135), .int x1, .int x2]) ++ List.replicate (3 - (lg_sl ([.ref (ad 135), .int x1, .int x2])).length) Slot.unset).toArray = ls at hl ⊢
  have hl : lv_has ls 3 [(0, .ref (ad 135)), (1, .int x1), (2, .int x2)] := hl
  have B56 : ∀ (s0 : Int32) (s1 : Int32) (s2 : Int32) (h : HI) (g : HL) (H : Heap) (locs : List Loc) (ls : Array Slot), j_X11_firstOf_56 Q s0 s1 s2 h g → gG D cy ad (gA ad s.heap.size) s.heap h g H locs → lv_has ls 3 [] → W p l e ({ frames := 7, cells := 0, slots := 0, locals := 166 } : Room) s m args below meth c H locs 0 0 (MQ below (va_Qi (fun (r : Int32) (u : HI × HL) => Q r u.1 u.2) (gB D cy ad s.heap.size) (gA ad s.heap.size)) args s 0 0 (gA ad s.heap.size)) (F0 m 56 ls [.int s2, .int s1, .int s0]) := by
    intro s0 s1 s2 h g H locs ls HW hG hl
    unfold j_X11_firstOf_56 at HW
    refine lv_imul hx hb dX11_firstOf_56 ?_
    refine lv_iadd hx hb dX11_firstOf_57 ?_
    exact W.iret (v := (s0 + (s1 * s2))) hx hb hr (fun t ht hW => ⟨⟨(s0 + (s1 * s2)), (h, g), rfl, HW, g_B ht hG⟩, hG.2.2.F ht⟩) hG.2.2.2.2 dX11_firstOf_58
  have E0 : ∀ (H : Heap) (locs : List Loc) (ls : Array Slot), gG D cy ad (gA ad s.heap.size) s.heap h g H locs → lv_has ls 3 [(0, .ref (ad 135)), (1, .int x1), (2, .int x2)] → W p l e ({ frames := 7, cells := 0, slots := 0, locals := 166 } : Room) s m args below meth c H locs 0 0 (MQ below (va_Qi (fun (r : Int32) (u : HI × HL) => Q r u.1 u.2) (gB D cy ad s.heap.size) (gA ad s.heap.size)) args s 0 0 (gA ad s.heap.size)) (F0 m 0 ls []) := by
    intro H locs ls hG hl
    unfold w_X11_firstOf at HW
    refine lv_aload_n hx hb dX11_firstOf_0 rfl (lv_at hl 0 rfl) ?_
    refine lv_iload_n hx hb dX11_firstOf_1 rfl (lv_at hl 1 rfl) ?_
    obtain ⟨P_2, HC_2, HW⟩ := HW
    refine g_callv (g_runV (As := [.int x1]) (rest := []) ⟨hx, hb, hml, hown, hts⟩ (m_X11_findFirst l D cy ad h g H.size x1 P_2 HC_2) (cwV 1 hts (gd_V (wm5 226 rfl rfl) (wm5 228 rfl rfl) (wmp4 (q := (yX11_findFirst, 26)) 4 rfl) (wm1 13 rfl rfl) (wm5 229 rfl rfl)) rfl rfl rfl (by decide +kernel) ⟨Nat.le_of_ble_eq_true rfl, Nat.le_of_ble_eq_true rfl⟩) hK hNw hG gl_135 rfl gk_135 (by decide) rfl rfl hl.1 rfl (lv_room (Nat.le_of_ble_eq_true rfl)) dX11_firstOf_2 ⟨Nat.zero_le _, Nat.zero_le _⟩) hG (fun h_2 g_2 H locs hq hG => ?_)
    replace HW := HW h_2 g_2 hq
    refine lv_iload_n hx hb dX11_firstOf_5 rfl (lv_at hl 2 rfl) ?_
    refine lv_iconst (v := 2) hx hb dX11_firstOf_6 (by decide) ?_
    refine lv_icmp_ne (tgt := 15) hx hb dX11_firstOf_7 (by decide) (fun c_7 => ?_) (fun c_7 => ?_)
    · replace HW := HW.1 c_7
      refine lv_aload_n hx hb dX11_firstOf_15 rfl (lv_at hl 0 rfl) ?_
      refine g_geti hx hb hw inG11 hown hK hG gl_135 rfl gk_135 (by decide) 15 (by decide) (by rw [gm_135]; decide) gr_135_15 lk179 dX11_firstOf_16 ?_
      refine lv_if_ne (tgt := 26) hx hb dX11_firstOf_19 (by decide) (fun c_19 => ?_) (fun c_19 => ?_)
      · replace HW := HW.1 c_19
        refine lv_aload_n hx hb dX11_firstOf_26 rfl (lv_at hl 0 rfl) ?_
        refine g_geti hx hb hw inG11 hown hK hG gl_135 rfl gk_135 (by decide) 11 (by decide) (by rw [gm_135]; decide) gr_135_11 lk155 dX11_firstOf_27 ?_
        refine lv_aload_n hx hb dX11_firstOf_30 rfl (lv_at hl 0 rfl) ?_
        refine g_geti hx hb hw inG11 hown hK hG gl_135 rfl gk_135 (by decide) 12 (by decide) (by rw [gm_135]; decide) gr_135_12 lk158 dX11_firstOf_31 ?_
        refine lv_iload_n hx hb dX11_firstOf_34 rfl (lv_at hl 2 rfl) ?_
        refine lv_if_ne (tgt := 45) hx hb dX11_firstOf_35 (by decide) (fun c_35 => ?_) (fun c_35 => ?_)
        · replace HW := HW.1 c_35
          refine lv_aload_n hx hb dX11_firstOf_45 rfl (lv_at hl 0 rfl) ?_
          refine g_geti hx hb hw inG11 hown hK hG gl_135 rfl gk_135 (by decide) 14 (by decide) (by rw [gm_135]; decide) gr_135_14 lk176 dX11_firstOf_46 ?_
          refine lv_aload_n hx hb dX11_firstOf_49 rfl (lv_at hl 0 rfl) ?_
          refine g_geti hx hb hw inG11 hown hK hG gl_135 rfl gk_135 (by decide) 15 (by decide) (by rw [gm_135]; decide) gr_135_15 lk179 dX11_firstOf_50 ?_
          refine lv_iadd hx hb dX11_firstOf_53 ?_
          refine lv_iconst (v := 1) hx hb dX11_firstOf_54 (by decide) ?_
          refine lv_isub hx hb dX11_firstOf_55 ?_
          exact B56 (h_2 135 11) (h_2 135 12) (((h_2 135 14) + (h_2 135 15)) - (1 : Int32)) h_2 g_2 _ _ _ HW hG (lv_sub hl [] rfl)
        · replace HW := HW.2 c_35
          refine lv_aload_n hx hb dX11_firstOf_38 rfl (lv_at hl 0 rfl) ?_
          refine g_geti hx hb hw inG11 hown hK hG gl_135 rfl gk_135 (by decide) 14 (by decide) (by rw [gm_135]; decide) gr_135_14 lk176 dX11_firstOf_39 ?_
          refine lv_goto (tgt := 56) hx hb dX11_firstOf_42 (by decide) ?_
          exact B56 (h_2 135 11) (h_2 135 12) (h_2 135 14) h_2 g_2 _ _ _ HW hG (lv_sub hl [] rfl)
      · replace HW := HW.2 c_19
        refine lv_iconst (v := (-1)) hx hb dX11_firstOf_22 (by decide) ?_
        refine lv_goto (tgt := 58) hx hb dX11_firstOf_23 (by decide) ?_
        exact W.iret (v := (-1 : Int32)) hx hb hr (fun t ht hW => ⟨⟨(-1 : Int32), (h_2, g_2), rfl, HW, g_B ht hG⟩, hG.2.2.F ht⟩) hG.2.2.2.2 dX11_firstOf_58
    · replace HW := HW.2 c_7
      refine lv_aload_n hx hb dX11_firstOf_10 rfl (lv_at hl 0 rfl) ?_
      refine g_geti hx hb hw inG11 hown hK hG gl_135 rfl gk_135 (by decide) 15 (by decide) (by rw [gm_135]; decide) gr_135_15 lk179 dX11_firstOf_11 ?_
      exact W.iret (v := (h_2 135 15)) hx hb hr (fun t ht hW => ⟨⟨(h_2 135 15), (h_2, g_2), rfl, HW, g_B ht hG⟩, hG.2.2.F ht⟩) hG.2.2.2.2 dX11_firstOf_14
  exact E0 _ _ _ hG hl

def w_X11_first (x1 : Int32) (x2 : Int32) (h : HI) (g : HL) (Q : Int32 → HI → HL → Prop) : Prop :=
  (∃ P_3 : Int32 → HI → HL → Prop, w_X11_is (0 : Int32) x1 h g P_3 ∧ ∀ (r_3 : Int32) (h_3 : HI) (g_3 : HL), zb r_3 → P_3 r_3 h_3 g_3 → ((r_3 = 0 → Q (-2 : Int32) h_3 g_3) ∧ (¬ r_3 = 0 → (∃ P_15 : Int32 → HI → HL → Prop, w_X11_in ((x2).toInt64) (0 : Int64) (2 : Int64) h_3 g_3 P_15 ∧ ∀ (r_15 : Int32) (h_15 : HI) (g_15 : HL), zb r_15 → P_15 r_15 h_15 g_15 → ((r_15 = 0 → Q (-2 : Int32) h_15 g_15) ∧ (¬ r_15 = 0 → (∃ P_24 : Int32 → HI → HL → Prop, w_X11_firstOf x1 x2 h_15 g_15 P_24 ∧ ∀ (r_24 : Int32) (h_24 : HI) (g_24 : HL), P_24 r_24 h_24 g_24 → Q r_24 h_24 g_24)))))))
set_option maxHeartbeats 8000000 in
set_option maxRecDepth 100000 in
theorem m_X11_first (l : Launch) (D : va_G) (cy : Nat → ClassId) (ad : Nat → Nat) (h : HI) (g : HL) (sz : Nat) (x1 : Int32) (x2 : Int32) (Q : Int32 → HI → HL → Prop) (HW : w_X11_first x1 x2 h g Q) : Met l yX11_first (wa yX11_first cX11_first 3 (some .int)) ({ frames := 8, cells := 0, slots := 0, locals := 188 }) (va_Pc [.ref (ad 135), .int x1, .int x2] (gI D cy ad h g sz)) (va_Qi (fun (r : Int32) (u : HI × HL) => Q r u.1 u.2) (gB D cy ad sz) (gA ad sz)) 0 0 (gA ad sz) := by
  refine Met.ofW (cc := cX11_first) (maxL := 3) (ret := (some .int)) (by decide) rfl ?_
  intro p e s m args below meth c s₁ B hml hv
  obtain ⟨hav, hsz, hP, hK, hD0, hNw⟩ := hv
  have hx := B.exec
  have hb := B.bytes
  have hr := B.returns
  have hts := atoms_spec (ws := (wa yX11_first cX11_first 3 (some .int))) B.pre
  have hw := wa_hw hts
  have hown : s.vm.findClass RX11 = some m.cls := findClass_of_methodNamed B.named
  have hlocks := B.notSynchronized
  subst hsz
  have hG : gG D cy ad (gA ad s.heap.size) s.heap h g s.heap [] := ⟨hP, gA_self hD0, va_S.rf⟩
  clear hP hD0
  have cn185 := hw (.constantLong RX11 185 (2)) (wm5 221 rfl rfl)
  rw [show (headSpec (wa yX11_first cX11_first 3 (some .int)) ({ frames := 8, cells := 0, slots := 0, locals := 188 } : Room)).room = ({ frames := 8, cells := 0, slots := 0, locals := 188 } : Room) from rfl]
  have hl := lv_entry ([.ref (ad 135), .int x1, .int x2]) (n := 3) (Nat.le_of_ble_eq_true rfl)
  rw [show entryFrame m args 3 = entryFrame m ([.ref (ad 135), .int x1, .int x2] : List Value).toArray 3 from by rw [hav], lg_entry_eq]
  generalize (lg_sl ([.ref (ad 135), .int x1, .int x2]) ++ List.replicate (3 - (lg_sl ([.ref (ad 135), .int x1, .int x2])).length) Slot.unset).toArray = ls at hl ⊢
  have hl : lv_has ls 3 [(0, .ref (ad 135)), (1, .int x1), (2, .int x2)] := hl
  have E0 : ∀ (H : Heap) (locs : List Loc) (ls : Array Slot), gG D cy ad (gA ad s.heap.size) s.heap h g H locs → lv_has ls 3 [(0, .ref (ad 135)), (1, .int x1), (2, .int x2)] → W p l e ({ frames := 8, cells := 0, slots := 0, locals := 188 } : Room) s m args below meth c H locs 0 0 (MQ below (va_Qi (fun (r : Int32) (u : HI × HL) => Q r u.1 u.2) (gB D cy ad s.heap.size) (gA ad s.heap.size)) args s 0 0 (gA ad s.heap.size)) (F0 m 0 ls []) := by
    intro H locs ls hG hl
    unfold w_X11_first at HW
    refine lv_aload_n hx hb dX11_first_0 rfl (lv_at hl 0 rfl) ?_
    refine lv_iconst (v := 0) hx hb dX11_first_1 (by decide) ?_
    refine lv_iload_n hx hb dX11_first_2 rfl (lv_at hl 1 rfl) ?_
    obtain ⟨P_3, HC_3, HW⟩ := HW
    refine g_callz (g_runV (As := [.int (0 : Int32), .int x1]) (rest := []) ⟨hx, hb, hml, hown, hts⟩ (m_X11_is l D cy ad h g H.size (0 : Int32) x1 P_3 HC_3) (cwV 2 hts (gd_V (wm5 184 rfl rfl) (wm5 186 rfl rfl) (wmp3 (q := (yX11_is, 26)) 14 rfl) (wm1 13 rfl rfl) (wm5 187 rfl rfl)) rfl rfl rfl (by decide +kernel) ⟨Nat.le_of_ble_eq_true rfl, Nat.le_of_ble_eq_true rfl⟩) hK hNw hG gl_135 rfl gk_135 (by decide) rfl rfl hl.1 rfl (lv_room (Nat.le_of_ble_eq_true rfl)) dX11_first_3 ⟨Nat.zero_le _, Nat.zero_le _⟩) hG (fun r_3 h_3 g_3 H locs hz hq hG => ?_)
    replace HW := HW r_3 h_3 g_3 hz hq
    refine lv_if_eq (tgt := 30) hx hb dX11_first_6 (by decide) (fun c_6 => ?_) (fun c_6 => ?_)
    · replace HW := HW.1 c_6
      refine lv_bipush (v := (-2)) hx hb dX11_first_30 (by decide) ?_
      exact W.iret (v := (-2 : Int32)) hx hb hr (fun t ht hW => ⟨⟨(-2 : Int32), (h_3, g_3), rfl, HW, g_B ht hG⟩, hG.2.2.F ht⟩) hG.2.2.2.2 dX11_first_32
    · replace HW := HW.2 c_6
      refine lv_iload_n hx hb dX11_first_9 rfl (lv_at hl 2 rfl) ?_
      refine lv_i2l hx hb dX11_first_10 rfl ?_
      refine lv_lconst (v := 0) hx hb dX11_first_11 (by decide) ?_
      refine lv_ldc2 (v := 2) hx hb hown cn185 dX11_first_12 ?_
      obtain ⟨P_15, HC_15, HW⟩ := HW
      refine g_callz (g_runS (As := [.long ((x2).toInt64), .long (0 : Int64), .long (2 : Int64)]) (rest := []) ⟨hx, hb, hml, hown, hts⟩ (m_X11_in l D cy ad h_3 g_3 H.size ((x2).toInt64) (0 : Int64) (2 : Int64) P_15 HC_15) (va_cwS 3 hts (gd_S (wm5 111 rfl rfl) (wm5 112 rfl rfl) (wm1 13 rfl rfl) (wm5 113 rfl rfl)) rfl rfl rfl (by decide +kernel) ⟨Nat.le_of_ble_eq_true rfl, Nat.le_of_ble_eq_true rfl⟩) hK hNw hG rfl rfl hl.1 rfl (lv_room (Nat.le_of_ble_eq_true rfl)) dX11_first_15 ⟨Nat.zero_le _, Nat.zero_le _⟩) hG (fun r_15 h_15 g_15 H locs hz hq hG => ?_)
      replace HW := HW r_15 h_15 g_15 hz hq
      refine lv_if_eq (tgt := 30) hx hb dX11_first_18 (by decide) (fun c_18 => ?_) (fun c_18 => ?_)
      · replace HW := HW.1 c_18
        refine lv_bipush (v := (-2)) hx hb dX11_first_30 (by decide) ?_
        exact W.iret (v := (-2 : Int32)) hx hb hr (fun t ht hW => ⟨⟨(-2 : Int32), (h_15, g_15), rfl, HW, g_B ht hG⟩, hG.2.2.F ht⟩) hG.2.2.2.2 dX11_first_32
      · replace HW := HW.2 c_18
        refine lv_aload_n hx hb dX11_first_21 rfl (lv_at hl 0 rfl) ?_
        refine lv_iload_n hx hb dX11_first_22 rfl (lv_at hl 1 rfl) ?_
        refine lv_iload_n hx hb dX11_first_23 rfl (lv_at hl 2 rfl) ?_
        obtain ⟨P_24, HC_24, HW⟩ := HW
        refine g_calli (g_runV (As := [.int x1, .int x2]) (rest := []) ⟨hx, hb, hml, hown, hts⟩ (m_X11_firstOf l D cy ad h_15 g_15 H.size x1 x2 P_24 HC_24) (cwV 2 hts (gd_V (wm5 222 rfl rfl) (wm5 224 rfl rfl) (wmp4 (q := (yX11_firstOf, 26)) 3 rfl) (wm1 13 rfl rfl) (wm5 225 rfl rfl)) rfl rfl rfl (by decide +kernel) ⟨Nat.le_of_ble_eq_true rfl, Nat.le_of_ble_eq_true rfl⟩) hK hNw hG gl_135 rfl gk_135 (by decide) rfl rfl hl.1 rfl (lv_room (Nat.le_of_ble_eq_true rfl)) dX11_first_24 ⟨Nat.zero_le _, Nat.zero_le _⟩) hG (fun r_24 h_24 g_24 H locs hq hG => ?_)
        replace HW := HW r_24 h_24 g_24 hq
        refine lv_goto (tgt := 32) hx hb dX11_first_27 (by decide) ?_
        exact W.iret (v := r_24) hx hb hr (fun t ht hW => ⟨⟨r_24, (h_24, g_24), rfl, HW, g_B ht hG⟩, hG.2.2.F ht⟩) hG.2.2.2.2 dX11_first_32
  exact E0 _ _ _ hG hl

def w_X11_quarrels (x1 : Int32) (x2 : Int32) (x3 : Int32) (h : HI) (g : HL) (Q : Int32 → HI → HL → Prop) : Prop :=
  (∃ P_3 : Int32 → HI → HL → Prop, w_X11_isOf x1 x2 h g P_3 ∧ ∀ (r_3 : Int32) (h_3 : HI) (g_3 : HL), zb r_3 → P_3 r_3 h_3 g_3 → ((¬ r_3 = 0 → (∃ P_13 : HI → HL → Prop, w_X11_lets x1 h_3 g_3 P_13 ∧ ∀ (h_13 : HI) (g_13 : HL), P_13 h_13 g_13 → (∃ P_28 : Int32 → HI → HL → Prop, w_X11_in ((x3).toInt64) (((h_13 135 9)).toInt64) (((h_13 135 10)).toInt64) h_13 g_13 P_28 ∧ ∀ (r_28 : Int32) (h_28 : HI) (g_28 : HL), zb r_28 → P_28 r_28 h_28 g_28 → ((¬ r_28 = 0 → Q (0 : Int32) h_28 g_28) ∧ (r_28 = 0 → Q (1 : Int32) h_28 g_28))))) ∧ (r_3 = 0 → Q (0 : Int32) h_3 g_3)))
set_option maxHeartbeats 8000000 in
set_option maxRecDepth 100000 in
theorem m_X11_quarrels (l : Launch) (D : va_G) (cy : Nat → ClassId) (ad : Nat → Nat) (h : HI) (g : HL) (sz : Nat) (x1 : Int32) (x2 : Int32) (x3 : Int32) (Q : Int32 → HI → HL → Prop) (HW : w_X11_quarrels x1 x2 x3 h g Q) : Met l yX11_quarrels (wa yX11_quarrels cX11_quarrels 4 (some .boolean)) ({ frames := 6, cells := 0, slots := 0, locals := 140 }) (va_Pc [.ref (ad 135), .int x1, .int x2, .int x3] (gI D cy ad h g sz)) (va_Qi (fun (r : Int32) (u : HI × HL) => zb r ∧ Q r u.1 u.2) (gB D cy ad sz) (gA ad sz)) 0 0 (gA ad sz) := by
  refine Met.ofW (cc := cX11_quarrels) (maxL := 4) (ret := (some .boolean)) (by decide) rfl ?_
  intro p e s m args below meth c s₁ B hml hv
  obtain ⟨hav, hsz, hP, hK, hD0, hNw⟩ := hv
  have hx := B.exec
  have hb := B.bytes
  have hr := B.returns
  have hts := atoms_spec (ws := (wa yX11_quarrels cX11_quarrels 4 (some .boolean))) B.pre
  have hw := wa_hw hts
  have hown : s.vm.findClass RX11 = some m.cls := findClass_of_methodNamed B.named
  have hlocks := B.notSynchronized
  subst hsz
  have hG : gG D cy ad (gA ad s.heap.size) s.heap h g s.heap [] := ⟨hP, gA_self hD0, va_S.rf⟩
  clear hP hD0
  have lk148 := hw (.fieldLink RX11 148 "OldWorksModel" "low" "I") (wm5 36 rfl rfl)
  have lk152 := hw (.fieldLink RX11 152 "OldWorksModel" "high" "I") (wm5 37 rfl rfl)
  rw [show (headSpec (wa yX11_quarrels cX11_quarrels 4 (some .boolean)) ({ frames := 6, cells := 0, slots := 0, locals := 140 } : Room)).room = ({ frames := 6, cells := 0, slots := 0, locals := 140 } : Room) from rfl]
  have hl := lv_entry ([.ref (ad 135), .int x1, .int x2, .int x3]) (n := 4) (Nat.le_of_ble_eq_true rfl)
  rw [show entryFrame m args 4 = entryFrame m ([.ref (ad 135), .int x1, .int x2, .int x3] : List Value).toArray 4 from by rw [hav], lg_entry_eq]
  generalize (lg_sl ([.ref (ad 135), .int x1, .int x2, .int x3]) ++ List.replicate (4 - (lg_sl ([.ref (ad 135), .int x1, .int x2, .int x3])).length) Slot.unset).toArray = ls at hl ⊢
  have hl : lv_has ls 4 [(0, .ref (ad 135)), (1, .int x1), (2, .int x2), (3, .int x3)] := hl
  have E0 : ∀ (H : Heap) (locs : List Loc) (ls : Array Slot), gG D cy ad (gA ad s.heap.size) s.heap h g H locs → lv_has ls 4 [(0, .ref (ad 135)), (1, .int x1), (2, .int x2), (3, .int x3)] → W p l e ({ frames := 6, cells := 0, slots := 0, locals := 140 } : Room) s m args below meth c H locs 0 0 (MQ below (va_Qi (fun (r : Int32) (u : HI × HL) => zb r ∧ Q r u.1 u.2) (gB D cy ad s.heap.size) (gA ad s.heap.size)) args s 0 0 (gA ad s.heap.size)) (F0 m 0 ls []) := by
    intro H locs ls hG hl
    unfold w_X11_quarrels at HW
    refine lv_aload_n hx hb dX11_quarrels_0 rfl (lv_at hl 0 rfl) ?_
    refine lv_iload_n hx hb dX11_quarrels_1 rfl (lv_at hl 1 rfl) ?_
    refine lv_iload_n hx hb dX11_quarrels_2 rfl (lv_at hl 2 rfl) ?_
    obtain ⟨P_3, HC_3, HW⟩ := HW
    refine g_callz (g_runV (As := [.int x1, .int x2]) (rest := []) ⟨hx, hb, hml, hown, hts⟩ (m_X11_isOf l D cy ad h g H.size x1 x2 P_3 HC_3) (cwV 2 hts (gd_V (wm5 234 rfl rfl) (wm5 236 rfl rfl) (wmp4 (q := (yX11_isOf, 26)) 6 rfl) (wm1 13 rfl rfl) (wm5 237 rfl rfl)) rfl rfl rfl (by decide +kernel) ⟨Nat.le_of_ble_eq_true rfl, Nat.le_of_ble_eq_true rfl⟩) hK hNw hG gl_135 rfl gk_135 (by decide) rfl rfl hl.1 rfl (lv_room (Nat.le_of_ble_eq_true rfl)) dX11_quarrels_3 ⟨Nat.zero_le _, Nat.zero_le _⟩) hG (fun r_3 h_3 g_3 H locs hz hq hG => ?_)
    replace HW := HW r_3 h_3 g_3 hz hq
    refine lv_if_ne (tgt := 11) hx hb dX11_quarrels_6 (by decide) (fun c_6 => ?_) (fun c_6 => ?_)
    · replace HW := HW.1 c_6
      refine lv_aload_n hx hb dX11_quarrels_11 rfl (lv_at hl 0 rfl) ?_
      refine lv_iload_n hx hb dX11_quarrels_12 rfl (lv_at hl 1 rfl) ?_
      obtain ⟨P_13, HC_13, HW⟩ := HW
      refine g_callv (g_runV (As := [.int x1]) (rest := []) ⟨hx, hb, hml, hown, hts⟩ (m_X11_lets l D cy ad h_3 g_3 H.size x1 P_13 HC_13) (cwV 1 hts (gd_V (wm5 238 rfl rfl) (wm6 0 rfl rfl) (wmp4 (q := (yX11_lets, 26)) 7 rfl) (wm1 13 rfl rfl) (wm6 1 rfl rfl)) rfl rfl rfl (by decide +kernel) ⟨Nat.le_of_ble_eq_true rfl, Nat.le_of_ble_eq_true rfl⟩) hK hNw hG gl_135 rfl gk_135 (by decide) rfl rfl hl.1 rfl (lv_room (Nat.le_of_ble_eq_true rfl)) dX11_quarrels_13 ⟨Nat.zero_le _, Nat.zero_le _⟩) hG (fun h_13 g_13 H locs hq hG => ?_)
      replace HW := HW h_13 g_13 hq
      refine lv_iload_n hx hb dX11_quarrels_16 rfl (lv_at hl 3 rfl) ?_
      refine lv_i2l hx hb dX11_quarrels_17 rfl ?_
      refine lv_aload_n hx hb dX11_quarrels_18 rfl (lv_at hl 0 rfl) ?_
      refine g_geti hx hb hw inG11 hown hK hG gl_135 rfl gk_135 (by decide) 9 (by decide) (by rw [gm_135]; decide) gr_135_9 lk148 dX11_quarrels_19 ?_
      refine lv_i2l hx hb dX11_quarrels_22 rfl ?_
      refine lv_aload_n hx hb dX11_quarrels_23 rfl (lv_at hl 0 rfl) ?_
      refine g_geti hx hb hw inG11 hown hK hG gl_135 rfl gk_135 (by decide) 10 (by decide) (by rw [gm_135]; decide) gr_135_10 lk152 dX11_quarrels_24 ?_
      refine lv_i2l hx hb dX11_quarrels_27 rfl ?_
      obtain ⟨P_28, HC_28, HW⟩ := HW
      refine g_callz (g_runS (As := [.long ((x3).toInt64), .long (((h_13 135 9)).toInt64), .long (((h_13 135 10)).toInt64)]) (rest := []) ⟨hx, hb, hml, hown, hts⟩ (m_X11_in l D cy ad h_13 g_13 H.size ((x3).toInt64) (((h_13 135 9)).toInt64) (((h_13 135 10)).toInt64) P_28 HC_28) (va_cwS 3 hts (gd_S (wm5 111 rfl rfl) (wm5 112 rfl rfl) (wm1 13 rfl rfl) (wm5 113 rfl rfl)) rfl rfl rfl (by decide +kernel) ⟨Nat.le_of_ble_eq_true rfl, Nat.le_of_ble_eq_true rfl⟩) hK hNw hG rfl rfl hl.1 rfl (lv_room (Nat.le_of_ble_eq_true rfl)) dX11_quarrels_28 ⟨Nat.zero_le _, Nat.zero_le _⟩) hG (fun r_28 h_28 g_28 H locs hz hq hG => ?_)
      replace HW := HW r_28 h_28 g_28 hz hq
      refine lv_if_ne (tgt := 38) hx hb dX11_quarrels_31 (by decide) (fun c_31 => ?_) (fun c_31 => ?_)
      · replace HW := HW.1 c_31
        refine lv_iconst (v := 0) hx hb dX11_quarrels_38 (by decide) ?_
        exact W.zret (v := (0 : Int32)) hx hb hr rfl (fun t ht hW => ⟨⟨(0 : Int32), (h_28, g_28), rfl, ⟨Or.inl rfl, HW⟩, g_B ht hG⟩, hG.2.2.F ht⟩) hG.2.2.2.2 dX11_quarrels_39
      · replace HW := HW.2 c_31
        refine lv_iconst (v := 1) hx hb dX11_quarrels_34 (by decide) ?_
        refine lv_goto (tgt := 39) hx hb dX11_quarrels_35 (by decide) ?_
        exact W.zret (v := (1 : Int32)) hx hb hr rfl (fun t ht hW => ⟨⟨(1 : Int32), (h_28, g_28), rfl, ⟨Or.inr rfl, HW⟩, g_B ht hG⟩, hG.2.2.F ht⟩) hG.2.2.2.2 dX11_quarrels_39
    · replace HW := HW.2 c_6
      refine lv_iconst (v := 0) hx hb dX11_quarrels_9 (by decide) ?_
      exact W.zret (v := (0 : Int32)) hx hb hr rfl (fun t ht hW => ⟨⟨(0 : Int32), (h_3, g_3), rfl, ⟨Or.inl rfl, HW⟩, g_B ht hG⟩, hG.2.2.F ht⟩) hG.2.2.2.2 dX11_quarrels_10
  exact E0 _ _ _ hG hl

def j_X11_tries_107 (Q : HI → HL → Prop) (x3 : Int32) (x4 : Int32) (h : HI) (g : HL) : Prop :=
  (∀ h_110 : HI, h_110 = hu h 135 17 x4 → (∀ h_115 : HI, h_115 = hu h_110 135 16 x3 → Q h_115 g))
def j_X11_tries_64 (Q : HI → HL → Prop) (K35 : Int32 → Int32 → Int32 → Int32 → HI → HL → Prop) (x1 : Int32) (x3 : Int32) (x5 : Int32) (s0 : Int32) (s1 : Int32) (h : HI) (g : HL) : Prop :=
  (∀ x4_65 : Int32, x4_65 = (s0 + s1) → (∀ x5_67 : Int32, x5_67 = (x5 + 1) → K35 x1 x3 x4_65 x5_67 h g))
def b_X11_tries_35 (Q : HI → HL → Prop) (K35 : Int32 → Int32 → Int32 → Int32 → HI → HL → Prop) (x1 : Int32) (x3 : Int32) (x4 : Int32) (x5 : Int32) (h : HI) (g : HL) : Prop :=
  (vp_in (1 : Int32) 887 ∧ (((h 136 (1 : Int32).toNatClampNeg) ≤ x5 → (((h 135 17) = (-1 : Int32) → j_X11_tries_107 Q x3 x4 h g) ∧ (¬ (h 135 17) = (-1 : Int32) → ((x4 < (h 135 17) → j_X11_tries_107 Q x3 x4 h g) ∧ (¬ x4 < (h 135 17) → ((¬ x4 = (h 135 17) → Q h g) ∧ (x4 = (h 135 17) → (((h 135 16) ≤ x3 → Q h g) ∧ (¬ (h 135 16) ≤ x3 → j_X11_tries_107 Q x3 x4 h g))))))))) ∧ (¬ (h 136 (1 : Int32).toNatClampNeg) ≤ x5 → (∃ P_53 : Int32 → HI → HL → Prop, w_X11_quarrels x5 x1 x3 h g P_53 ∧ ∀ (r_53 : Int32) (h_53 : HI) (g_53 : HL), zb r_53 → P_53 r_53 h_53 g_53 → ((r_53 = 0 → j_X11_tries_64 Q K35 x1 x3 x5 x4 (0 : Int32) h_53 g_53) ∧ (¬ r_53 = 0 → j_X11_tries_64 Q K35 x1 x3 x5 x4 (1 : Int32) h_53 g_53))))))
def F_X11_tries_35 (Q : HI → HL → Prop) (K : Int32 × Int32 × Int32 × Int32 × HI × HL → Prop) (q : Int32 × Int32 × Int32 × Int32 × HI × HL) : Prop := b_X11_tries_35 Q (fun x1 x3 x4 x5 h g => K (x1, x3, x4, x5, h, g)) q.1 q.2.1 q.2.2.1 q.2.2.2.1 q.2.2.2.2.1 q.2.2.2.2.2
def w_X11_tries (x1 : Int32) (x2 : Int32) (h : HI) (g : HL) (Q : HI → HL → Prop) : Prop :=
  (∃ P_10 : Int32 → HI → HL → Prop, w_X11_in ((x2).toInt64) (0 : Int64) ((((h 135 13) - (1 : Int32))).toInt64) h g P_10 ∧ ∀ (r_10 : Int32) (h_10 : HI) (g_10 : HL), zb r_10 → P_10 r_10 h_10 g_10 → ((¬ r_10 = 0 → (∀ x3_28 : Int32, x3_28 = ((h_10 135 11) + ((h_10 135 12) * x2)) → lpE (F_X11_tries_35 Q) (x1, x3_28, (0 : Int32), (0 : Int32), h_10, g_10))) ∧ (r_10 = 0 → Q h_10 g_10)))
set_option maxHeartbeats 8000000 in
set_option maxRecDepth 100000 in
theorem m_X11_tries (l : Launch) (D : va_G) (cy : Nat → ClassId) (ad : Nat → Nat) (h : HI) (g : HL) (sz : Nat) (x1 : Int32) (x2 : Int32) (Q : HI → HL → Prop) (HW : w_X11_tries x1 x2 h g Q) : Met l yX11_tries (wa yX11_tries cX11_tries 6 none) ({ frames := 7, cells := 0, slots := 0, locals := 163 }) (va_Pc [.ref (ad 135), .int x1, .int x2] (gI D cy ad h g sz)) (va_Qv (fun (u : HI × HL) => Q u.1 u.2) (gB D cy ad sz) (gA ad sz)) 0 0 (gA ad sz) := by
  refine Met.ofW (cc := cX11_tries) (maxL := 6) (ret := none) (by decide) rfl ?_
  intro p e s m args below meth c s₁ B hml hv
  obtain ⟨hav, hsz, hP, hK, hD0, hNw⟩ := hv
  have hx := B.exec
  have hb := B.bytes
  have hr := B.returns
  have hts := atoms_spec (ws := (wa yX11_tries cX11_tries 6 none)) B.pre
  have hw := wa_hw hts
  have hown : s.vm.findClass RX11 = some m.cls := findClass_of_methodNamed B.named
  have hlocks := B.notSynchronized
  subst hsz
  have hG : gG D cy ad (gA ad s.heap.size) s.heap h g s.heap [] := ⟨hP, gA_self hD0, va_S.rf⟩
  clear hP hD0
  have lk161 := hw (.fieldLink RX11 161 "OldWorksModel" "many" "I") (wm5 40 rfl rfl)
  have lk155 := hw (.fieldLink RX11 155 "OldWorksModel" "least" "I") (wm5 38 rfl rfl)
  have lk158 := hw (.fieldLink RX11 158 "OldWorksModel" "stride" "I") (wm5 39 rfl rfl)
  have lk7 := hw (.fieldLink RX11 7 "OldWorksModel" "st" "[I") (wm5 27 rfl rfl)
  have lk194 := hw (.fieldLink RX11 194 "OldWorksModel" "bestMany" "I") (wm5 44 rfl rfl)
  have lk197 := hw (.fieldLink RX11 197 "OldWorksModel" "bestSize" "I") (wm5 43 rfl rfl)
  rw [show (headSpec (wa yX11_tries cX11_tries 6 none) ({ frames := 7, cells := 0, slots := 0, locals := 163 } : Room)).room = ({ frames := 7, cells := 0, slots := 0, locals := 163 } : Room) from rfl]
  have hl := lv_entry ([.ref (ad 135), .int x1, .int x2]) (n := 6) (Nat.le_of_ble_eq_true rfl)
  rw [show entryFrame m args 6 = entryFrame m ([.ref (ad 135), .int x1, .int x2] : List Value).toArray 6 from by rw [hav], lg_entry_eq]
  generalize (lg_sl ([.ref (ad 135), .int x1, .int x2]) ++ List.replicate (6 - (lg_sl ([.ref (ad 135), .int x1, .int x2])).length) Slot.unset).toArray = ls at hl ⊢
  have hl : lv_has ls 6 [(0, .ref (ad 135)), (1, .int x1), (2, .int x2)] := hl
  have B107 : ∀ (x3 : Int32) (x4 : Int32) (h : HI) (g : HL) (H : Heap) (locs : List Loc) (ls : Array Slot), j_X11_tries_107 Q x3 x4 h g → gG D cy ad (gA ad s.heap.size) s.heap h g H locs → lv_has ls 6 [(0, .ref (ad 135)), (3, .int x3), (4, .int x4)] → W p l e ({ frames := 7, cells := 0, slots := 0, locals := 163 } : Room) s m args below meth c H locs 0 0 (MQ below (va_Qv (fun (u : HI × HL) => Q u.1 u.2) (gB D cy ad s.heap.size) (gA ad s.heap.size)) args s 0 0 (gA ad s.heap.size)) (F0 m 107 ls []) := by
    intro x3 x4 h g H locs ls HW hG hl
    unfold j_X11_tries_107 at HW
    refine lv_aload_n hx hb dX11_tries_107 rfl (lv_at hl 0 rfl) ?_
    refine lv_iload hx hb dX11_tries_108 (lv_at hl 2 rfl) ?_
    refine g_put hx hb hw inG11 tyX11 tyX11_ok nmX11 hown hK hG gl_135 rfl gk_135 (by decide) 17 (by decide) (by rw [gm_135]; decide) gr_135_17 rfl (ty := .int) (by decide +kernel) rfl rfl lk194 dX11_tries_110 (fun H locs hG => ?_)
    obtain ⟨h_110, eh_110⟩ : ∃ y : HI, y = hu h 135 17 x4 := ⟨_, rfl⟩
    rw [← eh_110] at hG
    replace HW := HW h_110 eh_110
    refine lv_aload_n hx hb dX11_tries_113 rfl (lv_at hl 0 rfl) ?_
    refine lv_iload_n hx hb dX11_tries_114 rfl (lv_at hl 1 rfl) ?_
    refine g_put hx hb hw inG11 tyX11 tyX11_ok nmX11 hown hK hG gl_135 rfl gk_135 (by decide) 16 (by decide) (by rw [gm_135]; decide) gr_135_16 rfl (ty := .int) (by decide +kernel) rfl rfl lk197 dX11_tries_115 (fun H locs hG => ?_)
    obtain ⟨h_115, eh_115⟩ : ∃ y : HI, y = hu h_110 135 16 x3 := ⟨_, rfl⟩
    rw [← eh_115] at hG
    replace HW := HW h_115 eh_115
    exact W.vret hx hb hr (fun t ht hW => ⟨⟨(h_115, g), rfl, HW, g_B ht hG⟩, hG.2.2.F ht⟩) hG.2.2.2.2 dX11_tries_118
  have B64 : ∀ (K35 : Int32 → Int32 → Int32 → Int32 → HI → HL → Prop) (hK35 : ∀ (x1 : Int32) (x3 : Int32) (x4 : Int32) (x5 : Int32) (h : HI) (g : HL) (H : Heap) (locs : List Loc) (ls : Array Slot), K35 x1 x3 x4 x5 h g → gG D cy ad (gA ad s.heap.size) s.heap h g H locs → lv_has ls 6 [(0, .ref (ad 135)), (1, .int x1), (3, .int x3), (4, .int x4), (5, .int x5)] → W p l e ({ frames := 7, cells := 0, slots := 0, locals := 163 } : Room) s m args below meth c H locs 0 0 (MQ below (va_Qv (fun (u : HI × HL) => Q u.1 u.2) (gB D cy ad s.heap.size) (gA ad s.heap.size)) args s 0 0 (gA ad s.heap.size)) (F0 m 35 ls [])) (x1 : Int32) (x3 : Int32) (x5 : Int32) (s0 : Int32) (s1 : Int32) (h : HI) (g : HL) (H : Heap) (locs : List Loc) (ls : Array Slot), j_X11_tries_64 Q K35 x1 x3 x5 s0 s1 h g → gG D cy ad (gA ad s.heap.size) s.heap h g H locs → lv_has ls 6 [(0, .ref (ad 135)), (1, .int x1), (3, .int x3), (5, .int x5)] → W p l e ({ frames := 7, cells := 0, slots := 0, locals := 163 } : Room) s m args below meth c H locs 0 0 (MQ below (va_Qv (fun (u : HI × HL) => Q u.1 u.2) (gB D cy ad s.heap.size) (gA ad s.heap.size)) args s 0 0 (gA ad s.heap.size)) (F0 m 64 ls [.int s1, .int s0]) := by
    intro K35 hK35 x1 x3 x5 s0 s1 h g H locs ls HW hG hl
    unfold j_X11_tries_64 at HW
    refine lv_iadd hx hb dX11_tries_64 ?_
    refine lv_topi (fun x4_65 ex4_65 => ?_)
    replace HW := HW x4_65 ex4_65
    refine lv_istore (lv' := [(4, .int x4_65), (0, .ref (ad 135)), (1, .int x1), (3, .int x3), (5, .int x5)]) hx hb dX11_tries_65 hl (by decide) rfl (fun ls hl => ?_)
    obtain ⟨x5_67, ex5_67⟩ : ∃ y : Int32, y = (x5 + 1) := ⟨_, rfl⟩
    replace HW := HW x5_67 ex5_67
    refine lv_iinc (v := x5_67) (lv' := [(5, .int x5_67), (4, .int x4_65), (0, .ref (ad 135)), (1, .int x1), (3, .int x3)]) hx hb dX11_tries_67 hl (k := 4) rfl (by rw [ex5_67]; rfl) (by decide) rfl (fun ls hl => ?_)
    refine lv_goto (tgt := 35) hx hb dX11_tries_70 (by decide) ?_
    exact hK35 x1 x3 x4_65 x5_67 h g _ _ _ HW hG (lv_sub hl [2, 3, 4, 1, 0] rfl)
  have L35 : ∀ (n : Nat) (x1 : Int32) (x3 : Int32) (x4 : Int32) (x5 : Int32) (h : HI) (g : HL) (H : Heap) (locs : List Loc) (ls : Array Slot), lpN (F_X11_tries_35 Q) n (x1, x3, x4, x5, h, g) → gG D cy ad (gA ad s.heap.size) s.heap h g H locs → lv_has ls 6 [(0, .ref (ad 135)), (1, .int x1), (3, .int x3), (4, .int x4), (5, .int x5)] → W p l e ({ frames := 7, cells := 0, slots := 0, locals := 163 } : Room) s m args below meth c H locs 0 0 (MQ below (va_Qv (fun (u : HI × HL) => Q u.1 u.2) (gB D cy ad s.heap.size) (gA ad s.heap.size)) args s 0 0 (gA ad s.heap.size)) (F0 m 35 ls []) := by
    intro n
    induction n with
    | zero => intro x1 x3 x4 x5 h g H locs ls HW; exact HW.elim
    | succ n ih =>
      intro x1 x3 x4 x5 h g H locs ls HW hG hl
      have HW : b_X11_tries_35 Q (fun x1 x3 x4 x5 h g => lpN (F_X11_tries_35 Q) n (x1, x3, x4, x5, h, g)) x1 x3 x4 x5 h g := HW
      generalize hKe : (fun (x1 : Int32) (x3 : Int32) (x4 : Int32) (x5 : Int32) (h : HI) (g : HL) => lpN (F_X11_tries_35 Q) n (x1, x3, x4, x5, h, g)) = K35 at HW
      have hK35 : ∀ (x1 : Int32) (x3 : Int32) (x4 : Int32) (x5 : Int32) (h : HI) (g : HL) (H : Heap) (locs : List Loc) (ls : Array Slot), K35 x1 x3 x4 x5 h g → gG D cy ad (gA ad s.heap.size) s.heap h g H locs → lv_has ls 6 [(0, .ref (ad 135)), (1, .int x1), (3, .int x3), (4, .int x4), (5, .int x5)] → W p l e ({ frames := 7, cells := 0, slots := 0, locals := 163 } : Room) s m args below meth c H locs 0 0 (MQ below (va_Qv (fun (u : HI × HL) => Q u.1 u.2) (gB D cy ad s.heap.size) (gA ad s.heap.size)) args s 0 0 (gA ad s.heap.size)) (F0 m 35 ls []) := by subst hKe; exact ih
      clear ih
      clear hKe
      unfold b_X11_tries_35 at HW
      refine lv_iload hx hb dX11_tries_35 (lv_at hl 4 rfl) ?_
      refine lv_aload_n hx hb dX11_tries_37 rfl (lv_at hl 0 rfl) ?_
      refine g_getr hx hb hw inG11 hown hK hG gl_135 rfl gk_135 (by decide) 0 (by decide) (by rw [gm_135]; decide) (r := 136) gr_135_0 lk7 dX11_tries_38 ?_
      refine lv_iconst (v := 1) hx hb dX11_tries_41 (by decide) ?_
      refine g_iald hx hb hK hG gl_136 gk_136 gn_136 HW.1 dX11_tries_42 ?_
      replace HW := HW.2
      refine lv_icmp_ge (tgt := 73) hx hb dX11_tries_43 (by decide) (fun c_43 => ?_) (fun c_43 => ?_)
      · replace HW := HW.1 c_43
        refine lv_aload_n hx hb dX11_tries_73 rfl (lv_at hl 0 rfl) ?_
        refine g_geti hx hb hw inG11 hown hK hG gl_135 rfl gk_135 (by decide) 17 (by decide) (by rw [gm_135]; decide) gr_135_17 lk194 dX11_tries_74 ?_
        refine lv_iconst (v := (-1)) hx hb dX11_tries_77 (by decide) ?_
        refine lv_icmp_eq (tgt := 107) hx hb dX11_tries_78 (by decide) (fun c_78 => ?_) (fun c_78 => ?_)
        · replace HW := HW.1 c_78
          exact B107 x3 x4 h g _ _ _ HW hG (lv_sub hl [0, 2, 3] rfl)
        · replace HW := HW.2 c_78
          refine lv_iload hx hb dX11_tries_81 (lv_at hl 3 rfl) ?_
          refine lv_aload_n hx hb dX11_tries_83 rfl (lv_at hl 0 rfl) ?_
          refine g_geti hx hb hw inG11 hown hK hG gl_135 rfl gk_135 (by decide) 17 (by decide) (by rw [gm_135]; decide) gr_135_17 lk194 dX11_tries_84 ?_
          refine lv_icmp_lt (tgt := 107) hx hb dX11_tries_87 (by decide) (fun c_87 => ?_) (fun c_87 => ?_)
          · replace HW := HW.1 c_87
            exact B107 x3 x4 h g _ _ _ HW hG (lv_sub hl [0, 2, 3] rfl)
          · replace HW := HW.2 c_87
            refine lv_iload hx hb dX11_tries_90 (lv_at hl 3 rfl) ?_
            refine lv_aload_n hx hb dX11_tries_92 rfl (lv_at hl 0 rfl) ?_
            refine g_geti hx hb hw inG11 hown hK hG gl_135 rfl gk_135 (by decide) 17 (by decide) (by rw [gm_135]; decide) gr_135_17 lk194 dX11_tries_93 ?_
            refine lv_icmp_ne (tgt := 118) hx hb dX11_tries_96 (by decide) (fun c_96 => ?_) (fun c_96 => ?_)
            · replace HW := HW.1 c_96
              exact W.vret hx hb hr (fun t ht hW => ⟨⟨(h, g), rfl, HW, g_B ht hG⟩, hG.2.2.F ht⟩) hG.2.2.2.2 dX11_tries_118
            · replace HW := HW.2 c_96
              refine lv_iload_n hx hb dX11_tries_99 rfl (lv_at hl 2 rfl) ?_
              refine lv_aload_n hx hb dX11_tries_100 rfl (lv_at hl 0 rfl) ?_
              refine g_geti hx hb hw inG11 hown hK hG gl_135 rfl gk_135 (by decide) 16 (by decide) (by rw [gm_135]; decide) gr_135_16 lk197 dX11_tries_101 ?_
              refine lv_icmp_ge (tgt := 118) hx hb dX11_tries_104 (by decide) (fun c_104 => ?_) (fun c_104 => ?_)
              · replace HW := HW.1 c_104
                exact W.vret hx hb hr (fun t ht hW => ⟨⟨(h, g), rfl, HW, g_B ht hG⟩, hG.2.2.F ht⟩) hG.2.2.2.2 dX11_tries_118
              · replace HW := HW.2 c_104
                exact B107 x3 x4 h g _ _ _ HW hG (lv_sub hl [0, 2, 3] rfl)
      · replace HW := HW.2 c_43
        refine lv_iload hx hb dX11_tries_46 (lv_at hl 3 rfl) ?_
        refine lv_aload_n hx hb dX11_tries_48 rfl (lv_at hl 0 rfl) ?_
        refine lv_iload hx hb dX11_tries_49 (lv_at hl 4 rfl) ?_
        refine lv_iload_n hx hb dX11_tries_51 rfl (lv_at hl 1 rfl) ?_
        refine lv_iload_n hx hb dX11_tries_52 rfl (lv_at hl 2 rfl) ?_
        obtain ⟨P_53, HC_53, HW⟩ := HW
        refine g_callz (g_runV (As := [.int x5, .int x1, .int x3]) (rest := [.int x4]) ⟨hx, hb, hml, hown, hts⟩ (m_X11_quarrels l D cy ad h g H.size x5 x1 x3 P_53 HC_53) (cwV 3 hts (gd_V (wm6 16 rfl rfl) (wm6 18 rfl rfl) (wmp4 (q := (yX11_quarrels, 26)) 10 rfl) (wm1 13 rfl rfl) (wm6 19 rfl rfl)) rfl rfl rfl (by decide +kernel) ⟨Nat.le_of_ble_eq_true rfl, Nat.le_of_ble_eq_true rfl⟩) hK hNw hG gl_135 rfl gk_135 (by decide) rfl rfl hl.1 rfl (lv_room (Nat.le_of_ble_eq_true rfl)) dX11_tries_53 ⟨Nat.zero_le _, Nat.zero_le _⟩) hG (fun r_53 h_53 g_53 H locs hz hq hG => ?_)
        replace HW := HW r_53 h_53 g_53 hz hq
        refine lv_if_eq (tgt := 63) hx hb dX11_tries_56 (by decide) (fun c_56 => ?_) (fun c_56 => ?_)
        · replace HW := HW.1 c_56
          refine lv_iconst (v := 0) hx hb dX11_tries_63 (by decide) ?_
          exact B64 K35 hK35 x1 x3 x5 x4 (0 : Int32) h_53 g_53 _ _ _ HW hG (lv_sub hl [0, 1, 2, 4] rfl)
        · replace HW := HW.2 c_56
          refine lv_iconst (v := 1) hx hb dX11_tries_59 (by decide) ?_
          refine lv_goto (tgt := 64) hx hb dX11_tries_60 (by decide) ?_
          exact B64 K35 hK35 x1 x3 x5 x4 (1 : Int32) h_53 g_53 _ _ _ HW hG (lv_sub hl [0, 1, 2, 4] rfl)
  have E0 : ∀ (H : Heap) (locs : List Loc) (ls : Array Slot), gG D cy ad (gA ad s.heap.size) s.heap h g H locs → lv_has ls 6 [(0, .ref (ad 135)), (1, .int x1), (2, .int x2)] → W p l e ({ frames := 7, cells := 0, slots := 0, locals := 163 } : Room) s m args below meth c H locs 0 0 (MQ below (va_Qv (fun (u : HI × HL) => Q u.1 u.2) (gB D cy ad s.heap.size) (gA ad s.heap.size)) args s 0 0 (gA ad s.heap.size)) (F0 m 0 ls []) := by
    intro H locs ls hG hl
    unfold w_X11_tries at HW
    refine lv_iload_n hx hb dX11_tries_0 rfl (lv_at hl 2 rfl) ?_
    refine lv_i2l hx hb dX11_tries_1 rfl ?_
    refine lv_lconst (v := 0) hx hb dX11_tries_2 (by decide) ?_
    refine lv_aload_n hx hb dX11_tries_3 rfl (lv_at hl 0 rfl) ?_
    refine g_geti hx hb hw inG11 hown hK hG gl_135 rfl gk_135 (by decide) 13 (by decide) (by rw [gm_135]; decide) gr_135_13 lk161 dX11_tries_4 ?_
    refine lv_iconst (v := 1) hx hb dX11_tries_7 (by decide) ?_
    refine lv_isub hx hb dX11_tries_8 ?_
    refine lv_i2l hx hb dX11_tries_9 rfl ?_
    obtain ⟨P_10, HC_10, HW⟩ := HW
    refine g_callz (g_runS (As := [.long ((x2).toInt64), .long (0 : Int64), .long ((((h 135 13) - (1 : Int32))).toInt64)]) (rest := []) ⟨hx, hb, hml, hown, hts⟩ (m_X11_in l D cy ad h g H.size ((x2).toInt64) (0 : Int64) ((((h 135 13) - (1 : Int32))).toInt64) P_10 HC_10) (va_cwS 3 hts (gd_S (wm5 111 rfl rfl) (wm5 112 rfl rfl) (wm1 13 rfl rfl) (wm5 113 rfl rfl)) rfl rfl rfl (by decide +kernel) ⟨Nat.le_of_ble_eq_true rfl, Nat.le_of_ble_eq_true rfl⟩) hK hNw hG rfl rfl hl.1 rfl (lv_room (Nat.le_of_ble_eq_true rfl)) dX11_tries_10 ⟨Nat.zero_le _, Nat.zero_le _⟩) hG (fun r_10 h_10 g_10 H locs hz hq hG => ?_)
    replace HW := HW r_10 h_10 g_10 hz hq
    refine lv_if_ne (tgt := 17) hx hb dX11_tries_13 (by decide) (fun c_13 => ?_) (fun c_13 => ?_)
    · replace HW := HW.1 c_13
      refine lv_aload_n hx hb dX11_tries_17 rfl (lv_at hl 0 rfl) ?_
      refine g_geti hx hb hw inG11 hown hK hG gl_135 rfl gk_135 (by decide) 11 (by decide) (by rw [gm_135]; decide) gr_135_11 lk155 dX11_tries_18 ?_
      refine lv_aload_n hx hb dX11_tries_21 rfl (lv_at hl 0 rfl) ?_
      refine g_geti hx hb hw inG11 hown hK hG gl_135 rfl gk_135 (by decide) 12 (by decide) (by rw [gm_135]; decide) gr_135_12 lk158 dX11_tries_22 ?_
      refine lv_iload_n hx hb dX11_tries_25 rfl (lv_at hl 2 rfl) ?_
      refine lv_imul hx hb dX11_tries_26 ?_
      refine lv_iadd hx hb dX11_tries_27 ?_
      refine lv_topi (fun x3_28 ex3_28 => ?_)
      replace HW := HW x3_28 ex3_28
      refine lv_istore_n (lv' := [(3, .int x3_28), (0, .ref (ad 135)), (1, .int x1), (2, .int x2)]) hx hb dX11_tries_28 rfl hl (by decide) rfl (fun ls hl => ?_)
      refine lv_iconst (v := 0) hx hb dX11_tries_29 (by decide) ?_
      refine lv_istore (lv' := [(4, .int (0 : Int32)), (3, .int x3_28), (0, .ref (ad 135)), (1, .int x1), (2, .int x2)]) hx hb dX11_tries_30 hl (by decide) rfl (fun ls hl => ?_)
      refine lv_iconst (v := 0) hx hb dX11_tries_32 (by decide) ?_
      refine lv_istore (lv' := [(5, .int (0 : Int32)), (4, .int (0 : Int32)), (3, .int x3_28), (0, .ref (ad 135)), (1, .int x1), (2, .int x2)]) hx hb dX11_tries_33 hl (by decide) rfl (fun ls hl => ?_)
      obtain ⟨n_35, HW⟩ := HW
      exact L35 n_35 x1 x3_28 (0 : Int32) (0 : Int32) h_10 g_10 _ _ _ HW hG (lv_sub hl [3, 4, 2, 1, 0] rfl)
    · replace HW := HW.2 c_13
      exact W.vret hx hb hr (fun t ht hW => ⟨⟨(h_10, g_10), rfl, HW, g_B ht hG⟩, hG.2.2.F ht⟩) hG.2.2.2.2 dX11_tries_16
  exact E0 _ _ _ hG hl
