def b_X11_image_22 (Q : Int32 → HI → HL → Prop) (K22 : Int32 → Int32 → HI → HL → Prop) (x1 : Int32) (x2 : Int32) (h : HI) (g : HL) : Prop :=
  (((887 : Int32) ≤ x2 → Q (1 : Int32) h g) ∧ (¬ (887 : Int32) ≤ x2 → (vp_in x2 887 ∧ (vp_in (((887 : Int32) * x1) + x2) 1774 ∧ ∀ h_46 : HI, h_46 = hu h 137 (((887 : Int32) * x1) + x2).toNatClampNeg (h 136 x2.toNatClampNeg) → (∀ x2_47 : Int32, x2_47 = (x2 + 1) → K22 x1 x2_47 h_46 g)))))
def F_X11_image_22 (Q : Int32 → HI → HL → Prop) (K : Int32 × Int32 × HI × HL → Prop) (q : Int32 × Int32 × HI × HL) : Prop := b_X11_image_22 Q (fun x1 x2 h g => K (x1, x2, h, g)) q.1 q.2.1 q.2.2.1 q.2.2.2
def w_X11_image (x1 : Int32) (h : HI) (g : HL) (Q : Int32 → HI → HL → Prop) : Prop :=
  (∃ P_4 : Int32 → HI → HL → Prop, w_X11_in ((x1).toInt64) (0 : Int64) (1 : Int64) h g P_4 ∧ ∀ (r_4 : Int32) (h_4 : HI) (g_4 : HL), zb r_4 → P_4 r_4 h_4 g_4 → ((¬ r_4 = 0 → (vp_in x1 2 ∧ ∀ h_19 : HI, h_19 = hu h_4 138 x1.toNatClampNeg (vp_nar .boolean (1 : Int32)) → lpE (F_X11_image_22 Q) (x1, (0 : Int32), h_19, g_4))) ∧ (r_4 = 0 → Q (-2 : Int32) h_4 g_4)))
set_option maxHeartbeats 8000000 in
set_option maxRecDepth 100000 in
theorem m_X11_image (l : Launch) (D : va_G) (cy : Nat → ClassId) (ad : Nat → Nat) (h : HI) (g : HL) (sz : Nat) (x1 : Int32) (Q : Int32 → HI → HL → Prop) (HW : w_X11_image x1 h g Q) : Met l yX11_image (wa yX11_image cX11_image 3 (some .int)) ({ frames := 1, cells := 0, slots := 0, locals := 25 }) (va_Pc [.ref (ad 135), .int x1] (gI D cy ad h g sz)) (va_Qi (fun (r : Int32) (u : HI × HL) => Q r u.1 u.2) (gB D cy ad sz) (gA ad sz)) 0 0 (gA ad sz) := by
  refine Met.ofW (cc := cX11_image) (maxL := 3) (ret := (some .int)) (by decide) rfl ?_
  intro p e s m args below meth c s₁ B hml hv
  obtain ⟨hav, hsz, hP, hK, hD0, hNw⟩ := hv
  have hx := B.exec
  have hb := B.bytes
  have hr := B.returns
  have hts := atoms_spec (ws := (wa yX11_image cX11_image 3 (some .int))) B.pre
  have hw := wa_hw hts
  have hown : s.vm.findClass RX11 = some m.cls := findClass_of_methodNamed B.named
  have hlocks := B.notSynchronized
  subst hsz
  have hG : gG D cy ad (gA ad s.heap.size) s.heap h g s.heap [] := ⟨hP, gA_self hD0, va_S.rf⟩
  clear hP hD0
  have lk16 := hw (.fieldLink RX11 16 "OldWorksModel" "isKept" "[Z") (wm5 29 rfl rfl)
  have lk13 := hw (.fieldLink RX11 13 "OldWorksModel" "images" "[I") (wm5 28 rfl rfl)
  have lk7 := hw (.fieldLink RX11 7 "OldWorksModel" "st" "[I") (wm5 27 rfl rfl)
  rw [show (headSpec (wa yX11_image cX11_image 3 (some .int)) ({ frames := 1, cells := 0, slots := 0, locals := 25 } : Room)).room = ({ frames := 1, cells := 0, slots := 0, locals := 25 } : Room) from rfl]
  have hl := lv_entry ([.ref (ad 135), .int x1]) (n := 3) (Nat.le_of_ble_eq_true rfl)
  rw [show entryFrame m args 3 = entryFrame m ([.ref (ad 135), .int x1] : List Value).toArray 3 from by rw [hav], lg_entry_eq]
  generalize (lg_sl ([.ref (ad 135), .int x1]) ++ List.replicate (3 - (lg_sl ([.ref (ad 135), .int x1])).length) Slot.unset).toArray = ls at hl ⊢
  have hl : lv_has ls 3 [(0, .ref (ad 135)), (1, .int x1)] := hl
  have L22 : ∀ (n : Nat) (x1 : Int32) (x2 : Int32) (h : HI) (g : HL) (H : Heap) (locs : List Loc) (ls : Array Slot), lpN (F_X11_image_22 Q) n (x1, x2, h, g) → gG D cy ad (gA ad s.heap.size) s.heap h g H locs → lv_has ls 3 [(0, .ref (ad 135)), (1, .int x1), (2, .int x2)] → W p l e ({ frames := 1, cells := 0, slots := 0, locals := 25 } : Room) s m args below meth c H locs 0 0 (MQ below (va_Qi (fun (r : Int32) (u : HI × HL) => Q r u.1 u.2) (gB D cy ad s.heap.size) (gA ad s.heap.size)) args s 0 0 (gA ad s.heap.size)) (F0 m 22 ls []) := by
    intro n
    induction n with
    | zero => intro x1 x2 h g H locs ls HW; exact HW.elim
    | succ n ih =>
      intro x1 x2 h g H locs ls HW hG hl
      have HW : b_X11_image_22 Q (fun x1 x2 h g => lpN (F_X11_image_22 Q) n (x1, x2, h, g)) x1 x2 h g := HW
      generalize hKe : (fun (x1 : Int32) (x2 : Int32) (h : HI) (g : HL) => lpN (F_X11_image_22 Q) n (x1, x2, h, g)) = K22 at HW
      have hK22 : ∀ (x1 : Int32) (x2 : Int32) (h : HI) (g : HL) (H : Heap) (locs : List Loc) (ls : Array Slot), K22 x1 x2 h g → gG D cy ad (gA ad s.heap.size) s.heap h g H locs → lv_has ls 3 [(0, .ref (ad 135)), (1, .int x1), (2, .int x2)] → W p l e ({ frames := 1, cells := 0, slots := 0, locals := 25 } : Room) s m args below meth c H locs 0 0 (MQ below (va_Qi (fun (r : Int32) (u : HI × HL) => Q r u.1 u.2) (gB D cy ad s.heap.size) (gA ad s.heap.size)) args s 0 0 (gA ad s.heap.size)) (F0 m 22 ls []) := by subst hKe; exact ih
      clear ih
      clear hKe
      unfold b_X11_image_22 at HW
      refine lv_iload_n hx hb dX11_image_22 rfl (lv_at hl 2 rfl) ?_
      refine lv_sipush (v := 887) hx hb dX11_image_23 (by decide) ?_
      refine lv_icmp_ge (tgt := 53) hx hb dX11_image_26 (by decide) (fun c_26 => ?_) (fun c_26 => ?_)
      · replace HW := HW.1 c_26
        refine lv_iconst (v := 1) hx hb dX11_image_53 (by decide) ?_
        exact W.iret (v := (1 : Int32)) hx hb hr (fun t ht hW => ⟨⟨(1 : Int32), (h, g), rfl, HW, g_B ht hG⟩, hG.2.2.F ht⟩) hG.2.2.2.2 dX11_image_54
      · replace HW := HW.2 c_26
        refine lv_aload_n hx hb dX11_image_29 rfl (lv_at hl 0 rfl) ?_
        refine g_getr hx hb hw inG11 hown hK hG gl_135 rfl gk_135 (by decide) 1 (by decide) (by rw [gm_135]; decide) (r := 137) gr_135_1 lk13 dX11_image_30 ?_
        refine lv_sipush (v := 887) hx hb dX11_image_33 (by decide) ?_
        refine lv_iload_n hx hb dX11_image_36 rfl (lv_at hl 1 rfl) ?_
        refine lv_imul hx hb dX11_image_37 ?_
        refine lv_iload_n hx hb dX11_image_38 rfl (lv_at hl 2 rfl) ?_
        refine lv_iadd hx hb dX11_image_39 ?_
        refine lv_aload_n hx hb dX11_image_40 rfl (lv_at hl 0 rfl) ?_
        refine g_getr hx hb hw inG11 hown hK hG gl_135 rfl gk_135 (by decide) 0 (by decide) (by rw [gm_135]; decide) (r := 136) gr_135_0 lk7 dX11_image_41 ?_
        refine lv_iload_n hx hb dX11_image_44 rfl (lv_at hl 2 rfl) ?_
        refine g_iald hx hb hK hG gl_136 gk_136 gn_136 HW.1 dX11_image_45 ?_
        replace HW := HW.2
        refine g_iast hx hb hK hG gl_137 gk_137 gn_137 HW.1 dX11_image_46 (fun H locs hG => ?_)
        replace HW := HW.2
        obtain ⟨h_46, eh_46⟩ : ∃ y : HI, y = hu h 137 (((887 : Int32) * x1) + x2).toNatClampNeg (h 136 x2.toNatClampNeg) := ⟨_, rfl⟩
        rw [← eh_46] at hG
        replace HW := HW h_46 eh_46
        obtain ⟨x2_47, ex2_47⟩ : ∃ y : Int32, y = (x2 + 1) := ⟨_, rfl⟩
        replace HW := HW x2_47 ex2_47
        refine lv_iinc (v := x2_47) (lv' := [(2, .int x2_47), (0, .ref (ad 135)), (1, .int x1)]) hx hb dX11_image_47 hl (k := 2) rfl (by rw [ex2_47]; rfl) (by decide) rfl (fun ls hl => ?_)
        refine lv_goto (tgt := 22) hx hb dX11_image_50 (by decide) ?_
        exact hK22 x1 x2_47 h_46 g _ _ _ HW hG (lv_sub hl [1, 2, 0] rfl)
  have E0 : ∀ (H : Heap) (locs : List Loc) (ls : Array Slot), gG D cy ad (gA ad s.heap.size) s.heap h g H locs → lv_has ls 3 [(0, .ref (ad 135)), (1, .int x1)] → W p l e ({ frames := 1, cells := 0, slots := 0, locals := 25 } : Room) s m args below meth c H locs 0 0 (MQ below (va_Qi (fun (r : Int32) (u : HI × HL) => Q r u.1 u.2) (gB D cy ad s.heap.size) (gA ad s.heap.size)) args s 0 0 (gA ad s.heap.size)) (F0 m 0 ls []) := by
    intro H locs ls hG hl
    unfold w_X11_image at HW
    refine lv_iload_n hx hb dX11_image_0 rfl (lv_at hl 1 rfl) ?_
    refine lv_i2l hx hb dX11_image_1 rfl ?_
    refine lv_lconst (v := 0) hx hb dX11_image_2 (by decide) ?_
    refine lv_lconst (v := 1) hx hb dX11_image_3 (by decide) ?_
    obtain ⟨P_4, HC_4, HW⟩ := HW
    refine g_callz (g_runS (As := [.long ((x1).toInt64), .long (0 : Int64), .long (1 : Int64)]) (rest := []) ⟨hx, hb, hml, hown, hts⟩ (m_X11_in l D cy ad h g H.size ((x1).toInt64) (0 : Int64) (1 : Int64) P_4 HC_4) (va_cwS 3 hts (gd_S (wm5 111 rfl rfl) (wm5 112 rfl rfl) (wm1 13 rfl rfl) (wm5 113 rfl rfl)) rfl rfl rfl (by decide +kernel) ⟨Nat.le_of_ble_eq_true rfl, Nat.le_of_ble_eq_true rfl⟩) hK hNw hG rfl rfl hl.1 rfl (lv_room (Nat.le_of_ble_eq_true rfl)) dX11_image_4 ⟨Nat.zero_le _, Nat.zero_le _⟩) hG (fun r_4 h_4 g_4 H locs hz hq hG => ?_)
    replace HW := HW r_4 h_4 g_4 hz hq
    refine lv_if_ne (tgt := 13) hx hb dX11_image_7 (by decide) (fun c_7 => ?_) (fun c_7 => ?_)
    · replace HW := HW.1 c_7
      refine lv_aload_n hx hb dX11_image_13 rfl (lv_at hl 0 rfl) ?_
      refine g_getr hx hb hw inG11 hown hK hG gl_135 rfl gk_135 (by decide) 2 (by decide) (by rw [gm_135]; decide) (r := 138) gr_135_2 lk16 dX11_image_14 ?_
      refine lv_iload_n hx hb dX11_image_17 rfl (lv_at hl 1 rfl) ?_
      refine lv_iconst (v := 1) hx hb dX11_image_18 (by decide) ?_
      refine g_zast hx hb hK hG gl_138 gk_138 gn_138 HW.1 dX11_image_19 (fun H locs hG => ?_)
      replace HW := HW.2
      obtain ⟨h_19, eh_19⟩ : ∃ y : HI, y = hu h_4 138 x1.toNatClampNeg (vp_nar .boolean (1 : Int32)) := ⟨_, rfl⟩
      rw [← eh_19] at hG
      replace HW := HW h_19 eh_19
      refine lv_iconst (v := 0) hx hb dX11_image_20 (by decide) ?_
      refine lv_istore_n (lv' := [(2, .int (0 : Int32)), (0, .ref (ad 135)), (1, .int x1)]) hx hb dX11_image_21 rfl hl (by decide) rfl (fun ls hl => ?_)
      obtain ⟨n_22, HW⟩ := HW
      exact L22 n_22 x1 (0 : Int32) h_19 g_4 _ _ _ HW hG (lv_sub hl [1, 2, 0] rfl)
    · replace HW := HW.2 c_7
      refine lv_bipush (v := (-2)) hx hb dX11_image_10 (by decide) ?_
      exact W.iret (v := (-2 : Int32)) hx hb hr (fun t ht hW => ⟨⟨(-2 : Int32), (h_4, g_4), rfl, HW, g_B ht hG⟩, hG.2.2.F ht⟩) hG.2.2.2.2 dX11_image_12
  exact E0 _ _ _ hG hl

def b_X11_from_27 (Q : Int32 → HI → HL → Prop) (K27 : Int32 → Int32 → HI → HL → Prop) (x1 : Int32) (x2 : Int32) (h : HI) (g : HL) : Prop :=
  (((887 : Int32) ≤ x2 → Q (1 : Int32) h g) ∧ (¬ (887 : Int32) ≤ x2 → (vp_in (((887 : Int32) * x1) + x2) 1774 ∧ (vp_in x2 887 ∧ ∀ h_51 : HI, h_51 = hu h 136 x2.toNatClampNeg (h 137 (((887 : Int32) * x1) + x2).toNatClampNeg) → (∀ x2_52 : Int32, x2_52 = (x2 + 1) → K27 x1 x2_52 h_51 g)))))
def F_X11_from_27 (Q : Int32 → HI → HL → Prop) (K : Int32 × Int32 × HI × HL → Prop) (q : Int32 × Int32 × HI × HL) : Prop := b_X11_from_27 Q (fun x1 x2 h g => K (x1, x2, h, g)) q.1 q.2.1 q.2.2.1 q.2.2.2
def w_X11_from (x1 : Int32) (h : HI) (g : HL) (Q : Int32 → HI → HL → Prop) : Prop :=
  (∃ P_4 : Int32 → HI → HL → Prop, w_X11_in ((x1).toInt64) (0 : Int64) (1 : Int64) h g P_4 ∧ ∀ (r_4 : Int32) (h_4 : HI) (g_4 : HL), zb r_4 → P_4 r_4 h_4 g_4 → ((¬ r_4 = 0 → (vp_in x1 2 ∧ ((¬ (h_4 138 x1.toNatClampNeg) = 0 → lpE (F_X11_from_27 Q) (x1, (0 : Int32), h_4, g_4)) ∧ ((h_4 138 x1.toNatClampNeg) = 0 → Q (-3 : Int32) h_4 g_4)))) ∧ (r_4 = 0 → Q (-2 : Int32) h_4 g_4)))
set_option maxHeartbeats 8000000 in
set_option maxRecDepth 100000 in
theorem m_X11_from (l : Launch) (D : va_G) (cy : Nat → ClassId) (ad : Nat → Nat) (h : HI) (g : HL) (sz : Nat) (x1 : Int32) (Q : Int32 → HI → HL → Prop) (HW : w_X11_from x1 h g Q) : Met l yX11_from (wa yX11_from cX11_from 3 (some .int)) ({ frames := 1, cells := 0, slots := 0, locals := 25 }) (va_Pc [.ref (ad 135), .int x1] (gI D cy ad h g sz)) (va_Qi (fun (r : Int32) (u : HI × HL) => Q r u.1 u.2) (gB D cy ad sz) (gA ad sz)) 0 0 (gA ad sz) := by
  refine Met.ofW (cc := cX11_from) (maxL := 3) (ret := (some .int)) (by decide) rfl ?_
  intro p e s m args below meth c s₁ B hml hv
  obtain ⟨hav, hsz, hP, hK, hD0, hNw⟩ := hv
  have hx := B.exec
  have hb := B.bytes
  have hr := B.returns
  have hts := atoms_spec (ws := (wa yX11_from cX11_from 3 (some .int))) B.pre
  have hw := wa_hw hts
  have hown : s.vm.findClass RX11 = some m.cls := findClass_of_methodNamed B.named
  have hlocks := B.notSynchronized
  subst hsz
  have hG : gG D cy ad (gA ad s.heap.size) s.heap h g s.heap [] := ⟨hP, gA_self hD0, va_S.rf⟩
  clear hP hD0
  have lk16 := hw (.fieldLink RX11 16 "OldWorksModel" "isKept" "[Z") (wm5 29 rfl rfl)
  have lk7 := hw (.fieldLink RX11 7 "OldWorksModel" "st" "[I") (wm5 27 rfl rfl)
  have lk13 := hw (.fieldLink RX11 13 "OldWorksModel" "images" "[I") (wm5 28 rfl rfl)
  rw [show (headSpec (wa yX11_from cX11_from 3 (some .int)) ({ frames := 1, cells := 0, slots := 0, locals := 25 } : Room)).room = ({ frames := 1, cells := 0, slots := 0, locals := 25 } : Room) from rfl]
  have hl := lv_entry ([.ref (ad 135), .int x1]) (n := 3) (Nat.le_of_ble_eq_true rfl)
  rw [show entryFrame m args 3 = entryFrame m ([.ref (ad 135), .int x1] : List Value).toArray 3 from by rw [hav], lg_entry_eq]
  generalize (lg_sl ([.ref (ad 135), .int x1]) ++ List.replicate (3 - (lg_sl ([.ref (ad 135), .int x1])).length) Slot.unset).toArray = ls at hl ⊢
  have hl : lv_has ls 3 [(0, .ref (ad 135)), (1, .int x1)] := hl
  have L27 : ∀ (n : Nat) (x1 : Int32) (x2 : Int32) (h : HI) (g : HL) (H : Heap) (locs : List Loc) (ls : Array Slot), lpN (F_X11_from_27 Q) n (x1, x2, h, g) → gG D cy ad (gA ad s.heap.size) s.heap h g H locs → lv_has ls 3 [(0, .ref (ad 135)), (1, .int x1), (2, .int x2)] → W p l e ({ frames := 1, cells := 0, slots := 0, locals := 25 } : Room) s m args below meth c H locs 0 0 (MQ below (va_Qi (fun (r : Int32) (u : HI × HL) => Q r u.1 u.2) (gB D cy ad s.heap.size) (gA ad s.heap.size)) args s 0 0 (gA ad s.heap.size)) (F0 m 27 ls []) := by
    intro n
    induction n with
    | zero => intro x1 x2 h g H locs ls HW; exact HW.elim
    | succ n ih =>
      intro x1 x2 h g H locs ls HW hG hl
      have HW : b_X11_from_27 Q (fun x1 x2 h g => lpN (F_X11_from_27 Q) n (x1, x2, h, g)) x1 x2 h g := HW
      generalize hKe : (fun (x1 : Int32) (x2 : Int32) (h : HI) (g : HL) => lpN (F_X11_from_27 Q) n (x1, x2, h, g)) = K27 at HW
      have hK27 : ∀ (x1 : Int32) (x2 : Int32) (h : HI) (g : HL) (H : Heap) (locs : List Loc) (ls : Array Slot), K27 x1 x2 h g → gG D cy ad (gA ad s.heap.size) s.heap h g H locs → lv_has ls 3 [(0, .ref (ad 135)), (1, .int x1), (2, .int x2)] → W p l e ({ frames := 1, cells := 0, slots := 0, locals := 25 } : Room) s m args below meth c H locs 0 0 (MQ below (va_Qi (fun (r : Int32) (u : HI × HL) => Q r u.1 u.2) (gB D cy ad s.heap.size) (gA ad s.heap.size)) args s 0 0 (gA ad s.heap.size)) (F0 m 27 ls []) := by subst hKe; exact ih
      clear ih
      clear hKe
      unfold b_X11_from_27 at HW
      refine lv_iload_n hx hb dX11_from_27 rfl (lv_at hl 2 rfl) ?_
      refine lv_sipush (v := 887) hx hb dX11_from_28 (by decide) ?_
      refine lv_icmp_ge (tgt := 58) hx hb dX11_from_31 (by decide) (fun c_31 => ?_) (fun c_31 => ?_)
      · replace HW := HW.1 c_31
        refine lv_iconst (v := 1) hx hb dX11_from_58 (by decide) ?_
        exact W.iret (v := (1 : Int32)) hx hb hr (fun t ht hW => ⟨⟨(1 : Int32), (h, g), rfl, HW, g_B ht hG⟩, hG.2.2.F ht⟩) hG.2.2.2.2 dX11_from_59
      · replace HW := HW.2 c_31
        refine lv_aload_n hx hb dX11_from_34 rfl (lv_at hl 0 rfl) ?_
        refine g_getr hx hb hw inG11 hown hK hG gl_135 rfl gk_135 (by decide) 0 (by decide) (by rw [gm_135]; decide) (r := 136) gr_135_0 lk7 dX11_from_35 ?_
        refine lv_iload_n hx hb dX11_from_38 rfl (lv_at hl 2 rfl) ?_
        refine lv_aload_n hx hb dX11_from_39 rfl (lv_at hl 0 rfl) ?_
        refine g_getr hx hb hw inG11 hown hK hG gl_135 rfl gk_135 (by decide) 1 (by decide) (by rw [gm_135]; decide) (r := 137) gr_135_1 lk13 dX11_from_40 ?_
        refine lv_sipush (v := 887) hx hb dX11_from_43 (by decide) ?_
        refine lv_iload_n hx hb dX11_from_46 rfl (lv_at hl 1 rfl) ?_
        refine lv_imul hx hb dX11_from_47 ?_
        refine lv_iload_n hx hb dX11_from_48 rfl (lv_at hl 2 rfl) ?_
        refine lv_iadd hx hb dX11_from_49 ?_
        refine g_iald hx hb hK hG gl_137 gk_137 gn_137 HW.1 dX11_from_50 ?_
        replace HW := HW.2
        refine g_iast hx hb hK hG gl_136 gk_136 gn_136 HW.1 dX11_from_51 (fun H locs hG => ?_)
        replace HW := HW.2
        obtain ⟨h_51, eh_51⟩ : ∃ y : HI, y = hu h 136 x2.toNatClampNeg (h 137 (((887 : Int32) * x1) + x2).toNatClampNeg) := ⟨_, rfl⟩
        rw [← eh_51] at hG
        replace HW := HW h_51 eh_51
        obtain ⟨x2_52, ex2_52⟩ : ∃ y : Int32, y = (x2 + 1) := ⟨_, rfl⟩
        replace HW := HW x2_52 ex2_52
        refine lv_iinc (v := x2_52) (lv' := [(2, .int x2_52), (0, .ref (ad 135)), (1, .int x1)]) hx hb dX11_from_52 hl (k := 2) rfl (by rw [ex2_52]; rfl) (by decide) rfl (fun ls hl => ?_)
        refine lv_goto (tgt := 27) hx hb dX11_from_55 (by decide) ?_
        exact hK27 x1 x2_52 h_51 g _ _ _ HW hG (lv_sub hl [1, 2, 0] rfl)
  have E0 : ∀ (H : Heap) (locs : List Loc) (ls : Array Slot), gG D cy ad (gA ad s.heap.size) s.heap h g H locs → lv_has ls 3 [(0, .ref (ad 135)), (1, .int x1)] → W p l e ({ frames := 1, cells := 0, slots := 0, locals := 25 } : Room) s m args below meth c H locs 0 0 (MQ below (va_Qi (fun (r : Int32) (u : HI × HL) => Q r u.1 u.2) (gB D cy ad s.heap.size) (gA ad s.heap.size)) args s 0 0 (gA ad s.heap.size)) (F0 m 0 ls []) := by
    intro H locs ls hG hl
    unfold w_X11_from at HW
    refine lv_iload_n hx hb dX11_from_0 rfl (lv_at hl 1 rfl) ?_
    refine lv_i2l hx hb dX11_from_1 rfl ?_
    refine lv_lconst (v := 0) hx hb dX11_from_2 (by decide) ?_
    refine lv_lconst (v := 1) hx hb dX11_from_3 (by decide) ?_
    obtain ⟨P_4, HC_4, HW⟩ := HW
    refine g_callz (g_runS (As := [.long ((x1).toInt64), .long (0 : Int64), .long (1 : Int64)]) (rest := []) ⟨hx, hb, hml, hown, hts⟩ (m_X11_in l D cy ad h g H.size ((x1).toInt64) (0 : Int64) (1 : Int64) P_4 HC_4) (va_cwS 3 hts (gd_S (wm5 111 rfl rfl) (wm5 112 rfl rfl) (wm1 13 rfl rfl) (wm5 113 rfl rfl)) rfl rfl rfl (by decide +kernel) ⟨Nat.le_of_ble_eq_true rfl, Nat.le_of_ble_eq_true rfl⟩) hK hNw hG rfl rfl hl.1 rfl (lv_room (Nat.le_of_ble_eq_true rfl)) dX11_from_4 ⟨Nat.zero_le _, Nat.zero_le _⟩) hG (fun r_4 h_4 g_4 H locs hz hq hG => ?_)
    replace HW := HW r_4 h_4 g_4 hz hq
    refine lv_if_ne (tgt := 13) hx hb dX11_from_7 (by decide) (fun c_7 => ?_) (fun c_7 => ?_)
    · replace HW := HW.1 c_7
      refine lv_aload_n hx hb dX11_from_13 rfl (lv_at hl 0 rfl) ?_
      refine g_getr hx hb hw inG11 hown hK hG gl_135 rfl gk_135 (by decide) 2 (by decide) (by rw [gm_135]; decide) (r := 138) gr_135_2 lk16 dX11_from_14 ?_
      refine lv_iload_n hx hb dX11_from_17 rfl (lv_at hl 1 rfl) ?_
      refine g_zald hx hb hK hG gl_138 gk_138 gn_138 HW.1 dX11_from_18 ?_
      replace HW := HW.2
      refine lv_if_ne (tgt := 25) hx hb dX11_from_19 (by decide) (fun c_19 => ?_) (fun c_19 => ?_)
      · replace HW := HW.1 c_19
        refine lv_iconst (v := 0) hx hb dX11_from_25 (by decide) ?_
        refine lv_istore_n (lv' := [(2, .int (0 : Int32)), (0, .ref (ad 135)), (1, .int x1)]) hx hb dX11_from_26 rfl hl (by decide) rfl (fun ls hl => ?_)
        obtain ⟨n_27, HW⟩ := HW
        exact L27 n_27 x1 (0 : Int32) h_4 g_4 _ _ _ HW hG (lv_sub hl [1, 2, 0] rfl)
      · replace HW := HW.2 c_19
        refine lv_bipush (v := (-3)) hx hb dX11_from_22 (by decide) ?_
        exact W.iret (v := (-3 : Int32)) hx hb hr (fun t ht hW => ⟨⟨(-3 : Int32), (h_4, g_4), rfl, HW, g_B ht hG⟩, hG.2.2.F ht⟩) hG.2.2.2.2 dX11_from_24
    · replace HW := HW.2 c_7
      refine lv_bipush (v := (-2)) hx hb dX11_from_10 (by decide) ?_
      exact W.iret (v := (-2 : Int32)) hx hb hr (fun t ht hW => ⟨⟨(-2 : Int32), (h_4, g_4), rfl, HW, g_B ht hG⟩, hG.2.2.F ht⟩) hG.2.2.2.2 dX11_from_12
  exact E0 _ _ _ hG hl

def b_X11_denied_4 (Q : Int32 → HI → HL → Prop) (K4 : Int32 → Int32 → HI → HL → Prop) (x1 : Int32) (x2 : Int32) (h : HI) (g : HL) : Prop :=
  (vp_in (1 : Int32) 887 ∧ (((h 136 (1 : Int32).toNatClampNeg) ≤ x2 → Q x1 h g) ∧ (¬ (h 136 (1 : Int32).toNatClampNeg) ≤ x2 → (∃ P_18 : Int32 → HI → HL → Prop, w_X11_sayOf x2 (5 : Int32) h g P_18 ∧ ∀ (r_18 : Int32) (h_18 : HI) (g_18 : HL), P_18 r_18 h_18 g_18 → (∀ x1_22 : Int32, x1_22 = (x1 + r_18) → (∀ x2_23 : Int32, x2_23 = (x2 + 1) → K4 x1_22 x2_23 h_18 g_18))))))
def F_X11_denied_4 (Q : Int32 → HI → HL → Prop) (K : Int32 × Int32 × HI × HL → Prop) (q : Int32 × Int32 × HI × HL) : Prop := b_X11_denied_4 Q (fun x1 x2 h g => K (x1, x2, h, g)) q.1 q.2.1 q.2.2.1 q.2.2.2
def w_X11_denied  (h : HI) (g : HL) (Q : Int32 → HI → HL → Prop) : Prop :=
  lpE (F_X11_denied_4 Q) ((0 : Int32), (0 : Int32), h, g)
set_option maxHeartbeats 8000000 in
set_option maxRecDepth 100000 in
theorem m_X11_denied (l : Launch) (D : va_G) (cy : Nat → ClassId) (ad : Nat → Nat) (h : HI) (g : HL) (sz : Nat)  (Q : Int32 → HI → HL → Prop) (HW : w_X11_denied h g Q) : Met l yX11_denied (wa yX11_denied cX11_denied 3 (some .int)) ({ frames := 1, cells := 0, slots := 0, locals := 22 }) (va_Pc [.ref (ad 135)] (gI D cy ad h g sz)) (va_Qi (fun (r : Int32) (u : HI × HL) => Q r u.1 u.2) (gB D cy ad sz) (gA ad sz)) 0 0 (gA ad sz) := by
  refine Met.ofW (cc := cX11_denied) (maxL := 3) (ret := (some .int)) (by decide) rfl ?_
  intro p e s m args below meth c s₁ B hml hv
  obtain ⟨hav, hsz, hP, hK, hD0, hNw⟩ := hv
  have hx := B.exec
  have hb := B.bytes
  have hr := B.returns
  have hts := atoms_spec (ws := (wa yX11_denied cX11_denied 3 (some .int))) B.pre
  have hw := wa_hw hts
  have hown : s.vm.findClass RX11 = some m.cls := findClass_of_methodNamed B.named
  have hlocks := B.notSynchronized
  subst hsz
  have hG : gG D cy ad (gA ad s.heap.size) s.heap h g s.heap [] := ⟨hP, gA_self hD0, va_S.rf⟩
  clear hP hD0
  have lk7 := hw (.fieldLink RX11 7 "OldWorksModel" "st" "[I") (wm5 27 rfl rfl)
  rw [show (headSpec (wa yX11_denied cX11_denied 3 (some .int)) ({ frames := 1, cells := 0, slots := 0, locals := 22 } : Room)).room = ({ frames := 1, cells := 0, slots := 0, locals := 22 } : Room) from rfl]
  have hl := lv_entry ([.ref (ad 135)]) (n := 3) (Nat.le_of_ble_eq_true rfl)
  rw [show entryFrame m args 3 = entryFrame m ([.ref (ad 135)] : List Value).toArray 3 from by rw [hav], lg_entry_eq]
  generalize (lg_sl ([.ref (ad 135)]) ++ List.replicate (3 - (lg_sl ([.ref (ad 135)])).length) Slot.unset).toArray = ls at hl ⊢
  have hl : lv_has ls 3 [(0, .ref (ad 135))] := hl
  have L4 : ∀ (n : Nat) (x1 : Int32) (x2 : Int32) (h : HI) (g : HL) (H : Heap) (locs : List Loc) (ls : Array Slot), lpN (F_X11_denied_4 Q) n (x1, x2, h, g) → gG D cy ad (gA ad s.heap.size) s.heap h g H locs → lv_has ls 3 [(0, .ref (ad 135)), (1, .int x1), (2, .int x2)] → W p l e ({ frames := 1, cells := 0, slots := 0, locals := 22 } : Room) s m args below meth c H locs 0 0 (MQ below (va_Qi (fun (r : Int32) (u : HI × HL) => Q r u.1 u.2) (gB D cy ad s.heap.size) (gA ad s.heap.size)) args s 0 0 (gA ad s.heap.size)) (F0 m 4 ls []) := by
    intro n
    induction n with
    | zero => intro x1 x2 h g H locs ls HW; exact HW.elim
    | succ n ih =>
      intro x1 x2 h g H locs ls HW hG hl
      have HW : b_X11_denied_4 Q (fun x1 x2 h g => lpN (F_X11_denied_4 Q) n (x1, x2, h, g)) x1 x2 h g := HW
      generalize hKe : (fun (x1 : Int32) (x2 : Int32) (h : HI) (g : HL) => lpN (F_X11_denied_4 Q) n (x1, x2, h, g)) = K4 at HW
      have hK4 : ∀ (x1 : Int32) (x2 : Int32) (h : HI) (g : HL) (H : Heap) (locs : List Loc) (ls : Array Slot), K4 x1 x2 h g → gG D cy ad (gA ad s.heap.size) s.heap h g H locs → lv_has ls 3 [(0, .ref (ad 135)), (1, .int x1), (2, .int x2)] → W p l e ({ frames := 1, cells := 0, slots := 0, locals := 22 } : Room) s m args below meth c H locs 0 0 (MQ below (va_Qi (fun (r : Int32) (u : HI × HL) => Q r u.1 u.2) (gB D cy ad s.heap.size) (gA ad s.heap.size)) args s 0 0 (gA ad s.heap.size)) (F0 m 4 ls []) := by subst hKe; exact ih
      clear ih
      clear hKe
      unfold b_X11_denied_4 at HW
      refine lv_iload_n hx hb dX11_denied_4 rfl (lv_at hl 2 rfl) ?_
      refine lv_aload_n hx hb dX11_denied_5 rfl (lv_at hl 0 rfl) ?_
      refine g_getr hx hb hw inG11 hown hK hG gl_135 rfl gk_135 (by decide) 0 (by decide) (by rw [gm_135]; decide) (r := 136) gr_135_0 lk7 dX11_denied_6 ?_
      refine lv_iconst (v := 1) hx hb dX11_denied_9 (by decide) ?_
      refine g_iald hx hb hK hG gl_136 gk_136 gn_136 HW.1 dX11_denied_10 ?_
      replace HW := HW.2
      refine lv_icmp_ge (tgt := 29) hx hb dX11_denied_11 (by decide) (fun c_11 => ?_) (fun c_11 => ?_)
      · replace HW := HW.1 c_11
        refine lv_iload_n hx hb dX11_denied_29 rfl (lv_at hl 1 rfl) ?_
        exact W.iret (v := x1) hx hb hr (fun t ht hW => ⟨⟨x1, (h, g), rfl, HW, g_B ht hG⟩, hG.2.2.F ht⟩) hG.2.2.2.2 dX11_denied_30
      · replace HW := HW.2 c_11
        refine lv_iload_n hx hb dX11_denied_14 rfl (lv_at hl 1 rfl) ?_
        refine lv_aload_n hx hb dX11_denied_15 rfl (lv_at hl 0 rfl) ?_
        refine lv_iload_n hx hb dX11_denied_16 rfl (lv_at hl 2 rfl) ?_
        refine lv_iconst (v := 5) hx hb dX11_denied_17 (by decide) ?_
        obtain ⟨P_18, HC_18, HW⟩ := HW
        refine g_calli (g_runV (As := [.int x2, .int (5 : Int32)]) (rest := [.int x1]) ⟨hx, hb, hml, hown, hts⟩ (m_X11_sayOf l D cy ad h g H.size x2 (5 : Int32) P_18 HC_18) (cwV 2 hts (gd_V (wm5 213 rfl rfl) (wm5 215 rfl rfl) (wmp4 (q := (yX11_sayOf, 26)) 2 rfl) (wm1 13 rfl rfl) (wm5 216 rfl rfl)) rfl rfl rfl (by decide +kernel) ⟨Nat.le_of_ble_eq_true rfl, Nat.le_of_ble_eq_true rfl⟩) hK hNw hG gl_135 rfl gk_135 (by decide) rfl rfl hl.1 rfl (lv_room (Nat.le_of_ble_eq_true rfl)) dX11_denied_18 ⟨Nat.zero_le _, Nat.zero_le _⟩) hG (fun r_18 h_18 g_18 H locs hq hG => ?_)
        replace HW := HW r_18 h_18 g_18 hq
        refine lv_iadd hx hb dX11_denied_21 ?_
        refine lv_topi (fun x1_22 ex1_22 => ?_)
        replace HW := HW x1_22 ex1_22
        refine lv_istore_n (lv' := [(1, .int x1_22), (0, .ref (ad 135)), (2, .int x2)]) hx hb dX11_denied_22 rfl hl (by decide) rfl (fun ls hl => ?_)
        obtain ⟨x2_23, ex2_23⟩ : ∃ y : Int32, y = (x2 + 1) := ⟨_, rfl⟩
        replace HW := HW x2_23 ex2_23
        refine lv_iinc (v := x2_23) (lv' := [(2, .int x2_23), (1, .int x1_22), (0, .ref (ad 135))]) hx hb dX11_denied_23 hl (k := 2) rfl (by rw [ex2_23]; rfl) (by decide) rfl (fun ls hl => ?_)
        refine lv_goto (tgt := 4) hx hb dX11_denied_26 (by decide) ?_
        exact hK4 x1_22 x2_23 h_18 g_18 _ _ _ HW hG (lv_sub hl [2, 1, 0] rfl)
  have E0 : ∀ (H : Heap) (locs : List Loc) (ls : Array Slot), gG D cy ad (gA ad s.heap.size) s.heap h g H locs → lv_has ls 3 [(0, .ref (ad 135))] → W p l e ({ frames := 1, cells := 0, slots := 0, locals := 22 } : Room) s m args below meth c H locs 0 0 (MQ below (va_Qi (fun (r : Int32) (u : HI × HL) => Q r u.1 u.2) (gB D cy ad s.heap.size) (gA ad s.heap.size)) args s 0 0 (gA ad s.heap.size)) (F0 m 0 ls []) := by
    intro H locs ls hG hl
    unfold w_X11_denied at HW
    refine lv_iconst (v := 0) hx hb dX11_denied_0 (by decide) ?_
    refine lv_istore_n (lv' := [(1, .int (0 : Int32)), (0, .ref (ad 135))]) hx hb dX11_denied_1 rfl hl (by decide) rfl (fun ls hl => ?_)
    refine lv_iconst (v := 0) hx hb dX11_denied_2 (by decide) ?_
    refine lv_istore_n (lv' := [(2, .int (0 : Int32)), (1, .int (0 : Int32)), (0, .ref (ad 135))]) hx hb dX11_denied_3 rfl hl (by decide) rfl (fun ls hl => ?_)
    obtain ⟨n_4, HW⟩ := HW
    exact L4 n_4 (0 : Int32) (0 : Int32) h g _ _ _ HW hG (lv_sub hl [2, 1, 0] rfl)
  exact E0 _ _ _ hG hl

def w_X11_countOf (x1 : Int32) (h : HI) (g : HL) (Q : Int32 → HI → HL → Prop) : Prop :=
  (((2 : Int32) ≤ x1 → ((¬ x1 = (2 : Int32) → (vp_in (x1 - (1 : Int32)) 887 ∧ Q (h 136 (x1 - (1 : Int32)).toNatClampNeg) h g)) ∧ (x1 = (2 : Int32) → (∃ P_20 : Int32 → HI → HL → Prop, w_X11_denied h g P_20 ∧ ∀ (r_20 : Int32) (h_20 : HI) (g_20 : HL), P_20 r_20 h_20 g_20 → Q r_20 h_20 g_20)))) ∧ (¬ (2 : Int32) ≤ x1 → (vp_in x1 887 ∧ Q (h 136 x1.toNatClampNeg) h g)))
set_option maxHeartbeats 8000000 in
set_option maxRecDepth 100000 in
theorem m_X11_countOf (l : Launch) (D : va_G) (cy : Nat → ClassId) (ad : Nat → Nat) (h : HI) (g : HL) (sz : Nat) (x1 : Int32) (Q : Int32 → HI → HL → Prop) (HW : w_X11_countOf x1 h g Q) : Met l yX11_countOf (wa yX11_countOf cX11_countOf 2 (some .int)) ({ frames := 2, cells := 0, slots := 0, locals := 44 }) (va_Pc [.ref (ad 135), .int x1] (gI D cy ad h g sz)) (va_Qi (fun (r : Int32) (u : HI × HL) => Q r u.1 u.2) (gB D cy ad sz) (gA ad sz)) 0 0 (gA ad sz) := by
  refine Met.ofW (cc := cX11_countOf) (maxL := 2) (ret := (some .int)) (by decide) rfl ?_
  intro p e s m args below meth c s₁ B hml hv
  obtain ⟨hav, hsz, hP, hK, hD0, hNw⟩ := hv
  have hx := B.exec
  have hb := B.bytes
  have hr := B.returns
  have hts := atoms_spec (ws := (wa yX11_countOf cX11_countOf 2 (some .int))) B.pre
  have hw := wa_hw hts
  have hown : s.vm.findClass RX11 = some m.cls := findClass_of_methodNamed B.named
  have hlocks := B.notSynchronized
  subst hsz
  have hG : gG D cy ad (gA ad s.heap.size) s.heap h g s.heap [] := ⟨hP, gA_self hD0, va_S.rf⟩
  clear hP hD0
  have lk7 := hw (.fieldLink RX11 7 "OldWorksModel" "st" "[I") (wm5 27 rfl rfl)
  rw [show (headSpec (wa yX11_countOf cX11_countOf 2 (some .int)) ({ frames := 2, cells := 0, slots := 0, locals := 44 } : Room)).room = ({ frames := 2, cells := 0, slots := 0, locals := 44 } : Room) from rfl]
  have hl := lv_entry ([.ref (ad 135), .int x1]) (n := 2) (Nat.le_of_ble_eq_true rfl)
  rw [show entryFrame m args 2 = entryFrame m ([.ref (ad 135), .int x1] : List Value).toArray 2 from by rw [hav], lg_entry_eq]
  generalize (lg_sl ([.ref (ad 135), .int x1]) ++ List.replicate (2 - (lg_sl ([.ref (ad 135), .int x1])).length) Slot.unset).toArray = ls at hl ⊢
  have hl : lv_has ls 2 [(0, .ref (ad 135)), (1, .int x1)] := hl
  have E0 : ∀ (H : Heap) (locs : List Loc) (ls : Array Slot), gG D cy ad (gA ad s.heap.size) s.heap h g H locs → lv_has ls 2 [(0, .ref (ad 135)), (1, .int x1)] → W p l e ({ frames := 2, cells := 0, slots := 0, locals := 44 } : Room) s m args below meth c H locs 0 0 (MQ below (va_Qi (fun (r : Int32) (u : HI × HL) => Q r u.1 u.2) (gB D cy ad s.heap.size) (gA ad s.heap.size)) args s 0 0 (gA ad s.heap.size)) (F0 m 0 ls []) := by
    intro H locs ls hG hl
    unfold w_X11_countOf at HW
    refine lv_iload_n hx hb dX11_countOf_0 rfl (lv_at hl 1 rfl) ?_
    refine lv_iconst (v := 2) hx hb dX11_countOf_1 (by decide) ?_
    refine lv_icmp_ge (tgt := 14) hx hb dX11_countOf_2 (by decide) (fun c_2 => ?_) (fun c_2 => ?_)
    · replace HW := HW.1 c_2
      refine lv_iload_n hx hb dX11_countOf_14 rfl (lv_at hl 1 rfl) ?_
      refine lv_iconst (v := 2) hx hb dX11_countOf_15 (by decide) ?_
      refine lv_icmp_ne (tgt := 26) hx hb dX11_countOf_16 (by decide) (fun c_16 => ?_) (fun c_16 => ?_)
      · replace HW := HW.1 c_16
        refine lv_aload_n hx hb dX11_countOf_26 rfl (lv_at hl 0 rfl) ?_
        refine g_getr hx hb hw inG11 hown hK hG gl_135 rfl gk_135 (by decide) 0 (by decide) (by rw [gm_135]; decide) (r := 136) gr_135_0 lk7 dX11_countOf_27 ?_
        refine lv_iload_n hx hb dX11_countOf_30 rfl (lv_at hl 1 rfl) ?_
        refine lv_iconst (v := 1) hx hb dX11_countOf_31 (by decide) ?_
        refine lv_isub hx hb dX11_countOf_32 ?_
        refine g_iald hx hb hK hG gl_136 gk_136 gn_136 HW.1 dX11_countOf_33 ?_
        replace HW := HW.2
        exact W.iret (v := (h 136 (x1 - (1 : Int32)).toNatClampNeg)) hx hb hr (fun t ht hW => ⟨⟨(h 136 (x1 - (1 : Int32)).toNatClampNeg), (h, g), rfl, HW, g_B ht hG⟩, hG.2.2.F ht⟩) hG.2.2.2.2 dX11_countOf_34
      · replace HW := HW.2 c_16
        refine lv_aload_n hx hb dX11_countOf_19 rfl (lv_at hl 0 rfl) ?_
        obtain ⟨P_20, HC_20, HW⟩ := HW
        refine g_calli (g_runV (As := []) (rest := []) ⟨hx, hb, hml, hown, hts⟩ (m_X11_denied l D cy ad h g H.size  P_20 HC_20) (cwV 0 hts (gd_V (wm6 236 rfl rfl) (wm6 238 rfl rfl) (wmp6 (q := (yX11_denied, 26)) 1 rfl) (wm1 13 rfl rfl) (wm6 239 rfl rfl)) rfl rfl rfl (by decide +kernel) ⟨Nat.le_of_ble_eq_true rfl, Nat.le_of_ble_eq_true rfl⟩) hK hNw hG gl_135 rfl gk_135 (by decide) rfl rfl hl.1 rfl (lv_room (Nat.le_of_ble_eq_true rfl)) dX11_countOf_20 ⟨Nat.zero_le _, Nat.zero_le _⟩) hG (fun r_20 h_20 g_20 H locs hq hG => ?_)
        replace HW := HW r_20 h_20 g_20 hq
        refine lv_goto (tgt := 34) hx hb dX11_countOf_23 (by decide) ?_
        exact W.iret (v := r_20) hx hb hr (fun t ht hW => ⟨⟨r_20, (h_20, g_20), rfl, HW, g_B ht hG⟩, hG.2.2.F ht⟩) hG.2.2.2.2 dX11_countOf_34
    · replace HW := HW.2 c_2
      refine lv_aload_n hx hb dX11_countOf_5 rfl (lv_at hl 0 rfl) ?_
      refine g_getr hx hb hw inG11 hown hK hG gl_135 rfl gk_135 (by decide) 0 (by decide) (by rw [gm_135]; decide) (r := 136) gr_135_0 lk7 dX11_countOf_6 ?_
      refine lv_iload_n hx hb dX11_countOf_9 rfl (lv_at hl 1 rfl) ?_
      refine g_iald hx hb hK hG gl_136 gk_136 gn_136 HW.1 dX11_countOf_10 ?_
      replace HW := HW.2
      refine lv_goto (tgt := 34) hx hb dX11_countOf_11 (by decide) ?_
      exact W.iret (v := (h 136 x1.toNatClampNeg)) hx hb hr (fun t ht hW => ⟨⟨(h 136 x1.toNatClampNeg), (h, g), rfl, HW, g_B ht hG⟩, hG.2.2.F ht⟩) hG.2.2.2.2 dX11_countOf_34
  exact E0 _ _ _ hG hl

def w_X11_count (x1 : Int32) (h : HI) (g : HL) (Q : Int32 → HI → HL → Prop) : Prop :=
  (∃ P_6 : Int32 → HI → HL → Prop, w_X11_in ((x1).toInt64) (0 : Int64) (9 : Int64) h g P_6 ∧ ∀ (r_6 : Int32) (h_6 : HI) (g_6 : HL), zb r_6 → P_6 r_6 h_6 g_6 → ((r_6 = 0 → Q (-2 : Int32) h_6 g_6) ∧ (¬ r_6 = 0 → (∃ P_14 : Int32 → HI → HL → Prop, w_X11_countOf x1 h_6 g_6 P_14 ∧ ∀ (r_14 : Int32) (h_14 : HI) (g_14 : HL), P_14 r_14 h_14 g_14 → Q r_14 h_14 g_14))))
set_option maxHeartbeats 8000000 in
set_option maxRecDepth 100000 in
theorem m_X11_count (l : Launch) (D : va_G) (cy : Nat → ClassId) (ad : Nat → Nat) (h : HI) (g : HL) (sz : Nat) (x1 : Int32) (Q : Int32 → HI → HL → Prop) (HW : w_X11_count x1 h g Q) : Met l yX11_count (wa yX11_count cX11_count 2 (some .int)) ({ frames := 3, cells := 0, slots := 0, locals := 65 }) (va_Pc [.ref (ad 135), .int x1] (gI D cy ad h g sz)) (va_Qi (fun (r : Int32) (u : HI × HL) => Q r u.1 u.2) (gB D cy ad sz) (gA ad sz)) 0 0 (gA ad sz) := by
  refine Met.ofW (cc := cX11_count) (maxL := 2) (ret := (some .int)) (by decide) rfl ?_
  intro p e s m args below meth c s₁ B hml hv
  obtain ⟨hav, hsz, hP, hK, hD0, hNw⟩ := hv
  have hx := B.exec
  have hb := B.bytes
  have hr := B.returns
  have hts := atoms_spec (ws := (wa yX11_count cX11_count 2 (some .int))) B.pre
  have hw := wa_hw hts
  have hown : s.vm.findClass RX11 = some m.cls := findClass_of_methodNamed B.named
  have hlocks := B.notSynchronized
  subst hsz
  have hG : gG D cy ad (gA ad s.heap.size) s.heap h g s.heap [] := ⟨hP, gA_self hD0, va_S.rf⟩
  clear hP hD0
  have cn258 := hw (.constantLong RX11 258 (9)) (wm6 120 rfl rfl)
  rw [show (headSpec (wa yX11_count cX11_count 2 (some .int)) ({ frames := 3, cells := 0, slots := 0, locals := 65 } : Room)).room = ({ frames := 3, cells := 0, slots := 0, locals := 65 } : Room) from rfl]
  have hl := lv_entry ([.ref (ad 135), .int x1]) (n := 2) (Nat.le_of_ble_eq_true rfl)
  rw [show entryFrame m args 2 = entryFrame m ([.ref (ad 135), .int x1] : List Value).toArray 2 from by rw [hav], lg_entry_eq]
  generalize (lg_sl ([.ref (ad 135), .int x1]) ++ List.replicate (2 - (lg_sl ([.ref (ad 135), .int x1])).length) Slot.unset).toArray = ls at hl ⊢
  have hl : lv_has ls 2 [(0, .ref (ad 135)), (1, .int x1)] := hl
  have E0 : ∀ (H : Heap) (locs : List Loc) (ls : Array Slot), gG D cy ad (gA ad s.heap.size) s.heap h g H locs → lv_has ls 2 [(0, .ref (ad 135)), (1, .int x1)] → W p l e ({ frames := 3, cells := 0, slots := 0, locals := 65 } : Room) s m args below meth c H locs 0 0 (MQ below (va_Qi (fun (r : Int32) (u : HI × HL) => Q r u.1 u.2) (gB D cy ad s.heap.size) (gA ad s.heap.size)) args s 0 0 (gA ad s.heap.size)) (F0 m 0 ls []) := by
    intro H locs ls hG hl
    unfold w_X11_count at HW
    refine lv_iload_n hx hb dX11_count_0 rfl (lv_at hl 1 rfl) ?_
    refine lv_i2l hx hb dX11_count_1 rfl ?_
    refine lv_lconst (v := 0) hx hb dX11_count_2 (by decide) ?_
    refine lv_ldc2 (v := 9) hx hb hown cn258 dX11_count_3 ?_
    obtain ⟨P_6, HC_6, HW⟩ := HW
    refine g_callz (g_runS (As := [.long ((x1).toInt64), .long (0 : Int64), .long (9 : Int64)]) (rest := []) ⟨hx, hb, hml, hown, hts⟩ (m_X11_in l D cy ad h g H.size ((x1).toInt64) (0 : Int64) (9 : Int64) P_6 HC_6) (va_cwS 3 hts (gd_S (wm5 111 rfl rfl) (wm5 112 rfl rfl) (wm1 13 rfl rfl) (wm5 113 rfl rfl)) rfl rfl rfl (by decide +kernel) ⟨Nat.le_of_ble_eq_true rfl, Nat.le_of_ble_eq_true rfl⟩) hK hNw hG rfl rfl hl.1 rfl (lv_room (Nat.le_of_ble_eq_true rfl)) dX11_count_6 ⟨Nat.zero_le _, Nat.zero_le _⟩) hG (fun r_6 h_6 g_6 H locs hz hq hG => ?_)
    replace HW := HW r_6 h_6 g_6 hz hq
    refine lv_if_eq (tgt := 20) hx hb dX11_count_9 (by decide) (fun c_9 => ?_) (fun c_9 => ?_)
    · replace HW := HW.1 c_9
      refine lv_bipush (v := (-2)) hx hb dX11_count_20 (by decide) ?_
      exact W.iret (v := (-2 : Int32)) hx hb hr (fun t ht hW => ⟨⟨(-2 : Int32), (h_6, g_6), rfl, HW, g_B ht hG⟩, hG.2.2.F ht⟩) hG.2.2.2.2 dX11_count_22
    · replace HW := HW.2 c_9
      refine lv_aload_n hx hb dX11_count_12 rfl (lv_at hl 0 rfl) ?_
      refine lv_iload_n hx hb dX11_count_13 rfl (lv_at hl 1 rfl) ?_
      obtain ⟨P_14, HC_14, HW⟩ := HW
      refine g_calli (g_runV (As := [.int x1]) (rest := []) ⟨hx, hb, hml, hown, hts⟩ (m_X11_countOf l D cy ad h_6 g_6 H.size x1 P_14 HC_14) (cwV 1 hts (gd_V (wm6 232 rfl rfl) (wm6 234 rfl rfl) (wmp6 (q := (yX11_countOf, 26)) 0 rfl) (wm1 13 rfl rfl) (wm6 235 rfl rfl)) rfl rfl rfl (by decide +kernel) ⟨Nat.le_of_ble_eq_true rfl, Nat.le_of_ble_eq_true rfl⟩) hK hNw hG gl_135 rfl gk_135 (by decide) rfl rfl hl.1 rfl (lv_room (Nat.le_of_ble_eq_true rfl)) dX11_count_14 ⟨Nat.zero_le _, Nat.zero_le _⟩) hG (fun r_14 h_14 g_14 H locs hq hG => ?_)
      replace HW := HW r_14 h_14 g_14 hq
      refine lv_goto (tgt := 22) hx hb dX11_count_17 (by decide) ?_
      exact W.iret (v := r_14) hx hb hr (fun t ht hW => ⟨⟨r_14, (h_14, g_14), rfl, HW, g_B ht hG⟩, hG.2.2.F ht⟩) hG.2.2.2.2 dX11_count_22
  exact E0 _ _ _ hG hl

def b_X11_mixed_6 (Q : Int64 → HI → HL → Prop) (K6 : Int32 → Int32 → Int64 → Int32 → HI → HL → Prop) (x3 : Int32) (x4 : Int32) (x5 : Int64) (x7 : Int32) (h : HI) (g : HL) : Prop :=
  ((x4 ≤ x7 → Q x5 h g) ∧ (¬ x4 ≤ x7 → (vp_in (x3 + x7) 887 ∧ (∀ x5_30 : Int64, x5_30 = (((31 : Int64) * x5) + (((h 136 (x3 + x7).toNatClampNeg)).toInt64)) → (∀ x7_32 : Int32, x7_32 = (x7 + 1) → K6 x3 x4 x5_30 x7_32 h g)))))
def F_X11_mixed_6 (Q : Int64 → HI → HL → Prop) (K : Int32 × Int32 × Int64 × Int32 × HI × HL → Prop) (q : Int32 × Int32 × Int64 × Int32 × HI × HL) : Prop := b_X11_mixed_6 Q (fun x3 x4 x5 x7 h g => K (x3, x4, x5, x7, h, g)) q.1 q.2.1 q.2.2.1 q.2.2.2.1 q.2.2.2.2.1 q.2.2.2.2.2
def w_X11_mixed (x1 : Int64) (x3 : Int32) (x4 : Int32) (h : HI) (g : HL) (Q : Int64 → HI → HL → Prop) : Prop :=
  lpE (F_X11_mixed_6 Q) (x3, x4, x1, (0 : Int32), h, g)
set_option maxHeartbeats 8000000 in
set_option maxRecDepth 100000 in
theorem m_X11_mixed (l : Launch) (D : va_G) (cy : Nat → ClassId) (ad : Nat → Nat) (h : HI) (g : HL) (sz : Nat) (x1 : Int64) (x3 : Int32) (x4 : Int32) (Q : Int64 → HI → HL → Prop) (HW : w_X11_mixed x1 x3 x4 h g Q) : Met l yX11_mixed (wa yX11_mixed cX11_mixed 8 (some .long)) ({ frames := 0, cells := 0, slots := 0, locals := 0 }) (va_Pc [.ref (ad 135), .long x1, .int x3, .int x4] (gI D cy ad h g sz)) (va_Ql (fun (r : Int64) (u : HI × HL) => Q r u.1 u.2) (gB D cy ad sz) (gA ad sz)) 0 0 (gA ad sz) := by
  refine Met.ofW (cc := cX11_mixed) (maxL := 8) (ret := (some .long)) (by decide) rfl ?_
  intro p e s m args below meth c s₁ B hml hv
  obtain ⟨hav, hsz, hP, hK, hD0, hNw⟩ := hv
  have hx := B.exec
  have hb := B.bytes
  have hr := B.returns
  have hts := atoms_spec (ws := (wa yX11_mixed cX11_mixed 8 (some .long))) B.pre
  have hw := wa_hw hts
  have hown : s.vm.findClass RX11 = some m.cls := findClass_of_methodNamed B.named
  have hlocks := B.notSynchronized
  subst hsz
  have hG : gG D cy ad (gA ad s.heap.size) s.heap h g s.heap [] := ⟨hP, gA_self hD0, va_S.rf⟩
  clear hP hD0
  have cn317 := hw (.constantLong RX11 317 (31)) (wm7 5 rfl rfl)
  have lk7 := hw (.fieldLink RX11 7 "OldWorksModel" "st" "[I") (wm5 27 rfl rfl)
  rw [show (headSpec (wa yX11_mixed cX11_mixed 8 (some .long)) ({ frames := 0, cells := 0, slots := 0, locals := 0 } : Room)).room = ({ frames := 0, cells := 0, slots := 0, locals := 0 } : Room) from rfl]
  have hl := lv_entry ([.ref (ad 135), .long x1, .int x3, .int x4]) (n := 8) (Nat.le_of_ble_eq_true rfl)
  rw [show entryFrame m args 8 = entryFrame m ([.ref (ad 135), .long x1, .int x3, .int x4] : List Value).toArray 8 from by rw [hav], lg_entry_eq]
  generalize (lg_sl ([.ref (ad 135), .long x1, .int x3, .int x4]) ++ List.replicate (8 - (lg_sl ([.ref (ad 135), .long x1, .int x3, .int x4])).length) Slot.unset).toArray = ls at hl ⊢
  have hl : lv_has ls 8 [(0, .ref (ad 135)), (1, .long x1), (3, .int x3), (4, .int x4)] := hl
  have L6 : ∀ (n : Nat) (x3 : Int32) (x4 : Int32) (x5 : Int64) (x7 : Int32) (h : HI) (g : HL) (H : Heap) (locs : List Loc) (ls : Array Slot), lpN (F_X11_mixed_6 Q) n (x3, x4, x5, x7, h, g) → gG D cy ad (gA ad s.heap.size) s.heap h g H locs → lv_has ls 8 [(0, .ref (ad 135)), (3, .int x3), (4, .int x4), (5, .long x5), (7, .int x7)] → W p l e ({ frames := 0, cells := 0, slots := 0, locals := 0 } : Room) s m args below meth c H locs 0 0 (MQ below (va_Ql (fun (r : Int64) (u : HI × HL) => Q r u.1 u.2) (gB D cy ad s.heap.size) (gA ad s.heap.size)) args s 0 0 (gA ad s.heap.size)) (F0 m 6 ls []) := by
    intro n
    induction n with
    | zero => intro x3 x4 x5 x7 h g H locs ls HW; exact HW.elim
    | succ n ih =>
      intro x3 x4 x5 x7 h g H locs ls HW hG hl
      have HW : b_X11_mixed_6 Q (fun x3 x4 x5 x7 h g => lpN (F_X11_mixed_6 Q) n (x3, x4, x5, x7, h, g)) x3 x4 x5 x7 h g := HW
      generalize hKe : (fun (x3 : Int32) (x4 : Int32) (x5 : Int64) (x7 : Int32) (h : HI) (g : HL) => lpN (F_X11_mixed_6 Q) n (x3, x4, x5, x7, h, g)) = K6 at HW
      have hK6 : ∀ (x3 : Int32) (x4 : Int32) (x5 : Int64) (x7 : Int32) (h : HI) (g : HL) (H : Heap) (locs : List Loc) (ls : Array Slot), K6 x3 x4 x5 x7 h g → gG D cy ad (gA ad s.heap.size) s.heap h g H locs → lv_has ls 8 [(0, .ref (ad 135)), (3, .int x3), (4, .int x4), (5, .long x5), (7, .int x7)] → W p l e ({ frames := 0, cells := 0, slots := 0, locals := 0 } : Room) s m args below meth c H locs 0 0 (MQ below (va_Ql (fun (r : Int64) (u : HI × HL) => Q r u.1 u.2) (gB D cy ad s.heap.size) (gA ad s.heap.size)) args s 0 0 (gA ad s.heap.size)) (F0 m 6 ls []) := by subst hKe; exact ih
      clear ih
      clear hKe
      unfold b_X11_mixed_6 at HW
      refine lv_iload hx hb dX11_mixed_6 (lv_at hl 4 rfl) ?_
      refine lv_iload hx hb dX11_mixed_8 (lv_at hl 2 rfl) ?_
      refine lv_icmp_ge (tgt := 38) hx hb dX11_mixed_10 (by decide) (fun c_10 => ?_) (fun c_10 => ?_)
      · replace HW := HW.1 c_10
        refine lv_lload hx hb dX11_mixed_38 (lv_at hl 3 rfl) ?_
        exact W.lret (v := x5) hx hb hr (fun t ht hW => ⟨⟨x5, (h, g), rfl, HW, g_B ht hG⟩, hG.2.2.F ht⟩) hG.2.2.2.2 dX11_mixed_40
      · replace HW := HW.2 c_10
        refine lv_ldc2 (v := 31) hx hb hown cn317 dX11_mixed_13 ?_
        refine lv_lload hx hb dX11_mixed_16 (lv_at hl 3 rfl) ?_
        refine lv_lmul hx hb dX11_mixed_18 ?_
        refine lv_aload_n hx hb dX11_mixed_19 rfl (lv_at hl 0 rfl) ?_
        refine g_getr hx hb hw inG11 hown hK hG gl_135 rfl gk_135 (by decide) 0 (by decide) (by rw [gm_135]; decide) (r := 136) gr_135_0 lk7 dX11_mixed_20 ?_
        refine lv_iload_n hx hb dX11_mixed_23 rfl (lv_at hl 1 rfl) ?_
        refine lv_iload hx hb dX11_mixed_24 (lv_at hl 4 rfl) ?_
        refine lv_iadd hx hb dX11_mixed_26 ?_
        refine g_iald hx hb hK hG gl_136 gk_136 gn_136 HW.1 dX11_mixed_27 ?_
        replace HW := HW.2
        refine lv_i2l hx hb dX11_mixed_28 rfl ?_
        refine lv_ladd hx hb dX11_mixed_29 ?_
        refine lv_topl (fun x5_30 ex5_30 => ?_)
        replace HW := HW x5_30 ex5_30
        refine lv_lstore (lv' := [(5, .long x5_30), (0, .ref (ad 135)), (3, .int x3), (4, .int x4), (7, .int x7)]) hx hb dX11_mixed_30 hl (by decide) rfl (fun ls hl => ?_)
        obtain ⟨x7_32, ex7_32⟩ : ∃ y : Int32, y = (x7 + 1) := ⟨_, rfl⟩
        replace HW := HW x7_32 ex7_32
        refine lv_iinc (v := x7_32) (lv' := [(7, .int x7_32), (5, .long x5_30), (0, .ref (ad 135)), (3, .int x3), (4, .int x4)]) hx hb dX11_mixed_32 hl (k := 4) rfl (by rw [ex7_32]; rfl) (by decide) rfl (fun ls hl => ?_)
        refine lv_goto (tgt := 6) hx hb dX11_mixed_35 (by decide) ?_
        exact hK6 x3 x4 x5_30 x7_32 h g _ _ _ HW hG (lv_sub hl [2, 3, 4, 1, 0] rfl)
  have E0 : ∀ (H : Heap) (locs : List Loc) (ls : Array Slot), gG D cy ad (gA ad s.heap.size) s.heap h g H locs → lv_has ls 8 [(0, .ref (ad 135)), (1, .long x1), (3, .int x3), (4, .int x4)] → W p l e ({ frames := 0, cells := 0, slots := 0, locals := 0 } : Room) s m args below meth c H locs 0 0 (MQ below (va_Ql (fun (r : Int64) (u : HI × HL) => Q r u.1 u.2) (gB D cy ad s.heap.size) (gA ad s.heap.size)) args s 0 0 (gA ad s.heap.size)) (F0 m 0 ls []) := by
    intro H locs ls hG hl
    unfold w_X11_mixed at HW
    refine lv_lload_n hx hb dX11_mixed_0 rfl (lv_at hl 1 rfl) ?_
    refine lv_lstore (lv' := [(5, .long x1), (0, .ref (ad 135)), (1, .long x1), (3, .int x3), (4, .int x4)]) hx hb dX11_mixed_1 hl (by decide) rfl (fun ls hl => ?_)
    refine lv_iconst (v := 0) hx hb dX11_mixed_3 (by decide) ?_
    refine lv_istore (lv' := [(7, .int (0 : Int32)), (5, .long x1), (0, .ref (ad 135)), (1, .long x1), (3, .int x3), (4, .int x4)]) hx hb dX11_mixed_4 hl (by decide) rfl (fun ls hl => ?_)
    obtain ⟨n_6, HW⟩ := HW
    exact L6 n_6 x3 x4 x1 (0 : Int32) h g _ _ _ HW hG (lv_sub hl [2, 4, 5, 1, 0] rfl)
  exact E0 _ _ _ hG hl

def b_X11_digest_162 (Q : Int64 → HI → HL → Prop) (K134 : Int64 → Int32 → HI → HL → Prop) (K162 : Int64 → Int32 → Int32 → HI → HL → Prop) (x1 : Int64) (x3 : Int32) (x4 : Int32) (h : HI) (g : HL) : Prop :=
  (∃ P_167 : Int32 → HI → HL → Prop, w_X11_chainOf x3 (2 : Int32) h g P_167 ∧ ∀ (r_167 : Int32) (h_167 : HI) (g_167 : HL), P_167 r_167 h_167 g_167 → ((r_167 ≤ x4 → (∀ x3_214 : Int32, x3_214 = (x3 + 1) → K134 x1 x3_214 h_167 g_167)) ∧ (¬ r_167 ≤ x4 → (∃ P_187 : Int32 → HI → HL → Prop, w_X11_chainOf x3 ((3 : Int32) + x4) h_167 g_167 P_187 ∧ ∀ (r_187 : Int32) (h_187 : HI) (g_187 : HL), P_187 r_187 h_187 g_187 → (∃ P_197 : Int32 → HI → HL → Prop, w_X11_chainOf x3 (9 : Int32) h_187 g_187 P_197 ∧ ∀ (r_197 : Int32) (h_197 : HI) (g_197 : HL), P_197 r_197 h_197 g_197 → (∀ x1_207 : Int64, x1_207 = (((31 : Int64) * (((31 : Int64) * x1) + ((r_187).toInt64))) + ((((r_197 >>> (x4 &&& 31)) &&& (1 : Int32))).toInt64)) → (∀ x4_208 : Int32, x4_208 = (x4 + 1) → K162 x1_207 x3 x4_208 h_197 g_197)))))))
def F_X11_digest_162 (Q : Int64 → HI → HL → Prop) (K134 : Int64 → Int32 → HI → HL → Prop) (K : Int64 × Int32 × Int32 × HI × HL → Prop) (q : Int64 × Int32 × Int32 × HI × HL) : Prop := b_X11_digest_162 Q K134 (fun x1 x3 x4 h g => K (x1, x3, x4, h, g)) q.1 q.2.1 q.2.2.1 q.2.2.2.1 q.2.2.2.2
def b_X11_digest_134 (Q : Int64 → HI → HL → Prop) (K134 : Int64 → Int32 → HI → HL → Prop) (x1 : Int64) (x3 : Int32) (h : HI) (g : HL) : Prop :=
  (vp_in (2 : Int32) 887 ∧ (((h 136 (2 : Int32).toNatClampNeg) ≤ x3 → (vp_in (3 : Int32) 887 ∧ (∃ P_234 : Int64 → HI → HL → Prop, w_X11_mixed x1 (672 : Int32) ((4 : Int32) * (h 136 (3 : Int32).toNatClampNeg)) h g P_234 ∧ ∀ (r_234 : Int64) (h_234 : HI) (g_234 : HL), P_234 r_234 h_234 g_234 → (vp_in (4 : Int32) 887 ∧ (∃ P_246 : Int64 → HI → HL → Prop, w_X11_mixed r_234 (704 : Int32) (h_234 136 (4 : Int32).toNatClampNeg) h_234 g_234 P_246 ∧ ∀ (r_246 : Int64) (h_246 : HI) (g_246 : HL), P_246 r_246 h_246 g_246 → (vp_in (5 : Int32) 887 ∧ (∃ P_264 : Int64 → HI → HL → Prop, w_X11_mixed r_246 (710 : Int32) ((3 : Int32) * (h_246 136 (5 : Int32).toNatClampNeg)) h_246 g_246 P_264 ∧ ∀ (r_264 : Int64) (h_264 : HI) (g_264 : HL), P_264 r_264 h_264 g_264 → (∃ P_270 : Int64 → HI → HL → Prop, w_X11_mixed r_264 (9 : Int32) (2 : Int32) h_264 g_264 P_270 ∧ ∀ (r_270 : Int64) (h_270 : HI) (g_270 : HL), P_270 r_270 h_270 g_270 → (vp_in (6 : Int32) 887 ∧ (∃ P_289 : Int64 → HI → HL → Prop, w_X11_mixed r_270 (737 : Int32) ((2 : Int32) * (h_270 136 (6 : Int32).toNatClampNeg)) h_270 g_270 P_289 ∧ ∀ (r_289 : Int64) (h_289 : HI) (g_289 : HL), P_289 r_289 h_289 g_289 → (vp_in (7 : Int32) 887 ∧ (∃ P_304 : Int64 → HI → HL → Prop, w_X11_mixed r_289 (817 : Int32) ((2 : Int32) * (h_289 136 (7 : Int32).toNatClampNeg)) h_289 g_289 P_304 ∧ ∀ (r_304 : Int64) (h_304 : HI) (g_304 : HL), P_304 r_304 h_304 g_304 → (∃ P_315 : Int64 → HI → HL → Prop, w_X11_mixed r_304 (823 : Int32) (4 : Int32) h_304 g_304 P_315 ∧ ∀ (r_315 : Int64) (h_315 : HI) (g_315 : HL), P_315 r_315 h_315 g_315 → (vp_in (8 : Int32) 887 ∧ (∃ P_328 : Int64 → HI → HL → Prop, w_X11_mixed r_315 (827 : Int32) (h_315 136 (8 : Int32).toNatClampNeg) h_315 g_315 P_328 ∧ ∀ (r_328 : Int64) (h_328 : HI) (g_328 : HL), P_328 r_328 h_328 g_328 → Q r_328 h_328 g_328))))))))))))))) ∧ (¬ (h 136 (2 : Int32).toNatClampNeg) ≤ x3 → (∃ P_155 : Int64 → HI → HL → Prop, w_X11_mixed x1 ((512 : Int32) + ((10 : Int32) * x3)) (3 : Int32) h g P_155 ∧ ∀ (r_155 : Int64) (h_155 : HI) (g_155 : HL), P_155 r_155 h_155 g_155 → lpE (F_X11_digest_162 Q K134) (r_155, x3, (0 : Int32), h_155, g_155)))))
def F_X11_digest_134 (Q : Int64 → HI → HL → Prop) (K : Int64 × Int32 × HI × HL → Prop) (q : Int64 × Int32 × HI × HL) : Prop := b_X11_digest_134 Q (fun x1 x3 h g => K (x1, x3, h, g)) q.1 q.2.1 q.2.2.1 q.2.2.2
def b_X11_digest_59 (Q : Int64 → HI → HL → Prop) (K33 : Int64 → Int32 → HI → HL → Prop) (K59 : Int64 → Int32 → Int32 → HI → HL → Prop) (x1 : Int64) (x3 : Int32) (x4 : Int32) (h : HI) (g : HL) : Prop :=
  (((3 : Int32) ≤ x4 → (∃ P_93 : Int32 → HI → HL → Prop, w_X11_alongOf x3 h g P_93 ∧ ∀ (r_93 : Int32) (h_93 : HI) (g_93 : HL), P_93 r_93 h_93 g_93 → (∀ x1_98 : Int64, x1_98 = (((31 : Int64) * x1) + ((r_93).toInt64)) → (∀ x3_99 : Int32, x3_99 = (x3 + 1) → K33 x1_98 x3_99 h_93 g_93)))) ∧ (¬ (3 : Int32) ≤ x4 → (∃ P_74 : Int32 → HI → HL → Prop, w_X11_firstOf x3 x4 h g P_74 ∧ ∀ (r_74 : Int32) (h_74 : HI) (g_74 : HL), P_74 r_74 h_74 g_74 → (∀ x1_79 : Int64, x1_79 = (((31 : Int64) * x1) + ((r_74).toInt64)) → (∀ x4_80 : Int32, x4_80 = (x4 + 1) → K59 x1_79 x3 x4_80 h_74 g_74)))))
def F_X11_digest_59 (Q : Int64 → HI → HL → Prop) (K33 : Int64 → Int32 → HI → HL → Prop) (K : Int64 × Int32 × Int32 × HI × HL → Prop) (q : Int64 × Int32 × Int32 × HI × HL) : Prop := b_X11_digest_59 Q K33 (fun x1 x3 x4 h g => K (x1, x3, x4, h, g)) q.1 q.2.1 q.2.2.1 q.2.2.2.1 q.2.2.2.2
def b_X11_digest_33 (Q : Int64 → HI → HL → Prop) (K33 : Int64 → Int32 → HI → HL → Prop) (x1 : Int64) (x3 : Int32) (h : HI) (g : HL) : Prop :=
  (vp_in (0 : Int32) 887 ∧ (((h 136 (0 : Int32).toNatClampNeg) ≤ x3 → (∃ P_113 : Int64 → HI → HL → Prop, w_X11_mixed x1 (140 : Int32) (12 : Int32) h g P_113 ∧ ∀ (r_113 : Int64) (h_113 : HI) (g_113 : HL), P_113 r_113 h_113 g_113 → (vp_in (1 : Int32) 887 ∧ (∃ P_128 : Int64 → HI → HL → Prop, w_X11_mixed r_113 (152 : Int32) ((6 : Int32) * (h_113 136 (1 : Int32).toNatClampNeg)) h_113 g_113 P_128 ∧ ∀ (r_128 : Int64) (h_128 : HI) (g_128 : HL), P_128 r_128 h_128 g_128 → lpE (F_X11_digest_134 Q) (r_128, (0 : Int32), h_128, g_128))))) ∧ (¬ (h 136 (0 : Int32).toNatClampNeg) ≤ x3 → (∃ P_52 : Int64 → HI → HL → Prop, w_X11_mixed x1 ((20 : Int32) + ((5 : Int32) * x3)) (4 : Int32) h g P_52 ∧ ∀ (r_52 : Int64) (h_52 : HI) (g_52 : HL), P_52 r_52 h_52 g_52 → lpE (F_X11_digest_59 Q K33) (r_52, x3, (0 : Int32), h_52, g_52)))))
def F_X11_digest_33 (Q : Int64 → HI → HL → Prop) (K : Int64 × Int32 × HI × HL → Prop) (q : Int64 × Int32 × HI × HL) : Prop := b_X11_digest_33 Q (fun x1 x3 h g => K (x1, x3, h, g)) q.1 q.2.1 q.2.2.1 q.2.2.2
def b_X11_digest_6 (Q : Int64 → HI → HL → Prop) (K6 : Int64 → Int32 → HI → HL → Prop) (x1 : Int64) (x3 : Int32) (h : HI) (g : HL) : Prop :=
  (((10 : Int32) ≤ x3 → lpE (F_X11_digest_33 Q) (x1, (0 : Int32), h, g)) ∧ (¬ (10 : Int32) ≤ x3 → (∃ P_19 : Int32 → HI → HL → Prop, w_X11_countOf x3 h g P_19 ∧ ∀ (r_19 : Int32) (h_19 : HI) (g_19 : HL), P_19 r_19 h_19 g_19 → (∀ x1_24 : Int64, x1_24 = (((31 : Int64) * x1) + ((r_19).toInt64)) → (∀ x3_25 : Int32, x3_25 = (x3 + 1) → K6 x1_24 x3_25 h_19 g_19)))))
def F_X11_digest_6 (Q : Int64 → HI → HL → Prop) (K : Int64 × Int32 × HI × HL → Prop) (q : Int64 × Int32 × HI × HL) : Prop := b_X11_digest_6 Q (fun x1 x3 h g => K (x1, x3, h, g)) q.1 q.2.1 q.2.2.1 q.2.2.2
def w_X11_digest  (h : HI) (g : HL) (Q : Int64 → HI → HL → Prop) : Prop :=
  lpE (F_X11_digest_6 Q) ((383 : Int64), (0 : Int32), h, g)
set_option maxHeartbeats 8000000 in
set_option maxRecDepth 100000 in
theorem m_X11_digest (l : Launch) (D : va_G) (cy : Nat → ClassId) (ad : Nat → Nat) (h : HI) (g : HL) (sz : Nat)  (Q : Int64 → HI → HL → Prop) (HW : w_X11_digest h g Q) : Met l yX11_digest (wa yX11_digest cX11_digest 5 (some .long)) ({ frames := 8, cells := 0, slots := 0, locals := 188 }) (va_Pc [.ref (ad 135)] (gI D cy ad h g sz)) (va_Ql (fun (r : Int64) (u : HI × HL) => Q r u.1 u.2) (gB D cy ad sz) (gA ad sz)) 0 0 (gA ad sz) := by
  refine Met.ofW (cc := cX11_digest) (maxL := 5) (ret := (some .long)) (by decide) rfl ?_
  intro p e s m args below meth c s₁ B hml hv
  obtain ⟨hav, hsz, hP, hK, hD0, hNw⟩ := hv
  have hx := B.exec
  have hb := B.bytes
  have hr := B.returns
  have hts := atoms_spec (ws := (wa yX11_digest cX11_digest 5 (some .long))) B.pre
  have hw := wa_hw hts
  have hown : s.vm.findClass RX11 = some m.cls := findClass_of_methodNamed B.named
  have hlocks := B.notSynchronized
  subst hsz
  have hG : gG D cy ad (gA ad s.heap.size) s.heap h g s.heap [] := ⟨hP, gA_self hD0, va_S.rf⟩
  clear hP hD0
  have cn319 := hw (.constantLong RX11 319 (383)) (wm7 4 rfl rfl)
  have cn317 := hw (.constantLong RX11 317 (31)) (wm7 5 rfl rfl)
  have lk7 := hw (.fieldLink RX11 7 "OldWorksModel" "st" "[I") (wm5 27 rfl rfl)
  rw [show (headSpec (wa yX11_digest cX11_digest 5 (some .long)) ({ frames := 8, cells := 0, slots := 0, locals := 188 } : Room)).room = ({ frames := 8, cells := 0, slots := 0, locals := 188 } : Room) from rfl]
  have hl := lv_entry ([.ref (ad 135)]) (n := 5) (Nat.le_of_ble_eq_true rfl)
  rw [show entryFrame m args 5 = entryFrame m ([.ref (ad 135)] : List Value).toArray 5 from by rw [hav], lg_entry_eq]
  generalize (lg_sl ([.ref (ad 135)]) ++ List.replicate (5 - (lg_sl ([.ref (ad 135)])).length) Slot.unset).toArray = ls at hl ⊢
  have hl : lv_has ls 5 [(0, .ref (ad 135))] := hl
  have L162 : ∀ (K134 : Int64 → Int32 → HI → HL → Prop) (hK134 : ∀ (x1 : Int64) (x3 : Int32) (h : HI) (g : HL) (H : Heap) (locs : List Loc) (ls : Array Slot), K134 x1 x3 h g → gG D cy ad (gA ad s.heap.size) s.heap h g H locs → lv_has ls 5 [(0, .ref (ad 135)), (1, .long x1), (3, .int x3)] → W p l e ({ frames := 8, cells := 0, slots := 0, locals := 188 } : Room) s m args below meth c H locs 0 0 (MQ below (va_Ql (fun (r : Int64) (u : HI × HL) => Q r u.1 u.2) (gB D cy ad s.heap.size) (gA ad s.heap.size)) args s 0 0 (gA ad s.heap.size)) (F0 m 134 ls [])) (n : Nat) (x1 : Int64) (x3 : Int32) (x4 : Int32) (h : HI) (g : HL) (H : Heap) (locs : List Loc) (ls : Array Slot), lpN (F_X11_digest_162 Q K134) n (x1, x3, x4, h, g) → gG D cy ad (gA ad s.heap.size) s.heap h g H locs → lv_has ls 5 [(0, .ref (ad 135)), (1, .long x1), (3, .int x3), (4, .int x4)] → W p l e ({ frames := 8, cells := 0, slots := 0, locals := 188 } : Room) s m args below meth c H locs 0 0 (MQ below (va_Ql (fun (r : Int64) (u : HI × HL) => Q r u.1 u.2) (gB D cy ad s.heap.size) (gA ad s.heap.size)) args s 0 0 (gA ad s.heap.size)) (F0 m 162 ls []) := by
    intro K134 hK134 n
    induction n with
    | zero => intro x1 x3 x4 h g H locs ls HW; exact HW.elim
    | succ n ih =>
      intro x1 x3 x4 h g H locs ls HW hG hl
      have HW : b_X11_digest_162 Q K134 (fun x1 x3 x4 h g => lpN (F_X11_digest_162 Q K134) n (x1, x3, x4, h, g)) x1 x3 x4 h g := HW
      generalize hKe : (fun (x1 : Int64) (x3 : Int32) (x4 : Int32) (h : HI) (g : HL) => lpN (F_X11_digest_162 Q K134) n (x1, x3, x4, h, g)) = K162 at HW
      have hK162 : ∀ (x1 : Int64) (x3 : Int32) (x4 : Int32) (h : HI) (g : HL) (H : Heap) (locs : List Loc) (ls : Array Slot), K162 x1 x3 x4 h g → gG D cy ad (gA ad s.heap.size) s.heap h g H locs → lv_has ls 5 [(0, .ref (ad 135)), (1, .long x1), (3, .int x3), (4, .int x4)] → W p l e ({ frames := 8, cells := 0, slots := 0, locals := 188 } : Room) s m args below meth c H locs 0 0 (MQ below (va_Ql (fun (r : Int64) (u : HI × HL) => Q r u.1 u.2) (gB D cy ad s.heap.size) (gA ad s.heap.size)) args s 0 0 (gA ad s.heap.size)) (F0 m 162 ls []) := by subst hKe; exact ih
      clear ih
      clear hKe
      unfold b_X11_digest_162 at HW
      refine lv_iload hx hb dX11_digest_162 (lv_at hl 3 rfl) ?_
      refine lv_aload_n hx hb dX11_digest_164 rfl (lv_at hl 0 rfl) ?_
      refine lv_iload_n hx hb dX11_digest_165 rfl (lv_at hl 2 rfl) ?_
      refine lv_iconst (v := 2) hx hb dX11_digest_166 (by decide) ?_
      obtain ⟨P_167, HC_167, HW⟩ := HW
      refine g_calli (g_runV (As := [.int x3, .int (2 : Int32)]) (rest := [.int x4]) ⟨hx, hb, hml, hown, hts⟩ (m_X11_chainOf l D cy ad h g H.size x3 (2 : Int32) P_167 HC_167) (cwV 2 hts (gd_V (wm6 33 rfl rfl) (wm6 35 rfl rfl) (wmp4 (q := (yX11_chainOf, 26)) 12 rfl) (wm1 13 rfl rfl) (wm6 36 rfl rfl)) rfl rfl rfl (by decide +kernel) ⟨Nat.le_of_ble_eq_true rfl, Nat.le_of_ble_eq_true rfl⟩) hK hNw hG gl_135 rfl gk_135 (by decide) rfl rfl hl.1 rfl (lv_room (Nat.le_of_ble_eq_true rfl)) dX11_digest_167 ⟨Nat.zero_le _, Nat.zero_le _⟩) hG (fun r_167 h_167 g_167 H locs hq hG => ?_)
      replace HW := HW r_167 h_167 g_167 hq
      refine lv_icmp_ge (tgt := 214) hx hb dX11_digest_170 (by decide) (fun c_170 => ?_) (fun c_170 => ?_)
      · replace HW := HW.1 c_170
        obtain ⟨x3_214, ex3_214⟩ : ∃ y : Int32, y = (x3 + 1) := ⟨_, rfl⟩
        replace HW := HW x3_214 ex3_214
        refine lv_iinc (v := x3_214) (lv' := [(3, .int x3_214), (0, .ref (ad 135)), (1, .long x1), (4, .int x4)]) hx hb dX11_digest_214 hl (k := 2) rfl (by rw [ex3_214]; rfl) (by decide) rfl (fun ls hl => ?_)
        refine lv_goto (tgt := 134) hx hb dX11_digest_217 (by decide) ?_
        exact hK134 x1 x3_214 h_167 g_167 _ _ _ HW hG (lv_sub hl [1, 2, 0] rfl)
      · replace HW := HW.2 c_170
        refine lv_ldc2 (v := 31) hx hb hown cn317 dX11_digest_173 ?_
        refine lv_ldc2 (v := 31) hx hb hown cn317 dX11_digest_176 ?_
        refine lv_lload_n hx hb dX11_digest_179 rfl (lv_at hl 1 rfl) ?_
        refine lv_lmul hx hb dX11_digest_180 ?_
        refine lv_aload_n hx hb dX11_digest_181 rfl (lv_at hl 0 rfl) ?_
        refine lv_iload_n hx hb dX11_digest_182 rfl (lv_at hl 2 rfl) ?_
        refine lv_iconst (v := 3) hx hb dX11_digest_183 (by decide) ?_
        refine lv_iload hx hb dX11_digest_184 (lv_at hl 3 rfl) ?_
        refine lv_iadd hx hb dX11_digest_186 ?_
        obtain ⟨P_187, HC_187, HW⟩ := HW
        refine g_calli (g_runV (As := [.int x3, .int ((3 : Int32) + x4)]) (rest := [.long ((31 : Int64) * x1), .long (31 : Int64)]) ⟨hx, hb, hml, hown, hts⟩ (m_X11_chainOf l D cy ad h_167 g_167 H.size x3 ((3 : Int32) + x4) P_187 HC_187) (cwV 2 hts (gd_V (wm6 33 rfl rfl) (wm6 35 rfl rfl) (wmp4 (q := (yX11_chainOf, 26)) 12 rfl) (wm1 13 rfl rfl) (wm6 36 rfl rfl)) rfl rfl rfl (by decide +kernel) ⟨Nat.le_of_ble_eq_true rfl, Nat.le_of_ble_eq_true rfl⟩) hK hNw hG gl_135 rfl gk_135 (by decide) rfl rfl hl.1 rfl (lv_room (Nat.le_of_ble_eq_true rfl)) dX11_digest_187 ⟨Nat.zero_le _, Nat.zero_le _⟩) hG (fun r_187 h_187 g_187 H locs hq hG => ?_)
        replace HW := HW r_187 h_187 g_187 hq
        refine lv_i2l hx hb dX11_digest_190 rfl ?_
        refine lv_ladd hx hb dX11_digest_191 ?_
        refine lv_lmul hx hb dX11_digest_192 ?_
        refine lv_aload_n hx hb dX11_digest_193 rfl (lv_at hl 0 rfl) ?_
        refine lv_iload_n hx hb dX11_digest_194 rfl (lv_at hl 2 rfl) ?_
        refine lv_bipush (v := 9) hx hb dX11_digest_195 (by decide) ?_
        obtain ⟨P_197, HC_197, HW⟩ := HW
        refine g_calli (g_runV (As := [.int x3, .int (9 : Int32)]) (rest := [.long ((31 : Int64) * (((31 : Int64) * x1) + ((r_187).toInt64)))]) ⟨hx, hb, hml, hown, hts⟩ (m_X11_chainOf l D cy ad h_187 g_187 H.size x3 (9 : Int32) P_197 HC_197) (cwV 2 hts (gd_V (wm6 33 rfl rfl) (wm6 35 rfl rfl) (wmp4 (q := (yX11_chainOf, 26)) 12 rfl) (wm1 13 rfl rfl) (wm6 36 rfl rfl)) rfl rfl rfl (by decide +kernel) ⟨Nat.le_of_ble_eq_true rfl, Nat.le_of_ble_eq_true rfl⟩) hK hNw hG gl_135 rfl gk_135 (by decide) rfl rfl hl.1 rfl (lv_room (Nat.le_of_ble_eq_true rfl)) dX11_digest_197 ⟨Nat.zero_le _, Nat.zero_le _⟩) hG (fun r_197 h_197 g_197 H locs hq hG => ?_)
        replace HW := HW r_197 h_197 g_197 hq
        refine lv_iload hx hb dX11_digest_200 (lv_at hl 3 rfl) ?_
        refine lv_ishr hx hb dX11_digest_202 ?_
        refine lv_iconst (v := 1) hx hb dX11_digest_203 (by decide) ?_
        refine lv_iand hx hb dX11_digest_204 ?_
        refine lv_i2l hx hb dX11_digest_205 rfl ?_
        refine lv_ladd hx hb dX11_digest_206 ?_
        refine lv_topl (fun x1_207 ex1_207 => ?_)
        replace HW := HW x1_207 ex1_207
        refine lv_lstore_n (lv' := [(1, .long x1_207), (0, .ref (ad 135)), (3, .int x3), (4, .int x4)]) hx hb dX11_digest_207 rfl hl (by decide) rfl (fun ls hl => ?_)
        obtain ⟨x4_208, ex4_208⟩ : ∃ y : Int32, y = (x4 + 1) := ⟨_, rfl⟩
        replace HW := HW x4_208 ex4_208
        refine lv_iinc (v := x4_208) (lv' := [(4, .int x4_208), (1, .long x1_207), (0, .ref (ad 135)), (3, .int x3)]) hx hb dX11_digest_208 hl (k := 3) rfl (by rw [ex4_208]; rfl) (by decide) rfl (fun ls hl => ?_)
        refine lv_goto (tgt := 162) hx hb dX11_digest_211 (by decide) ?_
        exact hK162 x1_207 x3 x4_208 h_197 g_197 _ _ _ HW hG (lv_sub hl [2, 1, 3, 0] rfl)
  have L134 : ∀ (n : Nat) (x1 : Int64) (x3 : Int32) (h : HI) (g : HL) (H : Heap) (locs : List Loc) (ls : Array Slot), lpN (F_X11_digest_134 Q) n (x1, x3, h, g) → gG D cy ad (gA ad s.heap.size) s.heap h g H locs → lv_has ls 5 [(0, .ref (ad 135)), (1, .long x1), (3, .int x3)] → W p l e ({ frames := 8, cells := 0, slots := 0, locals := 188 } : Room) s m args below meth c H locs 0 0 (MQ below (va_Ql (fun (r : Int64) (u : HI × HL) => Q r u.1 u.2) (gB D cy ad s.heap.size) (gA ad s.heap.size)) args s 0 0 (gA ad s.heap.size)) (F0 m 134 ls []) := by
    intro n
    induction n with
    | zero => intro x1 x3 h g H locs ls HW; exact HW.elim
    | succ n ih =>
      intro x1 x3 h g H locs ls HW hG hl
      have HW : b_X11_digest_134 Q (fun x1 x3 h g => lpN (F_X11_digest_134 Q) n (x1, x3, h, g)) x1 x3 h g := HW
      generalize hKe : (fun (x1 : Int64) (x3 : Int32) (h : HI) (g : HL) => lpN (F_X11_digest_134 Q) n (x1, x3, h, g)) = K134 at HW
      have hK134 : ∀ (x1 : Int64) (x3 : Int32) (h : HI) (g : HL) (H : Heap) (locs : List Loc) (ls : Array Slot), K134 x1 x3 h g → gG D cy ad (gA ad s.heap.size) s.heap h g H locs → lv_has ls 5 [(0, .ref (ad 135)), (1, .long x1), (3, .int x3)] → W p l e ({ frames := 8, cells := 0, slots := 0, locals := 188 } : Room) s m args below meth c H locs 0 0 (MQ below (va_Ql (fun (r : Int64) (u : HI × HL) => Q r u.1 u.2) (gB D cy ad s.heap.size) (gA ad s.heap.size)) args s 0 0 (gA ad s.heap.size)) (F0 m 134 ls []) := by subst hKe; exact ih
      clear ih
      clear hKe
      unfold b_X11_digest_134 at HW
      refine lv_iload_n hx hb dX11_digest_134 rfl (lv_at hl 2 rfl) ?_
      refine lv_aload_n hx hb dX11_digest_135 rfl (lv_at hl 0 rfl) ?_
      refine g_getr hx hb hw inG11 hown hK hG gl_135 rfl gk_135 (by decide) 0 (by decide) (by rw [gm_135]; decide) (r := 136) gr_135_0 lk7 dX11_digest_136 ?_
      refine lv_iconst (v := 2) hx hb dX11_digest_139 (by decide) ?_
      refine g_iald hx hb hK hG gl_136 gk_136 gn_136 HW.1 dX11_digest_140 ?_
      replace HW := HW.2
      refine lv_icmp_ge (tgt := 220) hx hb dX11_digest_141 (by decide) (fun c_141 => ?_) (fun c_141 => ?_)
      · replace HW := HW.1 c_141
        refine lv_aload_n hx hb dX11_digest_220 rfl (lv_at hl 0 rfl) ?_
        refine lv_aload_n hx hb dX11_digest_221 rfl (lv_at hl 0 rfl) ?_
        refine lv_lload_n hx hb dX11_digest_222 rfl (lv_at hl 1 rfl) ?_
        refine lv_sipush (v := 672) hx hb dX11_digest_223 (by decide) ?_
        refine lv_iconst (v := 4) hx hb dX11_digest_226 (by decide) ?_
        refine lv_aload_n hx hb dX11_digest_227 rfl (lv_at hl 0 rfl) ?_
        refine g_getr hx hb hw inG11 hown hK hG gl_135 rfl gk_135 (by decide) 0 (by decide) (by rw [gm_135]; decide) (r := 136) gr_135_0 lk7 dX11_digest_228 ?_
        refine lv_iconst (v := 3) hx hb dX11_digest_231 (by decide) ?_
        refine g_iald hx hb hK hG gl_136 gk_136 gn_136 HW.1 dX11_digest_232 ?_
        replace HW := HW.2
        refine lv_imul hx hb dX11_digest_233 ?_
        obtain ⟨P_234, HC_234, HW⟩ := HW
        refine g_calll (g_runV (As := [.long x1, .int (672 : Int32), .int ((4 : Int32) * (h 136 (3 : Int32).toNatClampNeg))]) (rest := [.ref (ad 135)]) ⟨hx, hb, hml, hown, hts⟩ (m_X11_mixed l D cy ad h g H.size x1 (672 : Int32) ((4 : Int32) * (h 136 (3 : Int32).toNatClampNeg)) P_234 HC_234) (cwV 3 hts (gd_V (wm7 6 rfl rfl) (wm7 8 rfl rfl) (wmp6 (q := (yX11_mixed, 26)) 2 rfl) (wm1 13 rfl rfl) (wm7 9 rfl rfl)) rfl rfl rfl (by decide +kernel) ⟨Nat.le_of_ble_eq_true rfl, Nat.le_of_ble_eq_true rfl⟩) hK hNw hG gl_135 rfl gk_135 (by decide) rfl rfl hl.1 rfl (lv_room (Nat.le_of_ble_eq_true rfl)) dX11_digest_234 ⟨Nat.zero_le _, Nat.zero_le _⟩) hG (fun r_234 h_234 g_234 H locs hq hG => ?_)
        replace HW := HW r_234 h_234 g_234 hq
        refine lv_sipush (v := 704) hx hb dX11_digest_237 (by decide) ?_
        refine lv_aload_n hx hb dX11_digest_240 rfl (lv_at hl 0 rfl) ?_
        refine g_getr hx hb hw inG11 hown hK hG gl_135 rfl gk_135 (by decide) 0 (by decide) (by rw [gm_135]; decide) (r := 136) gr_135_0 lk7 dX11_digest_241 ?_
        refine lv_iconst (v := 4) hx hb dX11_digest_244 (by decide) ?_
        refine g_iald hx hb hK hG gl_136 gk_136 gn_136 HW.1 dX11_digest_245 ?_
        replace HW := HW.2
        obtain ⟨P_246, HC_246, HW⟩ := HW
        refine g_calll (g_runV (As := [.long r_234, .int (704 : Int32), .int (h_234 136 (4 : Int32).toNatClampNeg)]) (rest := []) ⟨hx, hb, hml, hown, hts⟩ (m_X11_mixed l D cy ad h_234 g_234 H.size r_234 (704 : Int32) (h_234 136 (4 : Int32).toNatClampNeg) P_246 HC_246) (cwV 3 hts (gd_V (wm7 6 rfl rfl) (wm7 8 rfl rfl) (wmp6 (q := (yX11_mixed, 26)) 2 rfl) (wm1 13 rfl rfl) (wm7 9 rfl rfl)) rfl rfl rfl (by decide +kernel) ⟨Nat.le_of_ble_eq_true rfl, Nat.le_of_ble_eq_true rfl⟩) hK hNw hG gl_135 rfl gk_135 (by decide) rfl rfl hl.1 rfl (lv_room (Nat.le_of_ble_eq_true rfl)) dX11_digest_246 ⟨Nat.zero_le _, Nat.zero_le _⟩) hG (fun r_246 h_246 g_246 H locs hq hG => ?_)
        replace HW := HW r_246 h_246 g_246 hq
        refine lv_lstore_n (lv' := [(1, .long r_246), (0, .ref (ad 135)), (3, .int x3)]) hx hb dX11_digest_249 rfl hl (by decide) rfl (fun ls hl => ?_)
        refine lv_aload_n hx hb dX11_digest_250 rfl (lv_at hl 1 rfl) ?_
        refine lv_aload_n hx hb dX11_digest_251 rfl (lv_at hl 1 rfl) ?_
        refine lv_lload_n hx hb dX11_digest_252 rfl (lv_at hl 0 rfl) ?_
        refine lv_sipush (v := 710) hx hb dX11_digest_253 (by decide) ?_
        refine lv_iconst (v := 3) hx hb dX11_digest_256 (by decide) ?_
        refine lv_aload_n hx hb dX11_digest_257 rfl (lv_at hl 1 rfl) ?_
        refine g_getr hx hb hw inG11 hown hK hG gl_135 rfl gk_135 (by decide) 0 (by decide) (by rw [gm_135]; decide) (r := 136) gr_135_0 lk7 dX11_digest_258 ?_
        refine lv_iconst (v := 5) hx hb dX11_digest_261 (by decide) ?_
        refine g_iald hx hb hK hG gl_136 gk_136 gn_136 HW.1 dX11_digest_262 ?_
        replace HW := HW.2
        refine lv_imul hx hb dX11_digest_263 ?_
        obtain ⟨P_264, HC_264, HW⟩ := HW
        refine g_calll (g_runV (As := [.long r_246, .int (710 : Int32), .int ((3 : Int32) * (h_246 136 (5 : Int32).toNatClampNeg))]) (rest := [.ref (ad 135)]) ⟨hx, hb, hml, hown, hts⟩ (m_X11_mixed l D cy ad h_246 g_246 H.size r_246 (710 : Int32) ((3 : Int32) * (h_246 136 (5 : Int32).toNatClampNeg)) P_264 HC_264) (cwV 3 hts (gd_V (wm7 6 rfl rfl) (wm7 8 rfl rfl) (wmp6 (q := (yX11_mixed, 26)) 2 rfl) (wm1 13 rfl rfl) (wm7 9 rfl rfl)) rfl rfl rfl (by decide +kernel) ⟨Nat.le_of_ble_eq_true rfl, Nat.le_of_ble_eq_true rfl⟩) hK hNw hG gl_135 rfl gk_135 (by decide) rfl rfl hl.1 rfl (lv_room (Nat.le_of_ble_eq_true rfl)) dX11_digest_264 ⟨Nat.zero_le _, Nat.zero_le _⟩) hG (fun r_264 h_264 g_264 H locs hq hG => ?_)
        replace HW := HW r_264 h_264 g_264 hq
        refine lv_bipush (v := 9) hx hb dX11_digest_267 (by decide) ?_
        refine lv_iconst (v := 2) hx hb dX11_digest_269 (by decide) ?_
        obtain ⟨P_270, HC_270, HW⟩ := HW
        refine g_calll (g_runV (As := [.long r_264, .int (9 : Int32), .int (2 : Int32)]) (rest := []) ⟨hx, hb, hml, hown, hts⟩ (m_X11_mixed l D cy ad h_264 g_264 H.size r_264 (9 : Int32) (2 : Int32) P_270 HC_270) (cwV 3 hts (gd_V (wm7 6 rfl rfl) (wm7 8 rfl rfl) (wmp6 (q := (yX11_mixed, 26)) 2 rfl) (wm1 13 rfl rfl) (wm7 9 rfl rfl)) rfl rfl rfl (by decide +kernel) ⟨Nat.le_of_ble_eq_true rfl, Nat.le_of_ble_eq_true rfl⟩) hK hNw hG gl_135 rfl gk_135 (by decide) rfl rfl hl.1 rfl (lv_room (Nat.le_of_ble_eq_true rfl)) dX11_digest_270 ⟨Nat.zero_le _, Nat.zero_le _⟩) hG (fun r_270 h_270 g_270 H locs hq hG => ?_)
        replace HW := HW r_270 h_270 g_270 hq
        refine lv_lstore_n (lv' := [(1, .long r_270), (0, .ref (ad 135)), (3, .int x3)]) hx hb dX11_digest_273 rfl hl (by decide) rfl (fun ls hl => ?_)
        refine lv_aload_n hx hb dX11_digest_274 rfl (lv_at hl 1 rfl) ?_
        refine lv_aload_n hx hb dX11_digest_275 rfl (lv_at hl 1 rfl) ?_
        refine lv_lload_n hx hb dX11_digest_276 rfl (lv_at hl 0 rfl) ?_
        refine lv_sipush (v := 737) hx hb dX11_digest_277 (by decide) ?_
        refine lv_iconst (v := 2) hx hb dX11_digest_280 (by decide) ?_
        refine lv_aload_n hx hb dX11_digest_281 rfl (lv_at hl 1 rfl) ?_
        refine g_getr hx hb hw inG11 hown hK hG gl_135 rfl gk_135 (by decide) 0 (by decide) (by rw [gm_135]; decide) (r := 136) gr_135_0 lk7 dX11_digest_282 ?_
        refine lv_bipush (v := 6) hx hb dX11_digest_285 (by decide) ?_
        refine g_iald hx hb hK hG gl_136 gk_136 gn_136 HW.1 dX11_digest_287 ?_
        replace HW := HW.2
        refine lv_imul hx hb dX11_digest_288 ?_
        obtain ⟨P_289, HC_289, HW⟩ := HW
        refine g_calll (g_runV (As := [.long r_270, .int (737 : Int32), .int ((2 : Int32) * (h_270 136 (6 : Int32).toNatClampNeg))]) (rest := [.ref (ad 135)]) ⟨hx, hb, hml, hown, hts⟩ (m_X11_mixed l D cy ad h_270 g_270 H.size r_270 (737 : Int32) ((2 : Int32) * (h_270 136 (6 : Int32).toNatClampNeg)) P_289 HC_289) (cwV 3 hts (gd_V (wm7 6 rfl rfl) (wm7 8 rfl rfl) (wmp6 (q := (yX11_mixed, 26)) 2 rfl) (wm1 13 rfl rfl) (wm7 9 rfl rfl)) rfl rfl rfl (by decide +kernel) ⟨Nat.le_of_ble_eq_true rfl, Nat.le_of_ble_eq_true rfl⟩) hK hNw hG gl_135 rfl gk_135 (by decide) rfl rfl hl.1 rfl (lv_room (Nat.le_of_ble_eq_true rfl)) dX11_digest_289 ⟨Nat.zero_le _, Nat.zero_le _⟩) hG (fun r_289 h_289 g_289 H locs hq hG => ?_)
        replace HW := HW r_289 h_289 g_289 hq
        refine lv_sipush (v := 817) hx hb dX11_digest_292 (by decide) ?_
        refine lv_iconst (v := 2) hx hb dX11_digest_295 (by decide) ?_
        refine lv_aload_n hx hb dX11_digest_296 rfl (lv_at hl 1 rfl) ?_
        refine g_getr hx hb hw inG11 hown hK hG gl_135 rfl gk_135 (by decide) 0 (by decide) (by rw [gm_135]; decide) (r := 136) gr_135_0 lk7 dX11_digest_297 ?_
        refine lv_bipush (v := 7) hx hb dX11_digest_300 (by decide) ?_
        refine g_iald hx hb hK hG gl_136 gk_136 gn_136 HW.1 dX11_digest_302 ?_
        replace HW := HW.2
        refine lv_imul hx hb dX11_digest_303 ?_
        obtain ⟨P_304, HC_304, HW⟩ := HW
        refine g_calll (g_runV (As := [.long r_289, .int (817 : Int32), .int ((2 : Int32) * (h_289 136 (7 : Int32).toNatClampNeg))]) (rest := []) ⟨hx, hb, hml, hown, hts⟩ (m_X11_mixed l D cy ad h_289 g_289 H.size r_289 (817 : Int32) ((2 : Int32) * (h_289 136 (7 : Int32).toNatClampNeg)) P_304 HC_304) (cwV 3 hts (gd_V (wm7 6 rfl rfl) (wm7 8 rfl rfl) (wmp6 (q := (yX11_mixed, 26)) 2 rfl) (wm1 13 rfl rfl) (wm7 9 rfl rfl)) rfl rfl rfl (by decide +kernel) ⟨Nat.le_of_ble_eq_true rfl, Nat.le_of_ble_eq_true rfl⟩) hK hNw hG gl_135 rfl gk_135 (by decide) rfl rfl hl.1 rfl (lv_room (Nat.le_of_ble_eq_true rfl)) dX11_digest_304 ⟨Nat.zero_le _, Nat.zero_le _⟩) hG (fun r_304 h_304 g_304 H locs hq hG => ?_)
        replace HW := HW r_304 h_304 g_304 hq
        refine lv_lstore_n (lv' := [(1, .long r_304), (0, .ref (ad 135)), (3, .int x3)]) hx hb dX11_digest_307 rfl hl (by decide) rfl (fun ls hl => ?_)
        refine lv_aload_n hx hb dX11_digest_308 rfl (lv_at hl 1 rfl) ?_
        refine lv_aload_n hx hb dX11_digest_309 rfl (lv_at hl 1 rfl) ?_
        refine lv_lload_n hx hb dX11_digest_310 rfl (lv_at hl 0 rfl) ?_
        refine lv_sipush (v := 823) hx hb dX11_digest_311 (by decide) ?_
        refine lv_iconst (v := 4) hx hb dX11_digest_314 (by decide) ?_
        obtain ⟨P_315, HC_315, HW⟩ := HW
        refine g_calll (g_runV (As := [.long r_304, .int (823 : Int32), .int (4 : Int32)]) (rest := [.ref (ad 135)]) ⟨hx, hb, hml, hown, hts⟩ (m_X11_mixed l D cy ad h_304 g_304 H.size r_304 (823 : Int32) (4 : Int32) P_315 HC_315) (cwV 3 hts (gd_V (wm7 6 rfl rfl) (wm7 8 rfl rfl) (wmp6 (q := (yX11_mixed, 26)) 2 rfl) (wm1 13 rfl rfl) (wm7 9 rfl rfl)) rfl rfl rfl (by decide +kernel) ⟨Nat.le_of_ble_eq_true rfl, Nat.le_of_ble_eq_true rfl⟩) hK hNw hG gl_135 rfl gk_135 (by decide) rfl rfl hl.1 rfl (lv_room (Nat.le_of_ble_eq_true rfl)) dX11_digest_315 ⟨Nat.zero_le _, Nat.zero_le _⟩) hG (fun r_315 h_315 g_315 H locs hq hG => ?_)
        replace HW := HW r_315 h_315 g_315 hq
        refine lv_sipush (v := 827) hx hb dX11_digest_318 (by decide) ?_
        refine lv_aload_n hx hb dX11_digest_321 rfl (lv_at hl 1 rfl) ?_
        refine g_getr hx hb hw inG11 hown hK hG gl_135 rfl gk_135 (by decide) 0 (by decide) (by rw [gm_135]; decide) (r := 136) gr_135_0 lk7 dX11_digest_322 ?_
        refine lv_bipush (v := 8) hx hb dX11_digest_325 (by decide) ?_
        refine g_iald hx hb hK hG gl_136 gk_136 gn_136 HW.1 dX11_digest_327 ?_
        replace HW := HW.2
        obtain ⟨P_328, HC_328, HW⟩ := HW
        refine g_calll (g_runV (As := [.long r_315, .int (827 : Int32), .int (h_315 136 (8 : Int32).toNatClampNeg)]) (rest := []) ⟨hx, hb, hml, hown, hts⟩ (m_X11_mixed l D cy ad h_315 g_315 H.size r_315 (827 : Int32) (h_315 136 (8 : Int32).toNatClampNeg) P_328 HC_328) (cwV 3 hts (gd_V (wm7 6 rfl rfl) (wm7 8 rfl rfl) (wmp6 (q := (yX11_mixed, 26)) 2 rfl) (wm1 13 rfl rfl) (wm7 9 rfl rfl)) rfl rfl rfl (by decide +kernel) ⟨Nat.le_of_ble_eq_true rfl, Nat.le_of_ble_eq_true rfl⟩) hK hNw hG gl_135 rfl gk_135 (by decide) rfl rfl hl.1 rfl (lv_room (Nat.le_of_ble_eq_true rfl)) dX11_digest_328 ⟨Nat.zero_le _, Nat.zero_le _⟩) hG (fun r_328 h_328 g_328 H locs hq hG => ?_)
        replace HW := HW r_328 h_328 g_328 hq
        exact W.lret (v := r_328) hx hb hr (fun t ht hW => ⟨⟨r_328, (h_328, g_328), rfl, HW, g_B ht hG⟩, hG.2.2.F ht⟩) hG.2.2.2.2 dX11_digest_331
      · replace HW := HW.2 c_141
        refine lv_aload_n hx hb dX11_digest_144 rfl (lv_at hl 0 rfl) ?_
        refine lv_lload_n hx hb dX11_digest_145 rfl (lv_at hl 1 rfl) ?_
        refine lv_sipush (v := 512) hx hb dX11_digest_146 (by decide) ?_
        refine lv_bipush (v := 10) hx hb dX11_digest_149 (by decide) ?_
        refine lv_iload_n hx hb dX11_digest_151 rfl (lv_at hl 2 rfl) ?_
        refine lv_imul hx hb dX11_digest_152 ?_
        refine lv_iadd hx hb dX11_digest_153 ?_
        refine lv_iconst (v := 3) hx hb dX11_digest_154 (by decide) ?_
        obtain ⟨P_155, HC_155, HW⟩ := HW
        refine g_calll (g_runV (As := [.long x1, .int ((512 : Int32) + ((10 : Int32) * x3)), .int (3 : Int32)]) (rest := []) ⟨hx, hb, hml, hown, hts⟩ (m_X11_mixed l D cy ad h g H.size x1 ((512 : Int32) + ((10 : Int32) * x3)) (3 : Int32) P_155 HC_155) (cwV 3 hts (gd_V (wm7 6 rfl rfl) (wm7 8 rfl rfl) (wmp6 (q := (yX11_mixed, 26)) 2 rfl) (wm1 13 rfl rfl) (wm7 9 rfl rfl)) rfl rfl rfl (by decide +kernel) ⟨Nat.le_of_ble_eq_true rfl, Nat.le_of_ble_eq_true rfl⟩) hK hNw hG gl_135 rfl gk_135 (by decide) rfl rfl hl.1 rfl (lv_room (Nat.le_of_ble_eq_true rfl)) dX11_digest_155 ⟨Nat.zero_le _, Nat.zero_le _⟩) hG (fun r_155 h_155 g_155 H locs hq hG => ?_)
        replace HW := HW r_155 h_155 g_155 hq
        refine lv_lstore_n (lv' := [(1, .long r_155), (0, .ref (ad 135)), (3, .int x3)]) hx hb dX11_digest_158 rfl hl (by decide) rfl (fun ls hl => ?_)
        refine lv_iconst (v := 0) hx hb dX11_digest_159 (by decide) ?_
        refine lv_istore (lv' := [(4, .int (0 : Int32)), (1, .long r_155), (0, .ref (ad 135)), (3, .int x3)]) hx hb dX11_digest_160 hl (by decide) rfl (fun ls hl => ?_)
        obtain ⟨n_162, HW⟩ := HW
        exact L162 K134 hK134 n_162 r_155 x3 (0 : Int32) h_155 g_155 _ _ _ HW hG (lv_sub hl [2, 1, 3, 0] rfl)
  have L59 : ∀ (K33 : Int64 → Int32 → HI → HL → Prop) (hK33 : ∀ (x1 : Int64) (x3 : Int32) (h : HI) (g : HL) (H : Heap) (locs : List Loc) (ls : Array Slot), K33 x1 x3 h g → gG D cy ad (gA ad s.heap.size) s.heap h g H locs → lv_has ls 5 [(0, .ref (ad 135)), (1, .long x1), (3, .int x3)] → W p l e ({ frames := 8, cells := 0, slots := 0, locals := 188 } : Room) s m args below meth c H locs 0 0 (MQ below (va_Ql (fun (r : Int64) (u : HI × HL) => Q r u.1 u.2) (gB D cy ad s.heap.size) (gA ad s.heap.size)) args s 0 0 (gA ad s.heap.size)) (F0 m 33 ls [])) (n : Nat) (x1 : Int64) (x3 : Int32) (x4 : Int32) (h : HI) (g : HL) (H : Heap) (locs : List Loc) (ls : Array Slot), lpN (F_X11_digest_59 Q K33) n (x1, x3, x4, h, g) → gG D cy ad (gA ad s.heap.size) s.heap h g H locs → lv_has ls 5 [(0, .ref (ad 135)), (1, .long x1), (3, .int x3), (4, .int x4)] → W p l e ({ frames := 8, cells := 0, slots := 0, locals := 188 } : Room) s m args below meth c H locs 0 0 (MQ below (va_Ql (fun (r : Int64) (u : HI × HL) => Q r u.1 u.2) (gB D cy ad s.heap.size) (gA ad s.heap.size)) args s 0 0 (gA ad s.heap.size)) (F0 m 59 ls []) := by
    intro K33 hK33 n
    induction n with
    | zero => intro x1 x3 x4 h g H locs ls HW; exact HW.elim
    | succ n ih =>
      intro x1 x3 x4 h g H locs ls HW hG hl
      have HW : b_X11_digest_59 Q K33 (fun x1 x3 x4 h g => lpN (F_X11_digest_59 Q K33) n (x1, x3, x4, h, g)) x1 x3 x4 h g := HW
      generalize hKe : (fun (x1 : Int64) (x3 : Int32) (x4 : Int32) (h : HI) (g : HL) => lpN (F_X11_digest_59 Q K33) n (x1, x3, x4, h, g)) = K59 at HW
      have hK59 : ∀ (x1 : Int64) (x3 : Int32) (x4 : Int32) (h : HI) (g : HL) (H : Heap) (locs : List Loc) (ls : Array Slot), K59 x1 x3 x4 h g → gG D cy ad (gA ad s.heap.size) s.heap h g H locs → lv_has ls 5 [(0, .ref (ad 135)), (1, .long x1), (3, .int x3), (4, .int x4)] → W p l e ({ frames := 8, cells := 0, slots := 0, locals := 188 } : Room) s m args below meth c H locs 0 0 (MQ below (va_Ql (fun (r : Int64) (u : HI × HL) => Q r u.1 u.2) (gB D cy ad s.heap.size) (gA ad s.heap.size)) args s 0 0 (gA ad s.heap.size)) (F0 m 59 ls []) := by subst hKe; exact ih
      clear ih
      clear hKe
      unfold b_X11_digest_59 at HW
      refine lv_iload hx hb dX11_digest_59 (lv_at hl 3 rfl) ?_
      refine lv_iconst (v := 3) hx hb dX11_digest_61 (by decide) ?_
      refine lv_icmp_ge (tgt := 86) hx hb dX11_digest_62 (by decide) (fun c_62 => ?_) (fun c_62 => ?_)
      · replace HW := HW.1 c_62
        refine lv_ldc2 (v := 31) hx hb hown cn317 dX11_digest_86 ?_
        refine lv_lload_n hx hb dX11_digest_89 rfl (lv_at hl 1 rfl) ?_
        refine lv_lmul hx hb dX11_digest_90 ?_
        refine lv_aload_n hx hb dX11_digest_91 rfl (lv_at hl 0 rfl) ?_
        refine lv_iload_n hx hb dX11_digest_92 rfl (lv_at hl 2 rfl) ?_
        obtain ⟨P_93, HC_93, HW⟩ := HW
        refine g_calli (g_runV (As := [.int x3]) (rest := [.long ((31 : Int64) * x1)]) ⟨hx, hb, hml, hown, hts⟩ (m_X11_alongOf l D cy ad h g H.size x3 P_93 HC_93) (cwV 1 hts (gd_V (wm6 183 rfl rfl) (wm6 185 rfl rfl) (wmp5 (q := (yX11_alongOf, 26)) 11 rfl) (wm1 13 rfl rfl) (wm6 186 rfl rfl)) rfl rfl rfl (by decide +kernel) ⟨Nat.le_of_ble_eq_true rfl, Nat.le_of_ble_eq_true rfl⟩) hK hNw hG gl_135 rfl gk_135 (by decide) rfl rfl hl.1 rfl (lv_room (Nat.le_of_ble_eq_true rfl)) dX11_digest_93 ⟨Nat.zero_le _, Nat.zero_le _⟩) hG (fun r_93 h_93 g_93 H locs hq hG => ?_)
        replace HW := HW r_93 h_93 g_93 hq
        refine lv_i2l hx hb dX11_digest_96 rfl ?_
        refine lv_ladd hx hb dX11_digest_97 ?_
        refine lv_topl (fun x1_98 ex1_98 => ?_)
        replace HW := HW x1_98 ex1_98
        refine lv_lstore_n (lv' := [(1, .long x1_98), (0, .ref (ad 135)), (3, .int x3), (4, .int x4)]) hx hb dX11_digest_98 rfl hl (by decide) rfl (fun ls hl => ?_)
        obtain ⟨x3_99, ex3_99⟩ : ∃ y : Int32, y = (x3 + 1) := ⟨_, rfl⟩
        replace HW := HW x3_99 ex3_99
        refine lv_iinc (v := x3_99) (lv' := [(3, .int x3_99), (1, .long x1_98), (0, .ref (ad 135)), (4, .int x4)]) hx hb dX11_digest_99 hl (k := 2) rfl (by rw [ex3_99]; rfl) (by decide) rfl (fun ls hl => ?_)
        refine lv_goto (tgt := 33) hx hb dX11_digest_102 (by decide) ?_
        exact hK33 x1_98 x3_99 h_93 g_93 _ _ _ HW hG (lv_sub hl [2, 1, 0] rfl)
      · replace HW := HW.2 c_62
        refine lv_ldc2 (v := 31) hx hb hown cn317 dX11_digest_65 ?_
        refine lv_lload_n hx hb dX11_digest_68 rfl (lv_at hl 1 rfl) ?_
        refine lv_lmul hx hb dX11_digest_69 ?_
        refine lv_aload_n hx hb dX11_digest_70 rfl (lv_at hl 0 rfl) ?_
        refine lv_iload_n hx hb dX11_digest_71 rfl (lv_at hl 2 rfl) ?_
        refine lv_iload hx hb dX11_digest_72 (lv_at hl 3 rfl) ?_
        obtain ⟨P_74, HC_74, HW⟩ := HW
        refine g_calli (g_runV (As := [.int x3, .int x4]) (rest := [.long ((31 : Int64) * x1)]) ⟨hx, hb, hml, hown, hts⟩ (m_X11_firstOf l D cy ad h g H.size x3 x4 P_74 HC_74) (cwV 2 hts (gd_V (wm5 222 rfl rfl) (wm5 224 rfl rfl) (wmp4 (q := (yX11_firstOf, 26)) 3 rfl) (wm1 13 rfl rfl) (wm5 225 rfl rfl)) rfl rfl rfl (by decide +kernel) ⟨Nat.le_of_ble_eq_true rfl, Nat.le_of_ble_eq_true rfl⟩) hK hNw hG gl_135 rfl gk_135 (by decide) rfl rfl hl.1 rfl (lv_room (Nat.le_of_ble_eq_true rfl)) dX11_digest_74 ⟨Nat.zero_le _, Nat.zero_le _⟩) hG (fun r_74 h_74 g_74 H locs hq hG => ?_)
        replace HW := HW r_74 h_74 g_74 hq
        refine lv_i2l hx hb dX11_digest_77 rfl ?_
        refine lv_ladd hx hb dX11_digest_78 ?_
        refine lv_topl (fun x1_79 ex1_79 => ?_)
        replace HW := HW x1_79 ex1_79
        refine lv_lstore_n (lv' := [(1, .long x1_79), (0, .ref (ad 135)), (3, .int x3), (4, .int x4)]) hx hb dX11_digest_79 rfl hl (by decide) rfl (fun ls hl => ?_)
        obtain ⟨x4_80, ex4_80⟩ : ∃ y : Int32, y = (x4 + 1) := ⟨_, rfl⟩
        replace HW := HW x4_80 ex4_80
        refine lv_iinc (v := x4_80) (lv' := [(4, .int x4_80), (1, .long x1_79), (0, .ref (ad 135)), (3, .int x3)]) hx hb dX11_digest_80 hl (k := 3) rfl (by rw [ex4_80]; rfl) (by decide) rfl (fun ls hl => ?_)
        refine lv_goto (tgt := 59) hx hb dX11_digest_83 (by decide) ?_
        exact hK59 x1_79 x3 x4_80 h_74 g_74 _ _ _ HW hG (lv_sub hl [2, 1, 3, 0] rfl)
  have L33 : ∀ (n : Nat) (x1 : Int64) (x3 : Int32) (h : HI) (g : HL) (H : Heap) (locs : List Loc) (ls : Array Slot), lpN (F_X11_digest_33 Q) n (x1, x3, h, g) → gG D cy ad (gA ad s.heap.size) s.heap h g H locs → lv_has ls 5 [(0, .ref (ad 135)), (1, .long x1), (3, .int x3)] → W p l e ({ frames := 8, cells := 0, slots := 0, locals := 188 } : Room) s m args below meth c H locs 0 0 (MQ below (va_Ql (fun (r : Int64) (u : HI × HL) => Q r u.1 u.2) (gB D cy ad s.heap.size) (gA ad s.heap.size)) args s 0 0 (gA ad s.heap.size)) (F0 m 33 ls []) := by
    intro n
    induction n with
    | zero => intro x1 x3 h g H locs ls HW; exact HW.elim
    | succ n ih =>
      intro x1 x3 h g H locs ls HW hG hl
      have HW : b_X11_digest_33 Q (fun x1 x3 h g => lpN (F_X11_digest_33 Q) n (x1, x3, h, g)) x1 x3 h g := HW
      generalize hKe : (fun (x1 : Int64) (x3 : Int32) (h : HI) (g : HL) => lpN (F_X11_digest_33 Q) n (x1, x3, h, g)) = K33 at HW
      have hK33 : ∀ (x1 : Int64) (x3 : Int32) (h : HI) (g : HL) (H : Heap) (locs : List Loc) (ls : Array Slot), K33 x1 x3 h g → gG D cy ad (gA ad s.heap.size) s.heap h g H locs → lv_has ls 5 [(0, .ref (ad 135)), (1, .long x1), (3, .int x3)] → W p l e ({ frames := 8, cells := 0, slots := 0, locals := 188 } : Room) s m args below meth c H locs 0 0 (MQ below (va_Ql (fun (r : Int64) (u : HI × HL) => Q r u.1 u.2) (gB D cy ad s.heap.size) (gA ad s.heap.size)) args s 0 0 (gA ad s.heap.size)) (F0 m 33 ls []) := by subst hKe; exact ih
      clear ih
      clear hKe
      unfold b_X11_digest_33 at HW
      refine lv_iload_n hx hb dX11_digest_33 rfl (lv_at hl 2 rfl) ?_
      refine lv_aload_n hx hb dX11_digest_34 rfl (lv_at hl 0 rfl) ?_
      refine g_getr hx hb hw inG11 hown hK hG gl_135 rfl gk_135 (by decide) 0 (by decide) (by rw [gm_135]; decide) (r := 136) gr_135_0 lk7 dX11_digest_35 ?_
      refine lv_iconst (v := 0) hx hb dX11_digest_38 (by decide) ?_
      refine g_iald hx hb hK hG gl_136 gk_136 gn_136 HW.1 dX11_digest_39 ?_
      replace HW := HW.2
      refine lv_icmp_ge (tgt := 105) hx hb dX11_digest_40 (by decide) (fun c_40 => ?_) (fun c_40 => ?_)
      · replace HW := HW.1 c_40
        refine lv_aload_n hx hb dX11_digest_105 rfl (lv_at hl 0 rfl) ?_
        refine lv_aload_n hx hb dX11_digest_106 rfl (lv_at hl 0 rfl) ?_
        refine lv_lload_n hx hb dX11_digest_107 rfl (lv_at hl 1 rfl) ?_
        refine lv_sipush (v := 140) hx hb dX11_digest_108 (by decide) ?_
        refine lv_bipush (v := 12) hx hb dX11_digest_111 (by decide) ?_
        obtain ⟨P_113, HC_113, HW⟩ := HW
        refine g_calll (g_runV (As := [.long x1, .int (140 : Int32), .int (12 : Int32)]) (rest := [.ref (ad 135)]) ⟨hx, hb, hml, hown, hts⟩ (m_X11_mixed l D cy ad h g H.size x1 (140 : Int32) (12 : Int32) P_113 HC_113) (cwV 3 hts (gd_V (wm7 6 rfl rfl) (wm7 8 rfl rfl) (wmp6 (q := (yX11_mixed, 26)) 2 rfl) (wm1 13 rfl rfl) (wm7 9 rfl rfl)) rfl rfl rfl (by decide +kernel) ⟨Nat.le_of_ble_eq_true rfl, Nat.le_of_ble_eq_true rfl⟩) hK hNw hG gl_135 rfl gk_135 (by decide) rfl rfl hl.1 rfl (lv_room (Nat.le_of_ble_eq_true rfl)) dX11_digest_113 ⟨Nat.zero_le _, Nat.zero_le _⟩) hG (fun r_113 h_113 g_113 H locs hq hG => ?_)
        replace HW := HW r_113 h_113 g_113 hq
        refine lv_sipush (v := 152) hx hb dX11_digest_116 (by decide) ?_
        refine lv_bipush (v := 6) hx hb dX11_digest_119 (by decide) ?_
        refine lv_aload_n hx hb dX11_digest_121 rfl (lv_at hl 0 rfl) ?_
        refine g_getr hx hb hw inG11 hown hK hG gl_135 rfl gk_135 (by decide) 0 (by decide) (by rw [gm_135]; decide) (r := 136) gr_135_0 lk7 dX11_digest_122 ?_
        refine lv_iconst (v := 1) hx hb dX11_digest_125 (by decide) ?_
        refine g_iald hx hb hK hG gl_136 gk_136 gn_136 HW.1 dX11_digest_126 ?_
        replace HW := HW.2
        refine lv_imul hx hb dX11_digest_127 ?_
        obtain ⟨P_128, HC_128, HW⟩ := HW
        refine g_calll (g_runV (As := [.long r_113, .int (152 : Int32), .int ((6 : Int32) * (h_113 136 (1 : Int32).toNatClampNeg))]) (rest := []) ⟨hx, hb, hml, hown, hts⟩ (m_X11_mixed l D cy ad h_113 g_113 H.size r_113 (152 : Int32) ((6 : Int32) * (h_113 136 (1 : Int32).toNatClampNeg)) P_128 HC_128) (cwV 3 hts (gd_V (wm7 6 rfl rfl) (wm7 8 rfl rfl) (wmp6 (q := (yX11_mixed, 26)) 2 rfl) (wm1 13 rfl rfl) (wm7 9 rfl rfl)) rfl rfl rfl (by decide +kernel) ⟨Nat.le_of_ble_eq_true rfl, Nat.le_of_ble_eq_true rfl⟩) hK hNw hG gl_135 rfl gk_135 (by decide) rfl rfl hl.1 rfl (lv_room (Nat.le_of_ble_eq_true rfl)) dX11_digest_128 ⟨Nat.zero_le _, Nat.zero_le _⟩) hG (fun r_128 h_128 g_128 H locs hq hG => ?_)
        replace HW := HW r_128 h_128 g_128 hq
        refine lv_lstore_n (lv' := [(1, .long r_128), (0, .ref (ad 135)), (3, .int x3)]) hx hb dX11_digest_131 rfl hl (by decide) rfl (fun ls hl => ?_)
        refine lv_iconst (v := 0) hx hb dX11_digest_132 (by decide) ?_
        refine lv_istore_n (lv' := [(3, .int (0 : Int32)), (1, .long r_128), (0, .ref (ad 135))]) hx hb dX11_digest_133 rfl hl (by decide) rfl (fun ls hl => ?_)
        obtain ⟨n_134, HW⟩ := HW
        exact L134 n_134 r_128 (0 : Int32) h_128 g_128 _ _ _ HW hG (lv_sub hl [2, 1, 0] rfl)
      · replace HW := HW.2 c_40
        refine lv_aload_n hx hb dX11_digest_43 rfl (lv_at hl 0 rfl) ?_
        refine lv_lload_n hx hb dX11_digest_44 rfl (lv_at hl 1 rfl) ?_
        refine lv_bipush (v := 20) hx hb dX11_digest_45 (by decide) ?_
        refine lv_iconst (v := 5) hx hb dX11_digest_47 (by decide) ?_
        refine lv_iload_n hx hb dX11_digest_48 rfl (lv_at hl 2 rfl) ?_
        refine lv_imul hx hb dX11_digest_49 ?_
        refine lv_iadd hx hb dX11_digest_50 ?_
        refine lv_iconst (v := 4) hx hb dX11_digest_51 (by decide) ?_
        obtain ⟨P_52, HC_52, HW⟩ := HW
        refine g_calll (g_runV (As := [.long x1, .int ((20 : Int32) + ((5 : Int32) * x3)), .int (4 : Int32)]) (rest := []) ⟨hx, hb, hml, hown, hts⟩ (m_X11_mixed l D cy ad h g H.size x1 ((20 : Int32) + ((5 : Int32) * x3)) (4 : Int32) P_52 HC_52) (cwV 3 hts (gd_V (wm7 6 rfl rfl) (wm7 8 rfl rfl) (wmp6 (q := (yX11_mixed, 26)) 2 rfl) (wm1 13 rfl rfl) (wm7 9 rfl rfl)) rfl rfl rfl (by decide +kernel) ⟨Nat.le_of_ble_eq_true rfl, Nat.le_of_ble_eq_true rfl⟩) hK hNw hG gl_135 rfl gk_135 (by decide) rfl rfl hl.1 rfl (lv_room (Nat.le_of_ble_eq_true rfl)) dX11_digest_52 ⟨Nat.zero_le _, Nat.zero_le _⟩) hG (fun r_52 h_52 g_52 H locs hq hG => ?_)
        replace HW := HW r_52 h_52 g_52 hq
        refine lv_lstore_n (lv' := [(1, .long r_52), (0, .ref (ad 135)), (3, .int x3)]) hx hb dX11_digest_55 rfl hl (by decide) rfl (fun ls hl => ?_)
        refine lv_iconst (v := 0) hx hb dX11_digest_56 (by decide) ?_
        refine lv_istore (lv' := [(4, .int (0 : Int32)), (1, .long r_52), (0, .ref (ad 135)), (3, .int x3)]) hx hb dX11_digest_57 hl (by decide) rfl (fun ls hl => ?_)
        obtain ⟨n_59, HW⟩ := HW
        exact L59 K33 hK33 n_59 r_52 x3 (0 : Int32) h_52 g_52 _ _ _ HW hG (lv_sub hl [2, 1, 3, 0] rfl)
  have L6 : ∀ (n : Nat) (x1 : Int64) (x3 : Int32) (h : HI) (g : HL) (H : Heap) (locs : List Loc) (ls : Array Slot), lpN (F_X11_digest_6 Q) n (x1, x3, h, g) → gG D cy ad (gA ad s.heap.size) s.heap h g H locs → lv_has ls 5 [(0, .ref (ad 135)), (1, .long x1), (3, .int x3)] → W p l e ({ frames := 8, cells := 0, slots := 0, locals := 188 } : Room) s m args below meth c H locs 0 0 (MQ below (va_Ql (fun (r : Int64) (u : HI × HL) => Q r u.1 u.2) (gB D cy ad s.heap.size) (gA ad s.heap.size)) args s 0 0 (gA ad s.heap.size)) (F0 m 6 ls []) := by
    intro n
    induction n with
    | zero => intro x1 x3 h g H locs ls HW; exact HW.elim
    | succ n ih =>
      intro x1 x3 h g H locs ls HW hG hl
      have HW : b_X11_digest_6 Q (fun x1 x3 h g => lpN (F_X11_digest_6 Q) n (x1, x3, h, g)) x1 x3 h g := HW
      generalize hKe : (fun (x1 : Int64) (x3 : Int32) (h : HI) (g : HL) => lpN (F_X11_digest_6 Q) n (x1, x3, h, g)) = K6 at HW
      have hK6 : ∀ (x1 : Int64) (x3 : Int32) (h : HI) (g : HL) (H : Heap) (locs : List Loc) (ls : Array Slot), K6 x1 x3 h g → gG D cy ad (gA ad s.heap.size) s.heap h g H locs → lv_has ls 5 [(0, .ref (ad 135)), (1, .long x1), (3, .int x3)] → W p l e ({ frames := 8, cells := 0, slots := 0, locals := 188 } : Room) s m args below meth c H locs 0 0 (MQ below (va_Ql (fun (r : Int64) (u : HI × HL) => Q r u.1 u.2) (gB D cy ad s.heap.size) (gA ad s.heap.size)) args s 0 0 (gA ad s.heap.size)) (F0 m 6 ls []) := by subst hKe; exact ih
      clear ih
      clear hKe
      unfold b_X11_digest_6 at HW
      refine lv_iload_n hx hb dX11_digest_6 rfl (lv_at hl 2 rfl) ?_
      refine lv_bipush (v := 10) hx hb dX11_digest_7 (by decide) ?_
      refine lv_icmp_ge (tgt := 31) hx hb dX11_digest_9 (by decide) (fun c_9 => ?_) (fun c_9 => ?_)
      · replace HW := HW.1 c_9
        refine lv_iconst (v := 0) hx hb dX11_digest_31 (by decide) ?_
        refine lv_istore_n (lv' := [(3, .int (0 : Int32)), (0, .ref (ad 135)), (1, .long x1)]) hx hb dX11_digest_32 rfl hl (by decide) rfl (fun ls hl => ?_)
        obtain ⟨n_33, HW⟩ := HW
        exact L33 n_33 x1 (0 : Int32) h g _ _ _ HW hG (lv_sub hl [1, 2, 0] rfl)
      · replace HW := HW.2 c_9
        refine lv_ldc2 (v := 31) hx hb hown cn317 dX11_digest_12 ?_
        refine lv_lload_n hx hb dX11_digest_15 rfl (lv_at hl 1 rfl) ?_
        refine lv_lmul hx hb dX11_digest_16 ?_
        refine lv_aload_n hx hb dX11_digest_17 rfl (lv_at hl 0 rfl) ?_
        refine lv_iload_n hx hb dX11_digest_18 rfl (lv_at hl 2 rfl) ?_
        obtain ⟨P_19, HC_19, HW⟩ := HW
        refine g_calli (g_runV (As := [.int x3]) (rest := [.long ((31 : Int64) * x1)]) ⟨hx, hb, hml, hown, hts⟩ (m_X11_countOf l D cy ad h g H.size x3 P_19 HC_19) (cwV 1 hts (gd_V (wm6 232 rfl rfl) (wm6 234 rfl rfl) (wmp6 (q := (yX11_countOf, 26)) 0 rfl) (wm1 13 rfl rfl) (wm6 235 rfl rfl)) rfl rfl rfl (by decide +kernel) ⟨Nat.le_of_ble_eq_true rfl, Nat.le_of_ble_eq_true rfl⟩) hK hNw hG gl_135 rfl gk_135 (by decide) rfl rfl hl.1 rfl (lv_room (Nat.le_of_ble_eq_true rfl)) dX11_digest_19 ⟨Nat.zero_le _, Nat.zero_le _⟩) hG (fun r_19 h_19 g_19 H locs hq hG => ?_)
        replace HW := HW r_19 h_19 g_19 hq
        refine lv_i2l hx hb dX11_digest_22 rfl ?_
        refine lv_ladd hx hb dX11_digest_23 ?_
        refine lv_topl (fun x1_24 ex1_24 => ?_)
        replace HW := HW x1_24 ex1_24
        refine lv_lstore_n (lv' := [(1, .long x1_24), (0, .ref (ad 135)), (3, .int x3)]) hx hb dX11_digest_24 rfl hl (by decide) rfl (fun ls hl => ?_)
        obtain ⟨x3_25, ex3_25⟩ : ∃ y : Int32, y = (x3 + 1) := ⟨_, rfl⟩
        replace HW := HW x3_25 ex3_25
        refine lv_iinc (v := x3_25) (lv' := [(3, .int x3_25), (1, .long x1_24), (0, .ref (ad 135))]) hx hb dX11_digest_25 hl (k := 2) rfl (by rw [ex3_25]; rfl) (by decide) rfl (fun ls hl => ?_)
        refine lv_goto (tgt := 6) hx hb dX11_digest_28 (by decide) ?_
        exact hK6 x1_24 x3_25 h_19 g_19 _ _ _ HW hG (lv_sub hl [2, 1, 0] rfl)
  have E0 : ∀ (H : Heap) (locs : List Loc) (ls : Array Slot), gG D cy ad (gA ad s.heap.size) s.heap h g H locs → lv_has ls 5 [(0, .ref (ad 135))] → W p l e ({ frames := 8, cells := 0, slots := 0, locals := 188 } : Room) s m args below meth c H locs 0 0 (MQ below (va_Ql (fun (r : Int64) (u : HI × HL) => Q r u.1 u.2) (gB D cy ad s.heap.size) (gA ad s.heap.size)) args s 0 0 (gA ad s.heap.size)) (F0 m 0 ls []) := by
    intro H locs ls hG hl
    unfold w_X11_digest at HW
    refine lv_ldc2 (v := 383) hx hb hown cn319 dX11_digest_0 ?_
    refine lv_lstore_n (lv' := [(1, .long (383 : Int64)), (0, .ref (ad 135))]) hx hb dX11_digest_3 rfl hl (by decide) rfl (fun ls hl => ?_)
    refine lv_iconst (v := 0) hx hb dX11_digest_4 (by decide) ?_
    refine lv_istore_n (lv' := [(3, .int (0 : Int32)), (1, .long (383 : Int64)), (0, .ref (ad 135))]) hx hb dX11_digest_5 rfl hl (by decide) rfl (fun ls hl => ?_)
    obtain ⟨n_6, HW⟩ := HW
    exact L6 n_6 (383 : Int64) (0 : Int32) h g _ _ _ HW hG (lv_sub hl [2, 1, 0] rfl)
  exact E0 _ _ _ hG hl
