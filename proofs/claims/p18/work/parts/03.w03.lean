def j_X2_addUp_153 (Q : HI → HL → Prop) (K28 : Int32 → Int32 → Int32 → HI → HL → Prop) (x1 : Int32) (x2 : Int32) (x3 : Int32) (s1 : Int32) (s2 : Int32) (h : HI) (g : HL) : Prop :=
  (∀ h_154 : HI, h_154 = hu h 85 9 (s1 + s2) → (∀ x3_157 : Int32, x3_157 = (x3 + 1) → K28 x1 x2 x3_157 h_154 g))
def j_X2_addUp_118 (Q : HI → HL → Prop) (K28 : Int32 → Int32 → Int32 → HI → HL → Prop) (x1 : Int32) (x2 : Int32) (x3 : Int32) (x4 : Int32) (x5 : Int32) (s1 : Int32) (s2 : Int32) (h : HI) (g : HL) : Prop :=
  (∀ h_119 : HI, h_119 = hu h 85 8 (s1 + s2) → ((x5 = 0 → (vp_in x3 6 ∧ j_X2_addUp_153 Q K28 x1 x2 x3 (h_119 85 9) ((h_119 88 x3.toNatClampNeg) - x4) h_119 g)) ∧ (¬ x5 = 0 → (vp_in x3 6 ∧ j_X2_addUp_153 Q K28 x1 x2 x3 (h_119 85 9) (x4 - (h_119 87 x3.toNatClampNeg)) h_119 g))))
def j_X2_addUp_85 (Q : HI → HL → Prop) (K28 : Int32 → Int32 → Int32 → HI → HL → Prop) (x1 : Int32) (x2 : Int32) (x3 : Int32) (x4 : Int32) (s0 : Int32) (h : HI) (g : HL) : Prop :=
  ((s0 = 0 → (vp_in x3 6 ∧ j_X2_addUp_118 Q K28 x1 x2 x3 x4 s0 (h 85 8) ((h 87 x3.toNatClampNeg) - x4) h g)) ∧ (¬ s0 = 0 → (vp_in x3 6 ∧ j_X2_addUp_118 Q K28 x1 x2 x3 x4 s0 (h 85 8) (x4 - (h 88 x3.toNatClampNeg)) h g)))
def b_X2_addUp_28 (Q : HI → HL → Prop) (K28 : Int32 → Int32 → Int32 → HI → HL → Prop) (x1 : Int32) (x2 : Int32) (x3 : Int32) (h : HI) (g : HL) : Prop :=
  ((x2 ≤ x3 → Q h g) ∧ (¬ x2 ≤ x3 → (((6 : Int32) ≤ x3 → Q h g) ∧ (¬ (6 : Int32) ≤ x3 → (vp_in x3 6 ∧ (∃ P_50 : Int32 → HI → HL → Prop, w_X4_wornOf (h 86 x3.toNatClampNeg) x1 h g P_50 ∧ ∀ (r_50 : Int32) (h_50 : HI) (g_50 : HL), P_50 r_50 h_50 g_50 → (∃ P_73 : Int32 → HI → HL → Prop, w_X8_at 8 (h_50 85 6) (((3 : Int32) + ((2 : Int32) * x3)) + (1 : Int32)) h_50 g_50 P_73 ∧ ∀ (r_73 : Int32) (h_73 : HI) (g_73 : HL), P_73 r_73 h_73 g_73 → ((¬ r_73 = (1 : Int32) → j_X2_addUp_85 Q K28 x1 x2 x3 r_50 (0 : Int32) h_73 g_73) ∧ (r_73 = (1 : Int32) → j_X2_addUp_85 Q K28 x1 x2 x3 r_50 (1 : Int32) h_73 g_73)))))))))
def F_X2_addUp_28 (Q : HI → HL → Prop) (K : Int32 × Int32 × Int32 × HI × HL → Prop) (q : Int32 × Int32 × Int32 × HI × HL) : Prop := b_X2_addUp_28 Q (fun x1 x2 x3 h g => K (x1, x2, x3, h, g)) q.1 q.2.1 q.2.2.1 q.2.2.2.1 q.2.2.2.2
def w_X2_addUp (x1 : Int32) (h : HI) (g : HL) (Q : HI → HL → Prop) : Prop :=
  (∀ h_2 : HI, h_2 = hu h 85 8 (0 : Int32) → (∀ h_7 : HI, h_7 = hu h_2 85 9 (0 : Int32) → (∃ P_22 : Int32 → HI → HL → Prop, w_X8_at 8 (h_7 85 6) (2 : Int32) h_7 g P_22 ∧ ∀ (r_22 : Int32) (h_22 : HI) (g_22 : HL), P_22 r_22 h_22 g_22 → lpE (F_X2_addUp_28 Q) (x1, r_22, (0 : Int32), h_22, g_22))))
set_option maxHeartbeats 8000000 in
set_option maxRecDepth 100000 in
theorem m_X2_addUp (l : Launch) (D : va_G) (cy : Nat → ClassId) (ad : Nat → Nat) (h : HI) (g : HL) (sz : Nat) (x1 : Int32) (Q : HI → HL → Prop) (HW : w_X2_addUp x1 h g Q) : Met l yX2_addUp (wa yX2_addUp cX2_addUp 6 none) ({ frames := 3, cells := 0, slots := 0, locals := 75 }) (va_Pc [.ref (ad 85), .int x1] (gI D cy ad h g sz)) (va_Qv (fun (u : HI × HL) => Q u.1 u.2) (gB D cy ad sz) (gA ad sz)) 0 0 (gA ad sz) := by
  refine Met.ofW (cc := cX2_addUp) (maxL := 6) (ret := none) (by decide) rfl ?_
  intro p e s m args below meth c s₁ B hml hv
  obtain ⟨hav, hsz, hP, hK, hD0, hNw⟩ := hv
  have hx := B.exec
  have hb := B.bytes
  have hr := B.returns
  have hts := atoms_spec (ws := (wa yX2_addUp cX2_addUp 6 none)) B.pre
  have hw := wa_hw hts
  have hown : s.vm.findClass RX2 = some m.cls := findClass_of_methodNamed B.named
  have hlocks := B.notSynchronized
  subst hsz
  have hG : gG D cy ad (gA ad s.heap.size) s.heap h g s.heap [] := ⟨hP, gA_self hD0, va_S.rf⟩
  clear hP hD0
  have lk66 := hw (.fieldLink RX2 66 "OldWorks$Fits" "least" "I") (wm1 223 rfl rfl)
  have lk67 := hw (.fieldLink RX2 67 "OldWorks$Fits" "greatest" "I") (wm1 225 rfl rfl)
  have lk21 := hw (.fieldLink RX2 21 "OldWorks$Fits" "shop" "LOldWorks$Shop;") (wm1 214 rfl rfl)
  have lk41 := hw (.fieldLink RX2 41 "OldWorks$Shop" "chains" "LOldWorks$Table;") (wm1 72 rfl rfl)
  have lk33 := hw (.fieldLink RX2 33 "OldWorks$Fits" "chain" "I") (wm1 220 rfl rfl)
  have lk25 := hw (.fieldLink RX2 25 "OldWorks$Fits" "law" "LOldWorks$Law;") (wm1 215 rfl rfl)
  have lk9 := hw (.fieldLink RX2 9 "OldWorks$Fits" "parts" "[I") (wm1 217 rfl rfl)
  have lk15 := hw (.fieldLink RX2 15 "OldWorks$Fits" "leasts" "[I") (wm1 218 rfl rfl)
  have lk18 := hw (.fieldLink RX2 18 "OldWorks$Fits" "greatests" "[I") (wm1 219 rfl rfl)
  rw [show (headSpec (wa yX2_addUp cX2_addUp 6 none) ({ frames := 3, cells := 0, slots := 0, locals := 75 } : Room)).room = ({ frames := 3, cells := 0, slots := 0, locals := 75 } : Room) from rfl]
  have hl := lv_entry ([.ref (ad 85), .int x1]) (n := 6) (Nat.le_of_ble_eq_true rfl)
  rw [show entryFrame m args 6 = entryFrame m ([.ref (ad 85), .int x1] : List Value).toArray 6 from by rw [hav], lg_entry_eq]
  generalize (lg_sl ([.ref (ad 85), .int x1]) ++ List.replicate (6 - (lg_sl ([.ref (ad 85), .int x1])).length) Slot.unset).toArray = ls at hl ⊢
  have hl : lv_has ls 6 [(0, .ref (ad 85)), (1, .int x1)] := hl
  have B153 : ∀ (K28 : Int32 → Int32 → Int32 → HI → HL → Prop) (hK28 : ∀ (x1 : Int32) (x2 : Int32) (x3 : Int32) (h : HI) (g : HL) (H : Heap) (locs : List Loc) (ls : Array Slot), K28 x1 x2 x3 h g → gG D cy ad (gA ad s.heap.size) s.heap h g H locs → lv_has ls 6 [(0, .ref (ad 85)), (1, .int x1), (2, .int x2), (3, .int x3)] → W p l e ({ frames := 3, cells := 0, slots := 0, locals := 75 } : Room) s m args below meth c H locs 0 0 (MQ below (va_Qv (fun (u : HI × HL) => Q u.1 u.2) (gB D cy ad s.heap.size) (gA ad s.heap.size)) args s 0 0 (gA ad s.heap.size)) (F0 m 28 ls [])) (x1 : Int32) (x2 : Int32) (x3 : Int32) (s1 : Int32) (s2 : Int32) (h : HI) (g : HL) (H : Heap) (locs : List Loc) (ls : Array Slot), j_X2_addUp_153 Q K28 x1 x2 x3 s1 s2 h g → gG D cy ad (gA ad s.heap.size) s.heap h g H locs → lv_has ls 6 [(0, .ref (ad 85)), (1, .int x1), (2, .int x2), (3, .int x3)] → W p l e ({ frames := 3, cells := 0, slots := 0, locals := 75 } : Room) s m args below meth c H locs 0 0 (MQ below (va_Qv (fun (u : HI × HL) => Q u.1 u.2) (gB D cy ad s.heap.size) (gA ad s.heap.size)) args s 0 0 (gA ad s.heap.size)) (F0 m 153 ls [.int s2, .int s1, .ref (ad 85)]) := by
    intro K28 hK28 x1 x2 x3 s1 s2 h g H locs ls HW hG hl
    unfold j_X2_addUp_153 at HW
    refine lv_iadd hx hb dX2_addUp_153 ?_
    refine g_put hx hb hw inG2 tyX2 tyX2_ok nmX2 hown hK hG gl_85 rfl gk_85 (by decide) 9 (by decide) (by rw [gm_85]; decide) gr_85_9 rfl (ty := .int) (by decide +kernel) rfl rfl lk67 dX2_addUp_154 (fun H locs hG => ?_)
    obtain ⟨h_154, eh_154⟩ : ∃ y : HI, y = hu h 85 9 (s1 + s2) := ⟨_, rfl⟩
    rw [← eh_154] at hG
    replace HW := HW h_154 eh_154
    obtain ⟨x3_157, ex3_157⟩ : ∃ y : Int32, y = (x3 + 1) := ⟨_, rfl⟩
    replace HW := HW x3_157 ex3_157
    refine lv_iinc (v := x3_157) (lv' := [(3, .int x3_157), (0, .ref (ad 85)), (1, .int x1), (2, .int x2)]) hx hb dX2_addUp_157 hl (k := 3) rfl (by rw [ex3_157]; rfl) (by decide) rfl (fun ls hl => ?_)
    refine lv_goto (tgt := 28) hx hb dX2_addUp_160 (by decide) ?_
    exact hK28 x1 x2 x3_157 h_154 g _ _ _ HW hG (lv_sub hl [1, 2, 3, 0] rfl)
  have B118 : ∀ (K28 : Int32 → Int32 → Int32 → HI → HL → Prop) (hK28 : ∀ (x1 : Int32) (x2 : Int32) (x3 : Int32) (h : HI) (g : HL) (H : Heap) (locs : List Loc) (ls : Array Slot), K28 x1 x2 x3 h g → gG D cy ad (gA ad s.heap.size) s.heap h g H locs → lv_has ls 6 [(0, .ref (ad 85)), (1, .int x1), (2, .int x2), (3, .int x3)] → W p l e ({ frames := 3, cells := 0, slots := 0, locals := 75 } : Room) s m args below meth c H locs 0 0 (MQ below (va_Qv (fun (u : HI × HL) => Q u.1 u.2) (gB D cy ad s.heap.size) (gA ad s.heap.size)) args s 0 0 (gA ad s.heap.size)) (F0 m 28 ls [])) (x1 : Int32) (x2 : Int32) (x3 : Int32) (x4 : Int32) (x5 : Int32) (s1 : Int32) (s2 : Int32) (h : HI) (g : HL) (H : Heap) (locs : List Loc) (ls : Array Slot), j_X2_addUp_118 Q K28 x1 x2 x3 x4 x5 s1 s2 h g → gG D cy ad (gA ad s.heap.size) s.heap h g H locs → lv_has ls 6 [(0, .ref (ad 85)), (1, .int x1), (2, .int x2), (3, .int x3), (4, .int x4), (5, .int x5)] → W p l e ({ frames := 3, cells := 0, slots := 0, locals := 75 } : Room) s m args below meth c H locs 0 0 (MQ below (va_Qv (fun (u : HI × HL) => Q u.1 u.2) (gB D cy ad s.heap.size) (gA ad s.heap.size)) args s 0 0 (gA ad s.heap.size)) (F0 m 118 ls [.int s2, .int s1, .ref (ad 85)]) := by
    intro K28 hK28 x1 x2 x3 x4 x5 s1 s2 h g H locs ls HW hG hl
    unfold j_X2_addUp_118 at HW
    refine lv_iadd hx hb dX2_addUp_118 ?_
    refine g_put hx hb hw inG2 tyX2 tyX2_ok nmX2 hown hK hG gl_85 rfl gk_85 (by decide) 8 (by decide) (by rw [gm_85]; decide) gr_85_8 rfl (ty := .int) (by decide +kernel) rfl rfl lk66 dX2_addUp_119 (fun H locs hG => ?_)
    obtain ⟨h_119, eh_119⟩ : ∃ y : HI, y = hu h 85 8 (s1 + s2) := ⟨_, rfl⟩
    rw [← eh_119] at hG
    replace HW := HW h_119 eh_119
    refine lv_aload_n hx hb dX2_addUp_122 rfl (lv_at hl 0 rfl) ?_
    refine lv_dup hx hb dX2_addUp_123 rfl ?_
    refine g_geti hx hb hw inG2 hown hK hG gl_85 rfl gk_85 (by decide) 9 (by decide) (by rw [gm_85]; decide) gr_85_9 lk67 dX2_addUp_124 ?_
    refine lv_iload hx hb dX2_addUp_127 (lv_at hl 5 rfl) ?_
    refine lv_if_eq (tgt := 144) hx hb dX2_addUp_129 (by decide) (fun c_129 => ?_) (fun c_129 => ?_)
    · replace HW := HW.1 c_129
      refine lv_aload_n hx hb dX2_addUp_144 rfl (lv_at hl 0 rfl) ?_
      refine g_getr hx hb hw inG2 hown hK hG gl_85 rfl gk_85 (by decide) 5 (by decide) (by rw [gm_85]; decide) (r := 88) gr_85_5 lk18 dX2_addUp_145 ?_
      refine lv_iload_n hx hb dX2_addUp_148 rfl (lv_at hl 3 rfl) ?_
      refine g_iald hx hb hK hG gl_88 gk_88 gn_88 HW.1 dX2_addUp_149 ?_
      replace HW := HW.2
      refine lv_iload hx hb dX2_addUp_150 (lv_at hl 4 rfl) ?_
      refine lv_isub hx hb dX2_addUp_152 ?_
      exact B153 K28 hK28 x1 x2 x3 (h_119 85 9) ((h_119 88 x3.toNatClampNeg) - x4) h_119 g _ _ _ HW hG (lv_sub hl [0, 1, 2, 3] rfl)
    · replace HW := HW.2 c_129
      refine lv_iload hx hb dX2_addUp_132 (lv_at hl 4 rfl) ?_
      refine lv_aload_n hx hb dX2_addUp_134 rfl (lv_at hl 0 rfl) ?_
      refine g_getr hx hb hw inG2 hown hK hG gl_85 rfl gk_85 (by decide) 4 (by decide) (by rw [gm_85]; decide) (r := 87) gr_85_4 lk15 dX2_addUp_135 ?_
      refine lv_iload_n hx hb dX2_addUp_138 rfl (lv_at hl 3 rfl) ?_
      refine g_iald hx hb hK hG gl_87 gk_87 gn_87 HW.1 dX2_addUp_139 ?_
      replace HW := HW.2
      refine lv_isub hx hb dX2_addUp_140 ?_
      refine lv_goto (tgt := 153) hx hb dX2_addUp_141 (by decide) ?_
      exact B153 K28 hK28 x1 x2 x3 (h_119 85 9) (x4 - (h_119 87 x3.toNatClampNeg)) h_119 g _ _ _ HW hG (lv_sub hl [0, 1, 2, 3] rfl)
  have B85 : ∀ (K28 : Int32 → Int32 → Int32 → HI → HL → Prop) (hK28 : ∀ (x1 : Int32) (x2 : Int32) (x3 : Int32) (h : HI) (g : HL) (H : Heap) (locs : List Loc) (ls : Array Slot), K28 x1 x2 x3 h g → gG D cy ad (gA ad s.heap.size) s.heap h g H locs → lv_has ls 6 [(0, .ref (ad 85)), (1, .int x1), (2, .int x2), (3, .int x3)] → W p l e ({ frames := 3, cells := 0, slots := 0, locals := 75 } : Room) s m args below meth c H locs 0 0 (MQ below (va_Qv (fun (u : HI × HL) => Q u.1 u.2) (gB D cy ad s.heap.size) (gA ad s.heap.size)) args s 0 0 (gA ad s.heap.size)) (F0 m 28 ls [])) (x1 : Int32) (x2 : Int32) (x3 : Int32) (x4 : Int32) (s0 : Int32) (h : HI) (g : HL) (H : Heap) (locs : List Loc) (ls : Array Slot), j_X2_addUp_85 Q K28 x1 x2 x3 x4 s0 h g → gG D cy ad (gA ad s.heap.size) s.heap h g H locs → lv_has ls 6 [(0, .ref (ad 85)), (1, .int x1), (2, .int x2), (3, .int x3), (4, .int x4)] → W p l e ({ frames := 3, cells := 0, slots := 0, locals := 75 } : Room) s m args below meth c H locs 0 0 (MQ below (va_Qv (fun (u : HI × HL) => Q u.1 u.2) (gB D cy ad s.heap.size) (gA ad s.heap.size)) args s 0 0 (gA ad s.heap.size)) (F0 m 85 ls [.int s0]) := by
    intro K28 hK28 x1 x2 x3 x4 s0 h g H locs ls HW hG hl
    unfold j_X2_addUp_85 at HW
    refine lv_istore (lv' := [(5, .int s0), (0, .ref (ad 85)), (1, .int x1), (2, .int x2), (3, .int x3), (4, .int x4)]) hx hb dX2_addUp_85 hl (by decide) rfl (fun ls hl => ?_)
    refine lv_aload_n hx hb dX2_addUp_87 rfl (lv_at hl 1 rfl) ?_
    refine lv_dup hx hb dX2_addUp_88 rfl ?_
    refine g_geti hx hb hw inG2 hown hK hG gl_85 rfl gk_85 (by decide) 8 (by decide) (by rw [gm_85]; decide) gr_85_8 lk66 dX2_addUp_89 ?_
    refine lv_iload hx hb dX2_addUp_92 (lv_at hl 0 rfl) ?_
    refine lv_if_eq (tgt := 109) hx hb dX2_addUp_94 (by decide) (fun c_94 => ?_) (fun c_94 => ?_)
    · replace HW := HW.1 c_94
      refine lv_aload_n hx hb dX2_addUp_109 rfl (lv_at hl 1 rfl) ?_
      refine g_getr hx hb hw inG2 hown hK hG gl_85 rfl gk_85 (by decide) 4 (by decide) (by rw [gm_85]; decide) (r := 87) gr_85_4 lk15 dX2_addUp_110 ?_
      refine lv_iload_n hx hb dX2_addUp_113 rfl (lv_at hl 4 rfl) ?_
      refine g_iald hx hb hK hG gl_87 gk_87 gn_87 HW.1 dX2_addUp_114 ?_
      replace HW := HW.2
      refine lv_iload hx hb dX2_addUp_115 (lv_at hl 5 rfl) ?_
      refine lv_isub hx hb dX2_addUp_117 ?_
      exact B118 K28 hK28 x1 x2 x3 x4 s0 (h 85 8) ((h 87 x3.toNatClampNeg) - x4) h g _ _ _ HW hG (lv_sub hl [1, 2, 3, 4, 5, 0] rfl)
    · replace HW := HW.2 c_94
      refine lv_iload hx hb dX2_addUp_97 (lv_at hl 5 rfl) ?_
      refine lv_aload_n hx hb dX2_addUp_99 rfl (lv_at hl 1 rfl) ?_
      refine g_getr hx hb hw inG2 hown hK hG gl_85 rfl gk_85 (by decide) 5 (by decide) (by rw [gm_85]; decide) (r := 88) gr_85_5 lk18 dX2_addUp_100 ?_
      refine lv_iload_n hx hb dX2_addUp_103 rfl (lv_at hl 4 rfl) ?_
      refine g_iald hx hb hK hG gl_88 gk_88 gn_88 HW.1 dX2_addUp_104 ?_
      replace HW := HW.2
      refine lv_isub hx hb dX2_addUp_105 ?_
      refine lv_goto (tgt := 118) hx hb dX2_addUp_106 (by decide) ?_
      exact B118 K28 hK28 x1 x2 x3 x4 s0 (h 85 8) (x4 - (h 88 x3.toNatClampNeg)) h g _ _ _ HW hG (lv_sub hl [1, 2, 3, 4, 5, 0] rfl)
  have L28 : ∀ (n : Nat) (x1 : Int32) (x2 : Int32) (x3 : Int32) (h : HI) (g : HL) (H : Heap) (locs : List Loc) (ls : Array Slot), lpN (F_X2_addUp_28 Q) n (x1, x2, x3, h, g) → gG D cy ad (gA ad s.heap.size) s.heap h g H locs → lv_has ls 6 [(0, .ref (ad 85)), (1, .int x1), (2, .int x2), (3, .int x3)] → W p l e ({ frames := 3, cells := 0, slots := 0, locals := 75 } : Room) s m args below meth c H locs 0 0 (MQ below (va_Qv (fun (u : HI × HL) => Q u.1 u.2) (gB D cy ad s.heap.size) (gA ad s.heap.size)) args s 0 0 (gA ad s.heap.size)) (F0 m 28 ls []) := by
    intro n
    induction n with
    | zero => intro x1 x2 x3 h g H locs ls HW; exact HW.elim
    | succ n ih =>
      intro x1 x2 x3 h g H locs ls HW hG hl
      have HW : b_X2_addUp_28 Q (fun x1 x2 x3 h g => lpN (F_X2_addUp_28 Q) n (x1, x2, x3, h, g)) x1 x2 x3 h g := HW
      generalize hKe : (fun (x1 : Int32) (x2 : Int32) (x3 : Int32) (h : HI) (g : HL) => lpN (F_X2_addUp_28 Q) n (x1, x2, x3, h, g)) = K28 at HW
      have hK28 : ∀ (x1 : Int32) (x2 : Int32) (x3 : Int32) (h : HI) (g : HL) (H : Heap) (locs : List Loc) (ls : Array Slot), K28 x1 x2 x3 h g → gG D cy ad (gA ad s.heap.size) s.heap h g H locs → lv_has ls 6 [(0, .ref (ad 85)), (1, .int x1), (2, .int x2), (3, .int x3)] → W p l e ({ frames := 3, cells := 0, slots := 0, locals := 75 } : Room) s m args below meth c H locs 0 0 (MQ below (va_Qv (fun (u : HI × HL) => Q u.1 u.2) (gB D cy ad s.heap.size) (gA ad s.heap.size)) args s 0 0 (gA ad s.heap.size)) (F0 m 28 ls []) := by subst hKe; exact ih
      clear ih
      clear hKe
      unfold b_X2_addUp_28 at HW
      refine lv_iload_n hx hb dX2_addUp_28 rfl (lv_at hl 3 rfl) ?_
      refine lv_iload_n hx hb dX2_addUp_29 rfl (lv_at hl 2 rfl) ?_
      refine lv_icmp_ge (tgt := 163) hx hb dX2_addUp_30 (by decide) (fun c_30 => ?_) (fun c_30 => ?_)
      · replace HW := HW.1 c_30
        exact W.vret hx hb hr (fun t ht hW => ⟨⟨(h, g), rfl, HW, g_B ht hG⟩, hG.2.2.F ht⟩) hG.2.2.2.2 dX2_addUp_163
      · replace HW := HW.2 c_30
        refine lv_iload_n hx hb dX2_addUp_33 rfl (lv_at hl 3 rfl) ?_
        refine lv_bipush (v := 6) hx hb dX2_addUp_34 (by decide) ?_
        refine lv_icmp_ge (tgt := 163) hx hb dX2_addUp_36 (by decide) (fun c_36 => ?_) (fun c_36 => ?_)
        · replace HW := HW.1 c_36
          exact W.vret hx hb hr (fun t ht hW => ⟨⟨(h, g), rfl, HW, g_B ht hG⟩, hG.2.2.F ht⟩) hG.2.2.2.2 dX2_addUp_163
        · replace HW := HW.2 c_36
          refine lv_aload_n hx hb dX2_addUp_39 rfl (lv_at hl 0 rfl) ?_
          refine g_getr hx hb hw inG2 hown hK hG gl_85 rfl gk_85 (by decide) 1 (by decide) (by rw [gm_85]; decide) (r := 77) gr_85_1 lk25 dX2_addUp_40 ?_
          refine lv_aload_n hx hb dX2_addUp_43 rfl (lv_at hl 0 rfl) ?_
          refine g_getr hx hb hw inG2 hown hK hG gl_85 rfl gk_85 (by decide) 3 (by decide) (by rw [gm_85]; decide) (r := 86) gr_85_3 lk9 dX2_addUp_44 ?_
          refine lv_iload_n hx hb dX2_addUp_47 rfl (lv_at hl 3 rfl) ?_
          refine g_iald hx hb hK hG gl_86 gk_86 gn_86 HW.1 dX2_addUp_48 ?_
          replace HW := HW.2
          refine lv_iload_n hx hb dX2_addUp_49 rfl (lv_at hl 1 rfl) ?_
          obtain ⟨P_50, HC_50, HW⟩ := HW
          refine g_calli (g_runV (As := [.int (h 86 x3.toNatClampNeg), .int x1]) (rest := []) ⟨hx, hb, hml, hown, hts⟩ (m_X4_wornOf l D cy ad h g H.size (h 86 x3.toNatClampNeg) x1 P_50 HC_50) (cwV 2 hts (gd_V (wm3 163 rfl rfl) (wm3 41 rfl rfl) (wm3 42 rfl rfl) (wm1 4 rfl rfl) (wm3 43 rfl rfl)) rfl rfl rfl (by decide +kernel) ⟨Nat.le_of_ble_eq_true rfl, Nat.le_of_ble_eq_true rfl⟩) hK hNw hG gl_77 rfl gk_77 (by decide) rfl rfl hl.1 rfl (lv_room (Nat.le_of_ble_eq_true rfl)) dX2_addUp_50 ⟨Nat.zero_le _, Nat.zero_le _⟩) hG (fun r_50 h_50 g_50 H locs hq hG => ?_)
          replace HW := HW r_50 h_50 g_50 hq
          refine lv_istore (lv' := [(4, .int r_50), (0, .ref (ad 85)), (1, .int x1), (2, .int x2), (3, .int x3)]) hx hb dX2_addUp_53 hl (by decide) rfl (fun ls hl => ?_)
          refine lv_aload_n hx hb dX2_addUp_55 rfl (lv_at hl 1 rfl) ?_
          refine g_getr hx hb hw inG2 hown hK hG gl_85 rfl gk_85 (by decide) 0 (by decide) (by rw [gm_85]; decide) (r := 1) gr_85_0 lk21 dX2_addUp_56 ?_
          refine g_getr hx hb hw inG6 hown hK hG gl_1 rfl gk_1 (by decide) 3 (by decide) (by rw [gm_1]; decide) (r := 8) gr_1_3 lk41 dX2_addUp_59 ?_
          refine lv_aload_n hx hb dX2_addUp_62 rfl (lv_at hl 1 rfl) ?_
          refine g_geti hx hb hw inG2 hown hK hG gl_85 rfl gk_85 (by decide) 6 (by decide) (by rw [gm_85]; decide) gr_85_6 lk33 dX2_addUp_63 ?_
          refine lv_iconst (v := 3) hx hb dX2_addUp_66 (by decide) ?_
          refine lv_iconst (v := 2) hx hb dX2_addUp_67 (by decide) ?_
          refine lv_iload_n hx hb dX2_addUp_68 rfl (lv_at hl 4 rfl) ?_
          refine lv_imul hx hb dX2_addUp_69 ?_
          refine lv_iadd hx hb dX2_addUp_70 ?_
          refine lv_iconst (v := 1) hx hb dX2_addUp_71 (by decide) ?_
          refine lv_iadd hx hb dX2_addUp_72 ?_
          obtain ⟨P_73, HC_73, HW⟩ := HW
          refine g_calli (g_runV (As := [.int (h_50 85 6), .int (((3 : Int32) + ((2 : Int32) * x3)) + (1 : Int32))]) (rest := []) ⟨hx, hb, hml, hown, hts⟩ (m_X8_at l D cy ad h_50 g_50 H.size 8 (gs_8) (h_50 85 6) (((3 : Int32) + ((2 : Int32) * x3)) + (1 : Int32)) P_73 HC_73) (cwV 2 hts (gd_V (wm3 153 rfl rfl) (wm2 221 rfl rfl) (wm2 222 rfl rfl) (wm1 3 rfl rfl) (wm2 223 rfl rfl)) rfl rfl rfl (by decide +kernel) ⟨Nat.le_of_ble_eq_true rfl, Nat.le_of_ble_eq_true rfl⟩) hK hNw hG gl_8 rfl gk_8 (by decide) rfl rfl hl.1 rfl (lv_room (Nat.le_of_ble_eq_true rfl)) dX2_addUp_73 ⟨Nat.zero_le _, Nat.zero_le _⟩) hG (fun r_73 h_73 g_73 H locs hq hG => ?_)
          replace HW := HW r_73 h_73 g_73 hq
          refine lv_iconst (v := 1) hx hb dX2_addUp_76 (by decide) ?_
          refine lv_icmp_ne (tgt := 84) hx hb dX2_addUp_77 (by decide) (fun c_77 => ?_) (fun c_77 => ?_)
          · replace HW := HW.1 c_77
            refine lv_iconst (v := 0) hx hb dX2_addUp_84 (by decide) ?_
            exact B85 K28 hK28 x1 x2 x3 r_50 (0 : Int32) h_73 g_73 _ _ _ HW hG (lv_sub hl [1, 2, 3, 4, 0] rfl)
          · replace HW := HW.2 c_77
            refine lv_iconst (v := 1) hx hb dX2_addUp_80 (by decide) ?_
            refine lv_goto (tgt := 85) hx hb dX2_addUp_81 (by decide) ?_
            exact B85 K28 hK28 x1 x2 x3 r_50 (1 : Int32) h_73 g_73 _ _ _ HW hG (lv_sub hl [1, 2, 3, 4, 0] rfl)
  have E0 : ∀ (H : Heap) (locs : List Loc) (ls : Array Slot), gG D cy ad (gA ad s.heap.size) s.heap h g H locs → lv_has ls 6 [(0, .ref (ad 85)), (1, .int x1)] → W p l e ({ frames := 3, cells := 0, slots := 0, locals := 75 } : Room) s m args below meth c H locs 0 0 (MQ below (va_Qv (fun (u : HI × HL) => Q u.1 u.2) (gB D cy ad s.heap.size) (gA ad s.heap.size)) args s 0 0 (gA ad s.heap.size)) (F0 m 0 ls []) := by
    intro H locs ls hG hl
    unfold w_X2_addUp at HW
    refine lv_aload_n hx hb dX2_addUp_0 rfl (lv_at hl 0 rfl) ?_
    refine lv_iconst (v := 0) hx hb dX2_addUp_1 (by decide) ?_
    refine g_put hx hb hw inG2 tyX2 tyX2_ok nmX2 hown hK hG gl_85 rfl gk_85 (by decide) 8 (by decide) (by rw [gm_85]; decide) gr_85_8 rfl (ty := .int) (by decide +kernel) rfl rfl lk66 dX2_addUp_2 (fun H locs hG => ?_)
    obtain ⟨h_2, eh_2⟩ : ∃ y : HI, y = hu h 85 8 (0 : Int32) := ⟨_, rfl⟩
    rw [← eh_2] at hG
    replace HW := HW h_2 eh_2
    refine lv_aload_n hx hb dX2_addUp_5 rfl (lv_at hl 0 rfl) ?_
    refine lv_iconst (v := 0) hx hb dX2_addUp_6 (by decide) ?_
    refine g_put hx hb hw inG2 tyX2 tyX2_ok nmX2 hown hK hG gl_85 rfl gk_85 (by decide) 9 (by decide) (by rw [gm_85]; decide) gr_85_9 rfl (ty := .int) (by decide +kernel) rfl rfl lk67 dX2_addUp_7 (fun H locs hG => ?_)
    obtain ⟨h_7, eh_7⟩ : ∃ y : HI, y = hu h_2 85 9 (0 : Int32) := ⟨_, rfl⟩
    rw [← eh_7] at hG
    replace HW := HW h_7 eh_7
    refine lv_aload_n hx hb dX2_addUp_10 rfl (lv_at hl 0 rfl) ?_
    refine g_getr hx hb hw inG2 hown hK hG gl_85 rfl gk_85 (by decide) 0 (by decide) (by rw [gm_85]; decide) (r := 1) gr_85_0 lk21 dX2_addUp_11 ?_
    refine g_getr hx hb hw inG6 hown hK hG gl_1 rfl gk_1 (by decide) 3 (by decide) (by rw [gm_1]; decide) (r := 8) gr_1_3 lk41 dX2_addUp_14 ?_
    refine lv_aload_n hx hb dX2_addUp_17 rfl (lv_at hl 0 rfl) ?_
    refine g_geti hx hb hw inG2 hown hK hG gl_85 rfl gk_85 (by decide) 6 (by decide) (by rw [gm_85]; decide) gr_85_6 lk33 dX2_addUp_18 ?_
    refine lv_iconst (v := 2) hx hb dX2_addUp_21 (by decide) ?_
    obtain ⟨P_22, HC_22, HW⟩ := HW
    refine g_calli (g_runV (As := [.int (h_7 85 6), .int (2 : Int32)]) (rest := []) ⟨hx, hb, hml, hown, hts⟩ (m_X8_at l D cy ad h_7 g H.size 8 (gs_8) (h_7 85 6) (2 : Int32) P_22 HC_22) (cwV 2 hts (gd_V (wm3 153 rfl rfl) (wm2 221 rfl rfl) (wm2 222 rfl rfl) (wm1 3 rfl rfl) (wm2 223 rfl rfl)) rfl rfl rfl (by decide +kernel) ⟨Nat.le_of_ble_eq_true rfl, Nat.le_of_ble_eq_true rfl⟩) hK hNw hG gl_8 rfl gk_8 (by decide) rfl rfl hl.1 rfl (lv_room (Nat.le_of_ble_eq_true rfl)) dX2_addUp_22 ⟨Nat.zero_le _, Nat.zero_le _⟩) hG (fun r_22 h_22 g_22 H locs hq hG => ?_)
    replace HW := HW r_22 h_22 g_22 hq
    refine lv_istore_n (lv' := [(2, .int r_22), (0, .ref (ad 85)), (1, .int x1)]) hx hb dX2_addUp_25 rfl hl (by decide) rfl (fun ls hl => ?_)
    refine lv_iconst (v := 0) hx hb dX2_addUp_26 (by decide) ?_
    refine lv_istore_n (lv' := [(3, .int (0 : Int32)), (2, .int r_22), (0, .ref (ad 85)), (1, .int x1)]) hx hb dX2_addUp_27 rfl hl (by decide) rfl (fun ls hl => ?_)
    obtain ⟨n_28, HW⟩ := HW
    exact L28 n_28 x1 r_22 (0 : Int32) h_22 g_22 _ _ _ HW hG (lv_sub hl [2, 3, 1, 0] rfl)
  exact E0 _ _ _ hG hl

def w_X2_holdIn (x1 : Int32) (h : HI) (g : HL) (Q : Int32 → HI → HL → Prop) : Prop :=
  ((¬ (h 85 7) = 0 → (∃ P_11 : HI → HL → Prop, w_X2_addUp x1 h g P_11 ∧ ∀ (h_11 : HI) (g_11 : HL), P_11 h_11 g_11 → (∃ P_26 : Int32 → HI → HL → Prop, w_X8_at 8 (h_11 85 6) (0 : Int32) h_11 g_11 P_26 ∧ ∀ (r_26 : Int32) (h_26 : HI) (g_26 : HL), P_26 r_26 h_26 g_26 → (((h_26 85 8) < r_26 → Q (0 : Int32) h_26 g_26) ∧ (¬ (h_26 85 8) < r_26 → (∃ P_52 : Int32 → HI → HL → Prop, w_X8_at 8 (h_26 85 6) (1 : Int32) h_26 g_26 P_52 ∧ ∀ (r_52 : Int32) (h_52 : HI) (g_52 : HL), P_52 r_52 h_52 g_52 → ((r_52 < (h_26 85 9) → Q (0 : Int32) h_52 g_52) ∧ (¬ r_52 < (h_26 85 9) → Q (1 : Int32) h_52 g_52)))))))) ∧ ((h 85 7) = 0 → Q (0 : Int32) h g))
set_option maxHeartbeats 8000000 in
set_option maxRecDepth 100000 in
theorem m_X2_holdIn (l : Launch) (D : va_G) (cy : Nat → ClassId) (ad : Nat → Nat) (h : HI) (g : HL) (sz : Nat) (x1 : Int32) (Q : Int32 → HI → HL → Prop) (HW : w_X2_holdIn x1 h g Q) : Met l yX2_holdIn (wa yX2_holdIn cX2_holdIn 2 (some .boolean)) ({ frames := 4, cells := 0, slots := 0, locals := 100 }) (va_Pc [.ref (ad 85), .int x1] (gI D cy ad h g sz)) (va_Qi (fun (r : Int32) (u : HI × HL) => zb r ∧ Q r u.1 u.2) (gB D cy ad sz) (gA ad sz)) 0 0 (gA ad sz) := by
  refine Met.ofW (cc := cX2_holdIn) (maxL := 2) (ret := (some .boolean)) (by decide) rfl ?_
  intro p e s m args below meth c s₁ B hml hv
  obtain ⟨hav, hsz, hP, hK, hD0, hNw⟩ := hv
  have hx := B.exec
  have hb := B.bytes
  have hr := B.returns
  have hts := atoms_spec (ws := (wa yX2_holdIn cX2_holdIn 2 (some .boolean))) B.pre
  have hw := wa_hw hts
  have hown : s.vm.findClass RX2 = some m.cls := findClass_of_methodNamed B.named
  have hlocks := B.notSynchronized
  subst hsz
  have hG : gG D cy ad (gA ad s.heap.size) s.heap h g s.heap [] := ⟨hP, gA_self hD0, va_S.rf⟩
  clear hP hD0
  have lk37 := hw (.fieldLink RX2 37 "OldWorks$Fits" "sized" "Z") (wm1 221 rfl rfl)
  have lk21 := hw (.fieldLink RX2 21 "OldWorks$Fits" "shop" "LOldWorks$Shop;") (wm1 214 rfl rfl)
  have lk41 := hw (.fieldLink RX2 41 "OldWorks$Shop" "chains" "LOldWorks$Table;") (wm1 72 rfl rfl)
  have lk33 := hw (.fieldLink RX2 33 "OldWorks$Fits" "chain" "I") (wm1 220 rfl rfl)
  have lk66 := hw (.fieldLink RX2 66 "OldWorks$Fits" "least" "I") (wm1 223 rfl rfl)
  have lk67 := hw (.fieldLink RX2 67 "OldWorks$Fits" "greatest" "I") (wm1 225 rfl rfl)
  rw [show (headSpec (wa yX2_holdIn cX2_holdIn 2 (some .boolean)) ({ frames := 4, cells := 0, slots := 0, locals := 100 } : Room)).room = ({ frames := 4, cells := 0, slots := 0, locals := 100 } : Room) from rfl]
  have hl := lv_entry ([.ref (ad 85), .int x1]) (n := 2) (Nat.le_of_ble_eq_true rfl)
  rw [show entryFrame m args 2 = entryFrame m ([.ref (ad 85), .int x1] : List Value).toArray 2 from by rw [hav], lg_entry_eq]
  generalize (lg_sl ([.ref (ad 85), .int x1]) ++ List.replicate (2 - (lg_sl ([.ref (ad 85), .int x1])).length) Slot.unset).toArray = ls at hl ⊢
  have hl : lv_has ls 2 [(0, .ref (ad 85)), (1, .int x1)] := hl
  have E0 : ∀ (H : Heap) (locs : List Loc) (ls : Array Slot), gG D cy ad (gA ad s.heap.size) s.heap h g H locs → lv_has ls 2 [(0, .ref (ad 85)), (1, .int x1)] → W p l e ({ frames := 4, cells := 0, slots := 0, locals := 100 } : Room) s m args below meth c H locs 0 0 (MQ below (va_Qi (fun (r : Int32) (u : HI × HL) => zb r ∧ Q r u.1 u.2) (gB D cy ad s.heap.size) (gA ad s.heap.size)) args s 0 0 (gA ad s.heap.size)) (F0 m 0 ls []) := by
    intro H locs ls hG hl
    unfold w_X2_holdIn at HW
    refine lv_aload_n hx hb dX2_holdIn_0 rfl (lv_at hl 0 rfl) ?_
    refine g_geti hx hb hw inG2 hown hK hG gl_85 rfl gk_85 (by decide) 7 (by decide) (by rw [gm_85]; decide) gr_85_7 lk37 dX2_holdIn_1 ?_
    refine lv_if_ne (tgt := 9) hx hb dX2_holdIn_4 (by decide) (fun c_4 => ?_) (fun c_4 => ?_)
    · replace HW := HW.1 c_4
      refine lv_aload_n hx hb dX2_holdIn_9 rfl (lv_at hl 0 rfl) ?_
      refine lv_iload_n hx hb dX2_holdIn_10 rfl (lv_at hl 1 rfl) ?_
      obtain ⟨P_11, HC_11, HW⟩ := HW
      refine g_callv (g_runV (As := [.int x1]) (rest := []) ⟨hx, hb, hml, hown, hts⟩ (m_X2_addUp l D cy ad h g H.size x1 P_11 HC_11) (cwV 1 hts (gd_V (wm3 159 rfl rfl) (wm3 160 rfl rfl) (wm3 161 rfl rfl) (wm1 6 rfl rfl) (wm3 162 rfl rfl)) rfl rfl rfl (by decide +kernel) ⟨Nat.le_of_ble_eq_true rfl, Nat.le_of_ble_eq_true rfl⟩) hK hNw hG gl_85 rfl gk_85 (by decide) rfl rfl hl.1 rfl (lv_room (Nat.le_of_ble_eq_true rfl)) dX2_holdIn_11 ⟨Nat.zero_le _, Nat.zero_le _⟩) hG (fun h_11 g_11 H locs hq hG => ?_)
      replace HW := HW h_11 g_11 hq
      refine lv_aload_n hx hb dX2_holdIn_14 rfl (lv_at hl 0 rfl) ?_
      refine g_getr hx hb hw inG2 hown hK hG gl_85 rfl gk_85 (by decide) 0 (by decide) (by rw [gm_85]; decide) (r := 1) gr_85_0 lk21 dX2_holdIn_15 ?_
      refine g_getr hx hb hw inG6 hown hK hG gl_1 rfl gk_1 (by decide) 3 (by decide) (by rw [gm_1]; decide) (r := 8) gr_1_3 lk41 dX2_holdIn_18 ?_
      refine lv_aload_n hx hb dX2_holdIn_21 rfl (lv_at hl 0 rfl) ?_
      refine g_geti hx hb hw inG2 hown hK hG gl_85 rfl gk_85 (by decide) 6 (by decide) (by rw [gm_85]; decide) gr_85_6 lk33 dX2_holdIn_22 ?_
      refine lv_iconst (v := 0) hx hb dX2_holdIn_25 (by decide) ?_
      obtain ⟨P_26, HC_26, HW⟩ := HW
      refine g_calli (g_runV (As := [.int (h_11 85 6), .int (0 : Int32)]) (rest := []) ⟨hx, hb, hml, hown, hts⟩ (m_X8_at l D cy ad h_11 g_11 H.size 8 (gs_8) (h_11 85 6) (0 : Int32) P_26 HC_26) (cwV 2 hts (gd_V (wm3 153 rfl rfl) (wm2 221 rfl rfl) (wm2 222 rfl rfl) (wm1 3 rfl rfl) (wm2 223 rfl rfl)) rfl rfl rfl (by decide +kernel) ⟨Nat.le_of_ble_eq_true rfl, Nat.le_of_ble_eq_true rfl⟩) hK hNw hG gl_8 rfl gk_8 (by decide) rfl rfl hl.1 rfl (lv_room (Nat.le_of_ble_eq_true rfl)) dX2_holdIn_26 ⟨Nat.zero_le _, Nat.zero_le _⟩) hG (fun r_26 h_26 g_26 H locs hq hG => ?_)
      replace HW := HW r_26 h_26 g_26 hq
      refine lv_aload_n hx hb dX2_holdIn_29 rfl (lv_at hl 0 rfl) ?_
      refine g_geti hx hb hw inG2 hown hK hG gl_85 rfl gk_85 (by decide) 8 (by decide) (by rw [gm_85]; decide) gr_85_8 lk66 dX2_holdIn_30 ?_
      refine lv_icmp_gt (tgt := 62) hx hb dX2_holdIn_33 (by decide) (fun c_33 => ?_) (fun c_33 => ?_)
      · replace HW := HW.1 c_33
        refine lv_iconst (v := 0) hx hb dX2_holdIn_62 (by decide) ?_
        exact W.zret (v := (0 : Int32)) hx hb hr rfl (fun t ht hW => ⟨⟨(0 : Int32), (h_26, g_26), rfl, ⟨Or.inl rfl, HW⟩, g_B ht hG⟩, hG.2.2.F ht⟩) hG.2.2.2.2 dX2_holdIn_63
      · replace HW := HW.2 c_33
        refine lv_aload_n hx hb dX2_holdIn_36 rfl (lv_at hl 0 rfl) ?_
        refine g_geti hx hb hw inG2 hown hK hG gl_85 rfl gk_85 (by decide) 9 (by decide) (by rw [gm_85]; decide) gr_85_9 lk67 dX2_holdIn_37 ?_
        refine lv_aload_n hx hb dX2_holdIn_40 rfl (lv_at hl 0 rfl) ?_
        refine g_getr hx hb hw inG2 hown hK hG gl_85 rfl gk_85 (by decide) 0 (by decide) (by rw [gm_85]; decide) (r := 1) gr_85_0 lk21 dX2_holdIn_41 ?_
        refine g_getr hx hb hw inG6 hown hK hG gl_1 rfl gk_1 (by decide) 3 (by decide) (by rw [gm_1]; decide) (r := 8) gr_1_3 lk41 dX2_holdIn_44 ?_
        refine lv_aload_n hx hb dX2_holdIn_47 rfl (lv_at hl 0 rfl) ?_
        refine g_geti hx hb hw inG2 hown hK hG gl_85 rfl gk_85 (by decide) 6 (by decide) (by rw [gm_85]; decide) gr_85_6 lk33 dX2_holdIn_48 ?_
        refine lv_iconst (v := 1) hx hb dX2_holdIn_51 (by decide) ?_
        obtain ⟨P_52, HC_52, HW⟩ := HW
        refine g_calli (g_runV (As := [.int (h_26 85 6), .int (1 : Int32)]) (rest := [.int (h_26 85 9)]) ⟨hx, hb, hml, hown, hts⟩ (m_X8_at l D cy ad h_26 g_26 H.size 8 (gs_8) (h_26 85 6) (1 : Int32) P_52 HC_52) (cwV 2 hts (gd_V (wm3 153 rfl rfl) (wm2 221 rfl rfl) (wm2 222 rfl rfl) (wm1 3 rfl rfl) (wm2 223 rfl rfl)) rfl rfl rfl (by decide +kernel) ⟨Nat.le_of_ble_eq_true rfl, Nat.le_of_ble_eq_true rfl⟩) hK hNw hG gl_8 rfl gk_8 (by decide) rfl rfl hl.1 rfl (lv_room (Nat.le_of_ble_eq_true rfl)) dX2_holdIn_52 ⟨Nat.zero_le _, Nat.zero_le _⟩) hG (fun r_52 h_52 g_52 H locs hq hG => ?_)
        replace HW := HW r_52 h_52 g_52 hq
        refine lv_icmp_gt (tgt := 62) hx hb dX2_holdIn_55 (by decide) (fun c_55 => ?_) (fun c_55 => ?_)
        · replace HW := HW.1 c_55
          refine lv_iconst (v := 0) hx hb dX2_holdIn_62 (by decide) ?_
          exact W.zret (v := (0 : Int32)) hx hb hr rfl (fun t ht hW => ⟨⟨(0 : Int32), (h_52, g_52), rfl, ⟨Or.inl rfl, HW⟩, g_B ht hG⟩, hG.2.2.F ht⟩) hG.2.2.2.2 dX2_holdIn_63
        · replace HW := HW.2 c_55
          refine lv_iconst (v := 1) hx hb dX2_holdIn_58 (by decide) ?_
          refine lv_goto (tgt := 63) hx hb dX2_holdIn_59 (by decide) ?_
          exact W.zret (v := (1 : Int32)) hx hb hr rfl (fun t ht hW => ⟨⟨(1 : Int32), (h_52, g_52), rfl, ⟨Or.inr rfl, HW⟩, g_B ht hG⟩, hG.2.2.F ht⟩) hG.2.2.2.2 dX2_holdIn_63
    · replace HW := HW.2 c_4
      refine lv_iconst (v := 0) hx hb dX2_holdIn_7 (by decide) ?_
      exact W.zret (v := (0 : Int32)) hx hb hr rfl (fun t ht hW => ⟨⟨(0 : Int32), (h, g), rfl, ⟨Or.inl rfl, HW⟩, g_B ht hG⟩, hG.2.2.F ht⟩) hG.2.2.2.2 dX2_holdIn_8
  exact E0 _ _ _ hG hl

def b_J7_fill_53178_5 (o0 : Nat) (Q : HI → HL → Prop) (K5 : Int32 → Int32 → Int32 → HI → HL → Prop) (x1 : Int32) (x2 : Int32) (x3 : Int32) (h : HI) (g : HL) : Prop :=
  ((x3 ≤ x2 → Q h g) ∧ (¬ x3 ≤ x2 → (vp_in x2 (gN o0) ∧ ∀ h_13 : HI, h_13 = hu h o0 x2.toNatClampNeg x1 → (∀ x2_14 : Int32, x2_14 = (x2 + 1) → K5 x1 x2_14 x3 h_13 g))))
def F_J7_fill_53178_5 (o0 : Nat) (Q : HI → HL → Prop) (K : Int32 × Int32 × Int32 × HI × HL → Prop) (q : Int32 × Int32 × Int32 × HI × HL) : Prop := b_J7_fill_53178_5 o0 Q (fun x1 x2 x3 h g => K (x1, x2, x3, h, g)) q.1 q.2.1 q.2.2.1 q.2.2.2.1 q.2.2.2.2
def w_J7_fill_53178 (o0 : Nat) (x1 : Int32) (h : HI) (g : HL) (Q : HI → HL → Prop) : Prop :=
  (∀ x3_4 : Int32, x3_4 = (Int32.ofNat (gN o0)) → lpE (F_J7_fill_53178_5 o0 Q) (x1, (0 : Int32), x3_4, h, g))
set_option maxHeartbeats 8000000 in
set_option maxRecDepth 100000 in
theorem m_J7_fill_53178 (l : Launch) (D : va_G) (cy : Nat → ClassId) (ad : Nat → Nat) (h : HI) (g : HL) (sz : Nat) (o0 : Nat) (hk0 : gK o0 = 12) (hl0 : o0 < gO) (x1 : Int32) (Q : HI → HL → Prop) (HW : w_J7_fill_53178 o0 x1 h g Q) : Met l yJ7_fill_53178 (wa yJ7_fill_53178 cJ7_fill_53178 4 none) ({ frames := 0, cells := 0, slots := 0, locals := 0 }) (va_Pc [.ref (ad o0), .int x1] (gI D cy ad h g sz)) (va_Qv (fun (u : HI × HL) => Q u.1 u.2) (gB D cy ad sz) (gA ad sz)) 0 0 (gA ad sz) := by
  refine Met.ofW (cc := cJ7_fill_53178) (maxL := 4) (ret := none) (by decide) rfl ?_
  intro p e s m args below meth c s₁ B hml hv
  obtain ⟨hav, hsz, hP, hK, hD0, hNw⟩ := hv
  have hx := B.exec
  have hb := B.bytes
  have hr := B.returns
  have hts := atoms_spec (ws := (wa yJ7_fill_53178 cJ7_fill_53178 4 none)) B.pre
  have hw := wa_hw hts
  have hown : s.vm.findClass RJ7 = some m.cls := findClass_of_methodNamed B.named
  have hlocks := B.notSynchronized
  subst hsz
  have hG : gG D cy ad (gA ad s.heap.size) s.heap h g s.heap [] := ⟨hP, gA_self hD0, va_S.rf⟩
  clear hP hD0
  rw [show (headSpec (wa yJ7_fill_53178 cJ7_fill_53178 4 none) ({ frames := 0, cells := 0, slots := 0, locals := 0 } : Room)).room = ({ frames := 0, cells := 0, slots := 0, locals := 0 } : Room) from rfl]
  have hl := lv_entry ([.ref (ad o0), .int x1]) (n := 4) (Nat.le_of_ble_eq_true rfl)
  rw [show entryFrame m args 4 = entryFrame m ([.ref (ad o0), .int x1] : List Value).toArray 4 from by rw [hav], lg_entry_eq]
  generalize (lg_sl ([.ref (ad o0), .int x1]) ++ List.replicate (4 - (lg_sl ([.ref (ad o0), .int x1])).length) Slot.unset).toArray = ls at hl ⊢
  have hl : lv_has ls 4 [(0, .ref (ad o0)), (1, .int x1)] := hl
  have L5 : ∀ (n : Nat) (x1 : Int32) (x2 : Int32) (x3 : Int32) (h : HI) (g : HL) (H : Heap) (locs : List Loc) (ls : Array Slot), lpN (F_J7_fill_53178_5 o0 Q) n (x1, x2, x3, h, g) → gG D cy ad (gA ad s.heap.size) s.heap h g H locs → lv_has ls 4 [(0, .ref (ad o0)), (1, .int x1), (2, .int x2), (3, .int x3)] → W p l e ({ frames := 0, cells := 0, slots := 0, locals := 0 } : Room) s m args below meth c H locs 0 0 (MQ below (va_Qv (fun (u : HI × HL) => Q u.1 u.2) (gB D cy ad s.heap.size) (gA ad s.heap.size)) args s 0 0 (gA ad s.heap.size)) (F0 m 5 ls []) := by
    intro n
    induction n with
    | zero => intro x1 x2 x3 h g H locs ls HW; exact HW.elim
    | succ n ih =>
      intro x1 x2 x3 h g H locs ls HW hG hl
      have HW : b_J7_fill_53178_5 o0 Q (fun x1 x2 x3 h g => lpN (F_J7_fill_53178_5 o0 Q) n (x1, x2, x3, h, g)) x1 x2 x3 h g := HW
      generalize hKe : (fun (x1 : Int32) (x2 : Int32) (x3 : Int32) (h : HI) (g : HL) => lpN (F_J7_fill_53178_5 o0 Q) n (x1, x2, x3, h, g)) = K5 at HW
      have hK5 : ∀ (x1 : Int32) (x2 : Int32) (x3 : Int32) (h : HI) (g : HL) (H : Heap) (locs : List Loc) (ls : Array Slot), K5 x1 x2 x3 h g → gG D cy ad (gA ad s.heap.size) s.heap h g H locs → lv_has ls 4 [(0, .ref (ad o0)), (1, .int x1), (2, .int x2), (3, .int x3)] → W p l e ({ frames := 0, cells := 0, slots := 0, locals := 0 } : Room) s m args below meth c H locs 0 0 (MQ below (va_Qv (fun (u : HI × HL) => Q u.1 u.2) (gB D cy ad s.heap.size) (gA ad s.heap.size)) args s 0 0 (gA ad s.heap.size)) (F0 m 5 ls []) := by subst hKe; exact ih
      clear ih
      clear hKe
      unfold b_J7_fill_53178_5 at HW
      refine lv_iload_n hx hb dJ7_fill_53178_5 rfl (lv_at hl 2 rfl) ?_
      refine lv_iload_n hx hb dJ7_fill_53178_6 rfl (lv_at hl 3 rfl) ?_
      refine lv_icmp_ge (tgt := 20) hx hb dJ7_fill_53178_7 (by decide) (fun c_7 => ?_) (fun c_7 => ?_)
      · replace HW := HW.1 c_7
        exact W.vret hx hb hr (fun t ht hW => ⟨⟨(h, g), rfl, HW, g_B ht hG⟩, hG.2.2.F ht⟩) hG.2.2.2.2 dJ7_fill_53178_20
      · replace HW := HW.2 c_7
        refine lv_aload_n hx hb dJ7_fill_53178_10 rfl (lv_at hl 0 rfl) ?_
        refine lv_iload_n hx hb dJ7_fill_53178_11 rfl (lv_at hl 2 rfl) ?_
        refine lv_iload_n hx hb dJ7_fill_53178_12 rfl (lv_at hl 1 rfl) ?_
        refine g_iast hx hb hK hG hl0 hk0 rfl HW.1 dJ7_fill_53178_13 (fun H locs hG => ?_)
        replace HW := HW.2
        obtain ⟨h_13, eh_13⟩ : ∃ y : HI, y = hu h o0 x2.toNatClampNeg x1 := ⟨_, rfl⟩
        rw [← eh_13] at hG
        replace HW := HW h_13 eh_13
        obtain ⟨x2_14, ex2_14⟩ : ∃ y : Int32, y = (x2 + 1) := ⟨_, rfl⟩
        replace HW := HW x2_14 ex2_14
        refine lv_iinc (v := x2_14) (lv' := [(2, .int x2_14), (0, .ref (ad o0)), (1, .int x1), (3, .int x3)]) hx hb dJ7_fill_53178_14 hl (k := 2) rfl (by rw [ex2_14]; rfl) (by decide) rfl (fun ls hl => ?_)
        refine lv_goto (tgt := 5) hx hb dJ7_fill_53178_17 (by decide) ?_
        exact hK5 x1 x2_14 x3 h_13 g _ _ _ HW hG (lv_sub hl [1, 2, 0, 3] rfl)
  have E0 : ∀ (H : Heap) (locs : List Loc) (ls : Array Slot), gG D cy ad (gA ad s.heap.size) s.heap h g H locs → lv_has ls 4 [(0, .ref (ad o0)), (1, .int x1)] → W p l e ({ frames := 0, cells := 0, slots := 0, locals := 0 } : Room) s m args below meth c H locs 0 0 (MQ below (va_Qv (fun (u : HI × HL) => Q u.1 u.2) (gB D cy ad s.heap.size) (gA ad s.heap.size)) args s 0 0 (gA ad s.heap.size)) (F0 m 0 ls []) := by
    intro H locs ls hG hl
    unfold w_J7_fill_53178 at HW
    refine lv_iconst (v := 0) hx hb dJ7_fill_53178_0 (by decide) ?_
    refine lv_istore_n (lv' := [(2, .int (0 : Int32)), (0, .ref (ad o0)), (1, .int x1)]) hx hb dJ7_fill_53178_1 rfl hl (by decide) rfl (fun ls hl => ?_)
    refine lv_aload_n hx hb dJ7_fill_53178_2 rfl (lv_at hl 1 rfl) ?_
    refine g_alen hx hb hK hG hl0 hk0 (v := (Int32.ofNat (gN o0))) rfl dJ7_fill_53178_3 ?_
    refine lv_topi (fun x3_4 ex3_4 => ?_)
    replace HW := HW x3_4 ex3_4
    refine lv_istore_n (lv' := [(3, .int x3_4), (2, .int (0 : Int32)), (0, .ref (ad o0)), (1, .int x1)]) hx hb dJ7_fill_53178_4 rfl hl (by decide) rfl (fun ls hl => ?_)
    obtain ⟨n_5, HW⟩ := HW
    exact L5 n_5 x1 (0 : Int32) x3_4 h g _ _ _ HW hG (lv_sub hl [2, 3, 1, 0] rfl)
  exact E0 _ _ _ hG hl

def b_X3_gatherSpares_152 (Q : HI → HL → Prop) (K44 : Int32 → HI → HL → Prop) (K152 : Int32 → Int32 → Int32 → Int32 → HI → HL → Prop) (x1 : Int32) (x2 : Int32) (x5 : Int32) (x6 : Int32) (h : HI) (g : HL) : Prop :=
  ((x2 ≤ x6 → (∀ x1_183 : Int32, x1_183 = (x1 + 1) → K44 x1_183 h g)) ∧ (¬ x2 ≤ x6 → (vp_in x6 512 ∧ (vp_in (x6 ||| x2) 512 ∧ ∀ h_176 : HI, h_176 = hu h 106 (x6 ||| x2).toNatClampNeg ((h 106 x6.toNatClampNeg) + x5) → (∀ x6_177 : Int32, x6_177 = (x6 + 1) → K152 x1 x2 x5 x6_177 h_176 g)))))
def F_X3_gatherSpares_152 (Q : HI → HL → Prop) (K44 : Int32 → HI → HL → Prop) (K : Int32 × Int32 × Int32 × Int32 × HI × HL → Prop) (q : Int32 × Int32 × Int32 × Int32 × HI × HL) : Prop := b_X3_gatherSpares_152 Q K44 (fun x1 x2 x5 x6 h g => K (x1, x2, x5, x6, h, g)) q.1 q.2.1 q.2.2.1 q.2.2.2.1 q.2.2.2.2.1 q.2.2.2.2.2
def j_X3_gatherSpares_135 (Q : HI → HL → Prop) (K44 : Int32 → HI → HL → Prop) (x1 : Int32) (x2 : Int32) (h : HI) (g : HL) : Prop :=
  (∃ P_144 : Int32 → HI → HL → Prop, w_X8_at 14 x1 (1 : Int32) h g P_144 ∧ ∀ (r_144 : Int32) (h_144 : HI) (g_144 : HL), P_144 r_144 h_144 g_144 → lpE (F_X3_gatherSpares_152 Q K44) (x1, x2, r_144, (0 : Int32), h_144, g_144))
def j_X3_gatherSpares_108 (Q : HI → HL → Prop) (K44 : Int32 → HI → HL → Prop) (x1 : Int32) (x2 : Int32) (x4 : Int32) (h : HI) (g : HL) : Prop :=
  (∃ P_118 : Int32 → HI → HL → Prop, w_X10_within x4 (0 : Int32) ((4 : Int32) - (1 : Int32)) h g P_118 ∧ ∀ (r_118 : Int32) (h_118 : HI) (g_118 : HL), zb r_118 → P_118 r_118 h_118 g_118 → ((r_118 = 0 → j_X3_gatherSpares_135 Q K44 x1 x2 h_118 g_118) ∧ (¬ r_118 = 0 → (vp_in x4 4 ∧ (vp_in x4 4 ∧ ∀ h_134 : HI, h_134 = hu h_118 108 x4.toNatClampNeg ((h_118 108 x4.toNatClampNeg) ||| x2) → j_X3_gatherSpares_135 Q K44 x1 x2 h_134 g_118)))))
def b_X3_gatherSpares_44 (Q : HI → HL → Prop) (K44 : Int32 → HI → HL → Prop) (x1 : Int32) (h : HI) (g : HL) : Prop :=
  (((h 97 5) ≤ x1 → Q h g) ∧ (¬ (h 97 5) ≤ x1 → (∀ x2_55 : Int32, x2_55 = ((1 : Int32) <<< (x1 &&& 31)) → (∃ P_65 : Int32 → HI → HL → Prop, w_X8_at 14 x1 (0 : Int32) h g P_65 ∧ ∀ (r_65 : Int32) (h_65 : HI) (g_65 : HL), P_65 r_65 h_65 g_65 → (∃ P_78 : Int32 → HI → HL → Prop, w_X8_at 14 x1 (2 : Int32) h_65 g_65 P_78 ∧ ∀ (r_78 : Int32) (h_78 : HI) (g_78 : HL), P_78 r_78 h_78 g_78 → (∃ P_92 : Int32 → HI → HL → Prop, w_X10_within r_65 (0 : Int32) ((4 : Int32) - (1 : Int32)) h_78 g_78 P_92 ∧ ∀ (r_92 : Int32) (h_92 : HI) (g_92 : HL), zb r_92 → P_92 r_92 h_92 g_92 → ((r_92 = 0 → j_X3_gatherSpares_108 Q K44 x1 x2_55 r_78 h_92 g_92) ∧ (¬ r_92 = 0 → (vp_in r_65 4 ∧ (vp_in r_65 4 ∧ ∀ h_107 : HI, h_107 = hu h_92 107 r_65.toNatClampNeg ((h_92 107 r_65.toNatClampNeg) ||| x2_55) → j_X3_gatherSpares_108 Q K44 x1 x2_55 r_78 h_107 g_92))))))))))
def F_X3_gatherSpares_44 (Q : HI → HL → Prop) (K : Int32 × HI × HL → Prop) (q : Int32 × HI × HL) : Prop := b_X3_gatherSpares_44 Q (fun x1 h g => K (x1, h, g)) q.1 q.2.1 q.2.2
def w_X3_gatherSpares  (h : HI) (g : HL) (Q : HI → HL → Prop) : Prop :=
  (∃ P_10 : Int32 → HI → HL → Prop, w_X8_rows 14 h g P_10 ∧ ∀ (r_10 : Int32) (h_10 : HI) (g_10 : HL), P_10 r_10 h_10 g_10 → (∀ h_16 : HI, h_16 = hu h_10 97 5 (if r_10 < (9 : Int32) then r_10 else (9 : Int32)) → (∃ P_24 : HI → HL → Prop, w_J7_fill_53178 107 (0 : Int32) h_16 g_10 P_24 ∧ ∀ (h_24 : HI) (g_24 : HL), P_24 h_24 g_24 → (∃ P_32 : HI → HL → Prop, w_J7_fill_53178 108 (0 : Int32) h_24 g_24 P_32 ∧ ∀ (h_32 : HI) (g_32 : HL), P_32 h_32 g_32 → (vp_in (0 : Int32) 512 ∧ ∀ h_41 : HI, h_41 = hu h_32 106 (0 : Int32).toNatClampNeg (0 : Int32) → lpE (F_X3_gatherSpares_44 Q) ((0 : Int32), h_41, g_32))))))
set_option maxHeartbeats 8000000 in
set_option maxRecDepth 100000 in
theorem m_X3_gatherSpares (l : Launch) (D : va_G) (cy : Nat → ClassId) (ad : Nat → Nat) (h : HI) (g : HL) (sz : Nat)  (Q : HI → HL → Prop) (HW : w_X3_gatherSpares h g Q) : Met l yX3_gatherSpares (wa yX3_gatherSpares cX3_gatherSpares 7 none) ({ frames := 1, cells := 0, slots := 0, locals := 32 }) (va_Pc [.ref (ad 97)] (gI D cy ad h g sz)) (va_Qv (fun (u : HI × HL) => Q u.1 u.2) (gB D cy ad sz) (gA ad sz)) 0 0 (gA ad sz) := by
  refine Met.ofW (cc := cX3_gatherSpares) (maxL := 7) (ret := none) (by decide) rfl ?_
  intro p e s m args below meth c s₁ B hml hv
  obtain ⟨hav, hsz, hP, hK, hD0, hNw⟩ := hv
  have hx := B.exec
  have hb := B.bytes
  have hr := B.returns
  have hts := atoms_spec (ws := (wa yX3_gatherSpares cX3_gatherSpares 7 none)) B.pre
  have hw := wa_hw hts
  have hown : s.vm.findClass RX3 = some m.cls := findClass_of_methodNamed B.named
  have hlocks := B.notSynchronized
  subst hsz
  have hG : gG D cy ad (gA ad s.heap.size) s.heap h g s.heap [] := ⟨hP, gA_self hD0, va_S.rf⟩
  clear hP hD0
  have lk26 := hw (.fieldLink RX3 26 "OldWorks$Givings" "shop" "LOldWorks$Shop;") (wm2 50 rfl rfl)
  have lk68 := hw (.fieldLink RX3 68 "OldWorks$Shop" "spares" "LOldWorks$Table;") (wm1 81 rfl rfl)
  have ml45 := hw (.methodLink RX3 45 Lib.Math.min.name) (wm3 237 rfl rfl)
  have ms45 := hw (.static Lib.Math.min.name) (wm3 99 rfl rfl)
  have mi45 := hw (.initialized "java/lang/Math") (wm1 14 rfl rfl)
  have mc45 := hw (.code Lib.Math.min.name Lib.Math.min.code 2 (some .int)) (wm3 100 rfl rfl)
  have lk51 := hw (.fieldLink RX3 51 "OldWorks$Givings" "spares" "I") (wm2 55 rfl rfl)
  have lk20 := hw (.fieldLink RX3 20 "OldWorks$Givings" "kinds" "[I") (wm2 53 rfl rfl)
  have lk23 := hw (.fieldLink RX3 23 "OldWorks$Givings" "pairs" "[I") (wm2 54 rfl rfl)
  have lk16 := hw (.fieldLink RX3 16 "OldWorks$Givings" "years" "[I") (wm2 52 rfl rfl)
  rw [show (headSpec (wa yX3_gatherSpares cX3_gatherSpares 7 none) ({ frames := 1, cells := 0, slots := 0, locals := 32 } : Room)).room = ({ frames := 1, cells := 0, slots := 0, locals := 32 } : Room) from rfl]
  have hl := lv_entry ([.ref (ad 97)]) (n := 7) (Nat.le_of_ble_eq_true rfl)
  rw [show entryFrame m args 7 = entryFrame m ([.ref (ad 97)] : List Value).toArray 7 from by rw [hav], lg_entry_eq]
  generalize (lg_sl ([.ref (ad 97)]) ++ List.replicate (7 - (lg_sl ([.ref (ad 97)])).length) Slot.unset).toArray = ls at hl ⊢
  have hl : lv_has ls 7 [(0, .ref (ad 97))] := hl
  have L152 : ∀ (K44 : Int32 → HI → HL → Prop) (hK44 : ∀ (x1 : Int32) (h : HI) (g : HL) (H : Heap) (locs : List Loc) (ls : Array Slot), K44 x1 h g → gG D cy ad (gA ad s.heap.size) s.heap h g H locs → lv_has ls 7 [(0, .ref (ad 97)), (1, .int x1)] → W p l e ({ frames := 1, cells := 0, slots := 0, locals := 32 } : Room) s m args below meth c H locs 0 0 (MQ below (va_Qv (fun (u : HI × HL) => Q u.1 u.2) (gB D cy ad s.heap.size) (gA ad s.heap.size)) args s 0 0 (gA ad s.heap.size)) (F0 m 44 ls [])) (n : Nat) (x1 : Int32) (x2 : Int32) (x5 : Int32) (x6 : Int32) (h : HI) (g : HL) (H : Heap) (locs : List Loc) (ls : Array Slot), lpN (F_X3_gatherSpares_152 Q K44) n (x1, x2, x5, x6, h, g) → gG D cy ad (gA ad s.heap.size) s.heap h g H locs → lv_has ls 7 [(0, .ref (ad 97)), (1, .int x1), (2, .int x2), (5, .int x5), (6, .int x6)] → W p l e ({ frames := 1, cells := 0, slots := 0, locals := 32 } : Room) s m args below meth c H locs 0 0 (MQ below (va_Qv (fun (u : HI × HL) => Q u.1 u.2) (gB D cy ad s.heap.size) (gA ad s.heap.size)) args s 0 0 (gA ad s.heap.size)) (F0 m 152 ls []) := by
    intro K44 hK44 n
    induction n with
    | zero => intro x1 x2 x5 x6 h g H locs ls HW; exact HW.elim
    | succ n ih =>
      intro x1 x2 x5 x6 h g H locs ls HW hG hl
      have HW : b_X3_gatherSpares_152 Q K44 (fun x1 x2 x5 x6 h g => lpN (F_X3_gatherSpares_152 Q K44) n (x1, x2, x5, x6, h, g)) x1 x2 x5 x6 h g := HW
      generalize hKe : (fun (x1 : Int32) (x2 : Int32) (x5 : Int32) (x6 : Int32) (h : HI) (g : HL) => lpN (F_X3_gatherSpares_152 Q K44) n (x1, x2, x5, x6, h, g)) = K152 at HW
      have hK152 : ∀ (x1 : Int32) (x2 : Int32) (x5 : Int32) (x6 : Int32) (h : HI) (g : HL) (H : Heap) (locs : List Loc) (ls : Array Slot), K152 x1 x2 x5 x6 h g → gG D cy ad (gA ad s.heap.size) s.heap h g H locs → lv_has ls 7 [(0, .ref (ad 97)), (1, .int x1), (2, .int x2), (5, .int x5), (6, .int x6)] → W p l e ({ frames := 1, cells := 0, slots := 0, locals := 32 } : Room) s m args below meth c H locs 0 0 (MQ below (va_Qv (fun (u : HI × HL) => Q u.1 u.2) (gB D cy ad s.heap.size) (gA ad s.heap.size)) args s 0 0 (gA ad s.heap.size)) (F0 m 152 ls []) := by subst hKe; exact ih
      clear ih
      clear hKe
      unfold b_X3_gatherSpares_152 at HW
      refine lv_iload hx hb dX3_gatherSpares_152 (lv_at hl 4 rfl) ?_
      refine lv_iload_n hx hb dX3_gatherSpares_154 rfl (lv_at hl 2 rfl) ?_
      refine lv_icmp_ge (tgt := 183) hx hb dX3_gatherSpares_155 (by decide) (fun c_155 => ?_) (fun c_155 => ?_)
      · replace HW := HW.1 c_155
        obtain ⟨x1_183, ex1_183⟩ : ∃ y : Int32, y = (x1 + 1) := ⟨_, rfl⟩
        replace HW := HW x1_183 ex1_183
        refine lv_iinc (v := x1_183) (lv' := [(1, .int x1_183), (0, .ref (ad 97)), (2, .int x2), (5, .int x5), (6, .int x6)]) hx hb dX3_gatherSpares_183 hl (k := 1) rfl (by rw [ex1_183]; rfl) (by decide) rfl (fun ls hl => ?_)
        refine lv_goto (tgt := 44) hx hb dX3_gatherSpares_186 (by decide) ?_
        exact hK44 x1_183 h g _ _ _ HW hG (lv_sub hl [1, 0] rfl)
      · replace HW := HW.2 c_155
        refine lv_aload_n hx hb dX3_gatherSpares_158 rfl (lv_at hl 0 rfl) ?_
        refine g_getr hx hb hw inG3 hown hK hG gl_97 rfl gk_97 (by decide) 2 (by decide) (by rw [gm_97]; decide) (r := 106) gr_97_2 lk16 dX3_gatherSpares_159 ?_
        refine lv_iload hx hb dX3_gatherSpares_162 (lv_at hl 4 rfl) ?_
        refine lv_iload_n hx hb dX3_gatherSpares_164 rfl (lv_at hl 2 rfl) ?_
        refine lv_ior hx hb dX3_gatherSpares_165 ?_
        refine lv_aload_n hx hb dX3_gatherSpares_166 rfl (lv_at hl 0 rfl) ?_
        refine g_getr hx hb hw inG3 hown hK hG gl_97 rfl gk_97 (by decide) 2 (by decide) (by rw [gm_97]; decide) (r := 106) gr_97_2 lk16 dX3_gatherSpares_167 ?_
        refine lv_iload hx hb dX3_gatherSpares_170 (lv_at hl 4 rfl) ?_
        refine g_iald hx hb hK hG gl_106 gk_106 gn_106 HW.1 dX3_gatherSpares_172 ?_
        replace HW := HW.2
        refine lv_iload hx hb dX3_gatherSpares_173 (lv_at hl 3 rfl) ?_
        refine lv_iadd hx hb dX3_gatherSpares_175 ?_
        refine g_iast hx hb hK hG gl_106 gk_106 gn_106 HW.1 dX3_gatherSpares_176 (fun H locs hG => ?_)
        replace HW := HW.2
        obtain ⟨h_176, eh_176⟩ : ∃ y : HI, y = hu h 106 (x6 ||| x2).toNatClampNeg ((h 106 x6.toNatClampNeg) + x5) := ⟨_, rfl⟩
        rw [← eh_176] at hG
        replace HW := HW h_176 eh_176
        obtain ⟨x6_177, ex6_177⟩ : ∃ y : Int32, y = (x6 + 1) := ⟨_, rfl⟩
        replace HW := HW x6_177 ex6_177
        refine lv_iinc (v := x6_177) (lv' := [(6, .int x6_177), (0, .ref (ad 97)), (1, .int x1), (2, .int x2), (5, .int x5)]) hx hb dX3_gatherSpares_177 hl (k := 4) rfl (by rw [ex6_177]; rfl) (by decide) rfl (fun ls hl => ?_)
        refine lv_goto (tgt := 152) hx hb dX3_gatherSpares_180 (by decide) ?_
        exact hK152 x1 x2 x5 x6_177 h_176 g _ _ _ HW hG (lv_sub hl [1, 2, 3, 4, 0] rfl)
  have B135 : ∀ (K44 : Int32 → HI → HL → Prop) (hK44 : ∀ (x1 : Int32) (h : HI) (g : HL) (H : Heap) (locs : List Loc) (ls : Array Slot), K44 x1 h g → gG D cy ad (gA ad s.heap.size) s.heap h g H locs → lv_has ls 7 [(0, .ref (ad 97)), (1, .int x1)] → W p l e ({ frames := 1, cells := 0, slots := 0, locals := 32 } : Room) s m args below meth c H locs 0 0 (MQ below (va_Qv (fun (u : HI × HL) => Q u.1 u.2) (gB D cy ad s.heap.size) (gA ad s.heap.size)) args s 0 0 (gA ad s.heap.size)) (F0 m 44 ls [])) (x1 : Int32) (x2 : Int32) (h : HI) (g : HL) (H : Heap) (locs : List Loc) (ls : Array Slot), j_X3_gatherSpares_135 Q K44 x1 x2 h g → gG D cy ad (gA ad s.heap.size) s.heap h g H locs → lv_has ls 7 [(0, .ref (ad 97)), (1, .int x1), (2, .int x2)] → W p l e ({ frames := 1, cells := 0, slots := 0, locals := 32 } : Room) s m args below meth c H locs 0 0 (MQ below (va_Qv (fun (u : HI × HL) => Q u.1 u.2) (gB D cy ad s.heap.size) (gA ad s.heap.size)) args s 0 0 (gA ad s.heap.size)) (F0 m 135 ls []) := by
    intro K44 hK44 x1 x2 h g H locs ls HW hG hl
    unfold j_X3_gatherSpares_135 at HW
    refine lv_aload_n hx hb dX3_gatherSpares_135 rfl (lv_at hl 0 rfl) ?_
    refine g_getr hx hb hw inG3 hown hK hG gl_97 rfl gk_97 (by decide) 0 (by decide) (by rw [gm_97]; decide) (r := 1) gr_97_0 lk26 dX3_gatherSpares_136 ?_
    refine g_getr hx hb hw inG6 hown hK hG gl_1 rfl gk_1 (by decide) 6 (by decide) (by rw [gm_1]; decide) (r := 14) gr_1_6 lk68 dX3_gatherSpares_139 ?_
    refine lv_iload_n hx hb dX3_gatherSpares_142 rfl (lv_at hl 1 rfl) ?_
    refine lv_iconst (v := 1) hx hb dX3_gatherSpares_143 (by decide) ?_
    obtain ⟨P_144, HC_144, HW⟩ := HW
    refine g_calli (g_runV (As := [.int x1, .int (1 : Int32)]) (rest := []) ⟨hx, hb, hml, hown, hts⟩ (m_X8_at l D cy ad h g H.size 14 (gs_14) x1 (1 : Int32) P_144 HC_144) (cwV 2 hts (gd_V (wm3 239 rfl rfl) (wm2 221 rfl rfl) (wm2 222 rfl rfl) (wm1 3 rfl rfl) (wm2 223 rfl rfl)) rfl rfl rfl (by decide +kernel) ⟨Nat.le_of_ble_eq_true rfl, Nat.le_of_ble_eq_true rfl⟩) hK hNw hG gl_14 rfl gk_14 (by decide) rfl rfl hl.1 rfl (lv_room (Nat.le_of_ble_eq_true rfl)) dX3_gatherSpares_144 ⟨Nat.zero_le _, Nat.zero_le _⟩) hG (fun r_144 h_144 g_144 H locs hq hG => ?_)
    replace HW := HW r_144 h_144 g_144 hq
    refine lv_istore (lv' := [(5, .int r_144), (0, .ref (ad 97)), (1, .int x1), (2, .int x2)]) hx hb dX3_gatherSpares_147 hl (by decide) rfl (fun ls hl => ?_)
    refine lv_iconst (v := 0) hx hb dX3_gatherSpares_149 (by decide) ?_
    refine lv_istore (lv' := [(6, .int (0 : Int32)), (5, .int r_144), (0, .ref (ad 97)), (1, .int x1), (2, .int x2)]) hx hb dX3_gatherSpares_150 hl (by decide) rfl (fun ls hl => ?_)
    obtain ⟨n_152, HW⟩ := HW
    exact L152 K44 hK44 n_152 x1 x2 r_144 (0 : Int32) h_144 g_144 _ _ _ HW hG (lv_sub hl [2, 3, 4, 1, 0] rfl)
  have B108 : ∀ (K44 : Int32 → HI → HL → Prop) (hK44 : ∀ (x1 : Int32) (h : HI) (g : HL) (H : Heap) (locs : List Loc) (ls : Array Slot), K44 x1 h g → gG D cy ad (gA ad s.heap.size) s.heap h g H locs → lv_has ls 7 [(0, .ref (ad 97)), (1, .int x1)] → W p l e ({ frames := 1, cells := 0, slots := 0, locals := 32 } : Room) s m args below meth c H locs 0 0 (MQ below (va_Qv (fun (u : HI × HL) => Q u.1 u.2) (gB D cy ad s.heap.size) (gA ad s.heap.size)) args s 0 0 (gA ad s.heap.size)) (F0 m 44 ls [])) (x1 : Int32) (x2 : Int32) (x4 : Int32) (h : HI) (g : HL) (H : Heap) (locs : List Loc) (ls : Array Slot), j_X3_gatherSpares_108 Q K44 x1 x2 x4 h g → gG D cy ad (gA ad s.heap.size) s.heap h g H locs → lv_has ls 7 [(0, .ref (ad 97)), (1, .int x1), (2, .int x2), (4, .int x4)] → W p l e ({ frames := 1, cells := 0, slots := 0, locals := 32 } : Room) s m args below meth c H locs 0 0 (MQ below (va_Qv (fun (u : HI × HL) => Q u.1 u.2) (gB D cy ad s.heap.size) (gA ad s.heap.size)) args s 0 0 (gA ad s.heap.size)) (F0 m 108 ls []) := by
    intro K44 hK44 x1 x2 x4 h g H locs ls HW hG hl
    unfold j_X3_gatherSpares_108 at HW
    refine lv_iload hx hb dX3_gatherSpares_108 (lv_at hl 3 rfl) ?_
    refine lv_iconst (v := 0) hx hb dX3_gatherSpares_110 (by decide) ?_
    refine lv_aload_n hx hb dX3_gatherSpares_111 rfl (lv_at hl 0 rfl) ?_
    refine g_getr hx hb hw inG3 hown hK hG gl_97 rfl gk_97 (by decide) 4 (by decide) (by rw [gm_97]; decide) (r := 108) gr_97_4 lk23 dX3_gatherSpares_112 ?_
    refine g_alen hx hb hK hG gl_108 gk_108 (v := (4 : Int32)) (by rw [gn_108]; decide) dX3_gatherSpares_115 ?_
    refine lv_iconst (v := 1) hx hb dX3_gatherSpares_116 (by decide) ?_
    refine lv_isub hx hb dX3_gatherSpares_117 ?_
    obtain ⟨P_118, HC_118, HW⟩ := HW
    refine g_callz (g_runSN (As := [.int x4, .int (0 : Int32), .int ((4 : Int32) - (1 : Int32))]) (rest := []) ⟨hx, hb, hml, hown, hts⟩ (m_X10_within l D cy ad h g H.size x4 (0 : Int32) ((4 : Int32) - (1 : Int32)) P_118 HC_118) ⟨va_cnB 3 hts (gd_w (wm2 195 rfl rfl)) rfl rfl rfl (hNw _ (List.mem_of_getElem? (i := 3) rfl)) (hw (.initialized RX10) (wm1 1 rfl rfl)) (by decide +kernel) ⟨Nat.le_of_ble_eq_true rfl, Nat.le_of_ble_eq_true rfl⟩, hw (.static yX10_within) (wm2 194 rfl rfl), trivial⟩ hK hNw hG rfl rfl hl.1 rfl (lv_room (Nat.le_of_ble_eq_true rfl)) dX3_gatherSpares_118 ⟨Nat.zero_le _, Nat.zero_le _⟩) hG (fun r_118 h_118 g_118 H locs hz hq hG => ?_)
    replace HW := HW r_118 h_118 g_118 hz hq
    refine lv_if_eq (tgt := 135) hx hb dX3_gatherSpares_121 (by decide) (fun c_121 => ?_) (fun c_121 => ?_)
    · replace HW := HW.1 c_121
      exact B135 K44 hK44 x1 x2 h_118 g_118 _ _ _ HW hG (lv_sub hl [0, 1, 2] rfl)
    · replace HW := HW.2 c_121
      refine lv_aload_n hx hb dX3_gatherSpares_124 rfl (lv_at hl 0 rfl) ?_
      refine g_getr hx hb hw inG3 hown hK hG gl_97 rfl gk_97 (by decide) 4 (by decide) (by rw [gm_97]; decide) (r := 108) gr_97_4 lk23 dX3_gatherSpares_125 ?_
      refine lv_iload hx hb dX3_gatherSpares_128 (lv_at hl 3 rfl) ?_
      refine lv_dup2_11 hx hb dX3_gatherSpares_130 rfl rfl ?_
      refine g_iald hx hb hK hG gl_108 gk_108 gn_108 HW.1 dX3_gatherSpares_131 ?_
      replace HW := HW.2
      refine lv_iload_n hx hb dX3_gatherSpares_132 rfl (lv_at hl 2 rfl) ?_
      refine lv_ior hx hb dX3_gatherSpares_133 ?_
      refine g_iast hx hb hK hG gl_108 gk_108 gn_108 HW.1 dX3_gatherSpares_134 (fun H locs hG => ?_)
      replace HW := HW.2
      obtain ⟨h_134, eh_134⟩ : ∃ y : HI, y = hu h_118 108 x4.toNatClampNeg ((h_118 108 x4.toNatClampNeg) ||| x2) := ⟨_, rfl⟩
      rw [← eh_134] at hG
      replace HW := HW h_134 eh_134
      exact B135 K44 hK44 x1 x2 h_134 g_118 _ _ _ HW hG (lv_sub hl [0, 1, 2] rfl)
  have L44 : ∀ (n : Nat) (x1 : Int32) (h : HI) (g : HL) (H : Heap) (locs : List Loc) (ls : Array Slot), lpN (F_X3_gatherSpares_44 Q) n (x1, h, g) → gG D cy ad (gA ad s.heap.size) s.heap h g H locs → lv_has ls 7 [(0, .ref (ad 97)), (1, .int x1)] → W p l e ({ frames := 1, cells := 0, slots := 0, locals := 32 } : Room) s m args below meth c H locs 0 0 (MQ below (va_Qv (fun (u : HI × HL) => Q u.1 u.2) (gB D cy ad s.heap.size) (gA ad s.heap.size)) args s 0 0 (gA ad s.heap.size)) (F0 m 44 ls []) := by
    intro n
    induction n with
    | zero => intro x1 h g H locs ls HW; exact HW.elim
    | succ n ih =>
      intro x1 h g H locs ls HW hG hl
      have HW : b_X3_gatherSpares_44 Q (fun x1 h g => lpN (F_X3_gatherSpares_44 Q) n (x1, h, g)) x1 h g := HW
      generalize hKe : (fun (x1 : Int32) (h : HI) (g : HL) => lpN (F_X3_gatherSpares_44 Q) n (x1, h, g)) = K44 at HW
      have hK44 : ∀ (x1 : Int32) (h : HI) (g : HL) (H : Heap) (locs : List Loc) (ls : Array Slot), K44 x1 h g → gG D cy ad (gA ad s.heap.size) s.heap h g H locs → lv_has ls 7 [(0, .ref (ad 97)), (1, .int x1)] → W p l e ({ frames := 1, cells := 0, slots := 0, locals := 32 } : Room) s m args below meth c H locs 0 0 (MQ below (va_Qv (fun (u : HI × HL) => Q u.1 u.2) (gB D cy ad s.heap.size) (gA ad s.heap.size)) args s 0 0 (gA ad s.heap.size)) (F0 m 44 ls []) := by subst hKe; exact ih
      clear ih
      clear hKe
      unfold b_X3_gatherSpares_44 at HW
      refine lv_iload_n hx hb dX3_gatherSpares_44 rfl (lv_at hl 1 rfl) ?_
      refine lv_aload_n hx hb dX3_gatherSpares_45 rfl (lv_at hl 0 rfl) ?_
      refine g_geti hx hb hw inG3 hown hK hG gl_97 rfl gk_97 (by decide) 5 (by decide) (by rw [gm_97]; decide) gr_97_5 lk51 dX3_gatherSpares_46 ?_
      refine lv_icmp_ge (tgt := 189) hx hb dX3_gatherSpares_49 (by decide) (fun c_49 => ?_) (fun c_49 => ?_)
      · replace HW := HW.1 c_49
        exact W.vret hx hb hr (fun t ht hW => ⟨⟨(h, g), rfl, HW, g_B ht hG⟩, hG.2.2.F ht⟩) hG.2.2.2.2 dX3_gatherSpares_189
      · replace HW := HW.2 c_49
        refine lv_iconst (v := 1) hx hb dX3_gatherSpares_52 (by decide) ?_
        refine lv_iload_n hx hb dX3_gatherSpares_53 rfl (lv_at hl 1 rfl) ?_
        refine lv_ishl hx hb dX3_gatherSpares_54 ?_
        refine lv_topi (fun x2_55 ex2_55 => ?_)
        replace HW := HW x2_55 ex2_55
        refine lv_istore_n (lv' := [(2, .int x2_55), (0, .ref (ad 97)), (1, .int x1)]) hx hb dX3_gatherSpares_55 rfl hl (by decide) rfl (fun ls hl => ?_)
        refine lv_aload_n hx hb dX3_gatherSpares_56 rfl (lv_at hl 1 rfl) ?_
        refine g_getr hx hb hw inG3 hown hK hG gl_97 rfl gk_97 (by decide) 0 (by decide) (by rw [gm_97]; decide) (r := 1) gr_97_0 lk26 dX3_gatherSpares_57 ?_
        refine g_getr hx hb hw inG6 hown hK hG gl_1 rfl gk_1 (by decide) 6 (by decide) (by rw [gm_1]; decide) (r := 14) gr_1_6 lk68 dX3_gatherSpares_60 ?_
        refine lv_iload_n hx hb dX3_gatherSpares_63 rfl (lv_at hl 2 rfl) ?_
        refine lv_iconst (v := 0) hx hb dX3_gatherSpares_64 (by decide) ?_
        obtain ⟨P_65, HC_65, HW⟩ := HW
        refine g_calli (g_runV (As := [.int x1, .int (0 : Int32)]) (rest := []) ⟨hx, hb, hml, hown, hts⟩ (m_X8_at l D cy ad h g H.size 14 (gs_14) x1 (0 : Int32) P_65 HC_65) (cwV 2 hts (gd_V (wm3 239 rfl rfl) (wm2 221 rfl rfl) (wm2 222 rfl rfl) (wm1 3 rfl rfl) (wm2 223 rfl rfl)) rfl rfl rfl (by decide +kernel) ⟨Nat.le_of_ble_eq_true rfl, Nat.le_of_ble_eq_true rfl⟩) hK hNw hG gl_14 rfl gk_14 (by decide) rfl rfl hl.1 rfl (lv_room (Nat.le_of_ble_eq_true rfl)) dX3_gatherSpares_65 ⟨Nat.zero_le _, Nat.zero_le _⟩) hG (fun r_65 h_65 g_65 H locs hq hG => ?_)
        replace HW := HW r_65 h_65 g_65 hq
        refine lv_istore_n (lv' := [(3, .int r_65), (2, .int x2_55), (0, .ref (ad 97)), (1, .int x1)]) hx hb dX3_gatherSpares_68 rfl hl (by decide) rfl (fun ls hl => ?_)
        refine lv_aload_n hx hb dX3_gatherSpares_69 rfl (lv_at hl 2 rfl) ?_
        refine g_getr hx hb hw inG3 hown hK hG gl_97 rfl gk_97 (by decide) 0 (by decide) (by rw [gm_97]; decide) (r := 1) gr_97_0 lk26 dX3_gatherSpares_70 ?_
        refine g_getr hx hb hw inG6 hown hK hG gl_1 rfl gk_1 (by decide) 6 (by decide) (by rw [gm_1]; decide) (r := 14) gr_1_6 lk68 dX3_gatherSpares_73 ?_
        refine lv_iload_n hx hb dX3_gatherSpares_76 rfl (lv_at hl 3 rfl) ?_
        refine lv_iconst (v := 2) hx hb dX3_gatherSpares_77 (by decide) ?_
        obtain ⟨P_78, HC_78, HW⟩ := HW
        refine g_calli (g_runV (As := [.int x1, .int (2 : Int32)]) (rest := []) ⟨hx, hb, hml, hown, hts⟩ (m_X8_at l D cy ad h_65 g_65 H.size 14 (gs_14) x1 (2 : Int32) P_78 HC_78) (cwV 2 hts (gd_V (wm3 239 rfl rfl) (wm2 221 rfl rfl) (wm2 222 rfl rfl) (wm1 3 rfl rfl) (wm2 223 rfl rfl)) rfl rfl rfl (by decide +kernel) ⟨Nat.le_of_ble_eq_true rfl, Nat.le_of_ble_eq_true rfl⟩) hK hNw hG gl_14 rfl gk_14 (by decide) rfl rfl hl.1 rfl (lv_room (Nat.le_of_ble_eq_true rfl)) dX3_gatherSpares_78 ⟨Nat.zero_le _, Nat.zero_le _⟩) hG (fun r_78 h_78 g_78 H locs hq hG => ?_)
        replace HW := HW r_78 h_78 g_78 hq
        refine lv_istore (lv' := [(4, .int r_78), (3, .int r_65), (2, .int x2_55), (0, .ref (ad 97)), (1, .int x1)]) hx hb dX3_gatherSpares_81 hl (by decide) rfl (fun ls hl => ?_)
        refine lv_iload_n hx hb dX3_gatherSpares_83 rfl (lv_at hl 1 rfl) ?_
        refine lv_iconst (v := 0) hx hb dX3_gatherSpares_84 (by decide) ?_
        refine lv_aload_n hx hb dX3_gatherSpares_85 rfl (lv_at hl 3 rfl) ?_
        refine g_getr hx hb hw inG3 hown hK hG gl_97 rfl gk_97 (by decide) 3 (by decide) (by rw [gm_97]; decide) (r := 107) gr_97_3 lk20 dX3_gatherSpares_86 ?_
        refine g_alen hx hb hK hG gl_107 gk_107 (v := (4 : Int32)) (by rw [gn_107]; decide) dX3_gatherSpares_89 ?_
        refine lv_iconst (v := 1) hx hb dX3_gatherSpares_90 (by decide) ?_
        refine lv_isub hx hb dX3_gatherSpares_91 ?_
        obtain ⟨P_92, HC_92, HW⟩ := HW
        refine g_callz (g_runSN (As := [.int r_65, .int (0 : Int32), .int ((4 : Int32) - (1 : Int32))]) (rest := []) ⟨hx, hb, hml, hown, hts⟩ (m_X10_within l D cy ad h_78 g_78 H.size r_65 (0 : Int32) ((4 : Int32) - (1 : Int32)) P_92 HC_92) ⟨va_cnB 3 hts (gd_w (wm2 195 rfl rfl)) rfl rfl rfl (hNw _ (List.mem_of_getElem? (i := 3) rfl)) (hw (.initialized RX10) (wm1 1 rfl rfl)) (by decide +kernel) ⟨Nat.le_of_ble_eq_true rfl, Nat.le_of_ble_eq_true rfl⟩, hw (.static yX10_within) (wm2 194 rfl rfl), trivial⟩ hK hNw hG rfl rfl hl.1 rfl (lv_room (Nat.le_of_ble_eq_true rfl)) dX3_gatherSpares_92 ⟨Nat.zero_le _, Nat.zero_le _⟩) hG (fun r_92 h_92 g_92 H locs hz hq hG => ?_)
        replace HW := HW r_92 h_92 g_92 hz hq
        refine lv_if_eq (tgt := 108) hx hb dX3_gatherSpares_95 (by decide) (fun c_95 => ?_) (fun c_95 => ?_)
        · replace HW := HW.1 c_95
          exact B108 K44 hK44 x1 x2_55 r_78 h_92 g_92 _ _ _ HW hG (lv_sub hl [3, 4, 2, 0] rfl)
        · replace HW := HW.2 c_95
          refine lv_aload_n hx hb dX3_gatherSpares_98 rfl (lv_at hl 3 rfl) ?_
          refine g_getr hx hb hw inG3 hown hK hG gl_97 rfl gk_97 (by decide) 3 (by decide) (by rw [gm_97]; decide) (r := 107) gr_97_3 lk20 dX3_gatherSpares_99 ?_
          refine lv_iload_n hx hb dX3_gatherSpares_102 rfl (lv_at hl 1 rfl) ?_
          refine lv_dup2_11 hx hb dX3_gatherSpares_103 rfl rfl ?_
          refine g_iald hx hb hK hG gl_107 gk_107 gn_107 HW.1 dX3_gatherSpares_104 ?_
          replace HW := HW.2
          refine lv_iload_n hx hb dX3_gatherSpares_105 rfl (lv_at hl 2 rfl) ?_
          refine lv_ior hx hb dX3_gatherSpares_106 ?_
          refine g_iast hx hb hK hG gl_107 gk_107 gn_107 HW.1 dX3_gatherSpares_107 (fun H locs hG => ?_)
          replace HW := HW.2
          obtain ⟨h_107, eh_107⟩ : ∃ y : HI, y = hu h_92 107 r_65.toNatClampNeg ((h_92 107 r_65.toNatClampNeg) ||| x2_55) := ⟨_, rfl⟩
          rw [← eh_107] at hG
          replace HW := HW h_107 eh_107
          exact B108 K44 hK44 x1 x2_55 r_78 h_107 g_92 _ _ _ HW hG (lv_sub hl [3, 4, 2, 0] rfl)
  have E0 : ∀ (H : Heap) (locs : List Loc) (ls : Array Slot), gG D cy ad (gA ad s.heap.size) s.heap h g H locs → lv_has ls 7 [(0, .ref (ad 97))] → W p l e ({ frames := 1, cells := 0, slots := 0, locals := 32 } : Room) s m args below meth c H locs 0 0 (MQ below (va_Qv (fun (u : HI × HL) => Q u.1 u.2) (gB D cy ad s.heap.size) (gA ad s.heap.size)) args s 0 0 (gA ad s.heap.size)) (F0 m 0 ls []) := by
    intro H locs ls hG hl
    unfold w_X3_gatherSpares at HW
    refine lv_aload_n hx hb dX3_gatherSpares_0 rfl (lv_at hl 0 rfl) ?_
    refine lv_bipush (v := 9) hx hb dX3_gatherSpares_1 (by decide) ?_
    refine lv_aload_n hx hb dX3_gatherSpares_3 rfl (lv_at hl 0 rfl) ?_
    refine g_getr hx hb hw inG3 hown hK hG gl_97 rfl gk_97 (by decide) 0 (by decide) (by rw [gm_97]; decide) (r := 1) gr_97_0 lk26 dX3_gatherSpares_4 ?_
    refine g_getr hx hb hw inG6 hown hK hG gl_1 rfl gk_1 (by decide) 6 (by decide) (by rw [gm_1]; decide) (r := 14) gr_1_6 lk68 dX3_gatherSpares_7 ?_
    obtain ⟨P_10, HC_10, HW⟩ := HW
    refine g_calli (g_runV (As := []) (rest := [.int (9 : Int32), .ref (ad 97)]) ⟨hx, hb, hml, hown, hts⟩ (m_X8_rows l D cy ad h g H.size 14 (gs_14) P_10 HC_10) (cwV 0 hts (gd_V (wm3 236 rfl rfl) (wm2 217 rfl rfl) (wm2 218 rfl rfl) (wm1 3 rfl rfl) (wm2 219 rfl rfl)) rfl rfl rfl (by decide +kernel) ⟨Nat.le_of_ble_eq_true rfl, Nat.le_of_ble_eq_true rfl⟩) hK hNw hG gl_14 rfl gk_14 (by decide) rfl rfl hl.1 rfl (lv_room (Nat.le_of_ble_eq_true rfl)) dX3_gatherSpares_10 ⟨Nat.zero_le _, Nat.zero_le _⟩) hG (fun r_10 h_10 g_10 H locs hq hG => ?_)
    replace HW := HW r_10 h_10 g_10 hq
    refine va_mmin hx hb (hml.trans hl.1.symm) hown ml45 ms45 mi45 mc45 (by decide) (Nat.le_of_ble_eq_true rfl) (Nat.zero_le _) (Nat.zero_le _) dX3_gatherSpares_13 ?_
    refine g_put hx hb hw inG3 tyX3 tyX3_ok nmX3 hown hK hG gl_97 rfl gk_97 (by decide) 5 (by decide) (by rw [gm_97]; decide) gr_97_5 rfl (ty := .int) (by decide +kernel) rfl rfl lk51 dX3_gatherSpares_16 (fun H locs hG => ?_)
    obtain ⟨h_16, eh_16⟩ : ∃ y : HI, y = hu h_10 97 5 (if r_10 < (9 : Int32) then r_10 else (9 : Int32)) := ⟨_, rfl⟩
    rw [← eh_16] at hG
    replace HW := HW h_16 eh_16
    refine lv_aload_n hx hb dX3_gatherSpares_19 rfl (lv_at hl 0 rfl) ?_
    refine g_getr hx hb hw inG3 hown hK hG gl_97 rfl gk_97 (by decide) 3 (by decide) (by rw [gm_97]; decide) (r := 107) gr_97_3 lk20 dX3_gatherSpares_20 ?_
    refine lv_iconst (v := 0) hx hb dX3_gatherSpares_23 (by decide) ?_
    obtain ⟨P_24, HC_24, HW⟩ := HW
    refine g_callv (g_runS (As := [.ref (ad 107), .int (0 : Int32)]) (rest := []) ⟨hx, hb, hml, hown, hts⟩ (m_J7_fill_53178 l D cy ad h_16 g_10 H.size 107 gk_107 gl_107 (0 : Int32) P_24 HC_24) (va_cwS 2 hts (gd_S (wm3 238 rfl rfl) (wm2 17 rfl rfl) (wm1 8 rfl rfl) (wm2 18 rfl rfl)) rfl rfl rfl (by decide +kernel) ⟨Nat.le_of_ble_eq_true rfl, Nat.le_of_ble_eq_true rfl⟩) hK hNw hG rfl rfl hl.1 rfl (lv_room (Nat.le_of_ble_eq_true rfl)) dX3_gatherSpares_24 ⟨Nat.zero_le _, Nat.zero_le _⟩) hG (fun h_24 g_24 H locs hq hG => ?_)
    replace HW := HW h_24 g_24 hq
    refine lv_aload_n hx hb dX3_gatherSpares_27 rfl (lv_at hl 0 rfl) ?_
    refine g_getr hx hb hw inG3 hown hK hG gl_97 rfl gk_97 (by decide) 4 (by decide) (by rw [gm_97]; decide) (r := 108) gr_97_4 lk23 dX3_gatherSpares_28 ?_
    refine lv_iconst (v := 0) hx hb dX3_gatherSpares_31 (by decide) ?_
    obtain ⟨P_32, HC_32, HW⟩ := HW
    refine g_callv (g_runS (As := [.ref (ad 108), .int (0 : Int32)]) (rest := []) ⟨hx, hb, hml, hown, hts⟩ (m_J7_fill_53178 l D cy ad h_24 g_24 H.size 108 gk_108 gl_108 (0 : Int32) P_32 HC_32) (va_cwS 2 hts (gd_S (wm3 238 rfl rfl) (wm2 17 rfl rfl) (wm1 8 rfl rfl) (wm2 18 rfl rfl)) rfl rfl rfl (by decide +kernel) ⟨Nat.le_of_ble_eq_true rfl, Nat.le_of_ble_eq_true rfl⟩) hK hNw hG rfl rfl hl.1 rfl (lv_room (Nat.le_of_ble_eq_true rfl)) dX3_gatherSpares_32 ⟨Nat.zero_le _, Nat.zero_le _⟩) hG (fun h_32 g_32 H locs hq hG => ?_)
    replace HW := HW h_32 g_32 hq
    refine lv_aload_n hx hb dX3_gatherSpares_35 rfl (lv_at hl 0 rfl) ?_
    refine g_getr hx hb hw inG3 hown hK hG gl_97 rfl gk_97 (by decide) 2 (by decide) (by rw [gm_97]; decide) (r := 106) gr_97_2 lk16 dX3_gatherSpares_36 ?_
    refine lv_iconst (v := 0) hx hb dX3_gatherSpares_39 (by decide) ?_
    refine lv_iconst (v := 0) hx hb dX3_gatherSpares_40 (by decide) ?_
    refine g_iast hx hb hK hG gl_106 gk_106 gn_106 HW.1 dX3_gatherSpares_41 (fun H locs hG => ?_)
    replace HW := HW.2
    obtain ⟨h_41, eh_41⟩ : ∃ y : HI, y = hu h_32 106 (0 : Int32).toNatClampNeg (0 : Int32) := ⟨_, rfl⟩
    rw [← eh_41] at hG
    replace HW := HW h_41 eh_41
    refine lv_iconst (v := 0) hx hb dX3_gatherSpares_42 (by decide) ?_
    refine lv_istore_n (lv' := [(1, .int (0 : Int32)), (0, .ref (ad 97))]) hx hb dX3_gatherSpares_43 rfl hl (by decide) rfl (fun ls hl => ?_)
    obtain ⟨n_44, HW⟩ := HW
    exact L44 n_44 (0 : Int32) h_41 g_32 _ _ _ HW hG (lv_sub hl [1, 0] rfl)
  exact E0 _ _ _ hG hl

def w_J6_bitCount_0f7a4 (x0 : Int32) (h : HI) (g : HL) (Q : Int32 → HI → HL → Prop) : Prop :=
  (∀ x0_9 : Int32, x0_9 = (x0 - (((x0.toUInt32 >>> ((1 : Int32).toUInt32 &&& Int32.toUInt32 31)).toInt32) &&& (1431655765 : Int32))) → (∀ x0_23 : Int32, x0_23 = ((x0_9 &&& (858993459 : Int32)) + (((x0_9.toUInt32 >>> ((2 : Int32).toUInt32 &&& Int32.toUInt32 31)).toInt32) &&& (858993459 : Int32))) → (∀ x0_33 : Int32, x0_33 = ((x0_23 + ((x0_23.toUInt32 >>> ((4 : Int32).toUInt32 &&& Int32.toUInt32 31)).toInt32)) &&& (252645135 : Int32)) → (∀ x0_40 : Int32, x0_40 = (x0_33 + ((x0_33.toUInt32 >>> ((8 : Int32).toUInt32 &&& Int32.toUInt32 31)).toInt32)) → (∀ x0_47 : Int32, x0_47 = (x0_40 + ((x0_40.toUInt32 >>> ((16 : Int32).toUInt32 &&& Int32.toUInt32 31)).toInt32)) → Q (x0_47 &&& (63 : Int32)) h g)))))
set_option maxHeartbeats 8000000 in
set_option maxRecDepth 100000 in
theorem m_J6_bitCount_0f7a4 (l : Launch) (D : va_G) (cy : Nat → ClassId) (ad : Nat → Nat) (h : HI) (g : HL) (sz : Nat) (x0 : Int32) (Q : Int32 → HI → HL → Prop) (HW : w_J6_bitCount_0f7a4 x0 h g Q) : Met l yJ6_bitCount_0f7a4 (wa yJ6_bitCount_0f7a4 cJ6_bitCount_0f7a4 1 (some .int)) ({ frames := 0, cells := 0, slots := 0, locals := 0 }) (va_Pc [.int x0] (gI D cy ad h g sz)) (va_Qi (fun (r : Int32) (u : HI × HL) => Q r u.1 u.2) (gB D cy ad sz) (gA ad sz)) 0 0 (gA ad sz) := by
  refine Met.ofW (cc := cJ6_bitCount_0f7a4) (maxL := 1) (ret := (some .int)) (by decide) rfl ?_
  intro p e s m args below meth c s₁ B hml hv
  obtain ⟨hav, hsz, hP, hK, hD0, hNw⟩ := hv
  have hx := B.exec
  have hb := B.bytes
  have hr := B.returns
  have hts := atoms_spec (ws := (wa yJ6_bitCount_0f7a4 cJ6_bitCount_0f7a4 1 (some .int))) B.pre
  have hw := wa_hw hts
  have hown : s.vm.findClass RJ6 = some m.cls := findClass_of_methodNamed B.named
  have hlocks := B.notSynchronized
  subst hsz
  have hG : gG D cy ad (gA ad s.heap.size) s.heap h g s.heap [] := ⟨hP, gA_self hD0, va_S.rf⟩
  clear hP hD0
  have cn265 := hw (.constant RJ6 265 (1431655765)) (wm4 4 rfl rfl)
  have cn266 := hw (.constant RJ6 266 (858993459)) (wm4 5 rfl rfl)
  have cn267 := hw (.constant RJ6 267 (252645135)) (wm4 6 rfl rfl)
  rw [show (headSpec (wa yJ6_bitCount_0f7a4 cJ6_bitCount_0f7a4 1 (some .int)) ({ frames := 0, cells := 0, slots := 0, locals := 0 } : Room)).room = ({ frames := 0, cells := 0, slots := 0, locals := 0 } : Room) from rfl]
  have hl := lv_entry ([.int x0]) (n := 1) (Nat.le_of_ble_eq_true rfl)
  rw [show entryFrame m args 1 = entryFrame m ([.int x0] : List Value).toArray 1 from by rw [hav], lg_entry_eq]
  generalize (lg_sl ([.int x0]) ++ List.replicate (1 - (lg_sl ([.int x0])).length) Slot.unset).toArray = ls at hl ⊢
  have hl : lv_has ls 1 [(0, .int x0)] := hl
  have E0 : ∀ (H : Heap) (locs : List Loc) (ls : Array Slot), gG D cy ad (gA ad s.heap.size) s.heap h g H locs → lv_has ls 1 [(0, .int x0)] → W p l e ({ frames := 0, cells := 0, slots := 0, locals := 0 } : Room) s m args below meth c H locs 0 0 (MQ below (va_Qi (fun (r : Int32) (u : HI × HL) => Q r u.1 u.2) (gB D cy ad s.heap.size) (gA ad s.heap.size)) args s 0 0 (gA ad s.heap.size)) (F0 m 0 ls []) := by
    intro H locs ls hG hl
    unfold w_J6_bitCount_0f7a4 at HW
    refine lv_iload_n hx hb dJ6_bitCount_0f7a4_0 rfl (lv_at hl 0 rfl) ?_
    refine lv_iload_n hx hb dJ6_bitCount_0f7a4_1 rfl (lv_at hl 0 rfl) ?_
    refine lv_iconst (v := 1) hx hb dJ6_bitCount_0f7a4_2 (by decide) ?_
    refine lv_iushr hx hb dJ6_bitCount_0f7a4_3 rfl ?_
    refine lv_ldcw (v := 1431655765) hx hb hown cn265 dJ6_bitCount_0f7a4_4 ?_
    refine lv_iand hx hb dJ6_bitCount_0f7a4_7 ?_
    refine lv_isub hx hb dJ6_bitCount_0f7a4_8 ?_
    refine lv_topi (fun x0_9 ex0_9 => ?_)
    replace HW := HW x0_9 ex0_9
    refine lv_istore_n (lv' := [(0, .int x0_9)]) hx hb dJ6_bitCount_0f7a4_9 rfl hl (by decide) rfl (fun ls hl => ?_)
    refine lv_iload_n hx hb dJ6_bitCount_0f7a4_10 rfl (lv_at hl 0 rfl) ?_
    refine lv_ldcw (v := 858993459) hx hb hown cn266 dJ6_bitCount_0f7a4_11 ?_
    refine lv_iand hx hb dJ6_bitCount_0f7a4_14 ?_
    refine lv_iload_n hx hb dJ6_bitCount_0f7a4_15 rfl (lv_at hl 0 rfl) ?_
    refine lv_iconst (v := 2) hx hb dJ6_bitCount_0f7a4_16 (by decide) ?_
    refine lv_iushr hx hb dJ6_bitCount_0f7a4_17 rfl ?_
    refine lv_ldcw (v := 858993459) hx hb hown cn266 dJ6_bitCount_0f7a4_18 ?_
    refine lv_iand hx hb dJ6_bitCount_0f7a4_21 ?_
    refine lv_iadd hx hb dJ6_bitCount_0f7a4_22 ?_
    refine lv_topi (fun x0_23 ex0_23 => ?_)
    replace HW := HW x0_23 ex0_23
    refine lv_istore_n (lv' := [(0, .int x0_23)]) hx hb dJ6_bitCount_0f7a4_23 rfl hl (by decide) rfl (fun ls hl => ?_)
    refine lv_iload_n hx hb dJ6_bitCount_0f7a4_24 rfl (lv_at hl 0 rfl) ?_
    refine lv_iload_n hx hb dJ6_bitCount_0f7a4_25 rfl (lv_at hl 0 rfl) ?_
    refine lv_iconst (v := 4) hx hb dJ6_bitCount_0f7a4_26 (by decide) ?_
    refine lv_iushr hx hb dJ6_bitCount_0f7a4_27 rfl ?_
    refine lv_iadd hx hb dJ6_bitCount_0f7a4_28 ?_
    refine lv_ldcw (v := 252645135) hx hb hown cn267 dJ6_bitCount_0f7a4_29 ?_
    refine lv_iand hx hb dJ6_bitCount_0f7a4_32 ?_
    refine lv_topi (fun x0_33 ex0_33 => ?_)
    replace HW := HW x0_33 ex0_33
    refine lv_istore_n (lv' := [(0, .int x0_33)]) hx hb dJ6_bitCount_0f7a4_33 rfl hl (by decide) rfl (fun ls hl => ?_)
    refine lv_iload_n hx hb dJ6_bitCount_0f7a4_34 rfl (lv_at hl 0 rfl) ?_
    refine lv_iload_n hx hb dJ6_bitCount_0f7a4_35 rfl (lv_at hl 0 rfl) ?_
    refine lv_bipush (v := 8) hx hb dJ6_bitCount_0f7a4_36 (by decide) ?_
    refine lv_iushr hx hb dJ6_bitCount_0f7a4_38 rfl ?_
    refine lv_iadd hx hb dJ6_bitCount_0f7a4_39 ?_
    refine lv_topi (fun x0_40 ex0_40 => ?_)
    replace HW := HW x0_40 ex0_40
    refine lv_istore_n (lv' := [(0, .int x0_40)]) hx hb dJ6_bitCount_0f7a4_40 rfl hl (by decide) rfl (fun ls hl => ?_)
    refine lv_iload_n hx hb dJ6_bitCount_0f7a4_41 rfl (lv_at hl 0 rfl) ?_
    refine lv_iload_n hx hb dJ6_bitCount_0f7a4_42 rfl (lv_at hl 0 rfl) ?_
    refine lv_bipush (v := 16) hx hb dJ6_bitCount_0f7a4_43 (by decide) ?_
    refine lv_iushr hx hb dJ6_bitCount_0f7a4_45 rfl ?_
    refine lv_iadd hx hb dJ6_bitCount_0f7a4_46 ?_
    refine lv_topi (fun x0_47 ex0_47 => ?_)
    replace HW := HW x0_47 ex0_47
    refine lv_istore_n (lv' := [(0, .int x0_47)]) hx hb dJ6_bitCount_0f7a4_47 rfl hl (by decide) rfl (fun ls hl => ?_)
    refine lv_iload_n hx hb dJ6_bitCount_0f7a4_48 rfl (lv_at hl 0 rfl) ?_
    refine lv_bipush (v := 63) hx hb dJ6_bitCount_0f7a4_49 (by decide) ?_
    refine lv_iand hx hb dJ6_bitCount_0f7a4_51 ?_
    exact W.iret (v := (x0_47 &&& (63 : Int32))) hx hb hr (fun t ht hW => ⟨⟨(x0_47 &&& (63 : Int32)), (h, g), rfl, HW, g_B ht hG⟩, hG.2.2.F ht⟩) hG.2.2.2.2 dJ6_bitCount_0f7a4_52
  exact E0 _ _ _ hG hl

def j_X3_parts_41 (Q : Int32 → HI → HL → Prop) (K11 : Int32 → Int32 → Int32 → HI → HL → Prop) (x1 : Int32) (x3 : Int32) (x4 : Int32) (h : HI) (g : HL) : Prop :=
  (∀ x4_41 : Int32, x4_41 = (x4 + 1) → K11 x1 x3 x4_41 h g)
def b_X3_parts_11 (Q : Int32 → HI → HL → Prop) (K11 : Int32 → Int32 → Int32 → HI → HL → Prop) (x1 : Int32) (x3 : Int32) (x4 : Int32) (h : HI) (g : HL) : Prop :=
  ((x3 ≤ x4 → Q (0 : Int32) h g) ∧ (¬ x3 ≤ x4 → (vp_in x4 4 ∧ (∀ x5_21 : Int32, x5_21 = (h 108 x4.toNatClampNeg) → (((x1 &&& x5_21) = 0 → j_X3_parts_41 Q K11 x1 x3 x4 h g) ∧ (¬ (x1 &&& x5_21) = 0 → (((x1 &&& x5_21) = x5_21 → j_X3_parts_41 Q K11 x1 x3 x4 h g) ∧ (¬ (x1 &&& x5_21) = x5_21 → Q (1 : Int32) h g))))))))
def F_X3_parts_11 (Q : Int32 → HI → HL → Prop) (K : Int32 × Int32 × Int32 × HI × HL → Prop) (q : Int32 × Int32 × Int32 × HI × HL) : Prop := b_X3_parts_11 Q (fun x1 x3 x4 h g => K (x1, x3, x4, h, g)) q.1 q.2.1 q.2.2.1 q.2.2.2.1 q.2.2.2.2
def w_X3_parts (x1 : Int32) (h : HI) (g : HL) (Q : Int32 → HI → HL → Prop) : Prop :=
  lpE (F_X3_parts_11 Q) (x1, (4 : Int32), (0 : Int32), h, g)
set_option maxHeartbeats 8000000 in
set_option maxRecDepth 100000 in
theorem m_X3_parts (l : Launch) (D : va_G) (cy : Nat → ClassId) (ad : Nat → Nat) (h : HI) (g : HL) (sz : Nat) (x1 : Int32) (Q : Int32 → HI → HL → Prop) (HW : w_X3_parts x1 h g Q) : Met l yX3_parts (wa yX3_parts cX3_parts 6 (some .boolean)) ({ frames := 0, cells := 0, slots := 0, locals := 0 }) (va_Pc [.ref (ad 97), .int x1] (gI D cy ad h g sz)) (va_Qi (fun (r : Int32) (u : HI × HL) => zb r ∧ Q r u.1 u.2) (gB D cy ad sz) (gA ad sz)) 0 0 (gA ad sz) := by
  refine Met.ofW (cc := cX3_parts) (maxL := 6) (ret := (some .boolean)) (by decide) rfl ?_
  intro p e s m args below meth c s₁ B hml hv
  obtain ⟨hav, hsz, hP, hK, hD0, hNw⟩ := hv
  have hx := B.exec
  have hb := B.bytes
  have hr := B.returns
  have hts := atoms_spec (ws := (wa yX3_parts cX3_parts 6 (some .boolean))) B.pre
  have hw := wa_hw hts
  have hown : s.vm.findClass RX3 = some m.cls := findClass_of_methodNamed B.named
  have hlocks := B.notSynchronized
  subst hsz
  have hG : gG D cy ad (gA ad s.heap.size) s.heap h g s.heap [] := ⟨hP, gA_self hD0, va_S.rf⟩
  clear hP hD0
  have lk23 := hw (.fieldLink RX3 23 "OldWorks$Givings" "pairs" "[I") (wm2 54 rfl rfl)
  rw [show (headSpec (wa yX3_parts cX3_parts 6 (some .boolean)) ({ frames := 0, cells := 0, slots := 0, locals := 0 } : Room)).room = ({ frames := 0, cells := 0, slots := 0, locals := 0 } : Room) from rfl]
  have hl := lv_entry ([.ref (ad 97), .int x1]) (n := 6) (Nat.le_of_ble_eq_true rfl)
  rw [show entryFrame m args 6 = entryFrame m ([.ref (ad 97), .int x1] : List Value).toArray 6 from by rw [hav], lg_entry_eq]
  generalize (lg_sl ([.ref (ad 97), .int x1]) ++ List.replicate (6 - (lg_sl ([.ref (ad 97), .int x1])).length) Slot.unset).toArray = ls at hl ⊢
  have hl : lv_has ls 6 [(0, .ref (ad 97)), (1, .int x1)] := hl
  have B41 : ∀ (K11 : Int32 → Int32 → Int32 → HI → HL → Prop) (hK11 : ∀ (x1 : Int32) (x3 : Int32) (x4 : Int32) (h : HI) (g : HL) (H : Heap) (locs : List Loc) (ls : Array Slot), K11 x1 x3 x4 h g → gG D cy ad (gA ad s.heap.size) s.heap h g H locs → lv_has ls 6 [(1, .int x1), (2, .ref (ad 108)), (3, .int x3), (4, .int x4)] → W p l e ({ frames := 0, cells := 0, slots := 0, locals := 0 } : Room) s m args below meth c H locs 0 0 (MQ below (va_Qi (fun (r : Int32) (u : HI × HL) => zb r ∧ Q r u.1 u.2) (gB D cy ad s.heap.size) (gA ad s.heap.size)) args s 0 0 (gA ad s.heap.size)) (F0 m 11 ls [])) (x1 : Int32) (x3 : Int32) (x4 : Int32) (h : HI) (g : HL) (H : Heap) (locs : List Loc) (ls : Array Slot), j_X3_parts_41 Q K11 x1 x3 x4 h g → gG D cy ad (gA ad s.heap.size) s.heap h g H locs → lv_has ls 6 [(1, .int x1), (2, .ref (ad 108)), (3, .int x3), (4, .int x4)] → W p l e ({ frames := 0, cells := 0, slots := 0, locals := 0 } : Room) s m args below meth c H locs 0 0 (MQ below (va_Qi (fun (r : Int32) (u : HI × HL) => zb r ∧ Q r u.1 u.2) (gB D cy ad s.heap.size) (gA ad s.heap.size)) args s 0 0 (gA ad s.heap.size)) (F0 m 41 ls []) := by
    intro K11 hK11 x1 x3 x4 h g H locs ls HW hG hl
    unfold j_X3_parts_41 at HW
    obtain ⟨x4_41, ex4_41⟩ : ∃ y : Int32, y = (x4 + 1) := ⟨_, rfl⟩
    replace HW := HW x4_41 ex4_41
    refine lv_iinc (v := x4_41) (lv' := [(4, .int x4_41), (1, .int x1), (2, .ref (ad 108)), (3, .int x3)]) hx hb dX3_parts_41 hl (k := 3) rfl (by rw [ex4_41]; rfl) (by decide) rfl (fun ls hl => ?_)
    refine lv_goto (tgt := 11) hx hb dX3_parts_44 (by decide) ?_
    exact hK11 x1 x3 x4_41 h g _ _ _ HW hG (lv_sub hl [1, 2, 3, 0] rfl)
  have L11 : ∀ (n : Nat) (x1 : Int32) (x3 : Int32) (x4 : Int32) (h : HI) (g : HL) (H : Heap) (locs : List Loc) (ls : Array Slot), lpN (F_X3_parts_11 Q) n (x1, x3, x4, h, g) → gG D cy ad (gA ad s.heap.size) s.heap h g H locs → lv_has ls 6 [(1, .int x1), (2, .ref (ad 108)), (3, .int x3), (4, .int x4)] → W p l e ({ frames := 0, cells := 0, slots := 0, locals := 0 } : Room) s m args below meth c H locs 0 0 (MQ below (va_Qi (fun (r : Int32) (u : HI × HL) => zb r ∧ Q r u.1 u.2) (gB D cy ad s.heap.size) (gA ad s.heap.size)) args s 0 0 (gA ad s.heap.size)) (F0 m 11 ls []) := by
    intro n
    induction n with
    | zero => intro x1 x3 x4 h g H locs ls HW; exact HW.elim
    | succ n ih =>
      intro x1 x3 x4 h g H locs ls HW hG hl
      have HW : b_X3_parts_11 Q (fun x1 x3 x4 h g => lpN (F_X3_parts_11 Q) n (x1, x3, x4, h, g)) x1 x3 x4 h g := HW
      generalize hKe : (fun (x1 : Int32) (x3 : Int32) (x4 : Int32) (h : HI) (g : HL) => lpN (F_X3_parts_11 Q) n (x1, x3, x4, h, g)) = K11 at HW
      have hK11 : ∀ (x1 : Int32) (x3 : Int32) (x4 : Int32) (h : HI) (g : HL) (H : Heap) (locs : List Loc) (ls : Array Slot), K11 x1 x3 x4 h g → gG D cy ad (gA ad s.heap.size) s.heap h g H locs → lv_has ls 6 [(1, .int x1), (2, .ref (ad 108)), (3, .int x3), (4, .int x4)] → W p l e ({ frames := 0, cells := 0, slots := 0, locals := 0 } : Room) s m args below meth c H locs 0 0 (MQ below (va_Qi (fun (r : Int32) (u : HI × HL) => zb r ∧ Q r u.1 u.2) (gB D cy ad s.heap.size) (gA ad s.heap.size)) args s 0 0 (gA ad s.heap.size)) (F0 m 11 ls []) := by subst hKe; exact ih
      clear ih
      clear hKe
      unfold b_X3_parts_11 at HW
      refine lv_iload hx hb dX3_parts_11 (lv_at hl 3 rfl) ?_
      refine lv_iload_n hx hb dX3_parts_13 rfl (lv_at hl 2 rfl) ?_
      refine lv_icmp_ge (tgt := 47) hx hb dX3_parts_14 (by decide) (fun c_14 => ?_) (fun c_14 => ?_)
      · replace HW := HW.1 c_14
        refine lv_iconst (v := 0) hx hb dX3_parts_47 (by decide) ?_
        exact W.zret (v := (0 : Int32)) hx hb hr rfl (fun t ht hW => ⟨⟨(0 : Int32), (h, g), rfl, ⟨Or.inl rfl, HW⟩, g_B ht hG⟩, hG.2.2.F ht⟩) hG.2.2.2.2 dX3_parts_48
      · replace HW := HW.2 c_14
        refine lv_aload_n hx hb dX3_parts_17 rfl (lv_at hl 1 rfl) ?_
        refine lv_iload hx hb dX3_parts_18 (lv_at hl 3 rfl) ?_
        refine g_iald hx hb hK hG gl_108 gk_108 gn_108 HW.1 dX3_parts_20 ?_
        replace HW := HW.2
        refine lv_topi (fun x5_21 ex5_21 => ?_)
        replace HW := HW x5_21 ex5_21
        refine lv_istore (lv' := [(5, .int x5_21), (1, .int x1), (2, .ref (ad 108)), (3, .int x3), (4, .int x4)]) hx hb dX3_parts_21 hl (by decide) rfl (fun ls hl => ?_)
        refine lv_iload_n hx hb dX3_parts_23 rfl (lv_at hl 1 rfl) ?_
        refine lv_iload hx hb dX3_parts_24 (lv_at hl 0 rfl) ?_
        refine lv_iand hx hb dX3_parts_26 ?_
        refine lv_if_eq (tgt := 41) hx hb dX3_parts_27 (by decide) (fun c_27 => ?_) (fun c_27 => ?_)
        · replace HW := HW.1 c_27
          exact B41 K11 hK11 x1 x3 x4 h g _ _ _ HW hG (lv_sub hl [1, 2, 3, 4] rfl)
        · replace HW := HW.2 c_27
          refine lv_iload_n hx hb dX3_parts_30 rfl (lv_at hl 1 rfl) ?_
          refine lv_iload hx hb dX3_parts_31 (lv_at hl 0 rfl) ?_
          refine lv_iand hx hb dX3_parts_33 ?_
          refine lv_iload hx hb dX3_parts_34 (lv_at hl 0 rfl) ?_
          refine lv_icmp_eq (tgt := 41) hx hb dX3_parts_36 (by decide) (fun c_36 => ?_) (fun c_36 => ?_)
          · replace HW := HW.1 c_36
            exact B41 K11 hK11 x1 x3 x4 h g _ _ _ HW hG (lv_sub hl [1, 2, 3, 4] rfl)
          · replace HW := HW.2 c_36
            refine lv_iconst (v := 1) hx hb dX3_parts_39 (by decide) ?_
            exact W.zret (v := (1 : Int32)) hx hb hr rfl (fun t ht hW => ⟨⟨(1 : Int32), (h, g), rfl, ⟨Or.inr rfl, HW⟩, g_B ht hG⟩, hG.2.2.F ht⟩) hG.2.2.2.2 dX3_parts_40
  have E0 : ∀ (H : Heap) (locs : List Loc) (ls : Array Slot), gG D cy ad (gA ad s.heap.size) s.heap h g H locs → lv_has ls 6 [(0, .ref (ad 97)), (1, .int x1)] → W p l e ({ frames := 0, cells := 0, slots := 0, locals := 0 } : Room) s m args below meth c H locs 0 0 (MQ below (va_Qi (fun (r : Int32) (u : HI × HL) => zb r ∧ Q r u.1 u.2) (gB D cy ad s.heap.size) (gA ad s.heap.size)) args s 0 0 (gA ad s.heap.size)) (F0 m 0 ls []) := by
    intro H locs ls hG hl
    unfold w_X3_parts at HW
    refine lv_aload_n hx hb dX3_parts_0 rfl (lv_at hl 0 rfl) ?_
    refine g_getr hx hb hw inG3 hown hK hG gl_97 rfl gk_97 (by decide) 4 (by decide) (by rw [gm_97]; decide) (r := 108) gr_97_4 lk23 dX3_parts_1 ?_
    refine lv_astore_n (lv' := [(2, .ref (ad 108)), (0, .ref (ad 97)), (1, .int x1)]) hx hb dX3_parts_4 rfl hl (by decide) rfl (fun ls hl => ?_)
    refine lv_aload_n hx hb dX3_parts_5 rfl (lv_at hl 0 rfl) ?_
    refine g_alen hx hb hK hG gl_108 gk_108 (v := (4 : Int32)) (by rw [gn_108]; decide) dX3_parts_6 ?_
    refine lv_istore_n (lv' := [(3, .int (4 : Int32)), (2, .ref (ad 108)), (0, .ref (ad 97)), (1, .int x1)]) hx hb dX3_parts_7 rfl hl (by decide) rfl (fun ls hl => ?_)
    refine lv_iconst (v := 0) hx hb dX3_parts_8 (by decide) ?_
    refine lv_istore (lv' := [(4, .int (0 : Int32)), (3, .int (4 : Int32)), (2, .ref (ad 108)), (0, .ref (ad 97)), (1, .int x1)]) hx hb dX3_parts_9 hl (by decide) rfl (fun ls hl => ?_)
    obtain ⟨n_11, HW⟩ := HW
    exact L11 n_11 x1 (4 : Int32) (0 : Int32) h g _ _ _ HW hG (lv_sub hl [4, 2, 1, 0] rfl)
  exact E0 _ _ _ hG hl

def w_X3_after (x1 : Int32) (x2 : Int32) (h : HI) (g : HL) (Q : Int32 → HI → HL → Prop) : Prop :=
  (∃ P_3 : Int32 → HI → HL → Prop, w_X10_within x1 (0 : Int32) (5 : Int32) h g P_3 ∧ ∀ (r_3 : Int32) (h_3 : HI) (g_3 : HL), zb r_3 → P_3 r_3 h_3 g_3 → ((r_3 = 0 → Q (-1 : Int32) h_3 g_3) ∧ (¬ r_3 = 0 → (∃ P_14 : Int32 → HI → HL → Prop, w_X10_within x2 (0 : Int32) (511 : Int32) h_3 g_3 P_14 ∧ ∀ (r_14 : Int32) (h_14 : HI) (g_14 : HL), zb r_14 → P_14 r_14 h_14 g_14 → ((¬ r_14 = 0 → (vp_in (x1 + (1 : Int32)) 7 ∧ (vp_in x2 512 ∧ Q (h_14 (99 + (x1 + (1 : Int32)).toNatClampNeg) x2.toNatClampNeg) h_14 g_14))) ∧ (r_14 = 0 → Q (-1 : Int32) h_14 g_14))))))
set_option maxHeartbeats 8000000 in
set_option maxRecDepth 100000 in
theorem m_X3_after (l : Launch) (D : va_G) (cy : Nat → ClassId) (ad : Nat → Nat) (h : HI) (g : HL) (sz : Nat) (x1 : Int32) (x2 : Int32) (Q : Int32 → HI → HL → Prop) (HW : w_X3_after x1 x2 h g Q) : Met l yX3_after (wa yX3_after cX3_after 3 (some .int)) ({ frames := 1, cells := 0, slots := 0, locals := 22 }) (va_Pc [.ref (ad 97), .int x1, .int x2] (gI D cy ad h g sz)) (va_Qi (fun (r : Int32) (u : HI × HL) => Q r u.1 u.2) (gB D cy ad sz) (gA ad sz)) 0 0 (gA ad sz) := by
  refine Met.ofW (cc := cX3_after) (maxL := 3) (ret := (some .int)) (by decide) rfl ?_
  intro p e s m args below meth c s₁ B hml hv
  obtain ⟨hav, hsz, hP, hK, hD0, hNw⟩ := hv
  have hx := B.exec
  have hb := B.bytes
  have hr := B.returns
  have hts := atoms_spec (ws := (wa yX3_after cX3_after 3 (some .int))) B.pre
  have hw := wa_hw hts
  have hown : s.vm.findClass RX3 = some m.cls := findClass_of_methodNamed B.named
  have hlocks := B.notSynchronized
  subst hsz
  have hG : gG D cy ad (gA ad s.heap.size) s.heap h g s.heap [] := ⟨hP, gA_self hD0, va_S.rf⟩
  clear hP hD0
  have lk13 := hw (.fieldLink RX3 13 "OldWorks$Givings" "most" "[[I") (wm2 51 rfl rfl)
  rw [show (headSpec (wa yX3_after cX3_after 3 (some .int)) ({ frames := 1, cells := 0, slots := 0, locals := 22 } : Room)).room = ({ frames := 1, cells := 0, slots := 0, locals := 22 } : Room) from rfl]
  have hl := lv_entry ([.ref (ad 97), .int x1, .int x2]) (n := 3) (Nat.le_of_ble_eq_true rfl)
  rw [show entryFrame m args 3 = entryFrame m ([.ref (ad 97), .int x1, .int x2] : List Value).toArray 3 from by rw [hav], lg_entry_eq]
  generalize (lg_sl ([.ref (ad 97), .int x1, .int x2]) ++ List.replicate (3 - (lg_sl ([.ref (ad 97), .int x1, .int x2])).length) Slot.unset).toArray = ls at hl ⊢
  have hl : lv_has ls 3 [(0, .ref (ad 97)), (1, .int x1), (2, .int x2)] := hl
  have E0 : ∀ (H : Heap) (locs : List Loc) (ls : Array Slot), gG D cy ad (gA ad s.heap.size) s.heap h g H locs → lv_has ls 3 [(0, .ref (ad 97)), (1, .int x1), (2, .int x2)] → W p l e ({ frames := 1, cells := 0, slots := 0, locals := 22 } : Room) s m args below meth c H locs 0 0 (MQ below (va_Qi (fun (r : Int32) (u : HI × HL) => Q r u.1 u.2) (gB D cy ad s.heap.size) (gA ad s.heap.size)) args s 0 0 (gA ad s.heap.size)) (F0 m 0 ls []) := by
    intro H locs ls hG hl
    unfold w_X3_after at HW
    refine lv_iload_n hx hb dX3_after_0 rfl (lv_at hl 1 rfl) ?_
    refine lv_iconst (v := 0) hx hb dX3_after_1 (by decide) ?_
    refine lv_iconst (v := 5) hx hb dX3_after_2 (by decide) ?_
    obtain ⟨P_3, HC_3, HW⟩ := HW
    refine g_callz (g_runSN (As := [.int x1, .int (0 : Int32), .int (5 : Int32)]) (rest := []) ⟨hx, hb, hml, hown, hts⟩ (m_X10_within l D cy ad h g H.size x1 (0 : Int32) (5 : Int32) P_3 HC_3) ⟨va_cnB 3 hts (gd_w (wm2 195 rfl rfl)) rfl rfl rfl (hNw _ (List.mem_of_getElem? (i := 3) rfl)) (hw (.initialized RX10) (wm1 1 rfl rfl)) (by decide +kernel) ⟨Nat.le_of_ble_eq_true rfl, Nat.le_of_ble_eq_true rfl⟩, hw (.static yX10_within) (wm2 194 rfl rfl), trivial⟩ hK hNw hG rfl rfl hl.1 rfl (lv_room (Nat.le_of_ble_eq_true rfl)) dX3_after_3 ⟨Nat.zero_le _, Nat.zero_le _⟩) hG (fun r_3 h_3 g_3 H locs hz hq hG => ?_)
    replace HW := HW r_3 h_3 g_3 hz hq
    refine lv_if_eq (tgt := 20) hx hb dX3_after_6 (by decide) (fun c_6 => ?_) (fun c_6 => ?_)
    · replace HW := HW.1 c_6
      refine lv_iconst (v := (-1)) hx hb dX3_after_20 (by decide) ?_
      exact W.iret (v := (-1 : Int32)) hx hb hr (fun t ht hW => ⟨⟨(-1 : Int32), (h_3, g_3), rfl, HW, g_B ht hG⟩, hG.2.2.F ht⟩) hG.2.2.2.2 dX3_after_21
    · replace HW := HW.2 c_6
      refine lv_iload_n hx hb dX3_after_9 rfl (lv_at hl 2 rfl) ?_
      refine lv_iconst (v := 0) hx hb dX3_after_10 (by decide) ?_
      refine lv_sipush (v := 511) hx hb dX3_after_11 (by decide) ?_
      obtain ⟨P_14, HC_14, HW⟩ := HW
      refine g_callz (g_runSN (As := [.int x2, .int (0 : Int32), .int (511 : Int32)]) (rest := []) ⟨hx, hb, hml, hown, hts⟩ (m_X10_within l D cy ad h_3 g_3 H.size x2 (0 : Int32) (511 : Int32) P_14 HC_14) ⟨va_cnB 3 hts (gd_w (wm2 195 rfl rfl)) rfl rfl rfl (hNw _ (List.mem_of_getElem? (i := 3) rfl)) (hw (.initialized RX10) (wm1 1 rfl rfl)) (by decide +kernel) ⟨Nat.le_of_ble_eq_true rfl, Nat.le_of_ble_eq_true rfl⟩, hw (.static yX10_within) (wm2 194 rfl rfl), trivial⟩ hK hNw hG rfl rfl hl.1 rfl (lv_room (Nat.le_of_ble_eq_true rfl)) dX3_after_14 ⟨Nat.zero_le _, Nat.zero_le _⟩) hG (fun r_14 h_14 g_14 H locs hz hq hG => ?_)
      replace HW := HW r_14 h_14 g_14 hz hq
      refine lv_if_ne (tgt := 22) hx hb dX3_after_17 (by decide) (fun c_17 => ?_) (fun c_17 => ?_)
      · replace HW := HW.1 c_17
        refine lv_aload_n hx hb dX3_after_22 rfl (lv_at hl 0 rfl) ?_
        refine g_getr hx hb hw inG3 hown hK hG gl_97 rfl gk_97 (by decide) 1 (by decide) (by rw [gm_97]; decide) (r := 98) gr_97_1 lk13 dX3_after_23 ?_
        refine lv_iload_n hx hb dX3_after_26 rfl (lv_at hl 1 rfl) ?_
        refine lv_iconst (v := 1) hx hb dX3_after_27 (by decide) ?_
        refine lv_iadd hx hb dX3_after_28 ?_
        have hi_29 := vp_lt HW.1
        refine g_aald hx hb hK hG gl_98 gk_98 gn_98 HW.1 (go_98 _ hi_29).1 dX3_after_29 ?_
        replace HW := HW.2
        refine lv_iload_n hx hb dX3_after_30 rfl (lv_at hl 2 rfl) ?_
        refine g_iald hx hb hK hG ((go_98 _ hi_29).2.2.1) ((go_98 _ hi_29).2.1) ((go_98 _ hi_29).2.2.2) HW.1 dX3_after_31 ?_
        replace HW := HW.2
        exact W.iret (v := (h_14 (99 + (x1 + (1 : Int32)).toNatClampNeg) x2.toNatClampNeg)) hx hb hr (fun t ht hW => ⟨⟨(h_14 (99 + (x1 + (1 : Int32)).toNatClampNeg) x2.toNatClampNeg), (h_14, g_14), rfl, HW, g_B ht hG⟩, hG.2.2.F ht⟩) hG.2.2.2.2 dX3_after_32
      · replace HW := HW.2 c_17
        refine lv_iconst (v := (-1)) hx hb dX3_after_20 (by decide) ?_
        exact W.iret (v := (-1 : Int32)) hx hb hr (fun t ht hW => ⟨⟨(-1 : Int32), (h_14, g_14), rfl, HW, g_B ht hG⟩, hG.2.2.F ht⟩) hG.2.2.2.2 dX3_after_21
  exact E0 _ _ _ hG hl

def w_X3_open (x1 : Int32) (x2 : Int32) (h : HI) (g : HL) (Q : Int32 → HI → HL → Prop) : Prop :=
  (∃ P_9 : Int32 → HI → HL → Prop, w_X8_at 12 x1 (0 : Int32) h g P_9 ∧ ∀ (r_9 : Int32) (h_9 : HI) (g_9 : HL), P_9 r_9 h_9 g_9 → (∃ P_22 : Int32 → HI → HL → Prop, w_X10_within r_9 (0 : Int32) ((4 : Int32) - (1 : Int32)) h_9 g_9 P_22 ∧ ∀ (r_22 : Int32) (h_22 : HI) (g_22 : HL), zb r_22 → P_22 r_22 h_22 g_22 → ((r_22 = 0 → Q (0 : Int32) h_22 g_22) ∧ (¬ r_22 = 0 → (vp_in r_9 4 ∧ Q ((h_22 107 r_9.toNatClampNeg) &&& (x2 ^^^ (-1 : Int32))) h_22 g_22)))))
set_option maxHeartbeats 8000000 in
set_option maxRecDepth 100000 in
theorem m_X3_open (l : Launch) (D : va_G) (cy : Nat → ClassId) (ad : Nat → Nat) (h : HI) (g : HL) (sz : Nat) (x1 : Int32) (x2 : Int32) (Q : Int32 → HI → HL → Prop) (HW : w_X3_open x1 x2 h g Q) : Met l yX3_open (wa yX3_open cX3_open 4 (some .int)) ({ frames := 1, cells := 0, slots := 0, locals := 23 }) (va_Pc [.ref (ad 97), .int x1, .int x2] (gI D cy ad h g sz)) (va_Qi (fun (r : Int32) (u : HI × HL) => Q r u.1 u.2) (gB D cy ad sz) (gA ad sz)) 0 0 (gA ad sz) := by
  refine Met.ofW (cc := cX3_open) (maxL := 4) (ret := (some .int)) (by decide) rfl ?_
  intro p e s m args below meth c s₁ B hml hv
  obtain ⟨hav, hsz, hP, hK, hD0, hNw⟩ := hv
  have hx := B.exec
  have hb := B.bytes
  have hr := B.returns
  have hts := atoms_spec (ws := (wa yX3_open cX3_open 4 (some .int))) B.pre
  have hw := wa_hw hts
  have hown : s.vm.findClass RX3 = some m.cls := findClass_of_methodNamed B.named
  have hlocks := B.notSynchronized
  subst hsz
  have hG : gG D cy ad (gA ad s.heap.size) s.heap h g s.heap [] := ⟨hP, gA_self hD0, va_S.rf⟩
  clear hP hD0
  have lk26 := hw (.fieldLink RX3 26 "OldWorks$Givings" "shop" "LOldWorks$Shop;") (wm2 50 rfl rfl)
  have lk33 := hw (.fieldLink RX3 33 "OldWorks$Shop" "machines" "LOldWorks$Table;") (wm1 78 rfl rfl)
  have lk20 := hw (.fieldLink RX3 20 "OldWorks$Givings" "kinds" "[I") (wm2 53 rfl rfl)
  rw [show (headSpec (wa yX3_open cX3_open 4 (some .int)) ({ frames := 1, cells := 0, slots := 0, locals := 23 } : Room)).room = ({ frames := 1, cells := 0, slots := 0, locals := 23 } : Room) from rfl]
  have hl := lv_entry ([.ref (ad 97), .int x1, .int x2]) (n := 4) (Nat.le_of_ble_eq_true rfl)
  rw [show entryFrame m args 4 = entryFrame m ([.ref (ad 97), .int x1, .int x2] : List Value).toArray 4 from by rw [hav], lg_entry_eq]
  generalize (lg_sl ([.ref (ad 97), .int x1, .int x2]) ++ List.replicate (4 - (lg_sl ([.ref (ad 97), .int x1, .int x2])).length) Slot.unset).toArray = ls at hl ⊢
  have hl : lv_has ls 4 [(0, .ref (ad 97)), (1, .int x1), (2, .int x2)] := hl
  have E0 : ∀ (H : Heap) (locs : List Loc) (ls : Array Slot), gG D cy ad (gA ad s.heap.size) s.heap h g H locs → lv_has ls 4 [(0, .ref (ad 97)), (1, .int x1), (2, .int x2)] → W p l e ({ frames := 1, cells := 0, slots := 0, locals := 23 } : Room) s m args below meth c H locs 0 0 (MQ below (va_Qi (fun (r : Int32) (u : HI × HL) => Q r u.1 u.2) (gB D cy ad s.heap.size) (gA ad s.heap.size)) args s 0 0 (gA ad s.heap.size)) (F0 m 0 ls []) := by
    intro H locs ls hG hl
    unfold w_X3_open at HW
    refine lv_aload_n hx hb dX3_open_0 rfl (lv_at hl 0 rfl) ?_
    refine g_getr hx hb hw inG3 hown hK hG gl_97 rfl gk_97 (by decide) 0 (by decide) (by rw [gm_97]; decide) (r := 1) gr_97_0 lk26 dX3_open_1 ?_
    refine g_getr hx hb hw inG6 hown hK hG gl_1 rfl gk_1 (by decide) 5 (by decide) (by rw [gm_1]; decide) (r := 12) gr_1_5 lk33 dX3_open_4 ?_
    refine lv_iload_n hx hb dX3_open_7 rfl (lv_at hl 1 rfl) ?_
    refine lv_iconst (v := 0) hx hb dX3_open_8 (by decide) ?_
    obtain ⟨P_9, HC_9, HW⟩ := HW
    refine g_calli (g_runV (As := [.int x1, .int (0 : Int32)]) (rest := []) ⟨hx, hb, hml, hown, hts⟩ (m_X8_at l D cy ad h g H.size 12 (gs_12) x1 (0 : Int32) P_9 HC_9) (cwV 2 hts (gd_V (wm3 239 rfl rfl) (wm2 221 rfl rfl) (wm2 222 rfl rfl) (wm1 3 rfl rfl) (wm2 223 rfl rfl)) rfl rfl rfl (by decide +kernel) ⟨Nat.le_of_ble_eq_true rfl, Nat.le_of_ble_eq_true rfl⟩) hK hNw hG gl_12 rfl gk_12 (by decide) rfl rfl hl.1 rfl (lv_room (Nat.le_of_ble_eq_true rfl)) dX3_open_9 ⟨Nat.zero_le _, Nat.zero_le _⟩) hG (fun r_9 h_9 g_9 H locs hq hG => ?_)
    replace HW := HW r_9 h_9 g_9 hq
    refine lv_istore_n (lv' := [(3, .int r_9), (0, .ref (ad 97)), (1, .int x1), (2, .int x2)]) hx hb dX3_open_12 rfl hl (by decide) rfl (fun ls hl => ?_)
    refine lv_iload_n hx hb dX3_open_13 rfl (lv_at hl 0 rfl) ?_
    refine lv_iconst (v := 0) hx hb dX3_open_14 (by decide) ?_
    refine lv_aload_n hx hb dX3_open_15 rfl (lv_at hl 1 rfl) ?_
    refine g_getr hx hb hw inG3 hown hK hG gl_97 rfl gk_97 (by decide) 3 (by decide) (by rw [gm_97]; decide) (r := 107) gr_97_3 lk20 dX3_open_16 ?_
    refine g_alen hx hb hK hG gl_107 gk_107 (v := (4 : Int32)) (by rw [gn_107]; decide) dX3_open_19 ?_
    refine lv_iconst (v := 1) hx hb dX3_open_20 (by decide) ?_
    refine lv_isub hx hb dX3_open_21 ?_
    obtain ⟨P_22, HC_22, HW⟩ := HW
    refine g_callz (g_runSN (As := [.int r_9, .int (0 : Int32), .int ((4 : Int32) - (1 : Int32))]) (rest := []) ⟨hx, hb, hml, hown, hts⟩ (m_X10_within l D cy ad h_9 g_9 H.size r_9 (0 : Int32) ((4 : Int32) - (1 : Int32)) P_22 HC_22) ⟨va_cnB 3 hts (gd_w (wm2 195 rfl rfl)) rfl rfl rfl (hNw _ (List.mem_of_getElem? (i := 3) rfl)) (hw (.initialized RX10) (wm1 1 rfl rfl)) (by decide +kernel) ⟨Nat.le_of_ble_eq_true rfl, Nat.le_of_ble_eq_true rfl⟩, hw (.static yX10_within) (wm2 194 rfl rfl), trivial⟩ hK hNw hG rfl rfl hl.1 rfl (lv_room (Nat.le_of_ble_eq_true rfl)) dX3_open_22 ⟨Nat.zero_le _, Nat.zero_le _⟩) hG (fun r_22 h_22 g_22 H locs hz hq hG => ?_)
    replace HW := HW r_22 h_22 g_22 hz hq
    refine lv_if_eq (tgt := 41) hx hb dX3_open_25 (by decide) (fun c_25 => ?_) (fun c_25 => ?_)
    · replace HW := HW.1 c_25
      refine lv_iconst (v := 0) hx hb dX3_open_41 (by decide) ?_
      exact W.iret (v := (0 : Int32)) hx hb hr (fun t ht hW => ⟨⟨(0 : Int32), (h_22, g_22), rfl, HW, g_B ht hG⟩, hG.2.2.F ht⟩) hG.2.2.2.2 dX3_open_42
    · replace HW := HW.2 c_25
      refine lv_aload_n hx hb dX3_open_28 rfl (lv_at hl 1 rfl) ?_
      refine g_getr hx hb hw inG3 hown hK hG gl_97 rfl gk_97 (by decide) 3 (by decide) (by rw [gm_97]; decide) (r := 107) gr_97_3 lk20 dX3_open_29 ?_
      refine lv_iload_n hx hb dX3_open_32 rfl (lv_at hl 0 rfl) ?_
      refine g_iald hx hb hK hG gl_107 gk_107 gn_107 HW.1 dX3_open_33 ?_
      replace HW := HW.2
      refine lv_iload_n hx hb dX3_open_34 rfl (lv_at hl 3 rfl) ?_
      refine lv_iconst (v := (-1)) hx hb dX3_open_35 (by decide) ?_
      refine lv_ixor hx hb dX3_open_36 ?_
      refine lv_iand hx hb dX3_open_37 ?_
      refine lv_goto (tgt := 42) hx hb dX3_open_38 (by decide) ?_
      exact W.iret (v := ((h_22 107 r_9.toNatClampNeg) &&& (x2 ^^^ (-1 : Int32)))) hx hb hr (fun t ht hW => ⟨⟨((h_22 107 r_9.toNatClampNeg) &&& (x2 ^^^ (-1 : Int32))), (h_22, g_22), rfl, HW, g_B ht hG⟩, hG.2.2.F ht⟩) hG.2.2.2.2 dX3_open_42
  exact E0 _ _ _ hG hl
