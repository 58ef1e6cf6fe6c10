section
-- 03.w03
def j_X2_addUp_153 (Q : HI → HL → Prop) (K28 : Int32 → Int32 → Int32 → HI → HL → Prop) (x1 : Int32) (x2 : Int32) (x3 : Int32) (s1 : Int32) (s2 : Int32) (h : HI) (g : HL) : Prop :=
  (∀ h_154 : HI, h_154 = hu h 85 9 (s1 + s2) → (∀ x3_157 : Int32, x3_157 = (x3 + 1) → K28 x1 x2 x3_157 h_154 g))
def j_X2_addUp_118 (Q : HI → HL → Prop) (K28 : Int32 → Int32 → Int32 → HI → HL → Prop) (x1 : Int32) (x2 : Int32) (x3 : Int32) (x4 : Int32) (x5 : Int32) (s1 : Int32) (s2 : Int32) (h : HI) (g : HL) : Prop :=
  (∀ h_119 : HI, h_119 = hu h 85 8 (s1 + s2) → ((x5 = 0 → (vp_in x3 6 ∧ j_X2_addUp_153 Q K28 x1 x2 x3 (h_119 85 9) ((h_119 88 x3.toNatClampNeg) - x4) h_119 g)) ∧ (¬ x5 = 0 → (vp_in x3 6 ∧ j_X2_addUp_153 Q K28 x1 x2 x3 (h_119 85 9) (x4 - (h_119 87 x3.toNatClampNeg)) h_119 g))))
def j_X2_addUp_85 (Q : HI → HL → Prop) (K28 : Int32 → Int32 → Int32 → HI → HL → Prop) (x1 : Int32) (x2 : Int32) (x3 : Int32) (x4 : Int32) (s0 : Int32) (h : HI) (g : HL) : Prop :=
  ((s0 = 0 → (vp_in x3 6 ∧ j_X2_addUp_118 Q K28 x1 x2 x3 x4 s0 (h 85 8) ((h 87 x3.toNatClampNeg) - x4) h g)) ∧ (¬ s0 = 0 → (vp_in x3 6 ∧ j_X2_addUp_118 Q K28 x1 x2 x3 x4 s0 (h 85 8) (x4 - (h 88 x3.toNatClampNeg)) h g)))
def b_X2_addUp_28 (Q : HI → HL → Prop) (K28 : Int32 → Int32 → Int32 → HI → HL → Prop) (x1 : Int32) (x2 : Int32) (x3 : Int32) (h : HI) (g : HL) : Prop :=
  ((x2 ≤ x3 → Q h g) ∧ (¬ x2 ≤ x3 → (((6 : Int32) ≤ x3 → Q h g) ∧ (¬ (6 : Int32) ≤ x3 → (vp_in x3 6 ∧ (∃ P_50 : Int32 → HI → HL → Prop, w_X4_wornOf (h 86 x3.toNatClampNeg) x1 h g P_50 ∧ ∀ (r_50 : Int32) (h_50 : HI) (g_50 : HL), P_50 r_50 h_50 g_50 → (∃ P_73 : Int32 → HI → HL → Prop, w_X8_at 8 (h_50 85 6) (((3 : Int32) + ((2 : Int32) * x3)) + (1 : Int32)) h_50 g_50 P_73 ∧ ∀ (r_73 : Int32) (h_73 : HI) (g_73 : HL), P_73 r_73 h_73 g_73 → ((¬ r_73 = (1 : Int32) → j_X2_addUp_85 Q K28 x1 x2 x3 r_50 (0 : Int32) h_73 g_73) ∧ (r_73 = (1 : Int32) → j_X2_addUp_85 Q K28 x1 x2 x3 r_50 (1 : Int32) h_73 g_73)))))))))
def F_X2_addUp_28 (Q : HI → HL → Prop) (K : Int32 × Int32 × Int32 × HI × HL → Prop) (q : Int32 × Int32 × Int32 × HI × HL) : Prop := b_X2_addUp_28 Q (fun x1 x2 x3 h g => K (x1, x2, x3, h, g)) q.1 q.2.1 q.2.2.1 q.2.2.2.1 q.2.2.2.2
def w_X2_addUp (x1 : Int32) (h : HI) (g : HL) (Q : HI → HL → Prop) : Prop :=
  (∀ h_2 : HI, h_2 = hu h 85 8 (0 : Int32) → (∀ h_7 : HI, h_7 = hu h_2 85 9 (0 : Int32) → (∃ P_22 : Int32 → HI → HL → Prop, w_X8_at 8 (h_7 85 6) (2 : Int32) h_7 g P_22 ∧ ∀ (r_22 : Int32) (h_22 : HI) (g_22 : HL), P_22 r_22 h_22 g_22 → lpE (F_X2_addUp_28 Q) (x1, r_22, (0 : Int32), h_22, g_22))))
set_option maxHeartbeats 8000000 in
set_option maxRecDepth 100000 in
theorem m_X2_addUp (l : Launch) (D : va_G) (cy : Nat → ClassId) (ad : Nat → Nat) (h : HI) (g : HL) (sz : Nat) (x1 : Int32) (Q : HI → HL → Prop) (HW : w_X2_addUp x1 h g Q) : Met l yX2_addUp (wa yX2_addUp cX2_addUp 6 none) ({ frames := 3, cells := 0, slots := 0, locals := 75 }) (va_Pc [.ref (ad 85), .int x1] (gI D cy ad h g sz)) (va_Qv (fun (u : HI × HL) => Q u.1 u.2) (gB D cy ad sz) (gA ad sz)) 0 0 (gA ad sz) := by
  refine Met.ofW (cc := cX2_addUp) (maxL := 6) (ret := none) (by decide) rfl ?_
  intro p e s m args below meth c s₁ B hml hv
  obtain ⟨hav, hsz, hP, hK, hD0, hNw⟩ := hv
  have hx := B.exec
  have hb := B.bytes
  have hr := B.returns
  have hts := atoms_spec (ws := (wa yX2_addUp cX2_addUp 6 none)) B.pre
  have hw := wa_hw hts
  have hown : s.vm.findClass RX2 = some m.cls := findClass_of_methodNamed B.named
  have hlocks := B.notSynchronized
  subst hsz
  have hG : gG D cy ad (gA ad s.heap.size) s.heap h g s.heap [] := ⟨hP, gA_self hD0, va_S.rf⟩
  clear hP hD0
  have lk66 := hw (.fieldLink RX2 66 "OldWorks$Fits" "least" "I") (wm1 223 rfl rfl)
  have lk67 := hw (.fieldLink RX2 67 "OldWorks$Fits" "greatest" "I") (wm1 225 rfl rfl)
  have lk21 := hw (.fieldLink RX2 21 "OldWorks$Fits" "shop" "LOldWorks$Shop;") (wm1 214 rfl rfl)
  have lk41 := hw (.fieldLink RX2 41 "OldWorks$Shop" "chains" "LOldWorks$Table;") (wm1 72 rfl rfl)
  have lk33 := hw (.fieldLink RX2 33 "OldWorks$Fits" "chain" "I") (wm1 220 rfl rfl)
  have lk25 := hw (.fieldLink RX2 25 "OldWorks$Fits" "law" "LOldWorks$Law;") (wm1 215 rfl rfl)
  have lk9 := hw (.fieldLink RX2 9 "OldWorks$Fits" "parts" "[I") (wm1 217 rfl rfl)
  have lk15 := hw (.fieldLink RX2 15 "OldWorks$Fits" "leasts" "[I") (wm1 218 rfl rfl)
  have lk18 := hw (.fieldLink RX2 18 "OldWorks$Fits" "greatests" "[I") (wm1 219 rfl rfl)
  rw [show (headSpec (wa yX2_addUp cX2_addUp 6 none) ({ frames := 3, cells := 0, slots := 0, locals := 75 } : Room)).room = ({ frames := 3, cells := 0, slots := 0, locals := 75 } : Room) from rfl]
  have hl := lv_entry ([.ref (ad 85), .int x1]) (n := 6) (Nat.le_of_ble_eq_true rfl)
  rw [show entryFrame m args 6 = entryFrame m ([.ref (ad 85), .int x1] : List Value).toArray 6 from by rw [hav], lg_entry_eq]
  generalize (lg_sl ([.ref (ad 85), .int x1]) ++ List.replicate (6 - (lg_sl ([.ref (ad 85), .int x1])).length) Slot.unset).toArray = ls at hl ⊢
  have hl : lv_has ls 6 [(0, .ref (ad 85)), (1, .int x1)] := hl
  have B153 : ∀ (K28 : Int32 → Int32 → Int32 → HI → HL → Prop) (hK28 : ∀ (x1 : Int32) (x2 : Int32) (x3 : Int32) (h : HI) (g : HL) (H : Heap) (locs : List Loc) (ls : Array Slot), K28 x1 x2 x3 h g → gG D cy ad (gA ad s.heap.size) s.heap h g H locs → lv_has ls 6 [(0, .ref (ad 85)), (1, .int x1), (2, .int x2), (3, .int x3)] → W p l e ({ frames := 3, cells := 0, slots := 0, locals := 75 } : Room) s m args below meth c H locs 0 0 (MQ below (va_Qv (fun (u : HI × HL) => Q u.1 u.2) (gB D cy ad s.heap.size) (gA ad s.heap.size)) args s 0 0 (gA ad s.heap.size)) (F0 m 28 ls [])) (x1 : Int32) (x2 : Int32) (x3 : Int32) (s1 : Int32) (s2 : Int32) (h : HI) (g : HL) (H : Heap) (locs : List Loc) (ls : Array Slot), j_X2_addUp_153 Q K28 x1 x2 x3 s1 s2 h g → gG D cy ad (gA ad s.heap.size) s.heap h g H locs → lv_has ls 6 [(0, .ref (ad 85)), (1, .int x1), (2, .int x2), (3, .int x3)] → W p l e ({ frames := 3, cells := 0, slots := 0, locals := 75 } : Room) s m args below meth c H locs 0 0 (MQ below (va_Qv (fun (u : HI × HL) => Q u.1 u.2) (gB D cy ad s.heap.size) (gA ad s.heap.size)) args s 0 0 (gA ad s.heap.size)) (F0 m 153 ls [.int s2, .int s1, .ref (ad 85)]) := by
    intro K28 hK28 x1 x2 x3 s1 s2 h g H locs ls HW hG hl
    unfold j_X2_addUp_153 at HW
    refine lv_iadd hx hb dX2_addUp_153 ?_
    refine g_put hx hb hw inG2 tyX2 tyX2_ok nmX2 hown hK hG gl_85 rfl gk_85 (by decide) 9 (by decide) (by rw [gm_85]; decide) gr_85_9 rfl (ty := .int) (by decide +kernel) rfl rfl lk67 dX2_addUp_154 (fun H locs hG => ?_)
    obtain ⟨h_154, eh_154⟩ : ∃ y : HI, y = hu h 85 9 (s1 + s2) := ⟨_, rfl⟩
    rw [← eh_154] at hG
    replace HW := HW h_154 eh_154
    obtain ⟨x3_157, ex3_157⟩ : ∃ y : Int32, y = (x3 + 1) := ⟨_, rfl⟩
    replace HW := HW x3_157 ex3_157
    refine lv_iinc (v := x3_157) (lv' := [(3, .int x3_157), (0, .ref (ad 85)), (1, .int x1), (2, .int x2)]) hx hb dX2_addUp_157 hl (k := 3) rfl (by rw [ex3_157]; rfl) (by decide) rfl (fun ls hl => ?_)
    refine lv_goto (tgt := 28) hx hb dX2_addUp_160 (by decide) ?_
    exact hK28 x1 x2 x3_157 h_154 g _ _ _ HW hG (lv_sub hl [1, 2, 3, 0] rfl)
  have B118 : ∀ (K28 : Int32 → Int32 → Int32 → HI → HL → Prop) (hK28 : ∀ (x1 : Int32) (x2 : Int32) (x3 : Int32) (h : HI) (g : HL) (H : Heap) (locs : List Loc) (ls : Array Slot), K28 x1 x2 x3 h g → gG D cy ad (gA ad s.heap.size) s.heap h g H locs → lv_has ls 6 [(0, .ref (ad 85)), (1, .int x1), (2, .int x2), (3, .int x3)] → W p l e ({ frames := 3, cells := 0, slots := 0, locals := 75 } : Room) s m args below meth c H locs 0 0 (MQ below (va_Qv (fun (u : HI × HL) => Q u.1 u.2) (gB D cy ad s.heap.size) (gA ad s.heap.size)) args s 0 0 (gA ad s.heap.size)) (F0 m 28 ls [])) (x1 : Int32) (x2 : Int32) (x3 : Int32) (x4 : Int32) (x5 : Int32) (s1 : Int32) (s2 : Int32) (h : HI) (g : HL) (H : Heap) (locs : List Loc) (ls : Array Slot), j_X2_addUp_118 Q K28 x1 x2 x3 x4 x5 s1 s2 h g → gG D cy ad (gA ad s.heap.size) s.heap h g H locs → lv_has ls 6 [(0, .ref (ad 85)), (1, .int x1), (2, .int x2), (3, .int x3), (4, .int x4), (5, .int x5)] → W p l e ({ frames := 3, cells := 0, slots := 0, locals := 75 } : Room) s m args below meth c H locs 0 0 (MQ below (va_Qv (fun (u : HI × HL) => Q u.1 u.2) (gB D cy ad s.heap.size) (gA ad s.heap.size)) args s 0 0 (gA ad s.heap.size)) (F0 m 118 ls [.int s2, .int s1, .ref (ad 85)]) := by
    intro K28 hK28 x1 x2 x3 x4 x5 s1 s2 h g H locs ls HW hG hl
    unfold j_X2_addUp_118 at HW
    refine lv_iadd hx hb dX2_addUp_118 ?_
    refine g_put hx hb hw inG2 tyX2 tyX2_ok nmX2 hown hK hG gl_85 rfl gk_85 (by decide) 8 (by decide) (by rw [gm_85]; decide) gr_85_8 rfl (ty := .int) (by decide +kernel) rfl rfl lk66 dX2_addUp_119 (fun H locs hG => ?_)
    obtain ⟨h_119, eh_119⟩ : ∃ y : HI, y = hu h 85 8 (s1 + s2) := ⟨_, rfl⟩
    rw [← eh_119] at hG
    replace HW := HW h_119 eh_119
    refine lv_aload_n hx hb dX2_addUp_122 rfl (lv_at hl 0 rfl) ?_
    refine lv_dup hx hb dX2_addUp_123 rfl ?_
    refine g_geti hx hb hw inG2 hown hK hG gl_85 rfl gk_85 (by decide) 9 (by decide) (by rw [gm_85]; decide) gr_85_9 lk67 dX2_addUp_124 ?_
    refine lv_iload hx hb dX2_addUp_127 (lv_at hl 5 rfl) ?_
    refine lv_if_eq (tgt := 144) hx hb dX2_addUp_129 (by decide) (fun c_129 => ?_) (fun c_129 => ?_)
    · replace HW := HW.1 c_129
      refine lv_aload_n hx hb dX2_addUp_144 rfl (lv_at hl 0 rfl) ?_
      refine g_getr hx hb hw inG2 hown hK hG gl_85 rfl gk_85 (by decide) 5 (by decide) (by rw [gm_85]; decide) (r := 88) gr_85_5 lk18 dX2_addUp_145 ?_
      refine lv_iload_n hx hb dX2_addUp_148 rfl (lv_at hl 3 rfl) ?_
      refine g_iald hx hb hK hG gl_88 gk_88 gn_88 HW.1 dX2_addUp_149 ?_
      replace HW := HW.2
      refine lv_iload hx hb dX2_addUp_150 (lv_at hl 4 rfl) ?_
      refine lv_isub hx hb dX2_addUp_152 ?_
      exact B153 K28 hK28 x1 x2 x3 (h_119 85 9) ((h_119 88 x3.toNatClampNeg) - x4) h_119 g _ _ _ HW hG (lv_sub hl [0, 1, 2, 3] rfl)
    · replace HW := HW.2 c_129
      refine lv_iload hx hb dX2_addUp_132 (lv_at hl 4 rfl) ?_
      refine lv_aload_n hx hb dX2_addUp_134 rfl (lv_at hl 0 rfl) ?_
      refine g_getr hx hb hw inG2 hown hK hG gl_85 rfl gk_85 (by decide) 4 (by decide) (by rw [gm_85]; decide) (r := 87) gr_85_4 lk15 dX2_addUp_135 ?_
      refine lv_iload_n hx hb dX2_addUp_138 rfl (lv_at hl 3 rfl) ?_
      refine g_iald hx hb hK hG gl_87 gk_87 gn_87 HW.1 dX2_addUp_139 ?_
      replace HW := HW.2
      refine lv_isub hx hb dX2_addUp_140 ?_
      refine lv_goto (tgt := 153) hx hb dX2_addUp_141 (by decide) ?_
      exact B153 K28 hK28 x1 x2 x3 (h_119 85 9) (x4 - (h_119 87 x3.toNatClampNeg)) h_119 g _ _ _ HW hG (lv_sub hl [0, 1, 2, 3] rfl)
  have B85 : ∀ (K28 : Int32 → Int32 → Int32 → HI → HL → Prop) (hK28 : ∀ (x1 : Int32) (x2 : Int32) (x3 : Int32) (h : HI) (g : HL) (H : Heap) (locs : List Loc) (ls : Array Slot), K28 x1 x2 x3 h g → gG D cy ad (gA ad s.heap.size) s.heap h g H locs → lv_has ls 6 [(0, .ref (ad 85)), (1, .int x1), (2, .int x2), (3, .int x3)] → W p l e ({ frames := 3, cells := 0, slots := 0, locals := 75 } : Room) s m args below meth c H locs 0 0 (MQ below (va_Qv (fun (u : HI × HL) => Q u.1 u.2) (gB D cy ad s.heap.size) (gA ad s.heap.size)) args s 0 0 (gA ad s.heap.size)) (F0 m 28 ls [])) (x1 : Int32) (x2 : Int32) (x3 : Int32) (x4 : Int32) (s0 : Int32) (h : HI) (g : HL) (H : Heap) (locs : List Loc) (ls : Array Slot), j_X2_addUp_85 Q K28 x1 x2 x3 x4 s0 h g → gG D cy ad (gA ad s.heap.size) s.heap h g H locs → lv_has ls 6 [(0, .ref (ad 85)), (1, .int x1), (2, .int x2), (3, .int x3), (4, .int x4)] → W p l e ({ frames := 3, cells := 0, slots := 0, locals := 75 } : Room) s m args below meth c H locs 0 0 (MQ below (va_Qv (fun (u : HI × HL) => Q u.1 u.2) (gB D cy ad s.heap.size) (gA ad s.heap.size)) args s 0 0 (gA ad s.heap.size)) (F0 m 85 ls [.int s0]) := by
    intro K28 hK28 x1 x2 x3 x4 s0 h g H locs ls HW hG hl
    unfold j_X2_addUp_85 at HW
    refine lv_istore (lv' := [(5, .int s0), (0, .ref (ad 85)), (1, .int x1), (2, .int x2), (3, .int x3), (4, .int x4)]) hx hb dX2_addUp_85 hl (by decide) rfl (fun ls hl => ?_)
    refine lv_aload_n hx hb dX2_addUp_87 rfl (lv_at hl 1 rfl) ?_
    refine lv_dup hx hb dX2_addUp_88 rfl ?_
    refine g_geti hx hb hw inG2 hown hK hG gl_85 rfl gk_85 (by decide) 8 (by decide) (by rw [gm_85]; decide) gr_85_8 lk66 dX2_addUp_89 ?_
    refine lv_iload hx hb dX2_addUp_92 (lv_at hl 0 rfl) ?_
    refine lv_if_eq (tgt := 109) hx hb dX2_addUp_94 (by decide) (fun c_94 => ?_) (fun c_94 => ?_)
    · replace HW := HW.1 c_94
      refine lv_aload_n hx hb dX2_addUp_109 rfl (lv_at hl 1 rfl) ?_
      refine g_getr hx hb hw inG2 hown hK hG gl_85 rfl gk_85 (by decide) 4 (by decide) (by rw [gm_85]; decide) (r := 87) gr_85_4 lk15 dX2_addUp_110 ?_
      refine lv_iload_n hx hb dX2_addUp_113 rfl (lv_at hl 4 rfl) ?_
      refine g_iald hx hb hK hG gl_87 gk_87 gn_87 HW.1 dX2_addUp_114 ?_
      replace HW := HW.2
      refine lv_iload hx hb dX2_addUp_115 (lv_at hl 5 rfl) ?_
      refine lv_isub hx hb dX2_addUp_117 ?_
      exact B118 K28 hK28 x1 x2 x3 x4 s0 (h 85 8) ((h 87 x3.toNatClampNeg) - x4) h g _ _ _ HW hG (lv_sub hl [1, 2, 3, 4, 5, 0] rfl)
    · replace HW := HW.2 c_94
      refine lv_iload hx hb dX2_addUp_97 (lv_at hl 5 rfl) ?_
      refine lv_aload_n hx hb dX2_addUp_99 rfl (lv_at hl 1 rfl) ?_
      refine g_getr hx hb hw inG2 hown hK hG gl_85 rfl gk_85 (by decide) 5 (by decide) (by rw [gm_85]; decide) (r := 88) gr_85_5 lk18 dX2_addUp_100 ?_
      refine lv_iload_n hx hb dX2_addUp_103 rfl (lv_at hl 4 rfl) ?_
      refine g_iald hx hb hK hG gl_88 gk_88 gn_88 HW.1 dX2_addUp_104 ?_
      replace HW := HW.2
      refine lv_isub hx hb dX2_addUp_105 ?_
      refine lv_goto (tgt := 118) hx hb dX2_addUp_106 (by decide) ?_
      exact B118 K28 hK28 x1 x2 x3 x4 s0 (h 85 8) (x4 - (h 88 x3.toNatClampNeg)) h g _ _ _ HW hG (lv_sub hl [1, 2, 3, 4, 5, 0] rfl)
  have L28 : ∀ (n : Nat) (x1 : Int32) (x2 : Int32) (x3 : Int32) (h : HI) (g : HL) (H : Heap) (locs : List Loc) (ls : Array Slot), lpN (F_X2_addUp_28 Q) n (x1, x2, x3, h, g) → gG D cy ad (gA ad s.heap.size) s.heap h g H locs → lv_has ls 6 [(0, .ref (ad 85)), (1, .int x1), (2, .int x2), (3, .int x3)] → W p l e ({ frames := 3, cells := 0, slots := 0, locals := 75 } : Room) s m args below meth c H locs 0 0 (MQ below (va_Qv (fun (u : HI × HL) => Q u.1 u.2) (gB D cy ad s.heap.size) (gA ad s.heap.size)) args s 0 0 (gA ad s.heap.size)) (F0 m 28 ls []) := by
    intro n
    induction n with
    | zero => intro x1 x2 x3 h g H locs ls HW; exact HW.elim
    | succ n ih =>
      intro x1 x2 x3 h g H locs ls HW hG hl
      have HW : b_X2_addUp_28 Q (fun x1 x2 x3 h g => lpN (F_X2_addUp_28 Q) n (x1, x2, x3, h, g)) x1 x2 x3 h g := HW
      generalize hKe : (fun (x1 : Int32) (x2 : Int32) (x3 : Int32) (h : HI) (g : HL) => lpN (F_X2_addUp_28 Q) n (x1, x2, x3, h, g)) = K28 at HW
      have hK28 : ∀ (x1 : Int32) (x2 : Int32) (x3 : Int32) (h : HI) (g : HL) (H : Heap) (locs : List Loc) (ls : Array Slot), K28 x1 x2 x3 h g → gG D cy ad (gA ad s.heap.size) s.heap h g H locs → lv_has ls 6 [(0, .ref (ad 85)), (1, .int x1), (2, .int x2), (3, .int x3)] → W p l e ({ frames := 3, cells := 0, slots := 0, locals := 75 } : Room) s m args below meth c H locs 0 0 (MQ below (va_Qv (fun (u : HI × HL) => Q u.1 u.2) (gB D cy ad s.heap.size) (gA ad s.heap.size)) args s 0 0 (gA ad s.heap.size)) (F0 m 28 ls []) := by subst hKe; exact ih
      clear ih
      clear hKe
      unfold b_X2_addUp_28 at HW
      refine lv_iload_n hx hb dX2_addUp_28 rfl (lv_at hl 3 rfl) ?_
      refine lv_iload_n hx hb dX2_addUp_29 rfl (lv_at hl 2 rfl) ?_
      refine lv_icmp_ge (tgt := 163) hx hb dX2_addUp_30 (by decide) (fun c_30 => ?_) (fun c_30 => ?_)
      · replace HW := HW.1 c_30
        exact W.vret hx hb hr (fun t ht hW => ⟨⟨(h, g), rfl, HW, g_B ht hG⟩, hG.2.2.F ht⟩) hG.2.2.2.2 dX2_addUp_163
      · replace HW := HW.2 c_30
        refine lv_iload_n hx hb dX2_addUp_33 rfl (lv_at hl 3 rfl) ?_
        refine lv_bipush (v := 6) hx hb dX2_addUp_34 (by decide) ?_
        refine lv_icmp_ge (tgt := 163) hx hb dX2_addUp_36 (by decide) (fun c_36 => ?_) (fun c_36 => ?_)
        · replace HW := HW.1 c_36
          exact W.vret hx hb hr (fun t ht hW => ⟨⟨(h, g), rfl, HW, g_B ht hG⟩, hG.2.2.F ht⟩) hG.2.2.2.2 dX2_addUp_163
        · replace HW := HW.2 c_36
          refine lv_aload_n hx hb dX2_addUp_39 rfl (lv_at hl 0 rfl) ?_
          refine g_getr hx hb hw inG2 hown hK hG gl_85 rfl gk_85 (by decide) 1 (by decide) (by rw [gm_85]; decide) (r := 77) gr_85_1 lk25 dX2_addUp_40 ?_
          refine lv_aload_n hx hb dX2_addUp_43 rfl (lv_at hl 0 rfl) ?_
          refine g_getr hx hb hw inG2 hown hK hG gl_85 rfl gk_85 (by decide) 3 (by decide) (by rw [gm_85]; decide) (r := 86) gr_85_3 lk9 dX2_addUp_44 ?_
          refine lv_iload_n hx hb dX2_addUp_47 rfl (lv_at hl 3 rfl) ?_
          refine g_iald hx hb hK hG gl_86 gk_86 gn_86 HW.1 dX2_addUp_48 ?_
          replace HW := HW.2
          refine lv_iload_n hx hb dX2_addUp_49 rfl (lv_at hl 1 rfl) ?_
          obtain ⟨P_50, HC_50, HW⟩ := HW
          refine g_calli (g_runV (As := [.int (h 86 x3.toNatClampNeg), .int x1]) (rest := []) ⟨hx, hb, hml, hown, hts⟩ (m_X4_wornOf l D cy ad h g H.size (h 86 x3.toNatClampNeg) x1 P_50 HC_50) (cwV 2 hts (gd_V (wm3 163 rfl rfl) (wm3 41 rfl rfl) (wm3 42 rfl rfl) (wm1 4 rfl rfl) (wm3 43 rfl rfl)) rfl rfl rfl (by decide +kernel) ⟨Nat.le_of_ble_eq_true rfl, Nat.le_of_ble_eq_true rfl⟩) hK hNw hG gl_77 rfl gk_77 (by decide) rfl rfl hl.1 rfl (lv_room (Nat.le_of_ble_eq_true rfl)) dX2_addUp_50 ⟨Nat.zero_le _, Nat.zero_le _⟩) hG (fun r_50 h_50 g_50 H locs hq hG => ?_)
          replace HW := HW r_50 h_50 g_50 hq
          refine lv_istore (lv' := [(4, .int r_50), (0, .ref (ad 85)), (1, .int x1), (2, .int x2), (3, .int x3)]) hx hb dX2_addUp_53 hl (by decide) rfl (fun ls hl => ?_)
          refine lv_aload_n hx hb dX2_addUp_55 rfl (lv_at hl 1 rfl) ?_
          refine g_getr hx hb hw inG2 hown hK hG gl_85 rfl gk_85 (by decide) 0 (by decide) (by rw [gm_85]; decide) (r := 1) gr_85_0 lk21 dX2_addUp_56 ?_
          refine g_getr hx hb hw inG6 hown hK hG gl_1 rfl gk_1 (by decide) 3 (by decide) (by rw [gm_1]; decide) (r := 8) gr_1_3 lk41 dX2_addUp_59 ?_
          refine lv_aload_n hx hb dX2_addUp_62 rfl (lv_at hl 1 rfl) ?_
          refine g_geti hx hb hw inG2 hown hK hG gl_85 rfl gk_85 (by decide) 6 (by decide) (by rw [gm_85]; decide) gr_85_6 lk33 dX2_addUp_63 ?_
          refine lv_iconst (v := 3) hx hb dX2_addUp_66 (by decide) ?_
          refine lv_iconst (v := 2) hx hb dX2_addUp_67 (by decide) ?_
          refine lv_iload_n hx hb dX2_addUp_68 rfl (lv_at hl 4 rfl) ?_
          refine lv_imul hx hb dX2_addUp_69 ?_
          refine lv_iadd hx hb dX2_addUp_70 ?_
          refine lv_iconst (v := 1) hx hb dX2_addUp_71 (by decide) ?_
          refine lv_iadd hx hb dX2_addUp_72 ?_
          obtain ⟨P_73, HC_73, HW⟩ := HW
          refine g_calli (g_runV (As := [.int (h_50 85 6), .int (((3 : Int32) + ((2 : Int32) * x3)) + (1 : Int32))]) (rest := []) ⟨hx, hb, hml, hown, hts⟩ (m_X8_at l D cy ad h_50 g_50 H.size 8 (gs_8) (h_50 85 6) (((3 : Int32) + ((2 : Int32) * x3)) + (1 : Int32)) P_73 HC_73) (cwV 2 hts (gd_V (wm3 153 rfl rfl) (wm2 221 rfl rfl) (wm2 222 rfl rfl) (wm1 3 rfl rfl) (wm2 223 rfl rfl)) rfl rfl rfl (by decide +kernel) ⟨Nat.le_of_ble_eq_true rfl, Nat.le_of_ble_eq_true rfl⟩) hK hNw hG gl_8 rfl gk_8 (by decide) rfl rfl hl.1 rfl (lv_room (Nat.le_of_ble_eq_true rfl)) dX2_addUp_73 ⟨Nat.zero_le _, Nat.zero_le _⟩) hG (fun r_73 h_73 g_73 H locs hq hG => ?_)
          replace HW := HW r_73 h_73 g_73 hq
          refine lv_iconst (v := 1) hx hb dX2_addUp_76 (by decide) ?_
          refine lv_icmp_ne (tgt := 84) hx hb dX2_addUp_77 (by decide) (fun c_77 => ?_) (fun c_77 => ?_)
          · replace HW := HW.1 c_77
            refine lv_iconst (v := 0) hx hb dX2_addUp_84 (by decide) ?_
            exact B85 K28 hK28 x1 x2 x3 r_50 (0 : Int32) h_73 g_73 _ _ _ HW hG (lv_sub hl [1, 2, 3, 4, 0] rfl)
          · replace HW := HW.2 c_77
            refine lv_iconst (v := 1) hx hb dX2_addUp_80 (by decide) ?_
            refine lv_goto (tgt := 85) hx hb dX2_addUp_81 (by decide) ?_
            exact B85 K28 hK28 x1 x2 x3 r_50 (1 : Int32) h_73 g_73 _ _ _ HW hG (lv_sub hl [1, 2, 3, 4, 0] rfl)
  have E0 : ∀ (H : Heap) (locs : List Loc) (ls : Array Slot), gG D cy ad (gA ad s.heap.size) s.heap h g H locs → lv_has ls 6 [(0, .ref (ad 85)), (1, .int x1)] → W p l e ({ frames := 3, cells := 0, slots := 0, locals := 75 } : Room) s m args below meth c H locs 0 0 (MQ below (va_Qv (fun (u : HI × HL) => Q u.1 u.2) (gB D cy ad s.heap.size) (gA ad s.heap.size)) args s 0 0 (gA ad s.heap.size)) (F0 m 0 ls []) := by
    intro H locs ls hG hl
    unfold w_X2_addUp at HW
    refine lv_aload_n hx hb dX2_addUp_0 rfl (lv_at hl 0 rfl) ?_
    refine lv_iconst (v := 0) hx hb dX2_addUp_1 (by decide) ?_
    refine g_put hx hb hw inG2 tyX2 tyX2_ok nmX2 hown hK hG gl_85 rfl gk_85 (by decide) 8 (by decide) (by rw [gm_85]; decide) gr_85_8 rfl (ty := .int) (by decide +kernel) rfl rfl lk66 dX2_addUp_2 (fun H locs hG => ?_)
    obtain ⟨h_2, eh_2⟩ : ∃ y : HI, y = hu h 85 8 (0 : Int32) := ⟨_, rfl⟩
    rw [← eh_2] at hG
    replace HW := HW h_2 eh_2
    refine lv_aload_n hx hb dX2_addUp_5 rfl (lv_at hl 0 rfl) ?_
    refine lv_iconst (v := 0) hx hb dX2_addUp_6 (by decide) ?_
    refine g_put hx hb hw inG2 tyX2 tyX2_ok nmX2 hown hK hG gl_85 rfl gk_85 (by decide) 9 (by decide) (by rw [gm_85]; decide) gr_85_9 rfl (ty := .int) (by decide +kernel) rfl rfl lk67 dX2_addUp_7 (fun H locs hG => ?_)
    obtain ⟨h_7, eh_7⟩ : ∃ y : HI, y = hu h_2 85 9 (0 : Int32) := ⟨_, rfl⟩
    rw [← eh_7] at hG
    replace HW := HW h_7 eh_7
    refine lv_aload_n hx hb dX2_addUp_10 rfl (lv_at hl 0 rfl) ?_
    refine g_getr hx hb hw inG2 hown hK hG gl_85 rfl gk_85 (by decide) 0 (by decide) (by rw [gm_85]; decide) (r := 1) gr_85_0 lk21 dX2_addUp_11 ?_
    refine g_getr hx hb hw inG6 hown hK hG gl_1 rfl gk_1 (by decide) 3 (by decide) (by rw [gm_1]; decide) (r := 8) gr_1_3 lk41 dX2_addUp_14 ?_
    refine lv_aload_n hx hb dX2_addUp_17 rfl (lv_at hl 0 rfl) ?_
    refine g_geti hx hb hw inG2 hown hK hG gl_85 rfl gk_85 (by decide) 6 (by decide) (by rw [gm_85]; decide) gr_85_6 lk33 dX2_addUp_18 ?_
    refine lv_iconst (v := 2) hx hb dX2_addUp_21 (by decide) ?_
    obtain ⟨P_22, HC_22, HW⟩ := HW
    refine g_calli (g_runV (As := [.int (h_7 85 6), .int (2 : Int32)]) (rest := []) ⟨hx, hb, hml, hown, hts⟩ (m_X8_at l D cy ad h_7 g H.size 8 (gs_8) (h_7 85 6) (2 : Int32) P_22 HC_22) (cwV 2 hts (gd_V (wm3 153 rfl rfl) (wm2 221 rfl rfl) (wm2 222 rfl rfl) (wm1 3 rfl rfl) (wm2 223 rfl rfl)) rfl rfl rfl (by decide +kernel) ⟨Nat.le_of_ble_eq_true rfl, Nat.le_of_ble_eq_true rfl⟩) hK hNw hG gl_8 rfl gk_8 (by decide) rfl rfl hl.1 rfl (lv_room (Nat.le_of_ble_eq_true rfl)) dX2_addUp_22 ⟨Nat.zero_le _, Nat.zero_le _⟩) hG (fun r_22 h_22 g_22 H locs hq hG => ?_)
    replace HW := HW r_22 h_22 g_22 hq
    refine lv_istore_n (lv' := [(2, .int r_22), (0, .ref (ad 85)), (1, .int x1)]) hx hb dX2_addUp_25 rfl hl (by decide) rfl (fun ls hl => ?_)
    refine lv_iconst (v := 0) hx hb dX2_addUp_26 (by decide) ?_
    refine lv_istore_n (lv' := [(3, .int (0 : Int32)), (2, .int r_22), (0, .ref (ad 85)), (1, .int x1)]) hx hb dX2_addUp_27 rfl hl (by decide) rfl (fun ls hl => ?_)
    obtain ⟨n_28, HW⟩ := HW
    exact L28 n_28 x1 r_22 (0 : Int32) h_22 g_22 _ _ _ HW hG (lv_sub hl [2, 3, 1, 0] rfl)
  exact E0 _ _ _ hG hl

def w_X2_holdIn (x1 : Int32) (h : HI) (g : HL) (Q : Int32 → HI → HL → Prop) : Prop :=
  ((¬ (h 85 7) = 0 → (∃ P_11 : HI → HL → Prop, w_X2_addUp x1 h g P_11 ∧ ∀ (h_11 : HI) (g_11 : HL), P_11 h_11 g_11 → (∃ P_26 : Int32 → HI → HL → Prop, w_X8_at 8 (h_11 85 6) (0 : Int32) h_11 g_11 P_26 ∧ ∀ (r_26 : Int32) (h_26 : HI) (g_26 : HL), P_26 r_26 h_26 g_26 → (((h_26 85 8) < r_26 → Q (0 : Int32) h_26 g_26) ∧ (¬ (h_26 85 8) < r_26 → (∃ P_52 : Int32 → HI → HL → Prop, w_X8_at 8 (h_26 85 6) (1 : Int32) h_26 g_26 P_52 ∧ ∀ (r_52 : Int32) (h_52 : HI) (g_52 : HL), P_52 r_52 h_52 g_52 → ((r_52 < (h_26 85 9) → Q (0 : Int32) h_52 g_52) ∧ (¬ r_52 < (h_26 85 9) → Q (1 : Int32) h_52 g_52)))))))) ∧ ((h 85 7) = 0 → Q (0 : Int32) h g))
set_option maxHeartbeats 8000000 in
set_option maxRecDepth 100000 in
theorem m_X2_holdIn (l : Launch) (D : va_G) (cy : Nat → ClassId) (ad : Nat → Nat) (h : HI) (g : HL) (sz : Nat) (x1 : Int32) (Q : Int32 → HI → HL → Prop) (HW : w_X2_holdIn x1 h g Q) : Met l yX2_holdIn (wa yX2_holdIn cX2_holdIn 2 (some .boolean)) ({ frames := 4, cells := 0, slots := 0, locals := 100 }) (va_Pc [.ref (ad 85), .int x1] (gI D cy ad h g sz)) (va_Qi (fun (r : Int32) (u : HI × HL) => zb r ∧ Q r u.1 u.2) (gB D cy ad sz) (gA ad sz)) 0 0 (gA ad sz) := by
  refine Met.ofW (cc := cX2_holdIn) (maxL := 2) (ret := (some .boolean)) (by decide) rfl ?_
  intro p e s m args below meth c s₁ B hml hv
  obtain ⟨hav, hsz, hP, hK, hD0, hNw⟩ := hv
  have hx := B.exec
  have hb := B.bytes
  have hr := B.returns
  have hts := atoms_spec (ws := (wa yX2_holdIn cX2_holdIn 2 (some .boolean))) B.pre
  have hw := wa_hw hts
  have hown : s.vm.findClass RX2 = some m.cls := findClass_of_methodNamed B.named
  have hlocks := B.notSynchronized
  subst hsz
  have hG : gG D cy ad (gA ad s.heap.size) s.heap h g s.heap [] := ⟨hP, gA_self hD0, va_S.rf⟩
  clear hP hD0
  have lk37 := hw (.fieldLink RX2 37 "OldWorks$Fits" "sized" "Z") (wm1 221 rfl rfl)
  have lk21 := hw (.fieldLink RX2 21 "OldWorks$Fits" "shop" "LOldWorks$Shop;") (wm1 214 rfl rfl)
  have lk41 := hw (.fieldLink RX2 41 "OldWorks$Shop" "chains" "LOldWorks$Table;") (wm1 72 rfl rfl)
  have lk33 := hw (.fieldLink RX2 33 "OldWorks$Fits" "chain" "I") (wm1 220 rfl rfl)
  have lk66 := hw (.fieldLink RX2 66 "OldWorks$Fits" "least" "I") (wm1 223 rfl rfl)
  have lk67 := hw (.fieldLink RX2 67 "OldWorks$Fits" "greatest" "I") (wm1 225 rfl rfl)
  rw [show (headSpec (wa yX2_holdIn cX2_holdIn 2 (some .boolean)) ({ frames := 4, cells := 0, slots := 0, locals := 100 } : Room)).room = ({ frames := 4, cells := 0, slots := 0, locals := 100 } : Room) from rfl]
  have hl := lv_entry ([.ref (ad 85), .int x1]) (n := 2) (Nat.le_of_ble_eq_true rfl)
  rw [show entryFrame m args 2 = entryFrame m ([.ref (ad 85), .int x1] : List Value).toArray 2 from by rw [hav], lg_entry_eq]
  generalize (lg_sl ([.ref (ad 85), .int x1]) ++ List.replicate (2 - (lg_sl ([.ref (ad 85), .int x1])).length) Slot.unset).toArray = ls at hl ⊢
  have hl : lv_has ls 2 [(0, .ref (ad 85)), (1, .int x1)] := hl
  have E0 : ∀ (H : Heap) (locs : List Loc) (ls : Array Slot), gG D cy ad (gA ad s.heap.size) s.heap h g H locs → lv_has ls 2 [(0, .ref (ad 85)), (1, .int x1)] → W p l e ({ frames := 4, cells := 0, slots := 0, locals := 100 } : Room) s m args below meth c H locs 0 0 (MQ below (va_Qi (fun (r : Int32) (u : HI × HL) => zb r ∧ Q r u.1 u.2) (gB D cy ad s.heap.size) (gA ad s.heap.size)) args s 0 0 (gA ad s.heap.size)) (F0 m 0 ls []) := by
    intro H locs ls hG hl
    unfold w_X2_holdIn at HW
    refine lv_aload_n hx hb dX2_holdIn_0 rfl (lv_at hl 0 rfl) ?_
    refine g_geti hx hb hw inG2 hown hK hG gl_85 rfl gk_85 (by decide) 7 (by decide) (by rw [gm_85]; decide) gr_85_7 lk37 dX2_holdIn_1 ?_
    refine lv_if_ne (tgt := 9) hx hb dX2_holdIn_4 (by decide) (fun c_4 => ?_) (fun c_4 => ?_)
    · replace HW := HW.1 c_4
      refine lv_aload_n hx hb dX2_holdIn_9 rfl (lv_at hl 0 rfl) ?_
      refine lv_iload_n hx hb dX2_holdIn_10 rfl (lv_at hl 1 rfl) ?_
      obtain ⟨P_11, HC_11, HW⟩ := HW
      refine g_callv (g_runV (As := [.int x1]) (rest := []) ⟨hx, hb, hml, hown, hts⟩ (m_X2_addUp l D cy ad h g H.size x1 P_11 HC_11) (cwV 1 hts (gd_V (wm3 159 rfl rfl) (wm3 160 rfl rfl) (wm3 161 rfl rfl) (wm1 6 rfl rfl) (wm3 162 rfl rfl)) rfl rfl rfl (by decide +kernel) ⟨Nat.le_of_ble_eq_true rfl, Nat.le_of_ble_eq_true rfl⟩) hK hNw hG gl_85 rfl gk_85 (by decide) rfl rfl hl.1 rfl (lv_room (Nat.le_of_ble_eq_true rfl)) dX2_holdIn_11 ⟨Nat.zero_le _, Nat.zero_le _⟩) hG (fun h_11 g_11 H locs hq hG => ?_)
      replace HW := HW h_11 g_11 hq
      refine lv_aload_n hx hb dX2_holdIn_14 rfl (lv_at hl 0 rfl) ?_
      refine g_getr hx hb hw inG2 hown hK hG gl_85 rfl gk_85 (by decide) 0 (by decide) (by rw [gm_85]; decide) (r := 1) gr_85_0 lk21 dX2_holdIn_15 ?_
      refine g_getr hx hb hw inG6 hown hK hG gl_1 rfl gk_1 (by decide) 3 (by decide) (by rw [gm_1]; decide) (r := 8) gr_1_3 lk41 dX2_holdIn_18 ?_
      refine lv_aload_n hx hb dX2_holdIn_21 rfl (lv_at hl 0 rfl) ?_
      refine g_geti hx hb hw inG2 hown hK hG gl_85 rfl gk_85 (by decide) 6 (by decide) (by rw [gm_85]; decide) gr_85_6 lk33 dX2_holdIn_22 ?_
      refine lv_iconst (v := 0) hx hb dX2_holdIn_25 (by decide) ?_
      obtain ⟨P_26, HC_26, HW⟩ := HW
      refine g_calli (g_runV (As := [.int (h_11 85 6), .int (0 : Int32)]) (rest := []) ⟨hx, hb, hml, hown, hts⟩ (m_X8_at l D cy ad h_11 g_11 H.size 8 (gs_8) (h_11 85 6) (0 : Int32) P_26 HC_26) (cwV 2 hts (gd_V (wm3 153 rfl rfl) (wm2 221 rfl rfl) (wm2 222 rfl rfl) (wm1 3 rfl rfl) (wm2 223 rfl rfl)) rfl rfl rfl (by decide +kernel) ⟨Nat.le_of_ble_eq_true rfl, Nat.le_of_ble_eq_true rfl⟩) hK hNw hG gl_8 rfl gk_8 (by decide) rfl rfl hl.1 rfl (lv_room (Nat.le_of_ble_eq_true rfl)) dX2_holdIn_26 ⟨Nat.zero_le _, Nat.zero_le _⟩) hG (fun r_26 h_26 g_26 H locs hq hG => ?_)
      replace HW := HW r_26 h_26 g_26 hq
      refine lv_aload_n hx hb dX2_holdIn_29 rfl (lv_at hl 0 rfl) ?_
      refine g_geti hx hb hw inG2 hown hK hG gl_85 rfl gk_85 (by decide) 8 (by decide) (by rw [gm_85]; decide) gr_85_8 lk66 dX2_holdIn_30 ?_
      refine lv_icmp_gt (tgt := 62) hx hb dX2_holdIn_33 (by decide) (fun c_33 => ?_) (fun c_33 => ?_)
      · replace HW := HW.1 c_33
        refine lv_iconst (v := 0) hx hb dX2_holdIn_62 (by decide) ?_
        exact W.zret (v := (0 : Int32)) hx hb hr rfl (fun t ht hW => ⟨⟨(0 : Int32), (h_26, g_26), rfl, ⟨Or.inl rfl, HW⟩, g_B ht hG⟩, hG.2.2.F ht⟩) hG.2.2.2.2 dX2_holdIn_63
      · replace HW := HW.2 c_33
        refine lv_aload_n hx hb dX2_holdIn_36 rfl (lv_at hl 0 rfl) ?_
        refine g_geti hx hb hw inG2 hown hK hG gl_85 rfl gk_85 (by decide) 9 (by decide) (by rw [gm_85]; decide) gr_85_9 lk67 dX2_holdIn_37 ?_
        refine lv_aload_n hx hb dX2_holdIn_40 rfl (lv_at hl 0 rfl) ?_
        refine g_getr hx hb hw inG2 hown hK hG gl_85 rfl gk_85 (by decide) 0 (by decide) (by rw [gm_85]; decide) (r := 1) gr_85_0 lk21 dX2_holdIn_41 ?_
        refine g_getr hx hb hw inG6 hown hK hG gl_1 rfl gk_1 (by decide) 3 (by decide) (by rw [gm_1]; decide) (r := 8) gr_1_3 lk41 dX2_holdIn_44 ?_
        refine lv_aload_n hx hb dX2_holdIn_47 rfl (lv_at hl 0 rfl) ?_
        refine g_geti hx hb hw inG2 hown hK hG gl_85 rfl gk_85 (by decide) 6 (by decide) (by rw [gm_85]; decide) gr_85_6 lk33 dX2_holdIn_48 ?_
        refine lv_iconst (v := 1) hx hb dX2_holdIn_51 (by decide) ?_
        obtain ⟨P_52, HC_52, HW⟩ := HW
        refine g_calli (g_runV (As := [.int (h_26 85 6), .int (1 : Int32)]) (rest := [.int (h_26 85 9)]) ⟨hx, hb, hml, hown, hts⟩ (m_X8_at l D cy ad h_26 g_26 H.size 8 (gs_8) (h_26 85 6) (1 : Int32) P_52 HC_52) (cwV 2 hts (gd_V (wm3 153 rfl rfl) (wm2 221 rfl rfl) (wm2 222 rfl rfl) (wm1 3 rfl rfl) (wm2 223 rfl rfl)) rfl rfl rfl (by decide +kernel) ⟨Nat.le_of_ble_eq_true rfl, Nat.le_of_ble_eq_true rfl⟩) hK hNw hG gl_8 rfl gk_8 (by decide) rfl rfl hl.1 rfl (lv_room (Nat.le_of_ble_eq_true rfl)) dX2_holdIn_52 ⟨Nat.zero_le _, Nat.zero_le _⟩) hG (fun r_52 h_52 g_52 H locs hq hG => ?_)
        replace HW := HW r_52 h_52 g_52 hq
        refine lv_icmp_gt (tgt := 62) hx hb dX2_holdIn_55 (by decide) (fun c_55 => ?_) (fun c_55 => ?_)
        · replace HW := HW.1 c_55
          refine lv_iconst (v := 0) hx hb dX2_holdIn_62 (by decide) ?_
          exact W.zret (v := (0 : Int32)) hx hb hr rfl (fun t ht hW => ⟨⟨(0 : Int32), (h_52, g_52), rfl, ⟨Or.inl rfl, HW⟩, g_B ht hG⟩, hG.2.2.F ht⟩) hG.2.2.2.2 dX2_holdIn_63
        · replace HW := HW.2 c_55
          refine lv_iconst (v := 1) hx hb dX2_holdIn_58 (by decide) ?_
          refine lv_goto (tgt := 63) hx hb dX2_holdIn_59 (by decide) ?_
          exact W.zret (v := (1 : Int32)) hx hb hr rfl (fun t ht hW => ⟨⟨(1 : Int32), (h_52, g_52), rfl, ⟨Or.inr rfl, HW⟩, g_B ht hG⟩, hG.2.2.F ht⟩) hG.2.2.2.2 dX2_holdIn_63
    · replace HW := HW.2 c_4
      refine lv_iconst (v := 0) hx hb dX2_holdIn_7 (by decide) ?_
      exact W.zret (v := (0 : Int32)) hx hb hr rfl (fun t ht hW => ⟨⟨(0 : Int32), (h, g), rfl, ⟨Or.inl rfl, HW⟩, g_B ht hG⟩, hG.2.2.F ht⟩) hG.2.2.2.2 dX2_holdIn_8
  exact E0 _ _ _ hG hl

def b_J7_fill_53178_5 (o0 : Nat) (Q : HI → HL → Prop) (K5 : Int32 → Int32 → Int32 → HI → HL → Prop) (x1 : Int32) (x2 : Int32) (x3 : Int32) (h : HI) (g : HL) : Prop :=
  ((x3 ≤ x2 → Q h g) ∧ (¬ x3 ≤ x2 → (vp_in x2 (gN o0) ∧ ∀ h_13 : HI, h_13 = hu h o0 x2.toNatClampNeg x1 → (∀ x2_14 : Int32, x2_14 = (x2 + 1) → K5 x1 x2_14 x3 h_13 g))))
def F_J7_fill_53178_5 (o0 : Nat) (Q : HI → HL → Prop) (K : Int32 × Int32 × Int32 × HI × HL → Prop) (q : Int32 × Int32 × Int32 × HI × HL) : Prop := b_J7_fill_53178_5 o0 Q (fun x1 x2 x3 h g => K (x1, x2, x3, h, g)) q.1 q.2.1 q.2.2.1 q.2.2.2.1 q.2.2.2.2
def w_J7_fill_53178 (o0 : Nat) (x1 : Int32) (h : HI) (g : HL) (Q : HI → HL → Prop) : Prop :=
  (∀ x3_4 : Int32, x3_4 = (Int32.ofNat (gN o0)) → lpE (F_J7_fill_53178_5 o0 Q) (x1, (0 : Int32), x3_4, h, g))
set_option maxHeartbeats 8000000 in
set_option maxRecDepth 100000 in
theorem m_J7_fill_53178 (l : Launch) (D : va_G) (cy : Nat → ClassId) (ad : Nat → Nat) (h : HI) (g : HL) (sz : Nat) (o0 : Nat) (hk0 : gK o0 = 12) (hl0 : o0 < gO) (x1 : Int32) (Q : HI → HL → Prop) (HW : w_J7_fill_53178 o0 x1 h g Q) : Met l yJ7_fill_53178 (wa yJ7_fill_53178 cJ7_fill_53178 4 none) ({ frames := 0, cells := 0, slots := 0, locals := 0 }) (va_Pc [.ref (ad o0), .int x1] (gI D cy ad h g sz)) (va_Qv (fun (u : HI × HL) => Q u.1 u.2) (gB D cy ad sz) (gA ad sz)) 0 0 (gA ad sz) := by
  refine Met.ofW (cc := cJ7_fill_53178) (maxL := 4) (ret := none) (by decide) rfl ?_
  intro p e s m args below meth c s₁ B hml hv
  obtain ⟨hav, hsz, hP, hK, hD0, hNw⟩ := hv
  have hx := B.exec
  have hb := B.bytes
  have hr := B.returns
  have hts := atoms_spec (ws := (wa yJ7_fill_53178 cJ7_fill_53178 4 none)) B.pre
  have hw := wa_hw hts
  have hown : s.vm.findClass RJ7 = some m.cls := findClass_of_methodNamed B.named
  have hlocks := B.notSynchronized
  subst hsz
  have hG : gG D cy ad (gA ad s.heap.size) s.heap h g s.heap [] := ⟨hP, gA_self hD0, va_S.rf⟩
  clear hP hD0
  rw [show (headSpec (wa yJ7_fill_53178 cJ7_fill_53178 4 none) ({ frames := 0, cells := 0, slots := 0, locals := 0 } : Room)).room = ({ frames := 0, cells := 0, slots := 0, locals := 0 } : Room) from rfl]
  have hl := lv_entry ([.ref (ad o0), .int x1]) (n := 4) (Nat.le_of_ble_eq_true rfl)
  rw [show entryFrame m args 4 = entryFrame m ([.ref (ad o0), .int x1] : List Value).toArray 4 from by rw [hav], lg_entry_eq]
  generalize (lg_sl ([.ref (ad o0), .int x1]) ++ List.replicate (4 - (lg_sl ([.ref (ad o0), .int x1])).length) Slot.unset).toArray = ls at hl ⊢
  have hl : lv_has ls 4 [(0, .ref (ad o0)), (1, .int x1)] := hl
  have L5 : ∀ (n : Nat) (x1 : Int32) (x2 : Int32) (x3 : Int32) (h : HI) (g : HL) (H : Heap) (locs : List Loc) (ls : Array Slot), lpN (F_J7_fill_53178_5 o0 Q) n (x1, x2, x3, h, g) → gG D cy ad (gA ad s.heap.size) s.heap h g H locs → lv_has ls 4 [(0, .ref (ad o0)), (1, .int x1), (2, .int x2), (3, .int x3)] → W p l e ({ frames := 0, cells := 0, slots := 0, locals := 0 } : Room) s m args below meth c H locs 0 0 (MQ below (va_Qv (fun (u : HI × HL) => Q u.1 u.2) (gB D cy ad s.heap.size) (gA ad s.heap.size)) args s 0 0 (gA ad s.heap.size)) (F0 m 5 ls []) := by
    intro n
    induction n with
    | zero => intro x1 x2 x3 h g H locs ls HW; exact HW.elim
    | succ n ih =>
      intro x1 x2 x3 h g H locs ls HW hG hl
      have HW : b_J7_fill_53178_5 o0 Q (fun x1 x2 x3 h g => lpN (F_J7_fill_53178_5 o0 Q) n (x1, x2, x3, h, g)) x1 x2 x3 h g := HW
      generalize hKe : (fun (x1 : Int32) (x2 : Int32) (x3 : Int32) (h : HI) (g : HL) => lpN (F_J7_fill_53178_5 o0 Q) n (x1, x2, x3, h, g)) = K5 at HW
      have hK5 : ∀ (x1 : Int32) (x2 : Int32) (x3 : Int32) (h : HI) (g : HL) (H : Heap) (locs : List Loc) (ls : Array Slot), K5 x1 x2 x3 h g → gG D cy ad (gA ad s.heap.size) s.heap h g H locs → lv_has ls 4 [(0, .ref (ad o0)), (1, .int x1), (2, .int x2), (3, .int x3)] → W p l e ({ frames := 0, cells := 0, slots := 0, locals := 0 } : Room) s m args below meth c H locs 0 0 (MQ below (va_Qv (fun (u : HI × HL) => Q u.1 u.2) (gB D cy ad s.heap.size) (gA ad s.heap.size)) args s 0 0 (gA ad s.heap.size)) (F0 m 5 ls []) := by subst hKe; exact ih
      clear ih
      clear hKe
      unfold b_J7_fill_53178_5 at HW
      refine lv_iload_n hx hb dJ7_fill_53178_5 rfl (lv_at hl 2 rfl) ?_
      refine lv_iload_n hx hb dJ7_fill_53178_6 rfl (lv_at hl 3 rfl) ?_
      refine lv_icmp_ge (tgt := 20) hx hb dJ7_fill_53178_7 (by decide) (fun c_7 => ?_) (fun c_7 => ?_)
      · replace HW := HW.1 c_7
        exact W.vret hx hb hr (fun t ht hW => ⟨⟨(h, g), rfl, HW, g_B ht hG⟩, hG.2.2.F ht⟩) hG.2.2.2.2 dJ7_fill_53178_20
      · replace HW := HW.2 c_7
        refine lv_aload_n hx hb dJ7_fill_53178_10 rfl (lv_at hl 0 rfl) ?_
        refine lv_iload_n hx hb dJ7_fill_53178_11 rfl (lv_at hl 2 rfl) ?_
        refine lv_iload_n hx hb dJ7_fill_53178_12 rfl (lv_at hl 1 rfl) ?_
        refine g_iast hx hb hK hG hl0 hk0 rfl HW.1 dJ7_fill_53178_13 (fun H locs hG => ?_)
        replace HW := HW.2
        obtain ⟨h_13, eh_13⟩ : ∃ y : HI, y = hu h o0 x2.toNatClampNeg x1 := ⟨_, rfl⟩
        rw [← eh_13] at hG
        replace HW := HW h_13 eh_13
        obtain ⟨x2_14, ex2_14⟩ : ∃ y : Int32, y = (x2 + 1) := ⟨_, rfl⟩
        replace HW := HW x2_14 ex2_14
        refine lv_iinc (v := x2_14) (lv' := [(2, .int x2_14), (0, .ref (ad o0)), (1, .int x1), (3, .int x3)]) hx hb dJ7_fill_53178_14 hl (k := 2) rfl (by rw [ex2_14]; rfl) (by decide) rfl (fun ls hl => ?_)
        refine lv_goto (tgt := 5) hx hb dJ7_fill_53178_17 (by decide) ?_
        exact hK5 x1 x2_14 x3 h_13 g _ _ _ HW hG (lv_sub hl [1, 2, 0, 3] rfl)
  have E0 : ∀ (H : Heap) (locs : List Loc) (ls : Array Slot), gG D cy ad (gA ad s.heap.size) s.heap h g H locs → lv_has ls 4 [(0, .ref (ad o0)), (1, .int x1)] → W p l e ({ frames := 0, cells := 0, slots := 0, locals := 0 } : Room) s m args below meth c H locs 0 0 (MQ below (va_Qv (fun (u : HI × HL) => Q u.1 u.2) (gB D cy ad s.heap.size) (gA ad s.heap.size)) args s 0 0 (gA ad s.heap.size)) (F0 m 0 ls []) := by
    intro H locs ls hG hl
    unfold w_J7_fill_53178 at HW
    refine lv_iconst (v := 0) hx hb dJ7_fill_53178_0 (by decide) ?_
    refine lv_istore_n (lv' := [(2, .int (0 : Int32)), (0, .ref (ad o0)), (1, .int x1)]) hx hb dJ7_fill_53178_1 rfl hl (by decide) rfl (fun ls hl => ?_)
    refine lv_aload_n hx hb dJ7_fill_53178_2 rfl (lv_at hl 1 rfl) ?_
    refine g_alen hx hb hK hG hl0 hk0 (v := (Int32.ofNat (gN o0))) rfl dJ7_fill_53178_3 ?_
    refine lv_topi (fun x3_4 ex3_4 => ?_)
    replace HW := HW x3_4 ex3_4
    refine lv_istore_n (lv' := [(3, .int x3_4), (2, .int (0 : Int32)), (0, .ref (ad o0)), (1, .int x1)]) hx hb dJ7_fill_53178_4 rfl hl (by decide) rfl (fun ls hl => ?_)
    obtain ⟨n_5, HW⟩ := HW
    exact L5 n_5 x1 (0 : Int32) x3_4 h g _ _ _ HW hG (lv_sub hl [2, 3, 1, 0] rfl)
  exact E0 _ _ _ hG hl

def b_X3_gatherSpares_152 (Q : HI → HL → Prop) (K44 : Int32 → HI → HL → Prop) (K152 : Int32 → Int32 → Int32 → Int32 → HI → HL → Prop) (x1 : Int32) (x2 : Int32) (x5 : Int32) (x6 : Int32) (h : HI) (g : HL) : Prop :=
  ((x2 ≤ x6 → (∀ x1_183 : Int32, x1_183 = (x1 + 1) → K44 x1_183 h g)) ∧ (¬ x2 ≤ x6 → (vp_in x6 512 ∧ (vp_in (x6 ||| x2) 512 ∧ ∀ h_176 : HI, h_176 = hu h 106 (x6 ||| x2).toNatClampNeg ((h 106 x6.toNatClampNeg) + x5) → (∀ x6_177 : Int32, x6_177 = (x6 + 1) → K152 x1 x2 x5 x6_177 h_176 g)))))
def F_X3_gatherSpares_152 (Q : HI → HL → Prop) (K44 : Int32 → HI → HL → Prop) (K : Int32 × Int32 × Int32 × Int32 × HI × HL → Prop) (q : Int32 × Int32 × Int32 × Int32 × HI × HL) : Prop := b_X3_gatherSpares_152 Q K44 (fun x1 x2 x5 x6 h g => K (x1, x2, x5, x6, h, g)) q.1 q.2.1 q.2.2.1 q.2.2.2.1 q.2.2.2.2.1 q.2.2.2.2.2
def j_X3_gatherSpares_135 (Q : HI → HL → Prop) (K44 : Int32 → HI → HL → Prop) (x1 : Int32) (x2 : Int32) (h : HI) (g : HL) : Prop :=
  (∃ P_144 : Int32 → HI → HL → Prop, w_X8_at 14 x1 (1 : Int32) h g P_144 ∧ ∀ (r_144 : Int32) (h_144 : HI) (g_144 : HL), P_144 r_144 h_144 g_144 → lpE (F_X3_gatherSpares_152 Q K44) (x1, x2, r_144, (0 : Int32), h_144, g_144))
def j_X3_gatherSpares_108 (Q : HI → HL → Prop) (K44 : Int32 → HI → HL → Prop) (x1 : Int32) (x2 : Int32) (x4 : Int32) (h : HI) (g : HL) : Prop :=
  (∃ P_118 : Int32 → HI → HL → Prop, w_X10_within x4 (0 : Int32) ((4 : Int32) - (1 : Int32)) h g P_118 ∧ ∀ (r_118 : Int32) (h_118 : HI) (g_118 : HL), zb r_118 → P_118 r_118 h_118 g_118 → ((r_118 = 0 → j_X3_gatherSpares_135 Q K44 x1 x2 h_118 g_118) ∧ (¬ r_118 = 0 → (vp_in x4 4 ∧ (vp_in x4 4 ∧ ∀ h_134 : HI, h_134 = hu h_118 108 x4.toNatClampNeg ((h_118 108 x4.toNatClampNeg) ||| x2) → j_X3_gatherSpares_135 Q K44 x1 x2 h_134 g_118)))))
def b_X3_gatherSpares_44 (Q : HI → HL → Prop) (K44 : Int32 → HI → HL → Prop) (x1 : Int32) (h : HI) (g : HL) : Prop :=
  (((h 97 5) ≤ x1 → Q h g) ∧ (¬ (h 97 5) ≤ x1 → (∀ x2_55 : Int32, x2_55 = ((1 : Int32) <<< (x1 &&& 31)) → (∃ P_65 : Int32 → HI → HL → Prop, w_X8_at 14 x1 (0 : Int32) h g P_65 ∧ ∀ (r_65 : Int32) (h_65 : HI) (g_65 : HL), P_65 r_65 h_65 g_65 → (∃ P_78 : Int32 → HI → HL → Prop, w_X8_at 14 x1 (2 : Int32) h_65 g_65 P_78 ∧ ∀ (r_78 : Int32) (h_78 : HI) (g_78 : HL), P_78 r_78 h_78 g_78 → (∃ P_92 : Int32 → HI → HL → Prop, w_X10_within r_65 (0 : Int32) ((4 : Int32) - (1 : Int32)) h_78 g_78 P_92 ∧ ∀ (r_92 : Int32) (h_92 : HI) (g_92 : HL), zb r_92 → P_92 r_92 h_92 g_92 → ((r_92 = 0 → j_X3_gatherSpares_108 Q K44 x1 x2_55 r_78 h_92 g_92) ∧ (¬ r_92 = 0 → (vp_in r_65 4 ∧ (vp_in r_65 4 ∧ ∀ h_107 : HI, h_107 = hu h_92 107 r_65.toNatClampNeg ((h_92 107 r_65.toNatClampNeg) ||| x2_55) → j_X3_gatherSpares_108 Q K44 x1 x2_55 r_78 h_107 g_92))))))))))
def F_X3_gatherSpares_44 (Q : HI → HL → Prop) (K : Int32 × HI × HL → Prop) (q : Int32 × HI × HL) : Prop := b_X3_gatherSpares_44 Q (fun x1 h g => K (x1, h, g)) q.1 q.2.1 q.2.2
def w_X3_gatherSpares  (h : HI) (g : HL) (Q : HI → HL → Prop) : Prop :=
  (∃ P_10 : Int32 → HI → HL → Prop, w_X8_rows 14 h g P_10 ∧ ∀ (r_10 : Int32) (h_10 : HI) (g_10 : HL), P_10 r_10 h_10 g_10 → (∀ h_16 : HI, h_16 = hu h_10 97 5 (if r_10 < (9 : Int32) then r_10 else (9 : Int32)) → (∃ P_24 : HI → HL → Prop, w_J7_fill_53178 107 (0 : Int32) h_16 g_10 P_24 ∧ ∀ (h_24 : HI) (g_24 : HL), P_24 h_24 g_24 → (∃ P_32 : HI → HL → Prop, w_J7_fill_53178 108 (0 : Int32) h_24 g_24 P_32 ∧ ∀ (h_32 : HI) (g_32 : HL), P_32 h_32 g_32 → (vp_in (0 : Int32) 512 ∧ ∀ h_41 : HI, h_41 = hu h_32 106 (0 : Int32).toNatClampNeg (0 : Int32) → lpE (F_X3_gatherSpares_44 Q) ((0 : Int32), h_41, g_32))))))
set_option maxHeartbeats 8000000 in
set_option maxRecDepth 100000 in
theorem m_X3_gatherSpares (l : Launch) (D : va_G) (cy : Nat → ClassId) (ad : Nat → Nat) (h : HI) (g : HL) (sz : Nat)  (Q : HI → HL → Prop) (HW : w_X3_gatherSpares h g Q) : Met l yX3_gatherSpares (wa yX3_gatherSpares cX3_gatherSpares 7 none) ({ frames := 1, cells := 0, slots := 0, locals := 32 }) (va_Pc [.ref (ad 97)] (gI D cy ad h g sz)) (va_Qv (fun (u : HI × HL) => Q u.1 u.2) (gB D cy ad sz) (gA ad sz)) 0 0 (gA ad sz) := by
  refine Met.ofW (cc := cX3_gatherSpares) (maxL := 7) (ret := none) (by decide) rfl ?_
  intro p e s m args below meth c s₁ B hml hv
  obtain ⟨hav, hsz, hP, hK, hD0, hNw⟩ := hv
  have hx := B.exec
  have hb := B.bytes
  have hr := B.returns
  have hts := atoms_spec (ws := (wa yX3_gatherSpares cX3_gatherSpares 7 none)) B.pre
  have hw := wa_hw hts
  have hown : s.vm.findClass RX3 = some m.cls := findClass_of_methodNamed B.named
  have hlocks := B.notSynchronized
  subst hsz
  have hG : gG D cy ad (gA ad s.heap.size) s.heap h g s.heap [] := ⟨hP, gA_self hD0, va_S.rf⟩
  clear hP hD0
  have lk26 := hw (.fieldLink RX3 26 "OldWorks$Givings" "shop" "LOldWorks$Shop;") (wm2 50 rfl rfl)
  have lk68 := hw (.fieldLink RX3 68 "OldWorks$Shop" "spares" "LOldWorks$Table;") (wm1 81 rfl rfl)
  have ml45 := hw (.methodLink RX3 45 Lib.Math.min.name) (wm3 237 rfl rfl)
  have ms45 := hw (.static Lib.Math.min.name) (wm3 99 rfl rfl)
  have mi45 := hw (.initialized "java/lang/Math") (wm1 14 rfl rfl)
  have mc45 := hw (.code Lib.Math.min.name Lib.Math.min.code 2 (some .int)) (wm3 100 rfl rfl)
  have lk51 := hw (.fieldLink RX3 51 "OldWorks$Givings" "spares" "I") (wm2 55 rfl rfl)
  have lk20 := hw (.fieldLink RX3 20 "OldWorks$Givings" "kinds" "[I") (wm2 53 rfl rfl)
  have lk23 := hw (.fieldLink RX3 23 "OldWorks$Givings" "pairs" "[I") (wm2 54 rfl rfl)
  have lk16 := hw (.fieldLink RX3 16 "OldWorks$Givings" "years" "[I") (wm2 52 rfl rfl)
  rw [show (headSpec (wa yX3_gatherSpares cX3_gatherSpares 7 none) ({ frames := 1, cells := 0, slots := 0, locals := 32 } : Room)).room = ({ frames := 1, cells := 0, slots := 0, locals := 32 } : Room) from rfl]
  have hl := lv_entry ([.ref (ad 97)]) (n := 7) (Nat.le_of_ble_eq_true rfl)
  rw [show entryFrame m args 7 = entryFrame m ([.ref (ad 97)] : List Value).toArray 7 from by rw [hav], lg_entry_eq]
  generalize (lg_sl ([.ref (ad 97)]) ++ List.replicate (7 - (lg_sl ([.ref (ad 97)])).length) Slot.unset).toArray = ls at hl ⊢
  have hl : lv_has ls 7 [(0, .ref (ad 97))] := hl
  have L152 : ∀ (K44 : Int32 → HI → HL → Prop) (hK44 : ∀ (x1 : Int32) (h : HI) (g : HL) (H : Heap) (locs : List Loc) (ls : Array Slot), K44 x1 h g → gG D cy ad (gA ad s.heap.size) s.heap h g H locs → lv_has ls 7 [(0, .ref (ad 97)), (1, .int x1)] → W p l e ({ frames := 1, cells := 0, slots := 0, locals := 32 } : Room) s m args below meth c H locs 0 0 (MQ below (va_Qv (fun (u : HI × HL) => Q u.1 u.2) (gB D cy ad s.heap.size) (gA ad s.heap.size)) args s 0 0 (gA ad s.heap.size)) (F0 m 44 ls [])) (n : Nat) (x1 : Int32) (x2 : Int32) (x5 : Int32) (x6 : Int32) (h : HI) (g : HL) (H : Heap) (locs : List Loc) (ls : Array Slot), lpN (F_X3_gatherSpares_152 Q K44) n (x1, x2, x5, x6, h, g) → gG D cy ad (gA ad s.heap.size) s.heap h g H locs → lv_has ls 7 [(0, .ref (ad 97)), (1, .int x1), (2, .int x2), (5, .int x5), (6, .int x6)] → W p l e ({ frames := 1, cells := 0, slots := 0, locals := 32 } : Room) s m args below meth c H locs 0 0 (MQ below (va_Qv (fun (u : HI × HL) => Q u.1 u.2) (gB D cy ad s.heap.size) (gA ad s.heap.size)) args s 0 0 (gA ad s.heap.size)) (F0 m 152 ls []) := by
    intro K44 hK44 n
    induction n with
    | zero => intro x1 x2 x5 x6 h g H locs ls HW; exact HW.elim
    | succ n ih =>
      intro x1 x2 x5 x6 h g H locs ls HW hG hl
      have HW : b_X3_gatherSpares_152 Q K44 (fun x1 x2 x5 x6 h g => lpN (F_X3_gatherSpares_152 Q K44) n (x1, x2, x5, x6, h, g)) x1 x2 x5 x6 h g := HW
      generalize hKe : (fun (x1 : Int32) (x2 : Int32) (x5 : Int32) (x6 : Int32) (h : HI) (g : HL) => lpN (F_X3_gatherSpares_152 Q K44) n (x1, x2, x5, x6, h, g)) = K152 at HW
      have hK152 : ∀ (x1 : Int32) (x2 : Int32) (x5 : Int32) (x6 : Int32) (h : HI) (g : HL) (H : Heap) (locs : List Loc) (ls : Array Slot), K152 x1 x2 x5 x6 h g → gG D cy ad (gA ad s.heap.size) s.heap h g H locs → lv_has ls 7 [(0, .ref (ad 97)), (1, .int x1), (2, .int x2), (5, .int x5), (6, .int x6)] → W p l e ({ frames := 1, cells := 0, slots := 0, locals := 32 } : Room) s m args below meth c H locs 0 0 (MQ below (va_Qv (fun (u : HI × HL) => Q u.1 u.2) (gB D cy ad s.heap.size) (gA ad s.heap.size)) args s 0 0 (gA ad s.heap.size)) (F0 m 152 ls []) := by subst hKe; exact ih
      clear ih
      clear hKe
      unfold b_X3_gatherSpares_152 at HW
      refine lv_iload hx hb dX3_gatherSpares_152 (lv_at hl 4 rfl) ?_
      refine lv_iload_n hx hb dX3_gatherSpares_154 rfl (lv_at hl 2 rfl) ?_
      refine lv_icmp_ge (tgt := 183) hx hb dX3_gatherSpares_155 (by decide) (fun c_155 => ?_) (fun c_155 => ?_)
      · replace HW := HW.1 c_155
        obtain ⟨x1_183, ex1_183⟩ : ∃ y : Int32, y = (x1 + 1) := ⟨_, rfl⟩
        replace HW := HW x1_183 ex1_183
        refine lv_iinc (v := x1_183) (lv' := [(1, .int x1_183), (0, .ref (ad 97)), (2, .int x2), (5, .int x5), (6, .int x6)]) hx hb dX3_gatherSpares_183 hl (k := 1) rfl (by rw [ex1_183]; rfl) (by decide) rfl (fun ls hl => ?_)
        refine lv_goto (tgt := 44) hx hb dX3_gatherSpares_186 (by decide) ?_
        exact hK44 x1_183 h g _ _ _ HW hG (lv_sub hl [1, 0] rfl)
      · replace HW := HW.2 c_155
        refine lv_aload_n hx hb dX3_gatherSpares_158 rfl (lv_at hl 0 rfl) ?_
        refine g_getr hx hb hw inG3 hown hK hG gl_97 rfl gk_97 (by decide) 2 (by decide) (by rw [gm_97]; decide) (r := 106) gr_97_2 lk16 dX3_gatherSpares_159 ?_
        refine lv_iload hx hb dX3_gatherSpares_162 (lv_at hl 4 rfl) ?_
        refine lv_iload_n hx hb dX3_gatherSpares_164 rfl (lv_at hl 2 rfl) ?_
        refine lv_ior hx hb dX3_gatherSpares_165 ?_
        refine lv_aload_n hx hb dX3_gatherSpares_166 rfl (lv_at hl 0 rfl) ?_
        refine g_getr hx hb hw inG3 hown hK hG gl_97 rfl gk_97 (by decide) 2 (by decide) (by rw [gm_97]; decide) (r := 106) gr_97_2 lk16 dX3_gatherSpares_167 ?_
        refine lv_iload hx hb dX3_gatherSpares_170 (lv_at hl 4 rfl) ?_
        refine g_iald hx hb hK hG gl_106 gk_106 gn_106 HW.1 dX3_gatherSpares_172 ?_
        replace HW := HW.2
        refine lv_iload hx hb dX3_gatherSpares_173 (lv_at hl 3 rfl) ?_
        refine lv_iadd hx hb dX3_gatherSpares_175 ?_
        refine g_iast hx hb hK hG gl_106 gk_106 gn_106 HW.1 dX3_gatherSpares_176 (fun H locs hG => ?_)
        replace HW := HW.2
        obtain ⟨h_176, eh_176⟩ : ∃ y : HI, y = hu h 106 (x6 ||| x2).toNatClampNeg ((h 106 x6.toNatClampNeg) + x5) := ⟨_, rfl⟩
        rw [← eh_176] at hG
        replace HW := HW h_176 eh_176
        obtain ⟨x6_177, ex6_177⟩ : ∃ y : Int32, y = (x6 + 1) := ⟨_, rfl⟩
        replace HW := HW x6_177 ex6_177
        refine lv_iinc (v := x6_177) (lv' := [(6, .int x6_177), (0, .ref (ad 97)), (1, .int x1), (2, .int x2), (5, .int x5)]) hx hb dX3_gatherSpares_177 hl (k := 4) rfl (by rw [ex6_177]; rfl) (by decide) rfl (fun ls hl => ?_)
        refine lv_goto (tgt := 152) hx hb dX3_gatherSpares_180 (by decide) ?_
        exact hK152 x1 x2 x5 x6_177 h_176 g _ _ _ HW hG (lv_sub hl [1, 2, 3, 4, 0] rfl)
  have B135 : ∀ (K44 : Int32 → HI → HL → Prop) (hK44 : ∀ (x1 : Int32) (h : HI) (g : HL) (H : Heap) (locs : List Loc) (ls : Array Slot), K44 x1 h g → gG D cy ad (gA ad s.heap.size) s.heap h g H locs → lv_has ls 7 [(0, .ref (ad 97)), (1, .int x1)] → W p l e ({ frames := 1, cells := 0, slots := 0, locals := 32 } : Room) s m args below meth c H locs 0 0 (MQ below (va_Qv (fun (u : HI × HL) => Q u.1 u.2) (gB D cy ad s.heap.size) (gA ad s.heap.size)) args s 0 0 (gA ad s.heap.size)) (F0 m 44 ls [])) (x1 : Int32) (x2 : Int32) (h : HI) (g : HL) (H : Heap) (locs : List Loc) (ls : Array Slot), j_X3_gatherSpares_135 Q K44 x1 x2 h g → gG D cy ad (gA ad s.heap.size) s.heap h g H locs → lv_has ls 7 [(0, .ref (ad 97)), (1, .int x1), (2, .int x2)] → W p l e ({ frames := 1, cells := 0, slots := 0, locals := 32 } : Room) s m args below meth c H locs 0 0 (MQ below (va_Qv (fun (u : HI × HL) => Q u.1 u.2) (gB D cy ad s.heap.size) (gA ad s.heap.size)) args s 0 0 (gA ad s.heap.size)) (F0 m 135 ls []) := by
    intro K44 hK44 x1 x2 h g H locs ls HW hG hl
    unfold j_X3_gatherSpares_135 at HW
    refine lv_aload_n hx hb dX3_gatherSpares_135 rfl (lv_at hl 0 rfl) ?_
    refine g_getr hx hb hw inG3 hown hK hG gl_97 rfl gk_97 (by decide) 0 (by decide) (by rw [gm_97]; decide) (r := 1) gr_97_0 lk26 dX3_gatherSpares_136 ?_
    refine g_getr hx hb hw inG6 hown hK hG gl_1 rfl gk_1 (by decide) 6 (by decide) (by rw [gm_1]; decide) (r := 14) gr_1_6 lk68 dX3_gatherSpares_139 ?_
    refine lv_iload_n hx hb dX3_gatherSpares_142 rfl (lv_at hl 1 rfl) ?_
    refine lv_iconst (v := 1) hx hb dX3_gatherSpares_143 (by decide) ?_
    obtain ⟨P_144, HC_144, HW⟩ := HW
    refine g_calli (g_runV (As := [.int x1, .int (1 : Int32)]) (rest := []) ⟨hx, hb, hml, hown, hts⟩ (m_X8_at l D cy ad h g H.size 14 (gs_14) x1 (1 : Int32) P_144 HC_144) (cwV 2 hts (gd_V (wm3 239 rfl rfl) (wm2 221 rfl rfl) (wm2 222 rfl rfl) (wm1 3 rfl rfl) (wm2 223 rfl rfl)) rfl rfl rfl (by decide +kernel) ⟨Nat.le_of_ble_eq_true rfl, Nat.le_of_ble_eq_true rfl⟩) hK hNw hG gl_14 rfl gk_14 (by decide) rfl rfl hl.1 rfl (lv_room (Nat.le_of_ble_eq_true rfl)) dX3_gatherSpares_144 ⟨Nat.zero_le _, Nat.zero_le _⟩) hG (fun r_144 h_144 g_144 H locs hq hG => ?_)
    replace HW := HW r_144 h_144 g_144 hq
    refine lv_istore (lv' := [(5, .int r_144), (0, .ref (ad 97)), (1, .int x1), (2, .int x2)]) hx hb dX3_gatherSpares_147 hl (by decide) rfl (fun ls hl => ?_)
    refine lv_iconst (v := 0) hx hb dX3_gatherSpares_149 (by decide) ?_
    refine lv_istore (lv' := [(6, .int (0 : Int32)), (5, .int r_144), (0, .ref (ad 97)), (1, .int x1), (2, .int x2)]) hx hb dX3_gatherSpares_150 hl (by decide) rfl (fun ls hl => ?_)
    obtain ⟨n_152, HW⟩ := HW
    exact L152 K44 hK44 n_152 x1 x2 r_144 (0 : Int32) h_144 g_144 _ _ _ HW hG (lv_sub hl [2, 3, 4, 1, 0] rfl)
  have B108 : ∀ (K44 : Int32 → HI → HL → Prop) (hK44 : ∀ (x1 : Int32) (h : HI) (g : HL) (H : Heap) (locs : List Loc) (ls : Array Slot), K44 x1 h g → gG D cy ad (gA ad s.heap.size) s.heap h g H locs → lv_has ls 7 [(0, .ref (ad 97)), (1, .int x1)] → W p l e ({ frames := 1, cells := 0, slots := 0, locals := 32 } : Room) s m args below meth c H locs 0 0 (MQ below (va_Qv (fun (u : HI × HL) => Q u.1 u.2) (gB D cy ad s.heap.size) (gA ad s.heap.size)) args s 0 0 (gA ad s.heap.size)) (F0 m 44 ls [])) (x1 : Int32) (x2 : Int32) (x4 : Int32) (h : HI) (g : HL) (H : Heap) (locs : List Loc) (ls : Array Slot), j_X3_gatherSpares_108 Q K44 x1 x2 x4 h g → gG D cy ad (gA ad s.heap.size) s.heap h g H locs → lv_has ls 7 [(0, .ref (ad 97)), (1, .int x1), (2, .int x2), (4, .int x4)] → W p l e ({ frames := 1, cells := 0, slots := 0, locals := 32 } : Room) s m args below meth c H locs 0 0 (MQ below (va_Qv (fun (u : HI × HL) => Q u.1 u.2) (gB D cy ad s.heap.size) (gA ad s.heap.size)) args s 0 0 (gA ad s.heap.size)) (F0 m 108 ls []) := by
    intro K44 hK44 x1 x2 x4 h g H locs ls HW hG hl
    unfold j_X3_gatherSpares_108 at HW
    refine lv_iload hx hb dX3_gatherSpares_108 (lv_at hl 3 rfl) ?_
    refine lv_iconst (v := 0) hx hb dX3_gatherSpares_110 (by decide) ?_
    refine lv_aload_n hx hb dX3_gatherSpares_111 rfl (lv_at hl 0 rfl) ?_
    refine g_getr hx hb hw inG3 hown hK hG gl_97 rfl gk_97 (by decide) 4 (by decide) (by rw [gm_97]; decide) (r := 108) gr_97_4 lk23 dX3_gatherSpares_112 ?_
    refine g_alen hx hb hK hG gl_108 gk_108 (v := (4 : Int32)) (by rw [gn_108]; decide) dX3_gatherSpares_115 ?_
    refine lv_iconst (v := 1) hx hb dX3_gatherSpares_116 (by decide) ?_
    refine lv_isub hx hb dX3_gatherSpares_117 ?_
    obtain ⟨P_118, HC_118, HW⟩ := HW
    refine g_callz (g_runSN (As := [.int x4, .int (0 : Int32), .int ((4 : Int32) - (1 : Int32))]) (rest := []) ⟨hx, hb, hml, hown, hts⟩ (m_X10_within l D cy ad h g H.size x4 (0 : Int32) ((4 : Int32) - (1 : Int32)) P_118 HC_118) ⟨va_cnB 3 hts (gd_w (wm2 195 rfl rfl)) rfl rfl rfl (hNw _ (List.mem_of_getElem? (i := 3) rfl)) (hw (.initialized RX10) (wm1 1 rfl rfl)) (by decide +kernel) ⟨Nat.le_of_ble_eq_true rfl, Nat.le_of_ble_eq_true rfl⟩, hw (.static yX10_within) (wm2 194 rfl rfl), trivial⟩ hK hNw hG rfl rfl hl.1 rfl (lv_room (Nat.le_of_ble_eq_true rfl)) dX3_gatherSpares_118 ⟨Nat.zero_le _, Nat.zero_le _⟩) hG (fun r_118 h_118 g_118 H locs hz hq hG => ?_)
    replace HW := HW r_118 h_118 g_118 hz hq
    refine lv_if_eq (tgt := 135) hx hb dX3_gatherSpares_121 (by decide) (fun c_121 => ?_) (fun c_121 => ?_)
    · replace HW := HW.1 c_121
      exact B135 K44 hK44 x1 x2 h_118 g_118 _ _ _ HW hG (lv_sub hl [0, 1, 2] rfl)
    · replace HW := HW.2 c_121
      refine lv_aload_n hx hb dX3_gatherSpares_124 rfl (lv_at hl 0 rfl) ?_
      refine g_getr hx hb hw inG3 hown hK hG gl_97 rfl gk_97 (by decide) 4 (by decide) (by rw [gm_97]; decide) (r := 108) gr_97_4 lk23 dX3_gatherSpares_125 ?_
      refine lv_iload hx hb dX3_gatherSpares_128 (lv_at hl 3 rfl) ?_
      refine lv_dup2_11 hx hb dX3_gatherSpares_130 rfl rfl ?_
      refine g_iald hx hb hK hG gl_108 gk_108 gn_108 HW.1 dX3_gatherSpares_131 ?_
      replace HW := HW.2
      refine lv_iload_n hx hb dX3_gatherSpares_132 rfl (lv_at hl 2 rfl) ?_
      refine lv_ior hx hb dX3_gatherSpares_133 ?_
      refine g_iast hx hb hK hG gl_108 gk_108 gn_108 HW.1 dX3_gatherSpares_134 (fun H locs hG => ?_)
      replace HW := HW.2
      obtain ⟨h_134, eh_134⟩ : ∃ y : HI, y = hu h_118 108 x4.toNatClampNeg ((h_118 108 x4.toNatClampNeg) ||| x2) := ⟨_, rfl⟩
      rw [← eh_134] at hG
      replace HW := HW h_134 eh_134
      exact B135 K44 hK44 x1 x2 h_134 g_118 _ _ _ HW hG (lv_sub hl [0, 1, 2] rfl)
  have L44 : ∀ (n : Nat) (x1 : Int32) (h : HI) (g : HL) (H : Heap) (locs : List Loc) (ls : Array Slot), lpN (F_X3_gatherSpares_44 Q) n (x1, h, g) → gG D cy ad (gA ad s.heap.size) s.heap h g H locs → lv_has ls 7 [(0, .ref (ad 97)), (1, .int x1)] → W p l e ({ frames := 1, cells := 0, slots := 0, locals := 32 } : Room) s m args below meth c H locs 0 0 (MQ below (va_Qv (fun (u : HI × HL) => Q u.1 u.2) (gB D cy ad s.heap.size) (gA ad s.heap.size)) args s 0 0 (gA ad s.heap.size)) (F0 m 44 ls []) := by
    intro n
    induction n with
    | zero => intro x1 h g H locs ls HW; exact HW.elim
    | succ n ih =>
      intro x1 h g H locs ls HW hG hl
      have HW : b_X3_gatherSpares_44 Q (fun x1 h g => lpN (F_X3_gatherSpares_44 Q) n (x1, h, g)) x1 h g := HW
      generalize hKe : (fun (x1 : Int32) (h : HI) (g : HL) => lpN (F_X3_gatherSpares_44 Q) n (x1, h, g)) = K44 at HW
      have hK44 : ∀ (x1 : Int32) (h : HI) (g : HL) (H : Heap) (locs : List Loc) (ls : Array Slot), K44 x1 h g → gG D cy ad (gA ad s.heap.size) s.heap h g H locs → lv_has ls 7 [(0, .ref (ad 97)), (1, .int x1)] → W p l e ({ frames := 1, cells := 0, slots := 0, locals := 32 } : Room) s m args below meth c H locs 0 0 (MQ below (va_Qv (fun (u : HI × HL) => Q u.1 u.2) (gB D cy ad s.heap.size) (gA ad s.heap.size)) args s 0 0 (gA ad s.heap.size)) (F0 m 44 ls []) := by subst hKe; exact ih
      clear ih
      clear hKe
      unfold b_X3_gatherSpares_44 at HW
      refine lv_iload_n hx hb dX3_gatherSpares_44 rfl (lv_at hl 1 rfl) ?_
      refine lv_aload_n hx hb dX3_gatherSpares_45 rfl (lv_at hl 0 rfl) ?_
      refine g_geti hx hb hw inG3 hown hK hG gl_97 rfl gk_97 (by decide) 5 (by decide) (by rw [gm_97]; decide) gr_97_5 lk51 dX3_gatherSpares_46 ?_
      refine lv_icmp_ge (tgt := 189) hx hb dX3_gatherSpares_49 (by decide) (fun c_49 => ?_) (fun c_49 => ?_)
      · replace HW := HW.1 c_49
        exact W.vret hx hb hr (fun t ht hW => ⟨⟨(h, g), rfl, HW, g_B ht hG⟩, hG.2.2.F ht⟩) hG.2.2.2.2 dX3_gatherSpares_189
      · replace HW := HW.2 c_49
        refine lv_iconst (v := 1) hx hb dX3_gatherSpares_52 (by decide) ?_
        refine lv_iload_n hx hb dX3_gatherSpares_53 rfl (lv_at hl 1 rfl) ?_
        refine lv_ishl hx hb dX3_gatherSpares_54 ?_
        refine lv_topi (fun x2_55 ex2_55 => ?_)
        replace HW := HW x2_55 ex2_55
        refine lv_istore_n (lv' := [(2, .int x2_55), (0, .ref (ad 97)), (1, .int x1)]) hx hb dX3_gatherSpares_55 rfl hl (by decide) rfl (fun ls hl => ?_)
        refine lv_aload_n hx hb dX3_gatherSpares_56 rfl (lv_at hl 1 rfl) ?_
        refine g_getr hx hb hw inG3 hown hK hG gl_97 rfl gk_97 (by decide) 0 (by decide) (by rw [gm_97]; decide) (r := 1) gr_97_0 lk26 dX3_gatherSpares_57 ?_
        refine g_getr hx hb hw inG6 hown hK hG gl_1 rfl gk_1 (by decide) 6 (by decide) (by rw [gm_1]; decide) (r := 14) gr_1_6 lk68 dX3_gatherSpares_60 ?_
        refine lv_iload_n hx hb dX3_gatherSpares_63 rfl (lv_at hl 2 rfl) ?_
        refine lv_iconst (v := 0) hx hb dX3_gatherSpares_64 (by decide) ?_
        obtain ⟨P_65, HC_65, HW⟩ := HW
        refine g_calli (g_runV (As := [.int x1, .int (0 : Int32)]) (rest := []) ⟨hx, hb, hml, hown, hts⟩ (m_X8_at l D cy ad h g H.size 14 (gs_14) x1 (0 : Int32) P_65 HC_65) (cwV 2 hts (gd_V (wm3 239 rfl rfl) (wm2 221 rfl rfl) (wm2 222 rfl rfl) (wm1 3 rfl rfl) (wm2 223 rfl rfl)) rfl rfl rfl (by decide +kernel) ⟨Nat.le_of_ble_eq_true rfl, Nat.le_of_ble_eq_true rfl⟩) hK hNw hG gl_14 rfl gk_14 (by decide) rfl rfl hl.1 rfl (lv_room (Nat.le_of_ble_eq_true rfl)) dX3_gatherSpares_65 ⟨Nat.zero_le _, Nat.zero_le _⟩) hG (fun r_65 h_65 g_65 H locs hq hG => ?_)
        replace HW := HW r_65 h_65 g_65 hq
        refine lv_istore_n (lv' := [(3, .int r_65), (2, .int x2_55), (0, .ref (ad 97)), (1, .int x1)]) hx hb dX3_gatherSpares_68 rfl hl (by decide) rfl (fun ls hl => ?_)
        refine lv_aload_n hx hb dX3_gatherSpares_69 rfl (lv_at hl 2 rfl) ?_
        refine g_getr hx hb hw inG3 hown hK hG gl_97 rfl gk_97 (by decide) 0 (by decide) (by rw [gm_97]; decide) (r := 1) gr_97_0 lk26 dX3_gatherSpares_70 ?_
        refine g_getr hx hb hw inG6 hown hK hG gl_1 rfl gk_1 (by decide) 6 (by decide) (by rw [gm_1]; decide) (r := 14) gr_1_6 lk68 dX3_gatherSpares_73 ?_
        refine lv_iload_n hx hb dX3_gatherSpares_76 rfl (lv_at hl 3 rfl) ?_
        refine lv_iconst (v := 2) hx hb dX3_gatherSpares_77 (by decide) ?_
        obtain ⟨P_78, HC_78, HW⟩ := HW
        refine g_calli (g_runV (As := [.int x1, .int (2 : Int32)]) (rest := []) ⟨hx, hb, hml, hown, hts⟩ (m_X8_at l D cy ad h_65 g_65 H.size 14 (gs_14) x1 (2 : Int32) P_78 HC_78) (cwV 2 hts (gd_V (wm3 239 rfl rfl) (wm2 221 rfl rfl) (wm2 222 rfl rfl) (wm1 3 rfl rfl) (wm2 223 rfl rfl)) rfl rfl rfl (by decide +kernel) ⟨Nat.le_of_ble_eq_true rfl, Nat.le_of_ble_eq_true rfl⟩) hK hNw hG gl_14 rfl gk_14 (by decide) rfl rfl hl.1 rfl (lv_room (Nat.le_of_ble_eq_true rfl)) dX3_gatherSpares_78 ⟨Nat.zero_le _, Nat.zero_le _⟩) hG (fun r_78 h_78 g_78 H locs hq hG => ?_)
        replace HW := HW r_78 h_78 g_78 hq
        refine lv_istore (lv' := [(4, .int r_78), (3, .int r_65), (2, .int x2_55), (0, .ref (ad 97)), (1, .int x1)]) hx hb dX3_gatherSpares_81 hl (by decide) rfl (fun ls hl => ?_)
        refine lv_iload_n hx hb dX3_gatherSpares_83 rfl (lv_at hl 1 rfl) ?_
        refine lv_iconst (v := 0) hx hb dX3_gatherSpares_84 (by decide) ?_
        refine lv_aload_n hx hb dX3_gatherSpares_85 rfl (lv_at hl 3 rfl) ?_
        refine g_getr hx hb hw inG3 hown hK hG gl_97 rfl gk_97 (by decide) 3 (by decide) (by rw [gm_97]; decide) (r := 107) gr_97_3 lk20 dX3_gatherSpares_86 ?_
        refine g_alen hx hb hK hG gl_107 gk_107 (v := (4 : Int32)) (by rw [gn_107]; decide) dX3_gatherSpares_89 ?_
        refine lv_iconst (v := 1) hx hb dX3_gatherSpares_90 (by decide) ?_
        refine lv_isub hx hb dX3_gatherSpares_91 ?_
        obtain ⟨P_92, HC_92, HW⟩ := HW
        refine g_callz (g_runSN (As := [.int r_65, .int (0 : Int32), .int ((4 : Int32) - (1 : Int32))]) (rest := []) ⟨hx, hb, hml, hown, hts⟩ (m_X10_within l D cy ad h_78 g_78 H.size r_65 (0 : Int32) ((4 : Int32) - (1 : Int32)) P_92 HC_92) ⟨va_cnB 3 hts (gd_w (wm2 195 rfl rfl)) rfl rfl rfl (hNw _ (List.mem_of_getElem? (i := 3) rfl)) (hw (.initialized RX10) (wm1 1 rfl rfl)) (by decide +kernel) ⟨Nat.le_of_ble_eq_true rfl, Nat.le_of_ble_eq_true rfl⟩, hw (.static yX10_within) (wm2 194 rfl rfl), trivial⟩ hK hNw hG rfl rfl hl.1 rfl (lv_room (Nat.le_of_ble_eq_true rfl)) dX3_gatherSpares_92 ⟨Nat.zero_le _, Nat.zero_le _⟩) hG (fun r_92 h_92 g_92 H locs hz hq hG => ?_)
        replace HW := HW r_92 h_92 g_92 hz hq
        refine lv_if_eq (tgt := 108) hx hb dX3_gatherSpares_95 (by decide) (fun c_95 => ?_) (fun c_95 => ?_)
        · replace HW := HW.1 c_95
          exact B108 K44 hK44 x1 x2_55 r_78 h_92 g_92 _ _ _ HW hG (lv_sub hl [3, 4, 2, 0] rfl)
        · replace HW := HW.2 c_95
          refine lv_aload_n hx hb dX3_gatherSpares_98 rfl (lv_at hl 3 rfl) ?_
          refine g_getr hx hb hw inG3 hown hK hG gl_97 rfl gk_97 (by decide) 3 (by decide) (by rw [gm_97]; decide) (r := 107) gr_97_3 lk20 dX3_gatherSpares_99 ?_
          refine lv_iload_n hx hb dX3_gatherSpares_102 rfl (lv_at hl 1 rfl) ?_
          refine lv_dup2_11 hx hb dX3_gatherSpares_103 rfl rfl ?_
          refine g_iald hx hb hK hG gl_107 gk_107 gn_107 HW.1 dX3_gatherSpares_104 ?_
          replace HW := HW.2
          refine lv_iload_n hx hb dX3_gatherSpares_105 rfl (lv_at hl 2 rfl) ?_
          refine lv_ior hx hb dX3_gatherSpares_106 ?_
          refine g_iast hx hb hK hG gl_107 gk_107 gn_107 HW.1 dX3_gatherSpares_107 (fun H locs hG => ?_)
          replace HW := HW.2
          obtain ⟨h_107, eh_107⟩ : ∃ y : HI, y = hu h_92 107 r_65.toNatClampNeg ((h_92 107 r_65.toNatClampNeg) ||| x2_55) := ⟨_, rfl⟩
          rw [← eh_107] at hG
          replace HW := HW h_107 eh_107
          exact B108 K44 hK44 x1 x2_55 r_78 h_107 g_92 _ _ _ HW hG (lv_sub hl [3, 4, 2, 0] rfl)
  have E0 : ∀ (H : Heap) (locs : List Loc) (ls : Array Slot), gG D cy ad (gA ad s.heap.size) s.heap h g H locs → lv_has ls 7 [(0, .ref (ad 97))] → W p l e ({ frames := 1, cells := 0, slots := 0, locals := 32 } : Room) s m args below meth c H locs 0 0 (MQ below (va_Qv (fun (u : HI × HL) => Q u.1 u.2) (gB D cy ad s.heap.size) (gA ad s.heap.size)) args s 0 0 (gA ad s.heap.size)) (F0 m 0 ls []) := by
    intro H locs ls hG hl
    unfold w_X3_gatherSpares at HW
    refine lv_aload_n hx hb dX3_gatherSpares_0 rfl (lv_at hl 0 rfl) ?_
    refine lv_bipush (v := 9) hx hb dX3_gatherSpares_1 (by decide) ?_
    refine lv_aload_n hx hb dX3_gatherSpares_3 rfl (lv_at hl 0 rfl) ?_
    refine g_getr hx hb hw inG3 hown hK hG gl_97 rfl gk_97 (by decide) 0 (by decide) (by rw [gm_97]; decide) (r := 1) gr_97_0 lk26 dX3_gatherSpares_4 ?_
    refine g_getr hx hb hw inG6 hown hK hG gl_1 rfl gk_1 (by decide) 6 (by decide) (by rw [gm_1]; decide) (r := 14) gr_1_6 lk68 dX3_gatherSpares_7 ?_
    obtain ⟨P_10, HC_10, HW⟩ := HW
    refine g_calli (g_runV (As := []) (rest := [.int (9 : Int32), .ref (ad 97)]) ⟨hx, hb, hml, hown, hts⟩ (m_X8_rows l D cy ad h g H.size 14 (gs_14) P_10 HC_10) (cwV 0 hts (gd_V (wm3 236 rfl rfl) (wm2 217 rfl rfl) (wm2 218 rfl rfl) (wm1 3 rfl rfl) (wm2 219 rfl rfl)) rfl rfl rfl (by decide +kernel) ⟨Nat.le_of_ble_eq_true rfl, Nat.le_of_ble_eq_true rfl⟩) hK hNw hG gl_14 rfl gk_14 (by decide) rfl rfl hl.1 rfl (lv_room (Nat.le_of_ble_eq_true rfl)) dX3_gatherSpares_10 ⟨Nat.zero_le _, Nat.zero_le _⟩) hG (fun r_10 h_10 g_10 H locs hq hG => ?_)
    replace HW := HW r_10 h_10 g_10 hq
    refine va_mmin hx hb (hml.trans hl.1.symm) hown ml45 ms45 mi45 mc45 (by decide) (Nat.le_of_ble_eq_true rfl) (Nat.zero_le _) (Nat.zero_le _) dX3_gatherSpares_13 ?_
    refine g_put hx hb hw inG3 tyX3 tyX3_ok nmX3 hown hK hG gl_97 rfl gk_97 (by decide) 5 (by decide) (by rw [gm_97]; decide) gr_97_5 rfl (ty := .int) (by decide +kernel) rfl rfl lk51 dX3_gatherSpares_16 (fun H locs hG => ?_)
    obtain ⟨h_16, eh_16⟩ : ∃ y : HI, y = hu h_10 97 5 (if r_10 < (9 : Int32) then r_10 else (9 : Int32)) := ⟨_, rfl⟩
    rw [← eh_16] at hG
    replace HW := HW h_16 eh_16
    refine lv_aload_n hx hb dX3_gatherSpares_19 rfl (lv_at hl 0 rfl) ?_
    refine g_getr hx hb hw inG3 hown hK hG gl_97 rfl gk_97 (by decide) 3 (by decide) (by rw [gm_97]; decide) (r := 107) gr_97_3 lk20 dX3_gatherSpares_20 ?_
    refine lv_iconst (v := 0) hx hb dX3_gatherSpares_23 (by decide) ?_
    obtain ⟨P_24, HC_24, HW⟩ := HW
    refine g_callv (g_runS (As := [.ref (ad 107), .int (0 : Int32)]) (rest := []) ⟨hx, hb, hml, hown, hts⟩ (m_J7_fill_53178 l D cy ad h_16 g_10 H.size 107 gk_107 gl_107 (0 : Int32) P_24 HC_24) (va_cwS 2 hts (gd_S (wm3 238 rfl rfl) (wm2 17 rfl rfl) (wm1 8 rfl rfl) (wm2 18 rfl rfl)) rfl rfl rfl (by decide +kernel) ⟨Nat.le_of_ble_eq_true rfl, Nat.le_of_ble_eq_true rfl⟩) hK hNw hG rfl rfl hl.1 rfl (lv_room (Nat.le_of_ble_eq_true rfl)) dX3_gatherSpares_24 ⟨Nat.zero_le _, Nat.zero_le _⟩) hG (fun h_24 g_24 H locs hq hG => ?_)
    replace HW := HW h_24 g_24 hq
    refine lv_aload_n hx hb dX3_gatherSpares_27 rfl (lv_at hl 0 rfl) ?_
    refine g_getr hx hb hw inG3 hown hK hG gl_97 rfl gk_97 (by decide) 4 (by decide) (by rw [gm_97]; decide) (r := 108) gr_97_4 lk23 dX3_gatherSpares_28 ?_
    refine lv_iconst (v := 0) hx hb dX3_gatherSpares_31 (by decide) ?_
    obtain ⟨P_32, HC_32, HW⟩ := HW
    refine g_callv (g_runS (As := [.ref (ad 108), .int (0 : Int32)]) (rest := []) ⟨hx, hb, hml, hown, hts⟩ (m_J7_fill_53178 l D cy ad h_24 g_24 H.size 108 gk_108 gl_108 (0 : Int32) P_32 HC_32) (va_cwS 2 hts (gd_S (wm3 238 rfl rfl) (wm2 17 rfl rfl) (wm1 8 rfl rfl) (wm2 18 rfl rfl)) rfl rfl rfl (by decide +kernel) ⟨Nat.le_of_ble_eq_true rfl, Nat.le_of_ble_eq_true rfl⟩) hK hNw hG rfl rfl hl.1 rfl (lv_room (Nat.le_of_ble_eq_true rfl)) dX3_gatherSpares_32 ⟨Nat.zero_le _, Nat.zero_le _⟩) hG (fun h_32 g_32 H locs hq hG => ?_)
    replace HW := HW h_32 g_32 hq
    refine lv_aload_n hx hb dX3_gatherSpares_35 rfl (lv_at hl 0 rfl) ?_
    refine g_getr hx hb hw inG3 hown hK hG gl_97 rfl gk_97 (by decide) 2 (by decide) (by rw [gm_97]; decide) (r := 106) gr_97_2 lk16 dX3_gatherSpares_36 ?_
    refine lv_iconst (v := 0) hx hb dX3_gatherSpares_39 (by decide) ?_
    refine lv_iconst (v := 0) hx hb dX3_gatherSpares_40 (by decide) ?_
    refine g_iast hx hb hK hG gl_106 gk_106 gn_106 HW.1 dX3_gatherSpares_41 (fun H locs hG => ?_)
    replace HW := HW.2
    obtain ⟨h_41, eh_41⟩ : ∃ y : HI, y = hu h_32 106 (0 : Int32).toNatClampNeg (0 : Int32) := ⟨_, rfl⟩
    rw [← eh_41] at hG
    replace HW := HW h_41 eh_41
    refine lv_iconst (v := 0) hx hb dX3_gatherSpares_42 (by decide) ?_
    refine lv_istore_n (lv' := [(1, .int (0 : Int32)), (0, .ref (ad 97))]) hx hb dX3_gatherSpares_43 rfl hl (by decide) rfl (fun ls hl => ?_)
    obtain ⟨n_44, HW⟩ := HW
    exact L44 n_44 (0 : Int32) h_41 g_32 _ _ _ HW hG (lv_sub hl [1, 0] rfl)
  exact E0 _ _ _ hG hl

def w_J6_bitCount_0f7a4 (x0 : Int32) (h : HI) (g : HL) (Q : Int32 → HI → HL → Prop) : Prop :=
  (∀ x0_9 : Int32, x0_9 = (x0 - (((x0.toUInt32 >>> ((1 : Int32).toUInt32 &&& Int32.toUInt32 31)).toInt32) &&& (1431655765 : Int32))) → (∀ x0_23 : Int32, x0_23 = ((x0_9 &&& (858993459 : Int32)) + (((x0_9.toUInt32 >>> ((2 : Int32).toUInt32 &&& Int32.toUInt32 31)).toInt32) &&& (858993459 : Int32))) → (∀ x0_33 : Int32, x0_33 = ((x0_23 + ((x0_23.toUInt32 >>> ((4 : Int32).toUInt32 &&& Int32.toUInt32 31)).toInt32)) &&& (252645135 : Int32)) → (∀ x0_40 : Int32, x0_40 = (x0_33 + ((x0_33.toUInt32 >>> ((8 : Int32).toUInt32 &&& Int32.toUInt32 31)).toInt32)) → (∀ x0_47 : Int32, x0_47 = (x0_40 + ((x0_40.toUInt32 >>> ((16 : Int32).toUInt32 &&& Int32.toUInt32 31)).toInt32)) → Q (x0_47 &&& (63 : Int32)) h g)))))
set_option maxHeartbeats 8000000 in
set_option maxRecDepth 100000 in
theorem m_J6_bitCount_0f7a4 (l : Launch) (D : va_G) (cy : Nat → ClassId) (ad : Nat → Nat) (h : HI) (g : HL) (sz : Nat) (x0 : Int32) (Q : Int32 → HI → HL → Prop) (HW : w_J6_bitCount_0f7a4 x0 h g Q) : Met l yJ6_bitCount_0f7a4 (wa yJ6_bitCount_0f7a4 cJ6_bitCount_0f7a4 1 (some .int)) ({ frames := 0, cells := 0, slots := 0, locals := 0 }) (va_Pc [.int x0] (gI D cy ad h g sz)) (va_Qi (fun (r : Int32) (u : HI × HL) => Q r u.1 u.2) (gB D cy ad sz) (gA ad sz)) 0 0 (gA ad sz) := by
  refine Met.ofW (cc := cJ6_bitCount_0f7a4) (maxL := 1) (ret := (some .int)) (by decide) rfl ?_
  intro p e s m args below meth c s₁ B hml hv
  obtain ⟨hav, hsz, hP, hK, hD0, hNw⟩ := hv
  have hx := B.exec
  have hb := B.bytes
  have hr := B.returns
  have hts := atoms_spec (ws := (wa yJ6_bitCount_0f7a4 cJ6_bitCount_0f7a4 1 (some .int))) B.pre
  have hw := wa_hw hts
  have hown : s.vm.findClass RJ6 = some m.cls := findClass_of_methodNamed B.named
  have hlocks := B.notSynchronized
  subst hsz
  have hG : gG D cy ad (gA ad s.heap.size) s.heap h g s.heap [] := ⟨hP, gA_self hD0, va_S.rf⟩
  clear hP hD0
  have cn265 := hw (.constant RJ6 265 (1431655765)) (wm4 4 rfl rfl)
  have cn266 := hw (.constant RJ6 266 (858993459)) (wm4 5 rfl rfl)
  have cn267 := hw (.constant RJ6 267 (252645135)) (wm4 6 rfl rfl)
  rw [show (headSpec (wa yJ6_bitCount_0f7a4 cJ6_bitCount_0f7a4 1 (some .int)) ({ frames := 0, cells := 0, slots := 0, locals := 0 } : Room)).room = ({ frames := 0, cells := 0, slots := 0, locals := 0 } : Room) from rfl]
  have hl := lv_entry ([.int x0]) (n := 1) (Nat.le_of_ble_eq_true rfl)
  rw [show entryFrame m args 1 = entryFrame m ([.int x0] : List Value).toArray 1 from by rw [hav], lg_entry_eq]
  generalize (lg_sl ([.int x0]) ++ List.replicate (1 - (lg_sl ([.int x0])).length) Slot.unset).toArray = ls at hl ⊢
  have hl : lv_has ls 1 [(0, .int x0)] := hl
  have E0 : ∀ (H : Heap) (locs : List Loc) (ls : Array Slot), gG D cy ad (gA ad s.heap.size) s.heap h g H locs → lv_has ls 1 [(0, .int x0)] → W p l e ({ frames := 0, cells := 0, slots := 0, locals := 0 } : Room) s m args below meth c H locs 0 0 (MQ below (va_Qi (fun (r : Int32) (u : HI × HL) => Q r u.1 u.2) (gB D cy ad s.heap.size) (gA ad s.heap.size)) args s 0 0 (gA ad s.heap.size)) (F0 m 0 ls []) := by
    intro H locs ls hG hl
    unfold w_J6_bitCount_0f7a4 at HW
    refine lv_iload_n hx hb dJ6_bitCount_0f7a4_0 rfl (lv_at hl 0 rfl) ?_
    refine lv_iload_n hx hb dJ6_bitCount_0f7a4_1 rfl (lv_at hl 0 rfl) ?_
    refine lv_iconst (v := 1) hx hb dJ6_bitCount_0f7a4_2 (by decide) ?_
    refine lv_iushr hx hb dJ6_bitCount_0f7a4_3 rfl ?_
    refine lv_ldcw (v := 1431655765) hx hb hown cn265 dJ6_bitCount_0f7a4_4 ?_
    refine lv_iand hx hb dJ6_bitCount_0f7a4_7 ?_
    refine lv_isub hx hb dJ6_bitCount_0f7a4_8 ?_
    refine lv_topi (fun x0_9 ex0_9 => ?_)
    replace HW := HW x0_9 ex0_9
    refine lv_istore_n (lv' := [(0, .int x0_9)]) hx hb dJ6_bitCount_0f7a4_9 rfl hl (by decide) rfl (fun ls hl => ?_)
    refine lv_iload_n hx hb dJ6_bitCount_0f7a4_10 rfl (lv_at hl 0 rfl) ?_
    refine lv_ldcw (v := 858993459) hx hb hown cn266 dJ6_bitCount_0f7a4_11 ?_
    refine lv_iand hx hb dJ6_bitCount_0f7a4_14 ?_
    refine lv_iload_n hx hb dJ6_bitCount_0f7a4_15 rfl (lv_at hl 0 rfl) ?_
    refine lv_iconst (v := 2) hx hb dJ6_bitCount_0f7a4_16 (by decide) ?_
    refine lv_iushr hx hb dJ6_bitCount_0f7a4_17 rfl ?_
    refine lv_ldcw (v := 858993459) hx hb hown cn266 dJ6_bitCount_0f7a4_18 ?_
    refine lv_iand hx hb dJ6_bitCount_0f7a4_21 ?_
    refine lv_iadd hx hb dJ6_bitCount_0f7a4_22 ?_
    refine lv_topi (fun x0_23 ex0_23 => ?_)
    replace HW := HW x0_23 ex0_23
    refine lv_istore_n (lv' := [(0, .int x0_23)]) hx hb dJ6_bitCount_0f7a4_23 rfl hl (by decide) rfl (fun ls hl => ?_)
    refine lv_iload_n hx hb dJ6_bitCount_0f7a4_24 rfl (lv_at hl 0 rfl) ?_
    refine lv_iload_n hx hb dJ6_bitCount_0f7a4_25 rfl (lv_at hl 0 rfl) ?_
    refine lv_iconst (v := 4) hx hb dJ6_bitCount_0f7a4_26 (by decide) ?_
    refine lv_iushr hx hb dJ6_bitCount_0f7a4_27 rfl ?_
    refine lv_iadd hx hb dJ6_bitCount_0f7a4_28 ?_
    refine lv_ldcw (v := 252645135) hx hb hown cn267 dJ6_bitCount_0f7a4_29 ?_
    refine lv_iand hx hb dJ6_bitCount_0f7a4_32 ?_
    refine lv_topi (fun x0_33 ex0_33 => ?_)
    replace HW := HW x0_33 ex0_33
    refine lv_istore_n (lv' := [(0, .int x0_33)]) hx hb dJ6_bitCount_0f7a4_33 rfl hl (by decide) rfl (fun ls hl => ?_)
    refine lv_iload_n hx hb dJ6_bitCount_0f7a4_34 rfl (lv_at hl 0 rfl) ?_
    refine lv_iload_n hx hb dJ6_bitCount_0f7a4_35 rfl (lv_at hl 0 rfl) ?_
    refine lv_bipush (v := 8) hx hb dJ6_bitCount_0f7a4_36 (by decide) ?_
    refine lv_iushr hx hb dJ6_bitCount_0f7a4_38 rfl ?_
    refine lv_iadd hx hb dJ6_bitCount_0f7a4_39 ?_
    refine lv_topi (fun x0_40 ex0_40 => ?_)
    replace HW := HW x0_40 ex0_40
    refine lv_istore_n (lv' := [(0, .int x0_40)]) hx hb dJ6_bitCount_0f7a4_40 rfl hl (by decide) rfl (fun ls hl => ?_)
    refine lv_iload_n hx hb dJ6_bitCount_0f7a4_41 rfl (lv_at hl 0 rfl) ?_
    refine lv_iload_n hx hb dJ6_bitCount_0f7a4_42 rfl (lv_at hl 0 rfl) ?_
    refine lv_bipush (v := 16) hx hb dJ6_bitCount_0f7a4_43 (by decide) ?_
    refine lv_iushr hx hb dJ6_bitCount_0f7a4_45 rfl ?_
    refine lv_iadd hx hb dJ6_bitCount_0f7a4_46 ?_
    refine lv_topi (fun x0_47 ex0_47 => ?_)
    replace HW := HW x0_47 ex0_47
    refine lv_istore_n (lv' := [(0, .int x0_47)]) hx hb dJ6_bitCount_0f7a4_47 rfl hl (by decide) rfl (fun ls hl => ?_)
    refine lv_iload_n hx hb dJ6_bitCount_0f7a4_48 rfl (lv_at hl 0 rfl) ?_
    refine lv_bipush (v := 63) hx hb dJ6_bitCount_0f7a4_49 (by decide) ?_
    refine lv_iand hx hb dJ6_bitCount_0f7a4_51 ?_
    exact W.iret (v := (x0_47 &&& (63 : Int32))) hx hb hr (fun t ht hW => ⟨⟨(x0_47 &&& (63 : Int32)), (h, g), rfl, HW, g_B ht hG⟩, hG.2.2.F ht⟩) hG.2.2.2.2 dJ6_bitCount_0f7a4_52
  exact E0 _ _ _ hG hl

def j_X3_parts_41 (Q : Int32 → HI → HL → Prop) (K11 : Int32 → Int32 → Int32 → HI → HL → Prop) (x1 : Int32) (x3 : Int32) (x4 : Int32) (h : HI) (g : HL) : Prop :=
  (∀ x4_41 : Int32, x4_41 = (x4 + 1) → K11 x1 x3 x4_41 h g)
def b_X3_parts_11 (Q : Int32 → HI → HL → Prop) (K11 : Int32 → Int32 → Int32 → HI → HL → Prop) (x1 : Int32) (x3 : Int32) (x4 : Int32) (h : HI) (g : HL) : Prop :=
  ((x3 ≤ x4 → Q (0 : Int32) h g) ∧ (¬ x3 ≤ x4 → (vp_in x4 4 ∧ (∀ x5_21 : Int32, x5_21 = (h 108 x4.toNatClampNeg) → (((x1 &&& x5_21) = 0 → j_X3_parts_41 Q K11 x1 x3 x4 h g) ∧ (¬ (x1 &&& x5_21) = 0 → (((x1 &&& x5_21) = x5_21 → j_X3_parts_41 Q K11 x1 x3 x4 h g) ∧ (¬ (x1 &&& x5_21) = x5_21 → Q (1 : Int32) h g))))))))
def F_X3_parts_11 (Q : Int32 → HI → HL → Prop) (K : Int32 × Int32 × Int32 × HI × HL → Prop) (q : Int32 × Int32 × Int32 × HI × HL) : Prop := b_X3_parts_11 Q (fun x1 x3 x4 h g => K (x1, x3, x4, h, g)) q.1 q.2.1 q.2.2.1 q.2.2.2.1 q.2.2.2.2
def w_X3_parts (x1 : Int32) (h : HI) (g : HL) (Q : Int32 → HI → HL → Prop) : Prop :=
  lpE (F_X3_parts_11 Q) (x1, (4 : Int32), (0 : Int32), h, g)
set_option maxHeartbeats 8000000 in
set_option maxRecDepth 100000 in
theorem m_X3_parts (l : Launch) (D : va_G) (cy : Nat → ClassId) (ad : Nat → Nat) (h : HI) (g : HL) (sz : Nat) (x1 : Int32) (Q : Int32 → HI → HL → Prop) (HW : w_X3_parts x1 h g Q) : Met l yX3_parts (wa yX3_parts cX3_parts 6 (some .boolean)) ({ frames := 0, cells := 0, slots := 0, locals := 0 }) (va_Pc [.ref (ad 97), .int x1] (gI D cy ad h g sz)) (va_Qi (fun (r : Int32) (u : HI × HL) => zb r ∧ Q r u.1 u.2) (gB D cy ad sz) (gA ad sz)) 0 0 (gA ad sz) := by
  refine Met.ofW (cc := cX3_parts) (maxL := 6) (ret := (some .boolean)) (by decide) rfl ?_
  intro p e s m args below meth c s₁ B hml hv
  obtain ⟨hav, hsz, hP, hK, hD0, hNw⟩ := hv
  have hx := B.exec
  have hb := B.bytes
  have hr := B.returns
  have hts := atoms_spec (ws := (wa yX3_parts cX3_parts 6 (some .boolean))) B.pre
  have hw := wa_hw hts
  have hown : s.vm.findClass RX3 = some m.cls := findClass_of_methodNamed B.named
  have hlocks := B.notSynchronized
  subst hsz
  have hG : gG D cy ad (gA ad s.heap.size) s.heap h g s.heap [] := ⟨hP, gA_self hD0, va_S.rf⟩
  clear hP hD0
  have lk23 := hw (.fieldLink RX3 23 "OldWorks$Givings" "pairs" "[I") (wm2 54 rfl rfl)
  rw [show (headSpec (wa yX3_parts cX3_parts 6 (some .boolean)) ({ frames := 0, cells := 0, slots := 0, locals := 0 } : Room)).room = ({ frames := 0, cells := 0, slots := 0, locals := 0 } : Room) from rfl]
  have hl := lv_entry ([.ref (ad 97), .int x1]) (n := 6) (Nat.le_of_ble_eq_true rfl)
  rw [show entryFrame m args 6 = entryFrame m ([.ref (ad 97), .int x1] : List Value).toArray 6 from by rw [hav], lg_entry_eq]
  generalize (lg_sl ([.ref (ad 97), .int x1]) ++ List.replicate (6 - (lg_sl ([.ref (ad 97), .int x1])).length) Slot.unset).toArray = ls at hl ⊢
  have hl : lv_has ls 6 [(0, .ref (ad 97)), (1, .int x1)] := hl
  have B41 : ∀ (K11 : Int32 → Int32 → Int32 → HI → HL → Prop) (hK11 : ∀ (x1 : Int32) (x3 : Int32) (x4 : Int32) (h : HI) (g : HL) (H : Heap) (locs : List Loc) (ls : Array Slot), K11 x1 x3 x4 h g → gG D cy ad (gA ad s.heap.size) s.heap h g H locs → lv_has ls 6 [(1, .int x1), (2, .ref (ad 108)), (3, .int x3), (4, .int x4)] → W p l e ({ frames := 0, cells := 0, slots := 0, locals := 0 } : Room) s m args below meth c H locs 0 0 (MQ below (va_Qi (fun (r : Int32) (u : HI × HL) => zb r ∧ Q r u.1 u.2) (gB D cy ad s.heap.size) (gA ad s.heap.size)) args s 0 0 (gA ad s.heap.size)) (F0 m 11 ls [])) (x1 : Int32) (x3 : Int32) (x4 : Int32) (h : HI) (g : HL) (H : Heap) (locs : List Loc) (ls : Array Slot), j_X3_parts_41 Q K11 x1 x3 x4 h g → gG D cy ad (gA ad s.heap.size) s.heap h g H locs → lv_has ls 6 [(1, .int x1), (2, .ref (ad 108)), (3, .int x3), (4, .int x4)] → W p l e ({ frames := 0, cells := 0, slots := 0, locals := 0 } : Room) s m args below meth c H locs 0 0 (MQ below (va_Qi (fun (r : Int32) (u : HI × HL) => zb r ∧ Q r u.1 u.2) (gB D cy ad s.heap.size) (gA ad s.heap.size)) args s 0 0 (gA ad s.heap.size)) (F0 m 41 ls []) := by
    intro K11 hK11 x1 x3 x4 h g H locs ls HW hG hl
    unfold j_X3_parts_41 at HW
    obtain ⟨x4_41, ex4_41⟩ : ∃ y : Int32, y = (x4 + 1) := ⟨_, rfl⟩
    replace HW := HW x4_41 ex4_41
    refine lv_iinc (v := x4_41) (lv' := [(4, .int x4_41), (1, .int x1), (2, .ref (ad 108)), (3, .int x3)]) hx hb dX3_parts_41 hl (k := 3) rfl (by rw [ex4_41]; rfl) (by decide) rfl (fun ls hl => ?_)
    refine lv_goto (tgt := 11) hx hb dX3_parts_44 (by decide) ?_
    exact hK11 x1 x3 x4_41 h g _ _ _ HW hG (lv_sub hl [1, 2, 3, 0] rfl)
  have L11 : ∀ (n : Nat) (x1 : Int32) (x3 : Int32) (x4 : Int32) (h : HI) (g : HL) (H : Heap) (locs : List Loc) (ls : Array Slot), lpN (F_X3_parts_11 Q) n (x1, x3, x4, h, g) → gG D cy ad (gA ad s.heap.size) s.heap h g H locs → lv_has ls 6 [(1, .int x1), (2, .ref (ad 108)), (3, .int x3), (4, .int x4)] → W p l e ({ frames := 0, cells := 0, slots := 0, locals := 0 } : Room) s m args below meth c H locs 0 0 (MQ below (va_Qi (fun (r : Int32) (u : HI × HL) => zb r ∧ Q r u.1 u.2) (gB D cy ad s.heap.size) (gA ad s.heap.size)) args s 0 0 (gA ad s.heap.size)) (F0 m 11 ls []) := by
    intro n
    induction n with
    | zero => intro x1 x3 x4 h g H locs ls HW; exact HW.elim
    | succ n ih =>
      intro x1 x3 x4 h g H locs ls HW hG hl
      have HW : b_X3_parts_11 Q (fun x1 x3 x4 h g => lpN (F_X3_parts_11 Q) n (x1, x3, x4, h, g)) x1 x3 x4 h g := HW
      generalize hKe : (fun (x1 : Int32) (x3 : Int32) (x4 : Int32) (h : HI) (g : HL) => lpN (F_X3_parts_11 Q) n (x1, x3, x4, h, g)) = K11 at HW
      have hK11 : ∀ (x1 : Int32) (x3 : Int32) (x4 : Int32) (h : HI) (g : HL) (H : Heap) (locs : List Loc) (ls : Array Slot), K11 x1 x3 x4 h g → gG D cy ad (gA ad s.heap.size) s.heap h g H locs → lv_has ls 6 [(1, .int x1), (2, .ref (ad 108)), (3, .int x3), (4, .int x4)] → W p l e ({ frames := 0, cells := 0, slots := 0, locals := 0 } : Room) s m args below meth c H locs 0 0 (MQ below (va_Qi (fun (r : Int32) (u : HI × HL) => zb r ∧ Q r u.1 u.2) (gB D cy ad s.heap.size) (gA ad s.heap.size)) args s 0 0 (gA ad s.heap.size)) (F0 m 11 ls []) := by subst hKe; exact ih
      clear ih
      clear hKe
      unfold b_X3_parts_11 at HW
      refine lv_iload hx hb dX3_parts_11 (lv_at hl 3 rfl) ?_
      refine lv_iload_n hx hb dX3_parts_13 rfl (lv_at hl 2 rfl) ?_
      refine lv_icmp_ge (tgt := 47) hx hb dX3_parts_14 (by decide) (fun c_14 => ?_) (fun c_14 => ?_)
      · replace HW := HW.1 c_14
        refine lv_iconst (v := 0) hx hb dX3_parts_47 (by decide) ?_
        exact W.zret (v := (0 : Int32)) hx hb hr rfl (fun t ht hW => ⟨⟨(0 : Int32), (h, g), rfl, ⟨Or.inl rfl, HW⟩, g_B ht hG⟩, hG.2.2.F ht⟩) hG.2.2.2.2 dX3_parts_48
      · replace HW := HW.2 c_14
        refine lv_aload_n hx hb dX3_parts_17 rfl (lv_at hl 1 rfl) ?_
        refine lv_iload hx hb dX3_parts_18 (lv_at hl 3 rfl) ?_
        refine g_iald hx hb hK hG gl_108 gk_108 gn_108 HW.1 dX3_parts_20 ?_
        replace HW := HW.2
        refine lv_topi (fun x5_21 ex5_21 => ?_)
        replace HW := HW x5_21 ex5_21
        refine lv_istore (lv' := [(5, .int x5_21), (1, .int x1), (2, .ref (ad 108)), (3, .int x3), (4, .int x4)]) hx hb dX3_parts_21 hl (by decide) rfl (fun ls hl => ?_)
        refine lv_iload_n hx hb dX3_parts_23 rfl (lv_at hl 1 rfl) ?_
        refine lv_iload hx hb dX3_parts_24 (lv_at hl 0 rfl) ?_
        refine lv_iand hx hb dX3_parts_26 ?_
        refine lv_if_eq (tgt := 41) hx hb dX3_parts_27 (by decide) (fun c_27 => ?_) (fun c_27 => ?_)
        · replace HW := HW.1 c_27
          exact B41 K11 hK11 x1 x3 x4 h g _ _ _ HW hG (lv_sub hl [1, 2, 3, 4] rfl)
        · replace HW := HW.2 c_27
          refine lv_iload_n hx hb dX3_parts_30 rfl (lv_at hl 1 rfl) ?_
          refine lv_iload hx hb dX3_parts_31 (lv_at hl 0 rfl) ?_
          refine lv_iand hx hb dX3_parts_33 ?_
          refine lv_iload hx hb dX3_parts_34 (lv_at hl 0 rfl) ?_
          refine lv_icmp_eq (tgt := 41) hx hb dX3_parts_36 (by decide) (fun c_36 => ?_) (fun c_36 => ?_)
          · replace HW := HW.1 c_36
            exact B41 K11 hK11 x1 x3 x4 h g _ _ _ HW hG (lv_sub hl [1, 2, 3, 4] rfl)
          · replace HW := HW.2 c_36
            refine lv_iconst (v := 1) hx hb dX3_parts_39 (by decide) ?_
            exact W.zret (v := (1 : Int32)) hx hb hr rfl (fun t ht hW => ⟨⟨(1 : Int32), (h, g), rfl, ⟨Or.inr rfl, HW⟩, g_B ht hG⟩, hG.2.2.F ht⟩) hG.2.2.2.2 dX3_parts_40
  have E0 : ∀ (H : Heap) (locs : List Loc) (ls : Array Slot), gG D cy ad (gA ad s.heap.size) s.heap h g H locs → lv_has ls 6 [(0, .ref (ad 97)), (1, .int x1)] → W p l e ({ frames := 0, cells := 0, slots := 0, locals := 0 } : Room) s m args below meth c H locs 0 0 (MQ below (va_Qi (fun (r : Int32) (u : HI × HL) => zb r ∧ Q r u.1 u.2) (gB D cy ad s.heap.size) (gA ad s.heap.size)) args s 0 0 (gA ad s.heap.size)) (F0 m 0 ls []) := by
    intro H locs ls hG hl
    unfold w_X3_parts at HW
    refine lv_aload_n hx hb dX3_parts_0 rfl (lv_at hl 0 rfl) ?_
    refine g_getr hx hb hw inG3 hown hK hG gl_97 rfl gk_97 (by decide) 4 (by decide) (by rw [gm_97]; decide) (r := 108) gr_97_4 lk23 dX3_parts_1 ?_
    refine lv_astore_n (lv' := [(2, .ref (ad 108)), (0, .ref (ad 97)), (1, .int x1)]) hx hb dX3_parts_4 rfl hl (by decide) rfl (fun ls hl => ?_)
    refine lv_aload_n hx hb dX3_parts_5 rfl (lv_at hl 0 rfl) ?_
    refine g_alen hx hb hK hG gl_108 gk_108 (v := (4 : Int32)) (by rw [gn_108]; decide) dX3_parts_6 ?_
    refine lv_istore_n (lv' := [(3, .int (4 : Int32)), (2, .ref (ad 108)), (0, .ref (ad 97)), (1, .int x1)]) hx hb dX3_parts_7 rfl hl (by decide) rfl (fun ls hl => ?_)
    refine lv_iconst (v := 0) hx hb dX3_parts_8 (by decide) ?_
    refine lv_istore (lv' := [(4, .int (0 : Int32)), (3, .int (4 : Int32)), (2, .ref (ad 108)), (0, .ref (ad 97)), (1, .int x1)]) hx hb dX3_parts_9 hl (by decide) rfl (fun ls hl => ?_)
    obtain ⟨n_11, HW⟩ := HW
    exact L11 n_11 x1 (4 : Int32) (0 : Int32) h g _ _ _ HW hG (lv_sub hl [4, 2, 1, 0] rfl)
  exact E0 _ _ _ hG hl

def w_X3_after (x1 : Int32) (x2 : Int32) (h : HI) (g : HL) (Q : Int32 → HI → HL → Prop) : Prop :=
  (∃ P_3 : Int32 → HI → HL → Prop, w_X10_within x1 (0 : Int32) (5 : Int32) h g P_3 ∧ ∀ (r_3 : Int32) (h_3 : HI) (g_3 : HL), zb r_3 → P_3 r_3 h_3 g_3 → ((r_3 = 0 → Q (-1 : Int32) h_3 g_3) ∧ (¬ r_3 = 0 → (∃ P_14 : Int32 → HI → HL → Prop, w_X10_within x2 (0 : Int32) (511 : Int32) h_3 g_3 P_14 ∧ ∀ (r_14 : Int32) (h_14 : HI) (g_14 : HL), zb r_14 → P_14 r_14 h_14 g_14 → ((¬ r_14 = 0 → (vp_in (x1 + (1 : Int32)) 7 ∧ (vp_in x2 512 ∧ Q (h_14 (99 + (x1 + (1 : Int32)).toNatClampNeg) x2.toNatClampNeg) h_14 g_14))) ∧ (r_14 = 0 → Q (-1 : Int32) h_14 g_14))))))
set_option maxHeartbeats 8000000 in
set_option maxRecDepth 100000 in
theorem m_X3_after (l : Launch) (D : va_G) (cy : Nat → ClassId) (ad : Nat → Nat) (h : HI) (g : HL) (sz : Nat) (x1 : Int32) (x2 : Int32) (Q : Int32 → HI → HL → Prop) (HW : w_X3_after x1 x2 h g Q) : Met l yX3_after (wa yX3_after cX3_after 3 (some .int)) ({ frames := 1, cells := 0, slots := 0, locals := 22 }) (va_Pc [.ref (ad 97), .int x1, .int x2] (gI D cy ad h g sz)) (va_Qi (fun (r : Int32) (u : HI × HL) => Q r u.1 u.2) (gB D cy ad sz) (gA ad sz)) 0 0 (gA ad sz) := by
  refine Met.ofW (cc := cX3_after) (maxL := 3) (ret := (some .int)) (by decide) rfl ?_
  intro p e s m args below meth c s₁ B hml hv
  obtain ⟨hav, hsz, hP, hK, hD0, hNw⟩ := hv
  have hx := B.exec
  have hb := B.bytes
  have hr := B.returns
  have hts := atoms_spec (ws := (wa yX3_after cX3_after 3 (some .int))) B.pre
  have hw := wa_hw hts
  have hown : s.vm.findClass RX3 = some m.cls := findClass_of_methodNamed B.named
  have hlocks := B.notSynchronized
  subst hsz
  have hG : gG D cy ad (gA ad s.heap.size) s.heap h g s.heap [] := ⟨hP, gA_self hD0, va_S.rf⟩
  clear hP hD0
  have lk13 := hw (.fieldLink RX3 13 "OldWorks$Givings" "most" "[[I") (wm2 51 rfl rfl)
  rw [show (headSpec (wa yX3_after cX3_after 3 (some .int)) ({ frames := 1, cells := 0, slots := 0, locals := 22 } : Room)).room = ({ frames := 1, cells := 0, slots := 0, locals := 22 } : Room) from rfl]
  have hl := lv_entry ([.ref (ad 97), .int x1, .int x2]) (n := 3) (Nat.le_of_ble_eq_true rfl)
  rw [show entryFrame m args 3 = entryFrame m ([.ref (ad 97), .int x1, .int x2] : List Value).toArray 3 from by rw [hav], lg_entry_eq]
  generalize (lg_sl ([.ref (ad 97), .int x1, .int x2]) ++ List.replicate (3 - (lg_sl ([.ref (ad 97), .int x1, .int x2])).length) Slot.unset).toArray = ls at hl ⊢
  have hl : lv_has ls 3 [(0, .ref (ad 97)), (1, .int x1), (2, .int x2)] := hl
  have E0 : ∀ (H : Heap) (locs : List Loc) (ls : Array Slot), gG D cy ad (gA ad s.heap.size) s.heap h g H locs → lv_has ls 3 [(0, .ref (ad 97)), (1, .int x1), (2, .int x2)] → W p l e ({ frames := 1, cells := 0, slots := 0, locals := 22 } : Room) s m args below meth c H locs 0 0 (MQ below (va_Qi (fun (r : Int32) (u : HI × HL) => Q r u.1 u.2) (gB D cy ad s.heap.size) (gA ad s.heap.size)) args s 0 0 (gA ad s.heap.size)) (F0 m 0 ls []) := by
    intro H locs ls hG hl
    unfold w_X3_after at HW
    refine lv_iload_n hx hb dX3_after_0 rfl (lv_at hl 1 rfl) ?_
    refine lv_iconst (v := 0) hx hb dX3_after_1 (by decide) ?_
    refine lv_iconst (v := 5) hx hb dX3_after_2 (by decide) ?_
    obtain ⟨P_3, HC_3, HW⟩ := HW
    refine g_callz (g_runSN (As := [.int x1, .int (0 : Int32), .int (5 : Int32)]) (rest := []) ⟨hx, hb, hml, hown, hts⟩ (m_X10_within l D cy ad h g H.size x1 (0 : Int32) (5 : Int32) P_3 HC_3) ⟨va_cnB 3 hts (gd_w (wm2 195 rfl rfl)) rfl rfl rfl (hNw _ (List.mem_of_getElem? (i := 3) rfl)) (hw (.initialized RX10) (wm1 1 rfl rfl)) (by decide +kernel) ⟨Nat.le_of_ble_eq_true rfl, Nat.le_of_ble_eq_true rfl⟩, hw (.static yX10_within) (wm2 194 rfl rfl), trivial⟩ hK hNw hG rfl rfl hl.1 rfl (lv_room (Nat.le_of_ble_eq_true rfl)) dX3_after_3 ⟨Nat.zero_le _, Nat.zero_le _⟩) hG (fun r_3 h_3 g_3 H locs hz hq hG => ?_)
    replace HW := HW r_3 h_3 g_3 hz hq
    refine lv_if_eq (tgt := 20) hx hb dX3_after_6 (by decide) (fun c_6 => ?_) (fun c_6 => ?_)
    · replace HW := HW.1 c_6
      refine lv_iconst (v := (-1)) hx hb dX3_after_20 (by decide) ?_
      exact W.iret (v := (-1 : Int32)) hx hb hr (fun t ht hW => ⟨⟨(-1 : Int32), (h_3, g_3), rfl, HW, g_B ht hG⟩, hG.2.2.F ht⟩) hG.2.2.2.2 dX3_after_21
    · replace HW := HW.2 c_6
      refine lv_iload_n hx hb dX3_after_9 rfl (lv_at hl 2 rfl) ?_
      refine lv_iconst (v := 0) hx hb dX3_after_10 (by decide) ?_
      refine lv_sipush (v := 511) hx hb dX3_after_11 (by decide) ?_
      obtain ⟨P_14, HC_14, HW⟩ := HW
      refine g_callz (g_runSN (As := [.int x2, .int (0 : Int32), .int (511 : Int32)]) (rest := []) ⟨hx, hb, hml, hown, hts⟩ (m_X10_within l D cy ad h_3 g_3 H.size x2 (0 : Int32) (511 : Int32) P_14 HC_14) ⟨va_cnB 3 hts (gd_w (wm2 195 rfl rfl)) rfl rfl rfl (hNw _ (List.mem_of_getElem? (i := 3) rfl)) (hw (.initialized RX10) (wm1 1 rfl rfl)) (by decide +kernel) ⟨Nat.le_of_ble_eq_true rfl, Nat.le_of_ble_eq_true rfl⟩, hw (.static yX10_within) (wm2 194 rfl rfl), trivial⟩ hK hNw hG rfl rfl hl.1 rfl (lv_room (Nat.le_of_ble_eq_true rfl)) dX3_after_14 ⟨Nat.zero_le _, Nat.zero_le _⟩) hG (fun r_14 h_14 g_14 H locs hz hq hG => ?_)
      replace HW := HW r_14 h_14 g_14 hz hq
      refine lv_if_ne (tgt := 22) hx hb dX3_after_17 (by decide) (fun c_17 => ?_) (fun c_17 => ?_)
      · replace HW := HW.1 c_17
        refine lv_aload_n hx hb dX3_after_22 rfl (lv_at hl 0 rfl) ?_
        refine g_getr hx hb hw inG3 hown hK hG gl_97 rfl gk_97 (by decide) 1 (by decide) (by rw [gm_97]; decide) (r := 98) gr_97_1 lk13 dX3_after_23 ?_
        refine lv_iload_n hx hb dX3_after_26 rfl (lv_at hl 1 rfl) ?_
        refine lv_iconst (v := 1) hx hb dX3_after_27 (by decide) ?_
        refine lv_iadd hx hb dX3_after_28 ?_
        have hi_29 := vp_lt HW.1
        refine g_aald hx hb hK hG gl_98 gk_98 gn_98 HW.1 (go_98 _ hi_29).1 dX3_after_29 ?_
        replace HW := HW.2
        refine lv_iload_n hx hb dX3_after_30 rfl (lv_at hl 2 rfl) ?_
        refine g_iald hx hb hK hG ((go_98 _ hi_29).2.2.1) ((go_98 _ hi_29).2.1) ((go_98 _ hi_29).2.2.2) HW.1 dX3_after_31 ?_
        replace HW := HW.2
        exact W.iret (v := (h_14 (99 + (x1 + (1 : Int32)).toNatClampNeg) x2.toNatClampNeg)) hx hb hr (fun t ht hW => ⟨⟨(h_14 (99 + (x1 + (1 : Int32)).toNatClampNeg) x2.toNatClampNeg), (h_14, g_14), rfl, HW, g_B ht hG⟩, hG.2.2.F ht⟩) hG.2.2.2.2 dX3_after_32
      · replace HW := HW.2 c_17
        refine lv_iconst (v := (-1)) hx hb dX3_after_20 (by decide) ?_
        exact W.iret (v := (-1 : Int32)) hx hb hr (fun t ht hW => ⟨⟨(-1 : Int32), (h_14, g_14), rfl, HW, g_B ht hG⟩, hG.2.2.F ht⟩) hG.2.2.2.2 dX3_after_21
  exact E0 _ _ _ hG hl

def w_X3_open (x1 : Int32) (x2 : Int32) (h : HI) (g : HL) (Q : Int32 → HI → HL → Prop) : Prop :=
  (∃ P_9 : Int32 → HI → HL → Prop, w_X8_at 12 x1 (0 : Int32) h g P_9 ∧ ∀ (r_9 : Int32) (h_9 : HI) (g_9 : HL), P_9 r_9 h_9 g_9 → (∃ P_22 : Int32 → HI → HL → Prop, w_X10_within r_9 (0 : Int32) ((4 : Int32) - (1 : Int32)) h_9 g_9 P_22 ∧ ∀ (r_22 : Int32) (h_22 : HI) (g_22 : HL), zb r_22 → P_22 r_22 h_22 g_22 → ((r_22 = 0 → Q (0 : Int32) h_22 g_22) ∧ (¬ r_22 = 0 → (vp_in r_9 4 ∧ Q ((h_22 107 r_9.toNatClampNeg) &&& (x2 ^^^ (-1 : Int32))) h_22 g_22)))))
set_option maxHeartbeats 8000000 in
set_option maxRecDepth 100000 in
theorem m_X3_open (l : Launch) (D : va_G) (cy : Nat → ClassId) (ad : Nat → Nat) (h : HI) (g : HL) (sz : Nat) (x1 : Int32) (x2 : Int32) (Q : Int32 → HI → HL → Prop) (HW : w_X3_open x1 x2 h g Q) : Met l yX3_open (wa yX3_open cX3_open 4 (some .int)) ({ frames := 1, cells := 0, slots := 0, locals := 23 }) (va_Pc [.ref (ad 97), .int x1, .int x2] (gI D cy ad h g sz)) (va_Qi (fun (r : Int32) (u : HI × HL) => Q r u.1 u.2) (gB D cy ad sz) (gA ad sz)) 0 0 (gA ad sz) := by
  refine Met.ofW (cc := cX3_open) (maxL := 4) (ret := (some .int)) (by decide) rfl ?_
  intro p e s m args below meth c s₁ B hml hv
  obtain ⟨hav, hsz, hP, hK, hD0, hNw⟩ := hv
  have hx := B.exec
  have hb := B.bytes
  have hr := B.returns
  have hts := atoms_spec (ws := (wa yX3_open cX3_open 4 (some .int))) B.pre
  have hw := wa_hw hts
  have hown : s.vm.findClass RX3 = some m.cls := findClass_of_methodNamed B.named
  have hlocks := B.notSynchronized
  subst hsz
  have hG : gG D cy ad (gA ad s.heap.size) s.heap h g s.heap [] := ⟨hP, gA_self hD0, va_S.rf⟩
  clear hP hD0
  have lk26 := hw (.fieldLink RX3 26 "OldWorks$Givings" "shop" "LOldWorks$Shop;") (wm2 50 rfl rfl)
  have lk33 := hw (.fieldLink RX3 33 "OldWorks$Shop" "machines" "LOldWorks$Table;") (wm1 78 rfl rfl)
  have lk20 := hw (.fieldLink RX3 20 "OldWorks$Givings" "kinds" "[I") (wm2 53 rfl rfl)
  rw [show (headSpec (wa yX3_open cX3_open 4 (some .int)) ({ frames := 1, cells := 0, slots := 0, locals := 23 } : Room)).room = ({ frames := 1, cells := 0, slots := 0, locals := 23 } : Room) from rfl]
  have hl := lv_entry ([.ref (ad 97), .int x1, .int x2]) (n := 4) (Nat.le_of_ble_eq_true rfl)
  rw [show entryFrame m args 4 = entryFrame m ([.ref (ad 97), .int x1, .int x2] : List Value).toArray 4 from by rw [hav], lg_entry_eq]
  generalize (lg_sl ([.ref (ad 97), .int x1, .int x2]) ++ List.replicate (4 - (lg_sl ([.ref (ad 97), .int x1, .int x2])).length) Slot.unset).toArray = ls at hl ⊢
  have hl : lv_has ls 4 [(0, .ref (ad 97)), (1, .int x1), (2, .int x2)] := hl
  have E0 : ∀ (H : Heap) (locs : List Loc) (ls : Array Slot), gG D cy ad (gA ad s.heap.size) s.heap h g H locs → lv_has ls 4 [(0, .ref (ad 97)), (1, .int x1), (2, .int x2)] → W p l e ({ frames := 1, cells := 0, slots := 0, locals := 23 } : Room) s m args below meth c H locs 0 0 (MQ below (va_Qi (fun (r : Int32) (u : HI × HL) => Q r u.1 u.2) (gB D cy ad s.heap.size) (gA ad s.heap.size)) args s 0 0 (gA ad s.heap.size)) (F0 m 0 ls []) := by
    intro H locs ls hG hl
    unfold w_X3_open at HW
    refine lv_aload_n hx hb dX3_open_0 rfl (lv_at hl 0 rfl) ?_
    refine g_getr hx hb hw inG3 hown hK hG gl_97 rfl gk_97 (by decide) 0 (by decide) (by rw [gm_97]; decide) (r := 1) gr_97_0 lk26 dX3_open_1 ?_
    refine g_getr hx hb hw inG6 hown hK hG gl_1 rfl gk_1 (by decide) 5 (by decide) (by rw [gm_1]; decide) (r := 12) gr_1_5 lk33 dX3_open_4 ?_
    refine lv_iload_n hx hb dX3_open_7 rfl (lv_at hl 1 rfl) ?_
    refine lv_iconst (v := 0) hx hb dX3_open_8 (by decide) ?_
    obtain ⟨P_9, HC_9, HW⟩ := HW
    refine g_calli (g_runV (As := [.int x1, .int (0 : Int32)]) (rest := []) ⟨hx, hb, hml, hown, hts⟩ (m_X8_at l D cy ad h g H.size 12 (gs_12) x1 (0 : Int32) P_9 HC_9) (cwV 2 hts (gd_V (wm3 239 rfl rfl) (wm2 221 rfl rfl) (wm2 222 rfl rfl) (wm1 3 rfl rfl) (wm2 223 rfl rfl)) rfl rfl rfl (by decide +kernel) ⟨Nat.le_of_ble_eq_true rfl, Nat.le_of_ble_eq_true rfl⟩) hK hNw hG gl_12 rfl gk_12 (by decide) rfl rfl hl.1 rfl (lv_room (Nat.le_of_ble_eq_true rfl)) dX3_open_9 ⟨Nat.zero_le _, Nat.zero_le _⟩) hG (fun r_9 h_9 g_9 H locs hq hG => ?_)
    replace HW := HW r_9 h_9 g_9 hq
    refine lv_istore_n (lv' := [(3, .int r_9), (0, .ref (ad 97)), (1, .int x1), (2, .int x2)]) hx hb dX3_open_12 rfl hl (by decide) rfl (fun ls hl => ?_)
    refine lv_iload_n hx hb dX3_open_13 rfl (lv_at hl 0 rfl) ?_
    refine lv_iconst (v := 0) hx hb dX3_open_14 (by decide) ?_
    refine lv_aload_n hx hb dX3_open_15 rfl (lv_at hl 1 rfl) ?_
    refine g_getr hx hb hw inG3 hown hK hG gl_97 rfl gk_97 (by decide) 3 (by decide) (by rw [gm_97]; decide) (r := 107) gr_97_3 lk20 dX3_open_16 ?_
    refine g_alen hx hb hK hG gl_107 gk_107 (v := (4 : Int32)) (by rw [gn_107]; decide) dX3_open_19 ?_
    refine lv_iconst (v := 1) hx hb dX3_open_20 (by decide) ?_
    refine lv_isub hx hb dX3_open_21 ?_
    obtain ⟨P_22, HC_22, HW⟩ := HW
    refine g_callz (g_runSN (As := [.int r_9, .int (0 : Int32), .int ((4 : Int32) - (1 : Int32))]) (rest := []) ⟨hx, hb, hml, hown, hts⟩ (m_X10_within l D cy ad h_9 g_9 H.size r_9 (0 : Int32) ((4 : Int32) - (1 : Int32)) P_22 HC_22) ⟨va_cnB 3 hts (gd_w (wm2 195 rfl rfl)) rfl rfl rfl (hNw _ (List.mem_of_getElem? (i := 3) rfl)) (hw (.initialized RX10) (wm1 1 rfl rfl)) (by decide +kernel) ⟨Nat.le_of_ble_eq_true rfl, Nat.le_of_ble_eq_true rfl⟩, hw (.static yX10_within) (wm2 194 rfl rfl), trivial⟩ hK hNw hG rfl rfl hl.1 rfl (lv_room (Nat.le_of_ble_eq_true rfl)) dX3_open_22 ⟨Nat.zero_le _, Nat.zero_le _⟩) hG (fun r_22 h_22 g_22 H locs hz hq hG => ?_)
    replace HW := HW r_22 h_22 g_22 hz hq
    refine lv_if_eq (tgt := 41) hx hb dX3_open_25 (by decide) (fun c_25 => ?_) (fun c_25 => ?_)
    · replace HW := HW.1 c_25
      refine lv_iconst (v := 0) hx hb dX3_open_41 (by decide) ?_
      exact W.iret (v := (0 : Int32)) hx hb hr (fun t ht hW => ⟨⟨(0 : Int32), (h_22, g_22), rfl, HW, g_B ht hG⟩, hG.2.2.F ht⟩) hG.2.2.2.2 dX3_open_42
    · replace HW := HW.2 c_25
      refine lv_aload_n hx hb dX3_open_28 rfl (lv_at hl 1 rfl) ?_
      refine g_getr hx hb hw inG3 hown hK hG gl_97 rfl gk_97 (by decide) 3 (by decide) (by rw [gm_97]; decide) (r := 107) gr_97_3 lk20 dX3_open_29 ?_
      refine lv_iload_n hx hb dX3_open_32 rfl (lv_at hl 0 rfl) ?_
      refine g_iald hx hb hK hG gl_107 gk_107 gn_107 HW.1 dX3_open_33 ?_
      replace HW := HW.2
      refine lv_iload_n hx hb dX3_open_34 rfl (lv_at hl 3 rfl) ?_
      refine lv_iconst (v := (-1)) hx hb dX3_open_35 (by decide) ?_
      refine lv_ixor hx hb dX3_open_36 ?_
      refine lv_iand hx hb dX3_open_37 ?_
      refine lv_goto (tgt := 42) hx hb dX3_open_38 (by decide) ?_
      exact W.iret (v := ((h_22 107 r_9.toNatClampNeg) &&& (x2 ^^^ (-1 : Int32)))) hx hb hr (fun t ht hW => ⟨⟨((h_22 107 r_9.toNatClampNeg) &&& (x2 ^^^ (-1 : Int32))), (h_22, g_22), rfl, HW, g_B ht hG⟩, hG.2.2.F ht⟩) hG.2.2.2.2 dX3_open_42
  exact E0 _ _ _ hG hl
end
section
-- 03.w04
def j_X3_mostOf_54 (Q : Int32 → HI → HL → Prop) (K18 : Int32 → Int32 → Int32 → Int32 → Int32 → HI → HL → Prop) (x1 : Int32) (x2 : Int32) (x3 : Int32) (x4 : Int32) (x5 : Int32) (h : HI) (g : HL) : Prop :=
  (∀ x5_54 : Int32, x5_54 = (x5 + 1) → K18 x1 x2 x3 x4 x5_54 h g)
def b_X3_mostOf_18 (Q : Int32 → HI → HL → Prop) (K18 : Int32 → Int32 → Int32 → Int32 → Int32 → HI → HL → Prop) (x1 : Int32) (x2 : Int32) (x3 : Int32) (x4 : Int32) (x5 : Int32) (h : HI) (g : HL) : Prop :=
  (((h 97 5) ≤ x5 → Q x3 h g) ∧ (¬ (h 97 5) ≤ x5 → ((¬ ((x4 >>> (x5 &&& 31)) &&& (1 : Int32)) = (1 : Int32) → j_X3_mostOf_54 Q K18 x1 x2 x3 x4 x5 h g) ∧ (((x4 >>> (x5 &&& 31)) &&& (1 : Int32)) = (1 : Int32) → (∃ P_47 : Int32 → HI → HL → Prop, w_X3_after x1 (x2 ||| ((1 : Int32) <<< (x5 &&& 31))) h g P_47 ∧ ∀ (r_47 : Int32) (h_47 : HI) (g_47 : HL), P_47 r_47 h_47 g_47 → (∀ x3_53 : Int32, x3_53 = (if x3 < r_47 then r_47 else x3) → j_X3_mostOf_54 Q K18 x1 x2 x3_53 x4 x5 h_47 g_47))))))
def F_X3_mostOf_18 (Q : Int32 → HI → HL → Prop) (K : Int32 × Int32 × Int32 × Int32 × Int32 × HI × HL → Prop) (q : Int32 × Int32 × Int32 × Int32 × Int32 × HI × HL) : Prop := b_X3_mostOf_18 Q (fun x1 x2 x3 x4 x5 h g => K (x1, x2, x3, x4, x5, h, g)) q.1 q.2.1 q.2.2.1 q.2.2.2.1 q.2.2.2.2.1 q.2.2.2.2.2.1 q.2.2.2.2.2.2
def w_X3_mostOf (x1 : Int32) (x2 : Int32) (h : HI) (g : HL) (Q : Int32 → HI → HL → Prop) : Prop :=
  (∃ P_3 : Int32 → HI → HL → Prop, w_X3_after x1 x2 h g P_3 ∧ ∀ (r_3 : Int32) (h_3 : HI) (g_3 : HL), P_3 r_3 h_3 g_3 → (∃ P_10 : Int32 → HI → HL → Prop, w_X3_open x1 x2 h_3 g_3 P_10 ∧ ∀ (r_10 : Int32) (h_10 : HI) (g_10 : HL), P_10 r_10 h_10 g_10 → lpE (F_X3_mostOf_18 Q) (x1, x2, r_3, r_10, (0 : Int32), h_10, g_10)))
set_option maxHeartbeats 8000000 in
set_option maxRecDepth 100000 in
theorem m_X3_mostOf (l : Launch) (D : va_G) (cy : Nat → ClassId) (ad : Nat → Nat) (h : HI) (g : HL) (sz : Nat) (x1 : Int32) (x2 : Int32) (Q : Int32 → HI → HL → Prop) (HW : w_X3_mostOf x1 x2 h g Q) : Met l yX3_mostOf (wa yX3_mostOf cX3_mostOf 6 (some .int)) ({ frames := 2, cells := 0, slots := 0, locals := 46 }) (va_Pc [.ref (ad 97), .int x1, .int x2] (gI D cy ad h g sz)) (va_Qi (fun (r : Int32) (u : HI × HL) => Q r u.1 u.2) (gB D cy ad sz) (gA ad sz)) 0 0 (gA ad sz) := by
  refine Met.ofW (cc := cX3_mostOf) (maxL := 6) (ret := (some .int)) (by decide) rfl ?_
  intro p e s m args below meth c s₁ B hml hv
  obtain ⟨hav, hsz, hP, hK, hD0, hNw⟩ := hv
  have hx := B.exec
  have hb := B.bytes
  have hr := B.returns
  have hts := atoms_spec (ws := (wa yX3_mostOf cX3_mostOf 6 (some .int))) B.pre
  have hw := wa_hw hts
  have hown : s.vm.findClass RX3 = some m.cls := findClass_of_methodNamed B.named
  have hlocks := B.notSynchronized
  subst hsz
  have hG : gG D cy ad (gA ad s.heap.size) s.heap h g s.heap [] := ⟨hP, gA_self hD0, va_S.rf⟩
  clear hP hD0
  have lk51 := hw (.fieldLink RX3 51 "OldWorks$Givings" "spares" "I") (wm2 55 rfl rfl)
  have ml89 := hw (.methodLink RX3 89 Lib.Math.max.name) (wm4 23 rfl rfl)
  have ms89 := hw (.static Lib.Math.max.name) (wm3 45 rfl rfl)
  have mi89 := hw (.initialized "java/lang/Math") (wm1 14 rfl rfl)
  have mc89 := hw (.code Lib.Math.max.name Lib.Math.max.code 2 (some .int)) (wm3 46 rfl rfl)
  rw [show (headSpec (wa yX3_mostOf cX3_mostOf 6 (some .int)) ({ frames := 2, cells := 0, slots := 0, locals := 46 } : Room)).room = ({ frames := 2, cells := 0, slots := 0, locals := 46 } : Room) from rfl]
  have hl := lv_entry ([.ref (ad 97), .int x1, .int x2]) (n := 6) (Nat.le_of_ble_eq_true rfl)
  rw [show entryFrame m args 6 = entryFrame m ([.ref (ad 97), .int x1, .int x2] : List Value).toArray 6 from by rw [hav], lg_entry_eq]
  generalize (lg_sl ([.ref (ad 97), .int x1, .int x2]) ++ List.replicate (6 - (lg_sl ([.ref (ad 97), .int x1, .int x2])).length) Slot.unset).toArray = ls at hl ⊢
  have hl : lv_has ls 6 [(0, .ref (ad 97)), (1, .int x1), (2, .int x2)] := hl
  have B54 : ∀ (K18 : Int32 → Int32 → Int32 → Int32 → Int32 → HI → HL → Prop) (hK18 : ∀ (x1 : Int32) (x2 : Int32) (x3 : Int32) (x4 : Int32) (x5 : Int32) (h : HI) (g : HL) (H : Heap) (locs : List Loc) (ls : Array Slot), K18 x1 x2 x3 x4 x5 h g → gG D cy ad (gA ad s.heap.size) s.heap h g H locs → lv_has ls 6 [(0, .ref (ad 97)), (1, .int x1), (2, .int x2), (3, .int x3), (4, .int x4), (5, .int x5)] → W p l e ({ frames := 2, cells := 0, slots := 0, locals := 46 } : Room) s m args below meth c H locs 0 0 (MQ below (va_Qi (fun (r : Int32) (u : HI × HL) => Q r u.1 u.2) (gB D cy ad s.heap.size) (gA ad s.heap.size)) args s 0 0 (gA ad s.heap.size)) (F0 m 18 ls [])) (x1 : Int32) (x2 : Int32) (x3 : Int32) (x4 : Int32) (x5 : Int32) (h : HI) (g : HL) (H : Heap) (locs : List Loc) (ls : Array Slot), j_X3_mostOf_54 Q K18 x1 x2 x3 x4 x5 h g → gG D cy ad (gA ad s.heap.size) s.heap h g H locs → lv_has ls 6 [(0, .ref (ad 97)), (1, .int x1), (2, .int x2), (3, .int x3), (4, .int x4), (5, .int x5)] → W p l e ({ frames := 2, cells := 0, slots := 0, locals := 46 } : Room) s m args below meth c H locs 0 0 (MQ below (va_Qi (fun (r : Int32) (u : HI × HL) => Q r u.1 u.2) (gB D cy ad s.heap.size) (gA ad s.heap.size)) args s 0 0 (gA ad s.heap.size)) (F0 m 54 ls []) := by
    intro K18 hK18 x1 x2 x3 x4 x5 h g H locs ls HW hG hl
    unfold j_X3_mostOf_54 at HW
    obtain ⟨x5_54, ex5_54⟩ : ∃ y : Int32, y = (x5 + 1) := ⟨_, rfl⟩
    replace HW := HW x5_54 ex5_54
    refine lv_iinc (v := x5_54) (lv' := [(5, .int x5_54), (0, .ref (ad 97)), (1, .int x1), (2, .int x2), (3, .int x3), (4, .int x4)]) hx hb dX3_mostOf_54 hl (k := 5) rfl (by rw [ex5_54]; rfl) (by decide) rfl (fun ls hl => ?_)
    refine lv_goto (tgt := 18) hx hb dX3_mostOf_57 (by decide) ?_
    exact hK18 x1 x2 x3 x4 x5_54 h g _ _ _ HW hG (lv_sub hl [1, 2, 3, 4, 5, 0] rfl)
  have L18 : ∀ (n : Nat) (x1 : Int32) (x2 : Int32) (x3 : Int32) (x4 : Int32) (x5 : Int32) (h : HI) (g : HL) (H : Heap) (locs : List Loc) (ls : Array Slot), lpN (F_X3_mostOf_18 Q) n (x1, x2, x3, x4, x5, h, g) → gG D cy ad (gA ad s.heap.size) s.heap h g H locs → lv_has ls 6 [(0, .ref (ad 97)), (1, .int x1), (2, .int x2), (3, .int x3), (4, .int x4), (5, .int x5)] → W p l e ({ frames := 2, cells := 0, slots := 0, locals := 46 } : Room) s m args below meth c H locs 0 0 (MQ below (va_Qi (fun (r : Int32) (u : HI × HL) => Q r u.1 u.2) (gB D cy ad s.heap.size) (gA ad s.heap.size)) args s 0 0 (gA ad s.heap.size)) (F0 m 18 ls []) := by
    intro n
    induction n with
    | zero => intro x1 x2 x3 x4 x5 h g H locs ls HW; exact HW.elim
    | succ n ih =>
      intro x1 x2 x3 x4 x5 h g H locs ls HW hG hl
      have HW : b_X3_mostOf_18 Q (fun x1 x2 x3 x4 x5 h g => lpN (F_X3_mostOf_18 Q) n (x1, x2, x3, x4, x5, h, g)) x1 x2 x3 x4 x5 h g := HW
      generalize hKe : (fun (x1 : Int32) (x2 : Int32) (x3 : Int32) (x4 : Int32) (x5 : Int32) (h : HI) (g : HL) => lpN (F_X3_mostOf_18 Q) n (x1, x2, x3, x4, x5, h, g)) = K18 at HW
      have hK18 : ∀ (x1 : Int32) (x2 : Int32) (x3 : Int32) (x4 : Int32) (x5 : Int32) (h : HI) (g : HL) (H : Heap) (locs : List Loc) (ls : Array Slot), K18 x1 x2 x3 x4 x5 h g → gG D cy ad (gA ad s.heap.size) s.heap h g H locs → lv_has ls 6 [(0, .ref (ad 97)), (1, .int x1), (2, .int x2), (3, .int x3), (4, .int x4), (5, .int x5)] → W p l e ({ frames := 2, cells := 0, slots := 0, locals := 46 } : Room) s m args below meth c H locs 0 0 (MQ below (va_Qi (fun (r : Int32) (u : HI × HL) => Q r u.1 u.2) (gB D cy ad s.heap.size) (gA ad s.heap.size)) args s 0 0 (gA ad s.heap.size)) (F0 m 18 ls []) := by subst hKe; exact ih
      clear ih
      clear hKe
      unfold b_X3_mostOf_18 at HW
      refine lv_iload hx hb dX3_mostOf_18 (lv_at hl 5 rfl) ?_
      refine lv_aload_n hx hb dX3_mostOf_20 rfl (lv_at hl 0 rfl) ?_
      refine g_geti hx hb hw inG3 hown hK hG gl_97 rfl gk_97 (by decide) 5 (by decide) (by rw [gm_97]; decide) gr_97_5 lk51 dX3_mostOf_21 ?_
      refine lv_icmp_ge (tgt := 60) hx hb dX3_mostOf_24 (by decide) (fun c_24 => ?_) (fun c_24 => ?_)
      · replace HW := HW.1 c_24
        refine lv_iload_n hx hb dX3_mostOf_60 rfl (lv_at hl 3 rfl) ?_
        exact W.iret (v := x3) hx hb hr (fun t ht hW => ⟨⟨x3, (h, g), rfl, HW, g_B ht hG⟩, hG.2.2.F ht⟩) hG.2.2.2.2 dX3_mostOf_61
      · replace HW := HW.2 c_24
        refine lv_iload hx hb dX3_mostOf_27 (lv_at hl 4 rfl) ?_
        refine lv_iload hx hb dX3_mostOf_29 (lv_at hl 5 rfl) ?_
        refine lv_ishr hx hb dX3_mostOf_31 ?_
        refine lv_iconst (v := 1) hx hb dX3_mostOf_32 (by decide) ?_
        refine lv_iand hx hb dX3_mostOf_33 ?_
        refine lv_iconst (v := 1) hx hb dX3_mostOf_34 (by decide) ?_
        refine lv_icmp_ne (tgt := 54) hx hb dX3_mostOf_35 (by decide) (fun c_35 => ?_) (fun c_35 => ?_)
        · replace HW := HW.1 c_35
          exact B54 K18 hK18 x1 x2 x3 x4 x5 h g _ _ _ HW hG (lv_sub hl [0, 1, 2, 3, 4, 5] rfl)
        · replace HW := HW.2 c_35
          refine lv_iload_n hx hb dX3_mostOf_38 rfl (lv_at hl 3 rfl) ?_
          refine lv_aload_n hx hb dX3_mostOf_39 rfl (lv_at hl 0 rfl) ?_
          refine lv_iload_n hx hb dX3_mostOf_40 rfl (lv_at hl 1 rfl) ?_
          refine lv_iload_n hx hb dX3_mostOf_41 rfl (lv_at hl 2 rfl) ?_
          refine lv_iconst (v := 1) hx hb dX3_mostOf_42 (by decide) ?_
          refine lv_iload hx hb dX3_mostOf_43 (lv_at hl 5 rfl) ?_
          refine lv_ishl hx hb dX3_mostOf_45 ?_
          refine lv_ior hx hb dX3_mostOf_46 ?_
          obtain ⟨P_47, HC_47, HW⟩ := HW
          refine g_calli (g_runV (As := [.int x1, .int (x2 ||| ((1 : Int32) <<< (x5 &&& 31)))]) (rest := [.int x3]) ⟨hx, hb, hml, hown, hts⟩ (m_X3_after l D cy ad h g H.size x1 (x2 ||| ((1 : Int32) <<< (x5 &&& 31))) P_47 HC_47) (cwV 2 hts (gd_V (wm4 15 rfl rfl) (wm4 17 rfl rfl) (wmp2 (q := (yX3_after, 6)) 5 rfl) (wm1 9 rfl rfl) (wm4 18 rfl rfl)) rfl rfl rfl (by decide +kernel) ⟨Nat.le_of_ble_eq_true rfl, Nat.le_of_ble_eq_true rfl⟩) hK hNw hG gl_97 rfl gk_97 (by decide) rfl rfl hl.1 rfl (lv_room (Nat.le_of_ble_eq_true rfl)) dX3_mostOf_47 ⟨Nat.zero_le _, Nat.zero_le _⟩) hG (fun r_47 h_47 g_47 H locs hq hG => ?_)
          replace HW := HW r_47 h_47 g_47 hq
          refine va_mmax hx hb (hml.trans hl.1.symm) hown ml89 ms89 mi89 mc89 (by decide) (Nat.le_of_ble_eq_true rfl) (Nat.zero_le _) (Nat.zero_le _) dX3_mostOf_50 ?_
          refine lv_topi (fun x3_53 ex3_53 => ?_)
          replace HW := HW x3_53 ex3_53
          refine lv_istore_n (lv' := [(3, .int x3_53), (0, .ref (ad 97)), (1, .int x1), (2, .int x2), (4, .int x4), (5, .int x5)]) hx hb dX3_mostOf_53 rfl hl (by decide) rfl (fun ls hl => ?_)
          exact B54 K18 hK18 x1 x2 x3_53 x4 x5 h_47 g_47 _ _ _ HW hG (lv_sub hl [1, 2, 3, 0, 4, 5] rfl)
  have E0 : ∀ (H : Heap) (locs : List Loc) (ls : Array Slot), gG D cy ad (gA ad s.heap.size) s.heap h g H locs → lv_has ls 6 [(0, .ref (ad 97)), (1, .int x1), (2, .int x2)] → W p l e ({ frames := 2, cells := 0, slots := 0, locals := 46 } : Room) s m args below meth c H locs 0 0 (MQ below (va_Qi (fun (r : Int32) (u : HI × HL) => Q r u.1 u.2) (gB D cy ad s.heap.size) (gA ad s.heap.size)) args s 0 0 (gA ad s.heap.size)) (F0 m 0 ls []) := by
    intro H locs ls hG hl
    unfold w_X3_mostOf at HW
    refine lv_aload_n hx hb dX3_mostOf_0 rfl (lv_at hl 0 rfl) ?_
    refine lv_iload_n hx hb dX3_mostOf_1 rfl (lv_at hl 1 rfl) ?_
    refine lv_iload_n hx hb dX3_mostOf_2 rfl (lv_at hl 2 rfl) ?_
    obtain ⟨P_3, HC_3, HW⟩ := HW
    refine g_calli (g_runV (As := [.int x1, .int x2]) (rest := []) ⟨hx, hb, hml, hown, hts⟩ (m_X3_after l D cy ad h g H.size x1 x2 P_3 HC_3) (cwV 2 hts (gd_V (wm4 15 rfl rfl) (wm4 17 rfl rfl) (wmp2 (q := (yX3_after, 6)) 5 rfl) (wm1 9 rfl rfl) (wm4 18 rfl rfl)) rfl rfl rfl (by decide +kernel) ⟨Nat.le_of_ble_eq_true rfl, Nat.le_of_ble_eq_true rfl⟩) hK hNw hG gl_97 rfl gk_97 (by decide) rfl rfl hl.1 rfl (lv_room (Nat.le_of_ble_eq_true rfl)) dX3_mostOf_3 ⟨Nat.zero_le _, Nat.zero_le _⟩) hG (fun r_3 h_3 g_3 H locs hq hG => ?_)
    replace HW := HW r_3 h_3 g_3 hq
    refine lv_istore_n (lv' := [(3, .int r_3), (0, .ref (ad 97)), (1, .int x1), (2, .int x2)]) hx hb dX3_mostOf_6 rfl hl (by decide) rfl (fun ls hl => ?_)
    refine lv_aload_n hx hb dX3_mostOf_7 rfl (lv_at hl 1 rfl) ?_
    refine lv_iload_n hx hb dX3_mostOf_8 rfl (lv_at hl 2 rfl) ?_
    refine lv_iload_n hx hb dX3_mostOf_9 rfl (lv_at hl 3 rfl) ?_
    obtain ⟨P_10, HC_10, HW⟩ := HW
    refine g_calli (g_runV (As := [.int x1, .int x2]) (rest := []) ⟨hx, hb, hml, hown, hts⟩ (m_X3_open l D cy ad h_3 g_3 H.size x1 x2 P_10 HC_10) (cwV 2 hts (gd_V (wm4 19 rfl rfl) (wm4 21 rfl rfl) (wmp2 (q := (yX3_open, 6)) 6 rfl) (wm1 9 rfl rfl) (wm4 22 rfl rfl)) rfl rfl rfl (by decide +kernel) ⟨Nat.le_of_ble_eq_true rfl, Nat.le_of_ble_eq_true rfl⟩) hK hNw hG gl_97 rfl gk_97 (by decide) rfl rfl hl.1 rfl (lv_room (Nat.le_of_ble_eq_true rfl)) dX3_mostOf_10 ⟨Nat.zero_le _, Nat.zero_le _⟩) hG (fun r_10 h_10 g_10 H locs hq hG => ?_)
    replace HW := HW r_10 h_10 g_10 hq
    refine lv_istore (lv' := [(4, .int r_10), (3, .int r_3), (0, .ref (ad 97)), (1, .int x1), (2, .int x2)]) hx hb dX3_mostOf_13 hl (by decide) rfl (fun ls hl => ?_)
    refine lv_iconst (v := 0) hx hb dX3_mostOf_15 (by decide) ?_
    refine lv_istore (lv' := [(5, .int (0 : Int32)), (4, .int r_10), (3, .int r_3), (0, .ref (ad 97)), (1, .int x1), (2, .int x2)]) hx hb dX3_mostOf_16 hl (by decide) rfl (fun ls hl => ?_)
    obtain ⟨n_18, HW⟩ := HW
    exact L18 n_18 x1 x2 r_3 r_10 (0 : Int32) h_10 g_10 _ _ _ HW hG (lv_sub hl [3, 4, 5, 2, 1, 0] rfl)
  exact E0 _ _ _ hG hl

def j_X3_find_116 (Q : HI → HL → Prop) (K78 : Int32 → Int32 → HI → HL → Prop) (K85 : Int32 → Int32 → Int32 → HI → HL → Prop) (x2 : Int32) (x3 : Int32) (x4 : Int32) (h : HI) (g : HL) : Prop :=
  (∀ x4_116 : Int32, x4_116 = (x4 + 1) → K85 x2 x3 x4_116 h g)
def b_X3_find_85 (Q : HI → HL → Prop) (K78 : Int32 → Int32 → HI → HL → Prop) (K85 : Int32 → Int32 → Int32 → HI → HL → Prop) (x2 : Int32) (x3 : Int32) (x4 : Int32) (h : HI) (g : HL) : Prop :=
  ((x2 ≤ x4 → (∀ x3_122 : Int32, x3_122 = (x3 + (-1)) → K78 x2 x3_122 h g)) ∧ (¬ x2 ≤ x4 → (∃ P_93 : Int32 → HI → HL → Prop, w_J6_bitCount_0f7a4 x4 h g P_93 ∧ ∀ (r_93 : Int32) (h_93 : HI) (g_93 : HL), P_93 r_93 h_93 g_93 → ((x3 < r_93 → j_X3_find_116 Q K78 K85 x2 x3 x4 h_93 g_93) ∧ (¬ x3 < r_93 → (vp_in x3 7 ∧ (∃ P_112 : Int32 → HI → HL → Prop, w_X3_mostOf x3 x4 h_93 g_93 P_112 ∧ ∀ (r_112 : Int32) (h_112 : HI) (g_112 : HL), P_112 r_112 h_112 g_112 → (vp_in x4 512 ∧ ∀ h_115 : HI, h_115 = hu h_112 (99 + x3.toNatClampNeg) x4.toNatClampNeg r_112 → j_X3_find_116 Q K78 K85 x2 x3 x4 h_115 g_112))))))))
def F_X3_find_85 (Q : HI → HL → Prop) (K78 : Int32 → Int32 → HI → HL → Prop) (K : Int32 × Int32 × Int32 × HI × HL → Prop) (q : Int32 × Int32 × Int32 × HI × HL) : Prop := b_X3_find_85 Q K78 (fun x2 x3 x4 h g => K (x2, x3, x4, h, g)) q.1 q.2.1 q.2.2.1 q.2.2.2.1 q.2.2.2.2
def b_X3_find_78 (Q : HI → HL → Prop) (K78 : Int32 → Int32 → HI → HL → Prop) (x2 : Int32) (x3 : Int32) (h : HI) (g : HL) : Prop :=
  ((x3 < 0 → Q h g) ∧ (¬ x3 < 0 → lpE (F_X3_find_85 Q K78) (x2, x3, (0 : Int32), h, g)))
def F_X3_find_78 (Q : HI → HL → Prop) (K : Int32 × Int32 × HI × HL → Prop) (q : Int32 × Int32 × HI × HL) : Prop := b_X3_find_78 Q (fun x2 x3 h g => K (x2, x3, h, g)) q.1 q.2.1 q.2.2.1 q.2.2.2
def j_X3_find_68 (Q : HI → HL → Prop) (K29 : Int32 → Int32 → Int32 → HI → HL → Prop) (x1 : Int32) (x2 : Int32) (x3 : Int32) (h : HI) (g : HL) : Prop :=
  (∀ x3_68 : Int32, x3_68 = (x3 + 1) → K29 x1 x2 x3_68 h g)
def j_X3_find_67 (Q : HI → HL → Prop) (K29 : Int32 → Int32 → Int32 → HI → HL → Prop) (x1 : Int32) (x2 : Int32) (x3 : Int32) (s0 : Nat) (s1 : Int32) (s2 : Int32) (h : HI) (g : HL) : Prop :=
  (vp_in s1 512 ∧ ∀ h_67 : HI, h_67 = hu h s0 s1.toNatClampNeg s2 → j_X3_find_68 Q K29 x1 x2 x3 h_67 g)
def b_X3_find_29 (Q : HI → HL → Prop) (K29 : Int32 → Int32 → Int32 → HI → HL → Prop) (x1 : Int32) (x2 : Int32) (x3 : Int32) (h : HI) (g : HL) : Prop :=
  ((x2 ≤ x3 → (∀ x3_77 : Int32, x3_77 = (x1 - (1 : Int32)) → lpE (F_X3_find_78 Q) (x2, x3_77, h, g))) ∧ (¬ x2 ≤ x3 → (∃ P_35 : Int32 → HI → HL → Prop, w_J6_bitCount_0f7a4 x3 h g P_35 ∧ ∀ (r_35 : Int32) (h_35 : HI) (g_35 : HL), P_35 r_35 h_35 g_35 → ((x1 < r_35 → j_X3_find_68 Q K29 x1 x2 x3 h_35 g_35) ∧ (¬ x1 < r_35 → (vp_in x1 7 ∧ (∃ P_51 : Int32 → HI → HL → Prop, w_X3_parts x3 h_35 g_35 P_51 ∧ ∀ (r_51 : Int32) (h_51 : HI) (g_51 : HL), zb r_51 → P_51 r_51 h_51 g_51 → ((r_51 = 0 → (vp_in x3 512 ∧ j_X3_find_67 Q K29 x1 x2 x3 (99 + x1.toNatClampNeg) x3 (h_51 106 x3.toNatClampNeg) h_51 g_51)) ∧ (¬ r_51 = 0 → j_X3_find_67 Q K29 x1 x2 x3 (99 + x1.toNatClampNeg) x3 (-1 : Int32) h_51 g_51)))))))))
def F_X3_find_29 (Q : HI → HL → Prop) (K : Int32 × Int32 × Int32 × HI × HL → Prop) (q : Int32 × Int32 × Int32 × HI × HL) : Prop := b_X3_find_29 Q (fun x1 x2 x3 h g => K (x1, x2, x3, h, g)) q.1 q.2.1 q.2.2.1 q.2.2.2.1 q.2.2.2.2
def w_X3_find  (h : HI) (g : HL) (Q : HI → HL → Prop) : Prop :=
  (∃ P_1 : HI → HL → Prop, w_X3_gatherSpares h g P_1 ∧ ∀ (h_1 : HI) (g_1 : HL), P_1 h_1 g_1 → (∃ P_13 : Int32 → HI → HL → Prop, w_X8_rows 12 h_1 g_1 P_13 ∧ ∀ (r_13 : Int32) (h_13 : HI) (g_13 : HL), P_13 r_13 h_13 g_13 → (∀ x1_19 : Int32, x1_19 = (if r_13 < (6 : Int32) then r_13 else (6 : Int32)) → (∀ x2_26 : Int32, x2_26 = ((1 : Int32) <<< ((h_13 97 5) &&& 31)) → lpE (F_X3_find_29 Q) (x1_19, x2_26, (0 : Int32), h_13, g_13)))))
set_option maxHeartbeats 8000000 in
set_option maxRecDepth 100000 in
theorem m_X3_find (l : Launch) (D : va_G) (cy : Nat → ClassId) (ad : Nat → Nat) (h : HI) (g : HL) (sz : Nat)  (Q : HI → HL → Prop) (HW : w_X3_find h g Q) : Met l yX3_find (wa yX3_find cX3_find 5 none) ({ frames := 3, cells := 0, slots := 0, locals := 71 }) (va_Pc [.ref (ad 97)] (gI D cy ad h g sz)) (va_Qv (fun (u : HI × HL) => Q u.1 u.2) (gB D cy ad sz) (gA ad sz)) 0 0 (gA ad sz) := by
  refine Met.ofW (cc := cX3_find) (maxL := 5) (ret := none) (by decide) rfl ?_
  intro p e s m args below meth c s₁ B hml hv
  obtain ⟨hav, hsz, hP, hK, hD0, hNw⟩ := hv
  have hx := B.exec
  have hb := B.bytes
  have hr := B.returns
  have hts := atoms_spec (ws := (wa yX3_find cX3_find 5 none)) B.pre
  have hw := wa_hw hts
  have hown : s.vm.findClass RX3 = some m.cls := findClass_of_methodNamed B.named
  have hlocks := B.notSynchronized
  subst hsz
  have hG : gG D cy ad (gA ad s.heap.size) s.heap h g s.heap [] := ⟨hP, gA_self hD0, va_S.rf⟩
  clear hP hD0
  have lk26 := hw (.fieldLink RX3 26 "OldWorks$Givings" "shop" "LOldWorks$Shop;") (wm2 50 rfl rfl)
  have lk33 := hw (.fieldLink RX3 33 "OldWorks$Shop" "machines" "LOldWorks$Table;") (wm1 78 rfl rfl)
  have ml45 := hw (.methodLink RX3 45 Lib.Math.min.name) (wm3 237 rfl rfl)
  have ms45 := hw (.static Lib.Math.min.name) (wm3 99 rfl rfl)
  have mi45 := hw (.initialized "java/lang/Math") (wm1 14 rfl rfl)
  have mc45 := hw (.code Lib.Math.min.name Lib.Math.min.code 2 (some .int)) (wm3 100 rfl rfl)
  have lk51 := hw (.fieldLink RX3 51 "OldWorks$Givings" "spares" "I") (wm2 55 rfl rfl)
  have lk13 := hw (.fieldLink RX3 13 "OldWorks$Givings" "most" "[[I") (wm2 51 rfl rfl)
  have lk16 := hw (.fieldLink RX3 16 "OldWorks$Givings" "years" "[I") (wm2 52 rfl rfl)
  rw [show (headSpec (wa yX3_find cX3_find 5 none) ({ frames := 3, cells := 0, slots := 0, locals := 71 } : Room)).room = ({ frames := 3, cells := 0, slots := 0, locals := 71 } : Room) from rfl]
  have hl := lv_entry ([.ref (ad 97)]) (n := 5) (Nat.le_of_ble_eq_true rfl)
  rw [show entryFrame m args 5 = entryFrame m ([.ref (ad 97)] : List Value).toArray 5 from by rw [hav], lg_entry_eq]
  generalize (lg_sl ([.ref (ad 97)]) ++ List.replicate (5 - (lg_sl ([.ref (ad 97)])).length) Slot.unset).toArray = ls at hl ⊢
  have hl : lv_has ls 5 [(0, .ref (ad 97))] := hl
  have B116 : ∀ (K78 : Int32 → Int32 → HI → HL → Prop) (hK78 : ∀ (x2 : Int32) (x3 : Int32) (h : HI) (g : HL) (H : Heap) (locs : List Loc) (ls : Array Slot), K78 x2 x3 h g → gG D cy ad (gA ad s.heap.size) s.heap h g H locs → lv_has ls 5 [(0, .ref (ad 97)), (2, .int x2), (3, .int x3)] → W p l e ({ frames := 3, cells := 0, slots := 0, locals := 71 } : Room) s m args below meth c H locs 0 0 (MQ below (va_Qv (fun (u : HI × HL) => Q u.1 u.2) (gB D cy ad s.heap.size) (gA ad s.heap.size)) args s 0 0 (gA ad s.heap.size)) (F0 m 78 ls [])) (K85 : Int32 → Int32 → Int32 → HI → HL → Prop) (hK85 : ∀ (x2 : Int32) (x3 : Int32) (x4 : Int32) (h : HI) (g : HL) (H : Heap) (locs : List Loc) (ls : Array Slot), K85 x2 x3 x4 h g → gG D cy ad (gA ad s.heap.size) s.heap h g H locs → lv_has ls 5 [(0, .ref (ad 97)), (2, .int x2), (3, .int x3), (4, .int x4)] → W p l e ({ frames := 3, cells := 0, slots := 0, locals := 71 } : Room) s m args below meth c H locs 0 0 (MQ below (va_Qv (fun (u : HI × HL) => Q u.1 u.2) (gB D cy ad s.heap.size) (gA ad s.heap.size)) args s 0 0 (gA ad s.heap.size)) (F0 m 85 ls [])) (x2 : Int32) (x3 : Int32) (x4 : Int32) (h : HI) (g : HL) (H : Heap) (locs : List Loc) (ls : Array Slot), j_X3_find_116 Q K78 K85 x2 x3 x4 h g → gG D cy ad (gA ad s.heap.size) s.heap h g H locs → lv_has ls 5 [(0, .ref (ad 97)), (2, .int x2), (3, .int x3), (4, .int x4)] → W p l e ({ frames := 3, cells := 0, slots := 0, locals := 71 } : Room) s m args below meth c H locs 0 0 (MQ below (va_Qv (fun (u : HI × HL) => Q u.1 u.2) (gB D cy ad s.heap.size) (gA ad s.heap.size)) args s 0 0 (gA ad s.heap.size)) (F0 m 116 ls []) := by
    intro K78 hK78 K85 hK85 x2 x3 x4 h g H locs ls HW hG hl
    unfold j_X3_find_116 at HW
    obtain ⟨x4_116, ex4_116⟩ : ∃ y : Int32, y = (x4 + 1) := ⟨_, rfl⟩
    replace HW := HW x4_116 ex4_116
    refine lv_iinc (v := x4_116) (lv' := [(4, .int x4_116), (0, .ref (ad 97)), (2, .int x2), (3, .int x3)]) hx hb dX3_find_116 hl (k := 3) rfl (by rw [ex4_116]; rfl) (by decide) rfl (fun ls hl => ?_)
    refine lv_goto (tgt := 85) hx hb dX3_find_119 (by decide) ?_
    exact hK85 x2 x3 x4_116 h g _ _ _ HW hG (lv_sub hl [1, 2, 3, 0] rfl)
  have L85 : ∀ (K78 : Int32 → Int32 → HI → HL → Prop) (hK78 : ∀ (x2 : Int32) (x3 : Int32) (h : HI) (g : HL) (H : Heap) (locs : List Loc) (ls : Array Slot), K78 x2 x3 h g → gG D cy ad (gA ad s.heap.size) s.heap h g H locs → lv_has ls 5 [(0, .ref (ad 97)), (2, .int x2), (3, .int x3)] → W p l e ({ frames := 3, cells := 0, slots := 0, locals := 71 } : Room) s m args below meth c H locs 0 0 (MQ below (va_Qv (fun (u : HI × HL) => Q u.1 u.2) (gB D cy ad s.heap.size) (gA ad s.heap.size)) args s 0 0 (gA ad s.heap.size)) (F0 m 78 ls [])) (n : Nat) (x2 : Int32) (x3 : Int32) (x4 : Int32) (h : HI) (g : HL) (H : Heap) (locs : List Loc) (ls : Array Slot), lpN (F_X3_find_85 Q K78) n (x2, x3, x4, h, g) → gG D cy ad (gA ad s.heap.size) s.heap h g H locs → lv_has ls 5 [(0, .ref (ad 97)), (2, .int x2), (3, .int x3), (4, .int x4)] → W p l e ({ frames := 3, cells := 0, slots := 0, locals := 71 } : Room) s m args below meth c H locs 0 0 (MQ below (va_Qv (fun (u : HI × HL) => Q u.1 u.2) (gB D cy ad s.heap.size) (gA ad s.heap.size)) args s 0 0 (gA ad s.heap.size)) (F0 m 85 ls []) := by
    intro K78 hK78 n
    induction n with
    | zero => intro x2 x3 x4 h g H locs ls HW; exact HW.elim
    | succ n ih =>
      intro x2 x3 x4 h g H locs ls HW hG hl
      have HW : b_X3_find_85 Q K78 (fun x2 x3 x4 h g => lpN (F_X3_find_85 Q K78) n (x2, x3, x4, h, g)) x2 x3 x4 h g := HW
      generalize hKe : (fun (x2 : Int32) (x3 : Int32) (x4 : Int32) (h : HI) (g : HL) => lpN (F_X3_find_85 Q K78) n (x2, x3, x4, h, g)) = K85 at HW
      have hK85 : ∀ (x2 : Int32) (x3 : Int32) (x4 : Int32) (h : HI) (g : HL) (H : Heap) (locs : List Loc) (ls : Array Slot), K85 x2 x3 x4 h g → gG D cy ad (gA ad s.heap.size) s.heap h g H locs → lv_has ls 5 [(0, .ref (ad 97)), (2, .int x2), (3, .int x3), (4, .int x4)] → W p l e ({ frames := 3, cells := 0, slots := 0, locals := 71 } : Room) s m args below meth c H locs 0 0 (MQ below (va_Qv (fun (u : HI × HL) => Q u.1 u.2) (gB D cy ad s.heap.size) (gA ad s.heap.size)) args s 0 0 (gA ad s.heap.size)) (F0 m 85 ls []) := by subst hKe; exact ih
      clear ih
      clear hKe
      unfold b_X3_find_85 at HW
      refine lv_iload hx hb dX3_find_85 (lv_at hl 3 rfl) ?_
      refine lv_iload_n hx hb dX3_find_87 rfl (lv_at hl 1 rfl) ?_
      refine lv_icmp_ge (tgt := 122) hx hb dX3_find_88 (by decide) (fun c_88 => ?_) (fun c_88 => ?_)
      · replace HW := HW.1 c_88
        obtain ⟨x3_122, ex3_122⟩ : ∃ y : Int32, y = (x3 + (-1)) := ⟨_, rfl⟩
        replace HW := HW x3_122 ex3_122
        refine lv_iinc (v := x3_122) (lv' := [(3, .int x3_122), (0, .ref (ad 97)), (2, .int x2), (4, .int x4)]) hx hb dX3_find_122 hl (k := 2) rfl (by rw [ex3_122]; rfl) (by decide) rfl (fun ls hl => ?_)
        refine lv_goto (tgt := 78) hx hb dX3_find_125 (by decide) ?_
        exact hK78 x2 x3_122 h g _ _ _ HW hG (lv_sub hl [1, 2, 0] rfl)
      · replace HW := HW.2 c_88
        refine lv_iload hx hb dX3_find_91 (lv_at hl 3 rfl) ?_
        obtain ⟨P_93, HC_93, HW⟩ := HW
        refine g_calli (g_runS (As := [.int x4]) (rest := []) ⟨hx, hb, hml, hown, hts⟩ (m_J6_bitCount_0f7a4 l D cy ad h g H.size x4 P_93 HC_93) (va_cwS 1 hts (gd_S (wm4 1 rfl rfl) (wm4 2 rfl rfl) (wm1 15 rfl rfl) (wm4 3 rfl rfl)) rfl rfl rfl (by decide +kernel) ⟨Nat.le_of_ble_eq_true rfl, Nat.le_of_ble_eq_true rfl⟩) hK hNw hG rfl rfl hl.1 rfl (lv_room (Nat.le_of_ble_eq_true rfl)) dX3_find_93 ⟨Nat.zero_le _, Nat.zero_le _⟩) hG (fun r_93 h_93 g_93 H locs hq hG => ?_)
        replace HW := HW r_93 h_93 g_93 hq
        refine lv_iload_n hx hb dX3_find_96 rfl (lv_at hl 2 rfl) ?_
        refine lv_icmp_gt (tgt := 116) hx hb dX3_find_97 (by decide) (fun c_97 => ?_) (fun c_97 => ?_)
        · replace HW := HW.1 c_97
          exact B116 K78 hK78 K85 hK85 x2 x3 x4 h_93 g_93 _ _ _ HW hG (lv_sub hl [0, 1, 2, 3] rfl)
        · replace HW := HW.2 c_97
          refine lv_aload_n hx hb dX3_find_100 rfl (lv_at hl 0 rfl) ?_
          refine g_getr hx hb hw inG3 hown hK hG gl_97 rfl gk_97 (by decide) 1 (by decide) (by rw [gm_97]; decide) (r := 98) gr_97_1 lk13 dX3_find_101 ?_
          refine lv_iload_n hx hb dX3_find_104 rfl (lv_at hl 2 rfl) ?_
          have hi_105 := vp_lt HW.1
          refine g_aald hx hb hK hG gl_98 gk_98 gn_98 HW.1 (go_98 _ hi_105).1 dX3_find_105 ?_
          replace HW := HW.2
          refine lv_iload hx hb dX3_find_106 (lv_at hl 3 rfl) ?_
          refine lv_aload_n hx hb dX3_find_108 rfl (lv_at hl 0 rfl) ?_
          refine lv_iload_n hx hb dX3_find_109 rfl (lv_at hl 2 rfl) ?_
          refine lv_iload hx hb dX3_find_110 (lv_at hl 3 rfl) ?_
          obtain ⟨P_112, HC_112, HW⟩ := HW
          refine g_calli (g_runV (As := [.int x3, .int x4]) (rest := [.int x4, .ref (ad (99 + x3.toNatClampNeg))]) ⟨hx, hb, hml, hown, hts⟩ (m_X3_mostOf l D cy ad h_93 g_93 H.size x3 x4 P_112 HC_112) (cwV 2 hts (gd_V (wm4 11 rfl rfl) (wm4 13 rfl rfl) (wmp2 (q := (yX3_mostOf, 6)) 4 rfl) (wm1 9 rfl rfl) (wm4 14 rfl rfl)) rfl rfl rfl (by decide +kernel) ⟨Nat.le_of_ble_eq_true rfl, Nat.le_of_ble_eq_true rfl⟩) hK hNw hG gl_97 rfl gk_97 (by decide) rfl rfl hl.1 rfl (lv_room (Nat.le_of_ble_eq_true rfl)) dX3_find_112 ⟨Nat.zero_le _, Nat.zero_le _⟩) hG (fun r_112 h_112 g_112 H locs hq hG => ?_)
          replace HW := HW r_112 h_112 g_112 hq
          refine g_iast hx hb hK hG ((go_98 _ hi_105).2.2.1) ((go_98 _ hi_105).2.1) ((go_98 _ hi_105).2.2.2) HW.1 dX3_find_115 (fun H locs hG => ?_)
          replace HW := HW.2
          obtain ⟨h_115, eh_115⟩ : ∃ y : HI, y = hu h_112 (99 + x3.toNatClampNeg) x4.toNatClampNeg r_112 := ⟨_, rfl⟩
          rw [← eh_115] at hG
          replace HW := HW h_115 eh_115
          exact B116 K78 hK78 K85 hK85 x2 x3 x4 h_115 g_112 _ _ _ HW hG (lv_sub hl [0, 1, 2, 3] rfl)
  have L78 : ∀ (n : Nat) (x2 : Int32) (x3 : Int32) (h : HI) (g : HL) (H : Heap) (locs : List Loc) (ls : Array Slot), lpN (F_X3_find_78 Q) n (x2, x3, h, g) → gG D cy ad (gA ad s.heap.size) s.heap h g H locs → lv_has ls 5 [(0, .ref (ad 97)), (2, .int x2), (3, .int x3)] → W p l e ({ frames := 3, cells := 0, slots := 0, locals := 71 } : Room) s m args below meth c H locs 0 0 (MQ below (va_Qv (fun (u : HI × HL) => Q u.1 u.2) (gB D cy ad s.heap.size) (gA ad s.heap.size)) args s 0 0 (gA ad s.heap.size)) (F0 m 78 ls []) := by
    intro n
    induction n with
    | zero => intro x2 x3 h g H locs ls HW; exact HW.elim
    | succ n ih =>
      intro x2 x3 h g H locs ls HW hG hl
      have HW : b_X3_find_78 Q (fun x2 x3 h g => lpN (F_X3_find_78 Q) n (x2, x3, h, g)) x2 x3 h g := HW
      generalize hKe : (fun (x2 : Int32) (x3 : Int32) (h : HI) (g : HL) => lpN (F_X3_find_78 Q) n (x2, x3, h, g)) = K78 at HW
      have hK78 : ∀ (x2 : Int32) (x3 : Int32) (h : HI) (g : HL) (H : Heap) (locs : List Loc) (ls : Array Slot), K78 x2 x3 h g → gG D cy ad (gA ad s.heap.size) s.heap h g H locs → lv_has ls 5 [(0, .ref (ad 97)), (2, .int x2), (3, .int x3)] → W p l e ({ frames := 3, cells := 0, slots := 0, locals := 71 } : Room) s m args below meth c H locs 0 0 (MQ below (va_Qv (fun (u : HI × HL) => Q u.1 u.2) (gB D cy ad s.heap.size) (gA ad s.heap.size)) args s 0 0 (gA ad s.heap.size)) (F0 m 78 ls []) := by subst hKe; exact ih
      clear ih
      clear hKe
      unfold b_X3_find_78 at HW
      refine lv_iload_n hx hb dX3_find_78 rfl (lv_at hl 2 rfl) ?_
      refine lv_if_lt (tgt := 128) hx hb dX3_find_79 (by decide) (fun c_79 => ?_) (fun c_79 => ?_)
      · replace HW := HW.1 c_79
        exact W.vret hx hb hr (fun t ht hW => ⟨⟨(h, g), rfl, HW, g_B ht hG⟩, hG.2.2.F ht⟩) hG.2.2.2.2 dX3_find_128
      · replace HW := HW.2 c_79
        refine lv_iconst (v := 0) hx hb dX3_find_82 (by decide) ?_
        refine lv_istore (lv' := [(4, .int (0 : Int32)), (0, .ref (ad 97)), (2, .int x2), (3, .int x3)]) hx hb dX3_find_83 hl (by decide) rfl (fun ls hl => ?_)
        obtain ⟨n_85, HW⟩ := HW
        exact L85 K78 hK78 n_85 x2 x3 (0 : Int32) h g _ _ _ HW hG (lv_sub hl [1, 2, 3, 0] rfl)
  have B68 : ∀ (K29 : Int32 → Int32 → Int32 → HI → HL → Prop) (hK29 : ∀ (x1 : Int32) (x2 : Int32) (x3 : Int32) (h : HI) (g : HL) (H : Heap) (locs : List Loc) (ls : Array Slot), K29 x1 x2 x3 h g → gG D cy ad (gA ad s.heap.size) s.heap h g H locs → lv_has ls 5 [(0, .ref (ad 97)), (1, .int x1), (2, .int x2), (3, .int x3)] → W p l e ({ frames := 3, cells := 0, slots := 0, locals := 71 } : Room) s m args below meth c H locs 0 0 (MQ below (va_Qv (fun (u : HI × HL) => Q u.1 u.2) (gB D cy ad s.heap.size) (gA ad s.heap.size)) args s 0 0 (gA ad s.heap.size)) (F0 m 29 ls [])) (x1 : Int32) (x2 : Int32) (x3 : Int32) (h : HI) (g : HL) (H : Heap) (locs : List Loc) (ls : Array Slot), j_X3_find_68 Q K29 x1 x2 x3 h g → gG D cy ad (gA ad s.heap.size) s.heap h g H locs → lv_has ls 5 [(0, .ref (ad 97)), (1, .int x1), (2, .int x2), (3, .int x3)] → W p l e ({ frames := 3, cells := 0, slots := 0, locals := 71 } : Room) s m args below meth c H locs 0 0 (MQ below (va_Qv (fun (u : HI × HL) => Q u.1 u.2) (gB D cy ad s.heap.size) (gA ad s.heap.size)) args s 0 0 (gA ad s.heap.size)) (F0 m 68 ls []) := by
    intro K29 hK29 x1 x2 x3 h g H locs ls HW hG hl
    unfold j_X3_find_68 at HW
    obtain ⟨x3_68, ex3_68⟩ : ∃ y : Int32, y = (x3 + 1) := ⟨_, rfl⟩
    replace HW := HW x3_68 ex3_68
    refine lv_iinc (v := x3_68) (lv' := [(3, .int x3_68), (0, .ref (ad 97)), (1, .int x1), (2, .int x2)]) hx hb dX3_find_68 hl (k := 3) rfl (by rw [ex3_68]; rfl) (by decide) rfl (fun ls hl => ?_)
    refine lv_goto (tgt := 29) hx hb dX3_find_71 (by decide) ?_
    exact hK29 x1 x2 x3_68 h g _ _ _ HW hG (lv_sub hl [1, 2, 3, 0] rfl)
  have B67 : ∀ (K29 : Int32 → Int32 → Int32 → HI → HL → Prop) (hK29 : ∀ (x1 : Int32) (x2 : Int32) (x3 : Int32) (h : HI) (g : HL) (H : Heap) (locs : List Loc) (ls : Array Slot), K29 x1 x2 x3 h g → gG D cy ad (gA ad s.heap.size) s.heap h g H locs → lv_has ls 5 [(0, .ref (ad 97)), (1, .int x1), (2, .int x2), (3, .int x3)] → W p l e ({ frames := 3, cells := 0, slots := 0, locals := 71 } : Room) s m args below meth c H locs 0 0 (MQ below (va_Qv (fun (u : HI × HL) => Q u.1 u.2) (gB D cy ad s.heap.size) (gA ad s.heap.size)) args s 0 0 (gA ad s.heap.size)) (F0 m 29 ls [])) (x1 : Int32) (x2 : Int32) (x3 : Int32) (s0 : Nat) (s1 : Int32) (s2 : Int32) (h : HI) (g : HL) (H : Heap) (locs : List Loc) (ls : Array Slot) (hk_s0 : gK s0 = 12) (hl_s0 : s0 < gO) (hn_s0 : gN s0 = 512), j_X3_find_67 Q K29 x1 x2 x3 s0 s1 s2 h g → gG D cy ad (gA ad s.heap.size) s.heap h g H locs → lv_has ls 5 [(0, .ref (ad 97)), (1, .int x1), (2, .int x2), (3, .int x3)] → W p l e ({ frames := 3, cells := 0, slots := 0, locals := 71 } : Room) s m args below meth c H locs 0 0 (MQ below (va_Qv (fun (u : HI × HL) => Q u.1 u.2) (gB D cy ad s.heap.size) (gA ad s.heap.size)) args s 0 0 (gA ad s.heap.size)) (F0 m 67 ls [.int s2, .int s1, .ref (ad s0)]) := by
    intro K29 hK29 x1 x2 x3 s0 s1 s2 h g H locs ls hk_s0 hl_s0 hn_s0 HW hG hl
    unfold j_X3_find_67 at HW
    refine g_iast hx hb hK hG hl_s0 hk_s0 hn_s0 HW.1 dX3_find_67 (fun H locs hG => ?_)
    replace HW := HW.2
    obtain ⟨h_67, eh_67⟩ : ∃ y : HI, y = hu h s0 s1.toNatClampNeg s2 := ⟨_, rfl⟩
    rw [← eh_67] at hG
    replace HW := HW h_67 eh_67
    exact B68 K29 hK29 x1 x2 x3 h_67 g _ _ _ HW hG (lv_sub hl [0, 1, 2, 3] rfl)
  have L29 : ∀ (n : Nat) (x1 : Int32) (x2 : Int32) (x3 : Int32) (h : HI) (g : HL) (H : Heap) (locs : List Loc) (ls : Array Slot), lpN (F_X3_find_29 Q) n (x1, x2, x3, h, g) → gG D cy ad (gA ad s.heap.size) s.heap h g H locs → lv_has ls 5 [(0, .ref (ad 97)), (1, .int x1), (2, .int x2), (3, .int x3)] → W p l e ({ frames := 3, cells := 0, slots := 0, locals := 71 } : Room) s m args below meth c H locs 0 0 (MQ below (va_Qv (fun (u : HI × HL) => Q u.1 u.2) (gB D cy ad s.heap.size) (gA ad s.heap.size)) args s 0 0 (gA ad s.heap.size)) (F0 m 29 ls []) := by
    intro n
    induction n with
    | zero => intro x1 x2 x3 h g H locs ls HW; exact HW.elim
    | succ n ih =>
      intro x1 x2 x3 h g H locs ls HW hG hl
      have HW : b_X3_find_29 Q (fun x1 x2 x3 h g => lpN (F_X3_find_29 Q) n (x1, x2, x3, h, g)) x1 x2 x3 h g := HW
      generalize hKe : (fun (x1 : Int32) (x2 : Int32) (x3 : Int32) (h : HI) (g : HL) => lpN (F_X3_find_29 Q) n (x1, x2, x3, h, g)) = K29 at HW
      have hK29 : ∀ (x1 : Int32) (x2 : Int32) (x3 : Int32) (h : HI) (g : HL) (H : Heap) (locs : List Loc) (ls : Array Slot), K29 x1 x2 x3 h g → gG D cy ad (gA ad s.heap.size) s.heap h g H locs → lv_has ls 5 [(0, .ref (ad 97)), (1, .int x1), (2, .int x2), (3, .int x3)] → W p l e ({ frames := 3, cells := 0, slots := 0, locals := 71 } : Room) s m args below meth c H locs 0 0 (MQ below (va_Qv (fun (u : HI × HL) => Q u.1 u.2) (gB D cy ad s.heap.size) (gA ad s.heap.size)) args s 0 0 (gA ad s.heap.size)) (F0 m 29 ls []) := by subst hKe; exact ih
      clear ih
      clear hKe
      unfold b_X3_find_29 at HW
      refine lv_iload_n hx hb dX3_find_29 rfl (lv_at hl 3 rfl) ?_
      refine lv_iload_n hx hb dX3_find_30 rfl (lv_at hl 2 rfl) ?_
      refine lv_icmp_ge (tgt := 74) hx hb dX3_find_31 (by decide) (fun c_31 => ?_) (fun c_31 => ?_)
      · replace HW := HW.1 c_31
        refine lv_iload_n hx hb dX3_find_74 rfl (lv_at hl 1 rfl) ?_
        refine lv_iconst (v := 1) hx hb dX3_find_75 (by decide) ?_
        refine lv_isub hx hb dX3_find_76 ?_
        refine lv_topi (fun x3_77 ex3_77 => ?_)
        replace HW := HW x3_77 ex3_77
        refine lv_istore_n (lv' := [(3, .int x3_77), (0, .ref (ad 97)), (1, .int x1), (2, .int x2)]) hx hb dX3_find_77 rfl hl (by decide) rfl (fun ls hl => ?_)
        obtain ⟨n_78, HW⟩ := HW
        exact L78 n_78 x2 x3_77 h g _ _ _ HW hG (lv_sub hl [1, 3, 0] rfl)
      · replace HW := HW.2 c_31
        refine lv_iload_n hx hb dX3_find_34 rfl (lv_at hl 3 rfl) ?_
        obtain ⟨P_35, HC_35, HW⟩ := HW
        refine g_calli (g_runS (As := [.int x3]) (rest := []) ⟨hx, hb, hml, hown, hts⟩ (m_J6_bitCount_0f7a4 l D cy ad h g H.size x3 P_35 HC_35) (va_cwS 1 hts (gd_S (wm4 1 rfl rfl) (wm4 2 rfl rfl) (wm1 15 rfl rfl) (wm4 3 rfl rfl)) rfl rfl rfl (by decide +kernel) ⟨Nat.le_of_ble_eq_true rfl, Nat.le_of_ble_eq_true rfl⟩) hK hNw hG rfl rfl hl.1 rfl (lv_room (Nat.le_of_ble_eq_true rfl)) dX3_find_35 ⟨Nat.zero_le _, Nat.zero_le _⟩) hG (fun r_35 h_35 g_35 H locs hq hG => ?_)
        replace HW := HW r_35 h_35 g_35 hq
        refine lv_iload_n hx hb dX3_find_38 rfl (lv_at hl 1 rfl) ?_
        refine lv_icmp_gt (tgt := 68) hx hb dX3_find_39 (by decide) (fun c_39 => ?_) (fun c_39 => ?_)
        · replace HW := HW.1 c_39
          exact B68 K29 hK29 x1 x2 x3 h_35 g_35 _ _ _ HW hG (lv_sub hl [0, 1, 2, 3] rfl)
        · replace HW := HW.2 c_39
          refine lv_aload_n hx hb dX3_find_42 rfl (lv_at hl 0 rfl) ?_
          refine g_getr hx hb hw inG3 hown hK hG gl_97 rfl gk_97 (by decide) 1 (by decide) (by rw [gm_97]; decide) (r := 98) gr_97_1 lk13 dX3_find_43 ?_
          refine lv_iload_n hx hb dX3_find_46 rfl (lv_at hl 1 rfl) ?_
          have hi_47 := vp_lt HW.1
          refine g_aald hx hb hK hG gl_98 gk_98 gn_98 HW.1 (go_98 _ hi_47).1 dX3_find_47 ?_
          replace HW := HW.2
          refine lv_iload_n hx hb dX3_find_48 rfl (lv_at hl 3 rfl) ?_
          refine lv_aload_n hx hb dX3_find_49 rfl (lv_at hl 0 rfl) ?_
          refine lv_iload_n hx hb dX3_find_50 rfl (lv_at hl 3 rfl) ?_
          obtain ⟨P_51, HC_51, HW⟩ := HW
          refine g_callz (g_runV (As := [.int x3]) (rest := [.int x3, .ref (ad (99 + x1.toNatClampNeg))]) ⟨hx, hb, hml, hown, hts⟩ (m_X3_parts l D cy ad h_35 g_35 H.size x3 P_51 HC_51) (cwV 1 hts (gd_V (wm4 7 rfl rfl) (wm4 9 rfl rfl) (wmp2 (q := (yX3_parts, 6)) 3 rfl) (wm1 9 rfl rfl) (wm4 10 rfl rfl)) rfl rfl rfl (by decide +kernel) ⟨Nat.le_of_ble_eq_true rfl, Nat.le_of_ble_eq_true rfl⟩) hK hNw hG gl_97 rfl gk_97 (by decide) rfl rfl hl.1 rfl (lv_room (Nat.le_of_ble_eq_true rfl)) dX3_find_51 ⟨Nat.zero_le _, Nat.zero_le _⟩) hG (fun r_51 h_51 g_51 H locs hz hq hG => ?_)
          replace HW := HW r_51 h_51 g_51 hz hq
          refine lv_if_eq (tgt := 61) hx hb dX3_find_54 (by decide) (fun c_54 => ?_) (fun c_54 => ?_)
          · replace HW := HW.1 c_54
            refine lv_aload_n hx hb dX3_find_61 rfl (lv_at hl 0 rfl) ?_
            refine g_getr hx hb hw inG3 hown hK hG gl_97 rfl gk_97 (by decide) 2 (by decide) (by rw [gm_97]; decide) (r := 106) gr_97_2 lk16 dX3_find_62 ?_
            refine lv_iload_n hx hb dX3_find_65 rfl (lv_at hl 3 rfl) ?_
            refine g_iald hx hb hK hG gl_106 gk_106 gn_106 HW.1 dX3_find_66 ?_
            replace HW := HW.2
            exact B67 K29 hK29 x1 x2 x3 (99 + x1.toNatClampNeg) x3 (h_51 106 x3.toNatClampNeg) h_51 g_51 _ _ _ ((go_98 _ hi_47).2.1) ((go_98 _ hi_47).2.2.1) ((go_98 _ hi_47).2.2.2) HW hG (lv_sub hl [0, 1, 2, 3] rfl)
          · replace HW := HW.2 c_54
            refine lv_iconst (v := (-1)) hx hb dX3_find_57 (by decide) ?_
            refine lv_goto (tgt := 67) hx hb dX3_find_58 (by decide) ?_
            exact B67 K29 hK29 x1 x2 x3 (99 + x1.toNatClampNeg) x3 (-1 : Int32) h_51 g_51 _ _ _ ((go_98 _ hi_47).2.1) ((go_98 _ hi_47).2.2.1) ((go_98 _ hi_47).2.2.2) HW hG (lv_sub hl [0, 1, 2, 3] rfl)
  have E0 : ∀ (H : Heap) (locs : List Loc) (ls : Array Slot), gG D cy ad (gA ad s.heap.size) s.heap h g H locs → lv_has ls 5 [(0, .ref (ad 97))] → W p l e ({ frames := 3, cells := 0, slots := 0, locals := 71 } : Room) s m args below meth c H locs 0 0 (MQ below (va_Qv (fun (u : HI × HL) => Q u.1 u.2) (gB D cy ad s.heap.size) (gA ad s.heap.size)) args s 0 0 (gA ad s.heap.size)) (F0 m 0 ls []) := by
    intro H locs ls hG hl
    unfold w_X3_find at HW
    refine lv_aload_n hx hb dX3_find_0 rfl (lv_at hl 0 rfl) ?_
    obtain ⟨P_1, HC_1, HW⟩ := HW
    refine g_callv (g_runV (As := []) (rest := []) ⟨hx, hb, hml, hown, hts⟩ (m_X3_gatherSpares l D cy ad h g H.size  P_1 HC_1) (cwV 0 hts (gd_V (wm3 232 rfl rfl) (wm3 234 rfl rfl) (wmp2 (q := (yX3_gatherSpares, 6)) 2 rfl) (wm1 9 rfl rfl) (wm3 235 rfl rfl)) rfl rfl rfl (by decide +kernel) ⟨Nat.le_of_ble_eq_true rfl, Nat.le_of_ble_eq_true rfl⟩) hK hNw hG gl_97 rfl gk_97 (by decide) rfl rfl hl.1 rfl (lv_room (Nat.le_of_ble_eq_true rfl)) dX3_find_1 ⟨Nat.zero_le _, Nat.zero_le _⟩) hG (fun h_1 g_1 H locs hq hG => ?_)
    replace HW := HW h_1 g_1 hq
    refine lv_bipush (v := 6) hx hb dX3_find_4 (by decide) ?_
    refine lv_aload_n hx hb dX3_find_6 rfl (lv_at hl 0 rfl) ?_
    refine g_getr hx hb hw inG3 hown hK hG gl_97 rfl gk_97 (by decide) 0 (by decide) (by rw [gm_97]; decide) (r := 1) gr_97_0 lk26 dX3_find_7 ?_
    refine g_getr hx hb hw inG6 hown hK hG gl_1 rfl gk_1 (by decide) 5 (by decide) (by rw [gm_1]; decide) (r := 12) gr_1_5 lk33 dX3_find_10 ?_
    obtain ⟨P_13, HC_13, HW⟩ := HW
    refine g_calli (g_runV (As := []) (rest := [.int (6 : Int32)]) ⟨hx, hb, hml, hown, hts⟩ (m_X8_rows l D cy ad h_1 g_1 H.size 12 (gs_12) P_13 HC_13) (cwV 0 hts (gd_V (wm3 236 rfl rfl) (wm2 217 rfl rfl) (wm2 218 rfl rfl) (wm1 3 rfl rfl) (wm2 219 rfl rfl)) rfl rfl rfl (by decide +kernel) ⟨Nat.le_of_ble_eq_true rfl, Nat.le_of_ble_eq_true rfl⟩) hK hNw hG gl_12 rfl gk_12 (by decide) rfl rfl hl.1 rfl (lv_room (Nat.le_of_ble_eq_true rfl)) dX3_find_13 ⟨Nat.zero_le _, Nat.zero_le _⟩) hG (fun r_13 h_13 g_13 H locs hq hG => ?_)
    replace HW := HW r_13 h_13 g_13 hq
    refine va_mmin hx hb (hml.trans hl.1.symm) hown ml45 ms45 mi45 mc45 (by decide) (Nat.le_of_ble_eq_true rfl) (Nat.zero_le _) (Nat.zero_le _) dX3_find_16 ?_
    refine lv_topi (fun x1_19 ex1_19 => ?_)
    replace HW := HW x1_19 ex1_19
    refine lv_istore_n (lv' := [(1, .int x1_19), (0, .ref (ad 97))]) hx hb dX3_find_19 rfl hl (by decide) rfl (fun ls hl => ?_)
    refine lv_iconst (v := 1) hx hb dX3_find_20 (by decide) ?_
    refine lv_aload_n hx hb dX3_find_21 rfl (lv_at hl 1 rfl) ?_
    refine g_geti hx hb hw inG3 hown hK hG gl_97 rfl gk_97 (by decide) 5 (by decide) (by rw [gm_97]; decide) gr_97_5 lk51 dX3_find_22 ?_
    refine lv_ishl hx hb dX3_find_25 ?_
    refine lv_topi (fun x2_26 ex2_26 => ?_)
    replace HW := HW x2_26 ex2_26
    refine lv_istore_n (lv' := [(2, .int x2_26), (1, .int x1_19), (0, .ref (ad 97))]) hx hb dX3_find_26 rfl hl (by decide) rfl (fun ls hl => ?_)
    refine lv_iconst (v := 0) hx hb dX3_find_27 (by decide) ?_
    refine lv_istore_n (lv' := [(3, .int (0 : Int32)), (2, .int x2_26), (1, .int x1_19), (0, .ref (ad 97))]) hx hb dX3_find_28 rfl hl (by decide) rfl (fun ls hl => ?_)
    obtain ⟨n_29, HW⟩ := HW
    exact L29 n_29 x1_19 x2_26 (0 : Int32) h_13 g_13 _ _ _ HW hG (lv_sub hl [3, 2, 1, 0] rfl)
  exact E0 _ _ _ hG hl

def w_X3_mostYears  (h : HI) (g : HL) (Q : Int32 → HI → HL → Prop) : Prop :=
  (vp_in (0 : Int32) 7 ∧ (vp_in (0 : Int32) 512 ∧ Q (h (99 + (0 : Int32).toNatClampNeg) (0 : Int32).toNatClampNeg) h g))
set_option maxHeartbeats 8000000 in
set_option maxRecDepth 100000 in
theorem m_X3_mostYears (l : Launch) (D : va_G) (cy : Nat → ClassId) (ad : Nat → Nat) (h : HI) (g : HL) (sz : Nat)  (Q : Int32 → HI → HL → Prop) (HW : w_X3_mostYears h g Q) : Met l yX3_mostYears (wa yX3_mostYears cX3_mostYears 1 (some .int)) ({ frames := 0, cells := 0, slots := 0, locals := 0 }) (va_Pc [.ref (ad 97)] (gI D cy ad h g sz)) (va_Qi (fun (r : Int32) (u : HI × HL) => Q r u.1 u.2) (gB D cy ad sz) (gA ad sz)) 0 0 (gA ad sz) := by
  refine Met.ofW (cc := cX3_mostYears) (maxL := 1) (ret := (some .int)) (by decide) rfl ?_
  intro p e s m args below meth c s₁ B hml hv
  obtain ⟨hav, hsz, hP, hK, hD0, hNw⟩ := hv
  have hx := B.exec
  have hb := B.bytes
  have hr := B.returns
  have hts := atoms_spec (ws := (wa yX3_mostYears cX3_mostYears 1 (some .int))) B.pre
  have hw := wa_hw hts
  have hown : s.vm.findClass RX3 = some m.cls := findClass_of_methodNamed B.named
  have hlocks := B.notSynchronized
  subst hsz
  have hG : gG D cy ad (gA ad s.heap.size) s.heap h g s.heap [] := ⟨hP, gA_self hD0, va_S.rf⟩
  clear hP hD0
  have lk13 := hw (.fieldLink RX3 13 "OldWorks$Givings" "most" "[[I") (wm2 51 rfl rfl)
  rw [show (headSpec (wa yX3_mostYears cX3_mostYears 1 (some .int)) ({ frames := 0, cells := 0, slots := 0, locals := 0 } : Room)).room = ({ frames := 0, cells := 0, slots := 0, locals := 0 } : Room) from rfl]
  have hl := lv_entry ([.ref (ad 97)]) (n := 1) (Nat.le_of_ble_eq_true rfl)
  rw [show entryFrame m args 1 = entryFrame m ([.ref (ad 97)] : List Value).toArray 1 from by rw [hav], lg_entry_eq]
  generalize (lg_sl ([.ref (ad 97)]) ++ List.replicate (1 - (lg_sl ([.ref (ad 97)])).length) Slot.unset).toArray = ls at hl ⊢
  have hl : lv_has ls 1 [(0, .ref (ad 97))] := hl
  have E0 : ∀ (H : Heap) (locs : List Loc) (ls : Array Slot), gG D cy ad (gA ad s.heap.size) s.heap h g H locs → lv_has ls 1 [(0, .ref (ad 97))] → W p l e ({ frames := 0, cells := 0, slots := 0, locals := 0 } : Room) s m args below meth c H locs 0 0 (MQ below (va_Qi (fun (r : Int32) (u : HI × HL) => Q r u.1 u.2) (gB D cy ad s.heap.size) (gA ad s.heap.size)) args s 0 0 (gA ad s.heap.size)) (F0 m 0 ls []) := by
    intro H locs ls hG hl
    unfold w_X3_mostYears at HW
    refine lv_aload_n hx hb dX3_mostYears_0 rfl (lv_at hl 0 rfl) ?_
    refine g_getr hx hb hw inG3 hown hK hG gl_97 rfl gk_97 (by decide) 1 (by decide) (by rw [gm_97]; decide) (r := 98) gr_97_1 lk13 dX3_mostYears_1 ?_
    refine lv_iconst (v := 0) hx hb dX3_mostYears_4 (by decide) ?_
    have hi_5 := vp_lt HW.1
    refine g_aald hx hb hK hG gl_98 gk_98 gn_98 HW.1 (go_98 _ hi_5).1 dX3_mostYears_5 ?_
    replace HW := HW.2
    refine lv_iconst (v := 0) hx hb dX3_mostYears_6 (by decide) ?_
    refine g_iald hx hb hK hG ((go_98 _ hi_5).2.2.1) ((go_98 _ hi_5).2.1) ((go_98 _ hi_5).2.2.2) HW.1 dX3_mostYears_7 ?_
    replace HW := HW.2
    exact W.iret (v := (h (99 + (0 : Int32).toNatClampNeg) (0 : Int32).toNatClampNeg)) hx hb hr (fun t ht hW => ⟨⟨(h (99 + (0 : Int32).toNatClampNeg) (0 : Int32).toNatClampNeg), (h, g), rfl, HW, g_B ht hG⟩, hG.2.2.F ht⟩) hG.2.2.2.2 dX3_mostYears_8
  exact E0 _ _ _ hG hl

def j_X3_givenTo_65 (Q : Int32 → HI → HL → Prop) (K25 : Int32 → Int32 → Int32 → Int32 → HI → HL → Prop) (x1 : Int32) (x2 : Int32) (x3 : Int32) (x4 : Int32) (h : HI) (g : HL) : Prop :=
  (∀ x4_65 : Int32, x4_65 = (x4 + 1) → K25 x1 x2 x3 x4_65 h g)
def b_X3_givenTo_25 (Q : Int32 → HI → HL → Prop) (K25 : Int32 → Int32 → Int32 → Int32 → HI → HL → Prop) (x1 : Int32) (x2 : Int32) (x3 : Int32) (x4 : Int32) (h : HI) (g : HL) : Prop :=
  (((h 97 5) ≤ x4 → Q (-1 : Int32) h g) ∧ (¬ (h 97 5) ≤ x4 → ((¬ ((x3 >>> (x4 &&& 31)) &&& (1 : Int32)) = (1 : Int32) → j_X3_givenTo_65 Q K25 x1 x2 x3 x4 h g) ∧ (((x3 >>> (x4 &&& 31)) &&& (1 : Int32)) = (1 : Int32) → (∃ P_52 : Int32 → HI → HL → Prop, w_X3_after x1 (x2 ||| ((1 : Int32) <<< (x4 &&& 31))) h g P_52 ∧ ∀ (r_52 : Int32) (h_52 : HI) (g_52 : HL), P_52 r_52 h_52 g_52 → (∃ P_56 : Int32 → HI → HL → Prop, w_X3_mostYears h_52 g_52 P_56 ∧ ∀ (r_56 : Int32) (h_56 : HI) (g_56 : HL), P_56 r_56 h_56 g_56 → ((¬ r_52 = r_56 → j_X3_givenTo_65 Q K25 x1 x2 x3 x4 h_56 g_56) ∧ (r_52 = r_56 → Q x4 h_56 g_56))))))))
def F_X3_givenTo_25 (Q : Int32 → HI → HL → Prop) (K : Int32 × Int32 × Int32 × Int32 × HI × HL → Prop) (q : Int32 × Int32 × Int32 × Int32 × HI × HL) : Prop := b_X3_givenTo_25 Q (fun x1 x2 x3 x4 h g => K (x1, x2, x3, x4, h, g)) q.1 q.2.1 q.2.2.1 q.2.2.2.1 q.2.2.2.2.1 q.2.2.2.2.2
def w_X3_givenTo (x1 : Int32) (x2 : Int32) (h : HI) (g : HL) (Q : Int32 → HI → HL → Prop) : Prop :=
  (∃ P_3 : Int32 → HI → HL → Prop, w_X3_after x1 x2 h g P_3 ∧ ∀ (r_3 : Int32) (h_3 : HI) (g_3 : HL), P_3 r_3 h_3 g_3 → (∃ P_7 : Int32 → HI → HL → Prop, w_X3_mostYears h_3 g_3 P_7 ∧ ∀ (r_7 : Int32) (h_7 : HI) (g_7 : HL), P_7 r_7 h_7 g_7 → ((¬ r_3 = r_7 → (∃ P_18 : Int32 → HI → HL → Prop, w_X3_open x1 x2 h_7 g_7 P_18 ∧ ∀ (r_18 : Int32) (h_18 : HI) (g_18 : HL), P_18 r_18 h_18 g_18 → lpE (F_X3_givenTo_25 Q) (x1, x2, r_18, (0 : Int32), h_18, g_18))) ∧ (r_3 = r_7 → Q (-1 : Int32) h_7 g_7))))
set_option maxHeartbeats 8000000 in
set_option maxRecDepth 100000 in
theorem m_X3_givenTo (l : Launch) (D : va_G) (cy : Nat → ClassId) (ad : Nat → Nat) (h : HI) (g : HL) (sz : Nat) (x1 : Int32) (x2 : Int32) (Q : Int32 → HI → HL → Prop) (HW : w_X3_givenTo x1 x2 h g Q) : Met l yX3_givenTo (wa yX3_givenTo cX3_givenTo 5 (some .int)) ({ frames := 2, cells := 0, slots := 0, locals := 46 }) (va_Pc [.ref (ad 97), .int x1, .int x2] (gI D cy ad h g sz)) (va_Qi (fun (r : Int32) (u : HI × HL) => Q r u.1 u.2) (gB D cy ad sz) (gA ad sz)) 0 0 (gA ad sz) := by
  refine Met.ofW (cc := cX3_givenTo) (maxL := 5) (ret := (some .int)) (by decide) rfl ?_
  intro p e s m args below meth c s₁ B hml hv
  obtain ⟨hav, hsz, hP, hK, hD0, hNw⟩ := hv
  have hx := B.exec
  have hb := B.bytes
  have hr := B.returns
  have hts := atoms_spec (ws := (wa yX3_givenTo cX3_givenTo 5 (some .int))) B.pre
  have hw := wa_hw hts
  have hown : s.vm.findClass RX3 = some m.cls := findClass_of_methodNamed B.named
  have hlocks := B.notSynchronized
  subst hsz
  have hG : gG D cy ad (gA ad s.heap.size) s.heap h g s.heap [] := ⟨hP, gA_self hD0, va_S.rf⟩
  clear hP hD0
  have lk51 := hw (.fieldLink RX3 51 "OldWorks$Givings" "spares" "I") (wm2 55 rfl rfl)
  rw [show (headSpec (wa yX3_givenTo cX3_givenTo 5 (some .int)) ({ frames := 2, cells := 0, slots := 0, locals := 46 } : Room)).room = ({ frames := 2, cells := 0, slots := 0, locals := 46 } : Room) from rfl]
  have hl := lv_entry ([.ref (ad 97), .int x1, .int x2]) (n := 5) (Nat.le_of_ble_eq_true rfl)
  rw [show entryFrame m args 5 = entryFrame m ([.ref (ad 97), .int x1, .int x2] : List Value).toArray 5 from by rw [hav], lg_entry_eq]
  generalize (lg_sl ([.ref (ad 97), .int x1, .int x2]) ++ List.replicate (5 - (lg_sl ([.ref (ad 97), .int x1, .int x2])).length) Slot.unset).toArray = ls at hl ⊢
  have hl : lv_has ls 5 [(0, .ref (ad 97)), (1, .int x1), (2, .int x2)] := hl
  have B65 : ∀ (K25 : Int32 → Int32 → Int32 → Int32 → HI → HL → Prop) (hK25 : ∀ (x1 : Int32) (x2 : Int32) (x3 : Int32) (x4 : Int32) (h : HI) (g : HL) (H : Heap) (locs : List Loc) (ls : Array Slot), K25 x1 x2 x3 x4 h g → gG D cy ad (gA ad s.heap.size) s.heap h g H locs → lv_has ls 5 [(0, .ref (ad 97)), (1, .int x1), (2, .int x2), (3, .int x3), (4, .int x4)] → W p l e ({ frames := 2, cells := 0, slots := 0, locals := 46 } : Room) s m args below meth c H locs 0 0 (MQ below (va_Qi (fun (r : Int32) (u : HI × HL) => Q r u.1 u.2) (gB D cy ad s.heap.size) (gA ad s.heap.size)) args s 0 0 (gA ad s.heap.size)) (F0 m 25 ls [])) (x1 : Int32) (x2 : Int32) (x3 : Int32) (x4 : Int32) (h : HI) (g : HL) (H : Heap) (locs : List Loc) (ls : Array Slot), j_X3_givenTo_65 Q K25 x1 x2 x3 x4 h g → gG D cy ad (gA ad s.heap.size) s.heap h g H locs → lv_has ls 5 [(0, .ref (ad 97)), (1, .int x1), (2, .int x2), (3, .int x3), (4, .int x4)] → W p l e ({ frames := 2, cells := 0, slots := 0, locals := 46 } : Room) s m args below meth c H locs 0 0 (MQ below (va_Qi (fun (r : Int32) (u : HI × HL) => Q r u.1 u.2) (gB D cy ad s.heap.size) (gA ad s.heap.size)) args s 0 0 (gA ad s.heap.size)) (F0 m 65 ls []) := by
    intro K25 hK25 x1 x2 x3 x4 h g H locs ls HW hG hl
    unfold j_X3_givenTo_65 at HW
    obtain ⟨x4_65, ex4_65⟩ : ∃ y : Int32, y = (x4 + 1) := ⟨_, rfl⟩
    replace HW := HW x4_65 ex4_65
    refine lv_iinc (v := x4_65) (lv' := [(4, .int x4_65), (0, .ref (ad 97)), (1, .int x1), (2, .int x2), (3, .int x3)]) hx hb dX3_givenTo_65 hl (k := 4) rfl (by rw [ex4_65]; rfl) (by decide) rfl (fun ls hl => ?_)
    refine lv_goto (tgt := 25) hx hb dX3_givenTo_68 (by decide) ?_
    exact hK25 x1 x2 x3 x4_65 h g _ _ _ HW hG (lv_sub hl [1, 2, 3, 4, 0] rfl)
  have L25 : ∀ (n : Nat) (x1 : Int32) (x2 : Int32) (x3 : Int32) (x4 : Int32) (h : HI) (g : HL) (H : Heap) (locs : List Loc) (ls : Array Slot), lpN (F_X3_givenTo_25 Q) n (x1, x2, x3, x4, h, g) → gG D cy ad (gA ad s.heap.size) s.heap h g H locs → lv_has ls 5 [(0, .ref (ad 97)), (1, .int x1), (2, .int x2), (3, .int x3), (4, .int x4)] → W p l e ({ frames := 2, cells := 0, slots := 0, locals := 46 } : Room) s m args below meth c H locs 0 0 (MQ below (va_Qi (fun (r : Int32) (u : HI × HL) => Q r u.1 u.2) (gB D cy ad s.heap.size) (gA ad s.heap.size)) args s 0 0 (gA ad s.heap.size)) (F0 m 25 ls []) := by
    intro n
    induction n with
    | zero => intro x1 x2 x3 x4 h g H locs ls HW; exact HW.elim
    | succ n ih =>
      intro x1 x2 x3 x4 h g H locs ls HW hG hl
      have HW : b_X3_givenTo_25 Q (fun x1 x2 x3 x4 h g => lpN (F_X3_givenTo_25 Q) n (x1, x2, x3, x4, h, g)) x1 x2 x3 x4 h g := HW
      generalize hKe : (fun (x1 : Int32) (x2 : Int32) (x3 : Int32) (x4 : Int32) (h : HI) (g : HL) => lpN (F_X3_givenTo_25 Q) n (x1, x2, x3, x4, h, g)) = K25 at HW
      have hK25 : ∀ (x1 : Int32) (x2 : Int32) (x3 : Int32) (x4 : Int32) (h : HI) (g : HL) (H : Heap) (locs : List Loc) (ls : Array Slot), K25 x1 x2 x3 x4 h g → gG D cy ad (gA ad s.heap.size) s.heap h g H locs → lv_has ls 5 [(0, .ref (ad 97)), (1, .int x1), (2, .int x2), (3, .int x3), (4, .int x4)] → W p l e ({ frames := 2, cells := 0, slots := 0, locals := 46 } : Room) s m args below meth c H locs 0 0 (MQ below (va_Qi (fun (r : Int32) (u : HI × HL) => Q r u.1 u.2) (gB D cy ad s.heap.size) (gA ad s.heap.size)) args s 0 0 (gA ad s.heap.size)) (F0 m 25 ls []) := by subst hKe; exact ih
      clear ih
      clear hKe
      unfold b_X3_givenTo_25 at HW
      refine lv_iload hx hb dX3_givenTo_25 (lv_at hl 4 rfl) ?_
      refine lv_aload_n hx hb dX3_givenTo_27 rfl (lv_at hl 0 rfl) ?_
      refine g_geti hx hb hw inG3 hown hK hG gl_97 rfl gk_97 (by decide) 5 (by decide) (by rw [gm_97]; decide) gr_97_5 lk51 dX3_givenTo_28 ?_
      refine lv_icmp_ge (tgt := 71) hx hb dX3_givenTo_31 (by decide) (fun c_31 => ?_) (fun c_31 => ?_)
      · replace HW := HW.1 c_31
        refine lv_iconst (v := (-1)) hx hb dX3_givenTo_71 (by decide) ?_
        exact W.iret (v := (-1 : Int32)) hx hb hr (fun t ht hW => ⟨⟨(-1 : Int32), (h, g), rfl, HW, g_B ht hG⟩, hG.2.2.F ht⟩) hG.2.2.2.2 dX3_givenTo_72
      · replace HW := HW.2 c_31
        refine lv_iload_n hx hb dX3_givenTo_34 rfl (lv_at hl 3 rfl) ?_
        refine lv_iload hx hb dX3_givenTo_35 (lv_at hl 4 rfl) ?_
        refine lv_ishr hx hb dX3_givenTo_37 ?_
        refine lv_iconst (v := 1) hx hb dX3_givenTo_38 (by decide) ?_
        refine lv_iand hx hb dX3_givenTo_39 ?_
        refine lv_iconst (v := 1) hx hb dX3_givenTo_40 (by decide) ?_
        refine lv_icmp_ne (tgt := 65) hx hb dX3_givenTo_41 (by decide) (fun c_41 => ?_) (fun c_41 => ?_)
        · replace HW := HW.1 c_41
          exact B65 K25 hK25 x1 x2 x3 x4 h g _ _ _ HW hG (lv_sub hl [0, 1, 2, 3, 4] rfl)
        · replace HW := HW.2 c_41
          refine lv_aload_n hx hb dX3_givenTo_44 rfl (lv_at hl 0 rfl) ?_
          refine lv_iload_n hx hb dX3_givenTo_45 rfl (lv_at hl 1 rfl) ?_
          refine lv_iload_n hx hb dX3_givenTo_46 rfl (lv_at hl 2 rfl) ?_
          refine lv_iconst (v := 1) hx hb dX3_givenTo_47 (by decide) ?_
          refine lv_iload hx hb dX3_givenTo_48 (lv_at hl 4 rfl) ?_
          refine lv_ishl hx hb dX3_givenTo_50 ?_
          refine lv_ior hx hb dX3_givenTo_51 ?_
          obtain ⟨P_52, HC_52, HW⟩ := HW
          refine g_calli (g_runV (As := [.int x1, .int (x2 ||| ((1 : Int32) <<< (x4 &&& 31)))]) (rest := []) ⟨hx, hb, hml, hown, hts⟩ (m_X3_after l D cy ad h g H.size x1 (x2 ||| ((1 : Int32) <<< (x4 &&& 31))) P_52 HC_52) (cwV 2 hts (gd_V (wm4 15 rfl rfl) (wm4 17 rfl rfl) (wmp2 (q := (yX3_after, 6)) 5 rfl) (wm1 9 rfl rfl) (wm4 18 rfl rfl)) rfl rfl rfl (by decide +kernel) ⟨Nat.le_of_ble_eq_true rfl, Nat.le_of_ble_eq_true rfl⟩) hK hNw hG gl_97 rfl gk_97 (by decide) rfl rfl hl.1 rfl (lv_room (Nat.le_of_ble_eq_true rfl)) dX3_givenTo_52 ⟨Nat.zero_le _, Nat.zero_le _⟩) hG (fun r_52 h_52 g_52 H locs hq hG => ?_)
          replace HW := HW r_52 h_52 g_52 hq
          refine lv_aload_n hx hb dX3_givenTo_55 rfl (lv_at hl 0 rfl) ?_
          obtain ⟨P_56, HC_56, HW⟩ := HW
          refine g_calli (g_runV (As := []) (rest := [.int r_52]) ⟨hx, hb, hml, hown, hts⟩ (m_X3_mostYears l D cy ad h_52 g_52 H.size  P_56 HC_56) (cwV 0 hts (gd_V (wm4 36 rfl rfl) (wm4 25 rfl rfl) (wm4 26 rfl rfl) (wm1 9 rfl rfl) (wm4 27 rfl rfl)) rfl rfl rfl (by decide +kernel) ⟨Nat.le_of_ble_eq_true rfl, Nat.le_of_ble_eq_true rfl⟩) hK hNw hG gl_97 rfl gk_97 (by decide) rfl rfl hl.1 rfl (lv_room (Nat.le_of_ble_eq_true rfl)) dX3_givenTo_56 ⟨Nat.zero_le _, Nat.zero_le _⟩) hG (fun r_56 h_56 g_56 H locs hq hG => ?_)
          replace HW := HW r_56 h_56 g_56 hq
          refine lv_icmp_ne (tgt := 65) hx hb dX3_givenTo_59 (by decide) (fun c_59 => ?_) (fun c_59 => ?_)
          · replace HW := HW.1 c_59
            exact B65 K25 hK25 x1 x2 x3 x4 h_56 g_56 _ _ _ HW hG (lv_sub hl [0, 1, 2, 3, 4] rfl)
          · replace HW := HW.2 c_59
            refine lv_iload hx hb dX3_givenTo_62 (lv_at hl 4 rfl) ?_
            exact W.iret (v := x4) hx hb hr (fun t ht hW => ⟨⟨x4, (h_56, g_56), rfl, HW, g_B ht hG⟩, hG.2.2.F ht⟩) hG.2.2.2.2 dX3_givenTo_64
  have E0 : ∀ (H : Heap) (locs : List Loc) (ls : Array Slot), gG D cy ad (gA ad s.heap.size) s.heap h g H locs → lv_has ls 5 [(0, .ref (ad 97)), (1, .int x1), (2, .int x2)] → W p l e ({ frames := 2, cells := 0, slots := 0, locals := 46 } : Room) s m args below meth c H locs 0 0 (MQ below (va_Qi (fun (r : Int32) (u : HI × HL) => Q r u.1 u.2) (gB D cy ad s.heap.size) (gA ad s.heap.size)) args s 0 0 (gA ad s.heap.size)) (F0 m 0 ls []) := by
    intro H locs ls hG hl
    unfold w_X3_givenTo at HW
    refine lv_aload_n hx hb dX3_givenTo_0 rfl (lv_at hl 0 rfl) ?_
    refine lv_iload_n hx hb dX3_givenTo_1 rfl (lv_at hl 1 rfl) ?_
    refine lv_iload_n hx hb dX3_givenTo_2 rfl (lv_at hl 2 rfl) ?_
    obtain ⟨P_3, HC_3, HW⟩ := HW
    refine g_calli (g_runV (As := [.int x1, .int x2]) (rest := []) ⟨hx, hb, hml, hown, hts⟩ (m_X3_after l D cy ad h g H.size x1 x2 P_3 HC_3) (cwV 2 hts (gd_V (wm4 15 rfl rfl) (wm4 17 rfl rfl) (wmp2 (q := (yX3_after, 6)) 5 rfl) (wm1 9 rfl rfl) (wm4 18 rfl rfl)) rfl rfl rfl (by decide +kernel) ⟨Nat.le_of_ble_eq_true rfl, Nat.le_of_ble_eq_true rfl⟩) hK hNw hG gl_97 rfl gk_97 (by decide) rfl rfl hl.1 rfl (lv_room (Nat.le_of_ble_eq_true rfl)) dX3_givenTo_3 ⟨Nat.zero_le _, Nat.zero_le _⟩) hG (fun r_3 h_3 g_3 H locs hq hG => ?_)
    replace HW := HW r_3 h_3 g_3 hq
    refine lv_aload_n hx hb dX3_givenTo_6 rfl (lv_at hl 0 rfl) ?_
    obtain ⟨P_7, HC_7, HW⟩ := HW
    refine g_calli (g_runV (As := []) (rest := [.int r_3]) ⟨hx, hb, hml, hown, hts⟩ (m_X3_mostYears l D cy ad h_3 g_3 H.size  P_7 HC_7) (cwV 0 hts (gd_V (wm4 36 rfl rfl) (wm4 25 rfl rfl) (wm4 26 rfl rfl) (wm1 9 rfl rfl) (wm4 27 rfl rfl)) rfl rfl rfl (by decide +kernel) ⟨Nat.le_of_ble_eq_true rfl, Nat.le_of_ble_eq_true rfl⟩) hK hNw hG gl_97 rfl gk_97 (by decide) rfl rfl hl.1 rfl (lv_room (Nat.le_of_ble_eq_true rfl)) dX3_givenTo_7 ⟨Nat.zero_le _, Nat.zero_le _⟩) hG (fun r_7 h_7 g_7 H locs hq hG => ?_)
    replace HW := HW r_7 h_7 g_7 hq
    refine lv_icmp_ne (tgt := 15) hx hb dX3_givenTo_10 (by decide) (fun c_10 => ?_) (fun c_10 => ?_)
    · replace HW := HW.1 c_10
      refine lv_aload_n hx hb dX3_givenTo_15 rfl (lv_at hl 0 rfl) ?_
      refine lv_iload_n hx hb dX3_givenTo_16 rfl (lv_at hl 1 rfl) ?_
      refine lv_iload_n hx hb dX3_givenTo_17 rfl (lv_at hl 2 rfl) ?_
      obtain ⟨P_18, HC_18, HW⟩ := HW
      refine g_calli (g_runV (As := [.int x1, .int x2]) (rest := []) ⟨hx, hb, hml, hown, hts⟩ (m_X3_open l D cy ad h_7 g_7 H.size x1 x2 P_18 HC_18) (cwV 2 hts (gd_V (wm4 19 rfl rfl) (wm4 21 rfl rfl) (wmp2 (q := (yX3_open, 6)) 6 rfl) (wm1 9 rfl rfl) (wm4 22 rfl rfl)) rfl rfl rfl (by decide +kernel) ⟨Nat.le_of_ble_eq_true rfl, Nat.le_of_ble_eq_true rfl⟩) hK hNw hG gl_97 rfl gk_97 (by decide) rfl rfl hl.1 rfl (lv_room (Nat.le_of_ble_eq_true rfl)) dX3_givenTo_18 ⟨Nat.zero_le _, Nat.zero_le _⟩) hG (fun r_18 h_18 g_18 H locs hq hG => ?_)
      replace HW := HW r_18 h_18 g_18 hq
      refine lv_istore_n (lv' := [(3, .int r_18), (0, .ref (ad 97)), (1, .int x1), (2, .int x2)]) hx hb dX3_givenTo_21 rfl hl (by decide) rfl (fun ls hl => ?_)
      refine lv_iconst (v := 0) hx hb dX3_givenTo_22 (by decide) ?_
      refine lv_istore (lv' := [(4, .int (0 : Int32)), (3, .int r_18), (0, .ref (ad 97)), (1, .int x1), (2, .int x2)]) hx hb dX3_givenTo_23 hl (by decide) rfl (fun ls hl => ?_)
      obtain ⟨n_25, HW⟩ := HW
      exact L25 n_25 x1 x2 r_18 (0 : Int32) h_18 g_18 _ _ _ HW hG (lv_sub hl [2, 3, 4, 1, 0] rfl)
    · replace HW := HW.2 c_10
      refine lv_iconst (v := (-1)) hx hb dX3_givenTo_13 (by decide) ?_
      exact W.iret (v := (-1 : Int32)) hx hb hr (fun t ht hW => ⟨⟨(-1 : Int32), (h_7, g_7), rfl, HW, g_B ht hG⟩, hG.2.2.F ht⟩) hG.2.2.2.2 dX3_givenTo_14
  exact E0 _ _ _ hG hl

def j_X3_spareOf_47 (Q : Int32 → HI → HL → Prop) (K4 : Int32 → Int32 → Int32 → HI → HL → Prop) (x1 : Int32) (x2 : Int32) (x3 : Int32) (h : HI) (g : HL) : Prop :=
  (∀ x3_47 : Int32, x3_47 = (x3 + 1) → K4 x1 x2 x3_47 h g)
def b_X3_spareOf_4 (Q : Int32 → HI → HL → Prop) (K4 : Int32 → Int32 → Int32 → HI → HL → Prop) (x1 : Int32) (x2 : Int32) (x3 : Int32) (h : HI) (g : HL) : Prop :=
  (∃ P_12 : Int32 → HI → HL → Prop, w_X8_rows 12 h g P_12 ∧ ∀ (r_12 : Int32) (h_12 : HI) (g_12 : HL), P_12 r_12 h_12 g_12 → ((r_12 ≤ x3 → Q (-1 : Int32) h_12 g_12) ∧ (¬ r_12 ≤ x3 → (∃ P_21 : Int32 → HI → HL → Prop, w_X3_givenTo x3 x2 h_12 g_12 P_21 ∧ ∀ (r_21 : Int32) (h_21 : HI) (g_21 : HL), P_21 r_21 h_21 g_21 → ((¬ x3 = x1 → ((r_21 = (-1 : Int32) → j_X3_spareOf_47 Q K4 x1 x2 x3 h_21 g_21) ∧ (¬ r_21 = (-1 : Int32) → (∀ x2_46 : Int32, x2_46 = (x2 ||| ((1 : Int32) <<< (r_21 &&& 31))) → j_X3_spareOf_47 Q K4 x1 x2_46 x3 h_21 g_21)))) ∧ (x3 = x1 → Q r_21 h_21 g_21))))))
def F_X3_spareOf_4 (Q : Int32 → HI → HL → Prop) (K : Int32 × Int32 × Int32 × HI × HL → Prop) (q : Int32 × Int32 × Int32 × HI × HL) : Prop := b_X3_spareOf_4 Q (fun x1 x2 x3 h g => K (x1, x2, x3, h, g)) q.1 q.2.1 q.2.2.1 q.2.2.2.1 q.2.2.2.2
def w_X3_spareOf (x1 : Int32) (h : HI) (g : HL) (Q : Int32 → HI → HL → Prop) : Prop :=
  lpE (F_X3_spareOf_4 Q) (x1, (0 : Int32), (0 : Int32), h, g)
set_option maxHeartbeats 8000000 in
set_option maxRecDepth 100000 in
theorem m_X3_spareOf (l : Launch) (D : va_G) (cy : Nat → ClassId) (ad : Nat → Nat) (h : HI) (g : HL) (sz : Nat) (x1 : Int32) (Q : Int32 → HI → HL → Prop) (HW : w_X3_spareOf x1 h g Q) : Met l yX3_spareOf (wa yX3_spareOf cX3_spareOf 5 (some .int)) ({ frames := 3, cells := 0, slots := 0, locals := 70 }) (va_Pc [.ref (ad 97), .int x1] (gI D cy ad h g sz)) (va_Qi (fun (r : Int32) (u : HI × HL) => Q r u.1 u.2) (gB D cy ad sz) (gA ad sz)) 0 0 (gA ad sz) := by
  refine Met.ofW (cc := cX3_spareOf) (maxL := 5) (ret := (some .int)) (by decide) rfl ?_
  intro p e s m args below meth c s₁ B hml hv
  obtain ⟨hav, hsz, hP, hK, hD0, hNw⟩ := hv
  have hx := B.exec
  have hb := B.bytes
  have hr := B.returns
  have hts := atoms_spec (ws := (wa yX3_spareOf cX3_spareOf 5 (some .int))) B.pre
  have hw := wa_hw hts
  have hown : s.vm.findClass RX3 = some m.cls := findClass_of_methodNamed B.named
  have hlocks := B.notSynchronized
  subst hsz
  have hG : gG D cy ad (gA ad s.heap.size) s.heap h g s.heap [] := ⟨hP, gA_self hD0, va_S.rf⟩
  clear hP hD0
  have lk26 := hw (.fieldLink RX3 26 "OldWorks$Givings" "shop" "LOldWorks$Shop;") (wm2 50 rfl rfl)
  have lk33 := hw (.fieldLink RX3 33 "OldWorks$Shop" "machines" "LOldWorks$Table;") (wm1 78 rfl rfl)
  rw [show (headSpec (wa yX3_spareOf cX3_spareOf 5 (some .int)) ({ frames := 3, cells := 0, slots := 0, locals := 70 } : Room)).room = ({ frames := 3, cells := 0, slots := 0, locals := 70 } : Room) from rfl]
  have hl := lv_entry ([.ref (ad 97), .int x1]) (n := 5) (Nat.le_of_ble_eq_true rfl)
  rw [show entryFrame m args 5 = entryFrame m ([.ref (ad 97), .int x1] : List Value).toArray 5 from by rw [hav], lg_entry_eq]
  generalize (lg_sl ([.ref (ad 97), .int x1]) ++ List.replicate (5 - (lg_sl ([.ref (ad 97), .int x1])).length) Slot.unset).toArray = ls at hl ⊢
  have hl : lv_has ls 5 [(0, .ref (ad 97)), (1, .int x1)] := hl
  have B47 : ∀ (K4 : Int32 → Int32 → Int32 → HI → HL → Prop) (hK4 : ∀ (x1 : Int32) (x2 : Int32) (x3 : Int32) (h : HI) (g : HL) (H : Heap) (locs : List Loc) (ls : Array Slot), K4 x1 x2 x3 h g → gG D cy ad (gA ad s.heap.size) s.heap h g H locs → lv_has ls 5 [(0, .ref (ad 97)), (1, .int x1), (2, .int x2), (3, .int x3)] → W p l e ({ frames := 3, cells := 0, slots := 0, locals := 70 } : Room) s m args below meth c H locs 0 0 (MQ below (va_Qi (fun (r : Int32) (u : HI × HL) => Q r u.1 u.2) (gB D cy ad s.heap.size) (gA ad s.heap.size)) args s 0 0 (gA ad s.heap.size)) (F0 m 4 ls [])) (x1 : Int32) (x2 : Int32) (x3 : Int32) (h : HI) (g : HL) (H : Heap) (locs : List Loc) (ls : Array Slot), j_X3_spareOf_47 Q K4 x1 x2 x3 h g → gG D cy ad (gA ad s.heap.size) s.heap h g H locs → lv_has ls 5 [(0, .ref (ad 97)), (1, .int x1), (2, .int x2), (3, .int x3)] → W p l e ({ frames := 3, cells := 0, slots := 0, locals := 70 } : Room) s m args below meth c H locs 0 0 (MQ below (va_Qi (fun (r : Int32) (u : HI × HL) => Q r u.1 u.2) (gB D cy ad s.heap.size) (gA ad s.heap.size)) args s 0 0 (gA ad s.heap.size)) (F0 m 47 ls []) := by
    intro K4 hK4 x1 x2 x3 h g H locs ls HW hG hl
    unfold j_X3_spareOf_47 at HW
    obtain ⟨x3_47, ex3_47⟩ : ∃ y : Int32, y = (x3 + 1) := ⟨_, rfl⟩
    replace HW := HW x3_47 ex3_47
    refine lv_iinc (v := x3_47) (lv' := [(3, .int x3_47), (0, .ref (ad 97)), (1, .int x1), (2, .int x2)]) hx hb dX3_spareOf_47 hl (k := 3) rfl (by rw [ex3_47]; rfl) (by decide) rfl (fun ls hl => ?_)
    refine lv_goto (tgt := 4) hx hb dX3_spareOf_50 (by decide) ?_
    exact hK4 x1 x2 x3_47 h g _ _ _ HW hG (lv_sub hl [1, 2, 3, 0] rfl)
  have L4 : ∀ (n : Nat) (x1 : Int32) (x2 : Int32) (x3 : Int32) (h : HI) (g : HL) (H : Heap) (locs : List Loc) (ls : Array Slot), lpN (F_X3_spareOf_4 Q) n (x1, x2, x3, h, g) → gG D cy ad (gA ad s.heap.size) s.heap h g H locs → lv_has ls 5 [(0, .ref (ad 97)), (1, .int x1), (2, .int x2), (3, .int x3)] → W p l e ({ frames := 3, cells := 0, slots := 0, locals := 70 } : Room) s m args below meth c H locs 0 0 (MQ below (va_Qi (fun (r : Int32) (u : HI × HL) => Q r u.1 u.2) (gB D cy ad s.heap.size) (gA ad s.heap.size)) args s 0 0 (gA ad s.heap.size)) (F0 m 4 ls []) := by
    intro n
    induction n with
    | zero => intro x1 x2 x3 h g H locs ls HW; exact HW.elim
    | succ n ih =>
      intro x1 x2 x3 h g H locs ls HW hG hl
      have HW : b_X3_spareOf_4 Q (fun x1 x2 x3 h g => lpN (F_X3_spareOf_4 Q) n (x1, x2, x3, h, g)) x1 x2 x3 h g := HW
      generalize hKe : (fun (x1 : Int32) (x2 : Int32) (x3 : Int32) (h : HI) (g : HL) => lpN (F_X3_spareOf_4 Q) n (x1, x2, x3, h, g)) = K4 at HW
      have hK4 : ∀ (x1 : Int32) (x2 : Int32) (x3 : Int32) (h : HI) (g : HL) (H : Heap) (locs : List Loc) (ls : Array Slot), K4 x1 x2 x3 h g → gG D cy ad (gA ad s.heap.size) s.heap h g H locs → lv_has ls 5 [(0, .ref (ad 97)), (1, .int x1), (2, .int x2), (3, .int x3)] → W p l e ({ frames := 3, cells := 0, slots := 0, locals := 70 } : Room) s m args below meth c H locs 0 0 (MQ below (va_Qi (fun (r : Int32) (u : HI × HL) => Q r u.1 u.2) (gB D cy ad s.heap.size) (gA ad s.heap.size)) args s 0 0 (gA ad s.heap.size)) (F0 m 4 ls []) := by subst hKe; exact ih
      clear ih
      clear hKe
      unfold b_X3_spareOf_4 at HW
      refine lv_iload_n hx hb dX3_spareOf_4 rfl (lv_at hl 3 rfl) ?_
      refine lv_aload_n hx hb dX3_spareOf_5 rfl (lv_at hl 0 rfl) ?_
      refine g_getr hx hb hw inG3 hown hK hG gl_97 rfl gk_97 (by decide) 0 (by decide) (by rw [gm_97]; decide) (r := 1) gr_97_0 lk26 dX3_spareOf_6 ?_
      refine g_getr hx hb hw inG6 hown hK hG gl_1 rfl gk_1 (by decide) 5 (by decide) (by rw [gm_1]; decide) (r := 12) gr_1_5 lk33 dX3_spareOf_9 ?_
      obtain ⟨P_12, HC_12, HW⟩ := HW
      refine g_calli (g_runV (As := []) (rest := [.int x3]) ⟨hx, hb, hml, hown, hts⟩ (m_X8_rows l D cy ad h g H.size 12 (gs_12) P_12 HC_12) (cwV 0 hts (gd_V (wm3 236 rfl rfl) (wm2 217 rfl rfl) (wm2 218 rfl rfl) (wm1 3 rfl rfl) (wm2 219 rfl rfl)) rfl rfl rfl (by decide +kernel) ⟨Nat.le_of_ble_eq_true rfl, Nat.le_of_ble_eq_true rfl⟩) hK hNw hG gl_12 rfl gk_12 (by decide) rfl rfl hl.1 rfl (lv_room (Nat.le_of_ble_eq_true rfl)) dX3_spareOf_12 ⟨Nat.zero_le _, Nat.zero_le _⟩) hG (fun r_12 h_12 g_12 H locs hq hG => ?_)
      replace HW := HW r_12 h_12 g_12 hq
      refine lv_icmp_ge (tgt := 53) hx hb dX3_spareOf_15 (by decide) (fun c_15 => ?_) (fun c_15 => ?_)
      · replace HW := HW.1 c_15
        refine lv_iconst (v := (-1)) hx hb dX3_spareOf_53 (by decide) ?_
        exact W.iret (v := (-1 : Int32)) hx hb hr (fun t ht hW => ⟨⟨(-1 : Int32), (h_12, g_12), rfl, HW, g_B ht hG⟩, hG.2.2.F ht⟩) hG.2.2.2.2 dX3_spareOf_54
      · replace HW := HW.2 c_15
        refine lv_aload_n hx hb dX3_spareOf_18 rfl (lv_at hl 0 rfl) ?_
        refine lv_iload_n hx hb dX3_spareOf_19 rfl (lv_at hl 3 rfl) ?_
        refine lv_iload_n hx hb dX3_spareOf_20 rfl (lv_at hl 2 rfl) ?_
        obtain ⟨P_21, HC_21, HW⟩ := HW
        refine g_calli (g_runV (As := [.int x3, .int x2]) (rest := []) ⟨hx, hb, hml, hown, hts⟩ (m_X3_givenTo l D cy ad h_12 g_12 H.size x3 x2 P_21 HC_21) (cwV 2 hts (gd_V (wm4 32 rfl rfl) (wm4 34 rfl rfl) (wmp2 (q := (yX3_givenTo, 6)) 7 rfl) (wm1 9 rfl rfl) (wm4 35 rfl rfl)) rfl rfl rfl (by decide +kernel) ⟨Nat.le_of_ble_eq_true rfl, Nat.le_of_ble_eq_true rfl⟩) hK hNw hG gl_97 rfl gk_97 (by decide) rfl rfl hl.1 rfl (lv_room (Nat.le_of_ble_eq_true rfl)) dX3_spareOf_21 ⟨Nat.zero_le _, Nat.zero_le _⟩) hG (fun r_21 h_21 g_21 H locs hq hG => ?_)
        replace HW := HW r_21 h_21 g_21 hq
        refine lv_istore (lv' := [(4, .int r_21), (0, .ref (ad 97)), (1, .int x1), (2, .int x2), (3, .int x3)]) hx hb dX3_spareOf_24 hl (by decide) rfl (fun ls hl => ?_)
        refine lv_iload_n hx hb dX3_spareOf_26 rfl (lv_at hl 4 rfl) ?_
        refine lv_iload_n hx hb dX3_spareOf_27 rfl (lv_at hl 2 rfl) ?_
        refine lv_icmp_ne (tgt := 34) hx hb dX3_spareOf_28 (by decide) (fun c_28 => ?_) (fun c_28 => ?_)
        · replace HW := HW.1 c_28
          refine lv_iload hx hb dX3_spareOf_34 (lv_at hl 0 rfl) ?_
          refine lv_iconst (v := (-1)) hx hb dX3_spareOf_36 (by decide) ?_
          refine lv_icmp_eq (tgt := 47) hx hb dX3_spareOf_37 (by decide) (fun c_37 => ?_) (fun c_37 => ?_)
          · replace HW := HW.1 c_37
            exact B47 K4 hK4 x1 x2 x3 h_21 g_21 _ _ _ HW hG (lv_sub hl [1, 2, 3, 4] rfl)
          · replace HW := HW.2 c_37
            refine lv_iload_n hx hb dX3_spareOf_40 rfl (lv_at hl 3 rfl) ?_
            refine lv_iconst (v := 1) hx hb dX3_spareOf_41 (by decide) ?_
            refine lv_iload hx hb dX3_spareOf_42 (lv_at hl 0 rfl) ?_
            refine lv_ishl hx hb dX3_spareOf_44 ?_
            refine lv_ior hx hb dX3_spareOf_45 ?_
            refine lv_topi (fun x2_46 ex2_46 => ?_)
            replace HW := HW x2_46 ex2_46
            refine lv_istore_n (lv' := [(2, .int x2_46), (4, .int r_21), (0, .ref (ad 97)), (1, .int x1), (3, .int x3)]) hx hb dX3_spareOf_46 rfl hl (by decide) rfl (fun ls hl => ?_)
            exact B47 K4 hK4 x1 x2_46 x3 h_21 g_21 _ _ _ HW hG (lv_sub hl [2, 3, 0, 4] rfl)
        · replace HW := HW.2 c_28
          refine lv_iload hx hb dX3_spareOf_31 (lv_at hl 0 rfl) ?_
          exact W.iret (v := r_21) hx hb hr (fun t ht hW => ⟨⟨r_21, (h_21, g_21), rfl, HW, g_B ht hG⟩, hG.2.2.F ht⟩) hG.2.2.2.2 dX3_spareOf_33
  have E0 : ∀ (H : Heap) (locs : List Loc) (ls : Array Slot), gG D cy ad (gA ad s.heap.size) s.heap h g H locs → lv_has ls 5 [(0, .ref (ad 97)), (1, .int x1)] → W p l e ({ frames := 3, cells := 0, slots := 0, locals := 70 } : Room) s m args below meth c H locs 0 0 (MQ below (va_Qi (fun (r : Int32) (u : HI × HL) => Q r u.1 u.2) (gB D cy ad s.heap.size) (gA ad s.heap.size)) args s 0 0 (gA ad s.heap.size)) (F0 m 0 ls []) := by
    intro H locs ls hG hl
    unfold w_X3_spareOf at HW
    refine lv_iconst (v := 0) hx hb dX3_spareOf_0 (by decide) ?_
    refine lv_istore_n (lv' := [(2, .int (0 : Int32)), (0, .ref (ad 97)), (1, .int x1)]) hx hb dX3_spareOf_1 rfl hl (by decide) rfl (fun ls hl => ?_)
    refine lv_iconst (v := 0) hx hb dX3_spareOf_2 (by decide) ?_
    refine lv_istore_n (lv' := [(3, .int (0 : Int32)), (2, .int (0 : Int32)), (0, .ref (ad 97)), (1, .int x1)]) hx hb dX3_spareOf_3 rfl hl (by decide) rfl (fun ls hl => ?_)
    obtain ⟨n_4, HW⟩ := HW
    exact L4 n_4 x1 (0 : Int32) (0 : Int32) h g _ _ _ HW hG (lv_sub hl [2, 3, 1, 0] rfl)
  exact E0 _ _ _ hG hl

def w_X4_flaw  (h : HI) (g : HL) (Q : Int32 → HI → HL → Prop) : Prop :=
  Q (h 77 9) h g
set_option maxHeartbeats 8000000 in
set_option maxRecDepth 100000 in
theorem m_X4_flaw (l : Launch) (D : va_G) (cy : Nat → ClassId) (ad : Nat → Nat) (h : HI) (g : HL) (sz : Nat)  (Q : Int32 → HI → HL → Prop) (HW : w_X4_flaw h g Q) : Met l yX4_flaw (wa yX4_flaw cX4_flaw 1 (some .int)) ({ frames := 0, cells := 0, slots := 0, locals := 0 }) (va_Pc [.ref (ad 77)] (gI D cy ad h g sz)) (va_Qi (fun (r : Int32) (u : HI × HL) => Q r u.1 u.2) (gB D cy ad sz) (gA ad sz)) 0 0 (gA ad sz) := by
  refine Met.ofW (cc := cX4_flaw) (maxL := 1) (ret := (some .int)) (by decide) rfl ?_
  intro p e s m args below meth c s₁ B hml hv
  obtain ⟨hav, hsz, hP, hK, hD0, hNw⟩ := hv
  have hx := B.exec
  have hb := B.bytes
  have hr := B.returns
  have hts := atoms_spec (ws := (wa yX4_flaw cX4_flaw 1 (some .int))) B.pre
  have hw := wa_hw hts
  have hown : s.vm.findClass RX4 = some m.cls := findClass_of_methodNamed B.named
  have hlocks := B.notSynchronized
  subst hsz
  have hG : gG D cy ad (gA ad s.heap.size) s.heap h g s.heap [] := ⟨hP, gA_self hD0, va_S.rf⟩
  clear hP hD0
  have lk26 := hw (.fieldLink RX4 26 "OldWorks$Law" "flaw" "I") (wm1 138 rfl rfl)
  rw [show (headSpec (wa yX4_flaw cX4_flaw 1 (some .int)) ({ frames := 0, cells := 0, slots := 0, locals := 0 } : Room)).room = ({ frames := 0, cells := 0, slots := 0, locals := 0 } : Room) from rfl]
  have hl := lv_entry ([.ref (ad 77)]) (n := 1) (Nat.le_of_ble_eq_true rfl)
  rw [show entryFrame m args 1 = entryFrame m ([.ref (ad 77)] : List Value).toArray 1 from by rw [hav], lg_entry_eq]
  generalize (lg_sl ([.ref (ad 77)]) ++ List.replicate (1 - (lg_sl ([.ref (ad 77)])).length) Slot.unset).toArray = ls at hl ⊢
  have hl : lv_has ls 1 [(0, .ref (ad 77))] := hl
  have E0 : ∀ (H : Heap) (locs : List Loc) (ls : Array Slot), gG D cy ad (gA ad s.heap.size) s.heap h g H locs → lv_has ls 1 [(0, .ref (ad 77))] → W p l e ({ frames := 0, cells := 0, slots := 0, locals := 0 } : Room) s m args below meth c H locs 0 0 (MQ below (va_Qi (fun (r : Int32) (u : HI × HL) => Q r u.1 u.2) (gB D cy ad s.heap.size) (gA ad s.heap.size)) args s 0 0 (gA ad s.heap.size)) (F0 m 0 ls []) := by
    intro H locs ls hG hl
    unfold w_X4_flaw at HW
    refine lv_aload_n hx hb dX4_flaw_0 rfl (lv_at hl 0 rfl) ?_
    refine g_geti hx hb hw inG4 hown hK hG gl_77 rfl gk_77 (by decide) 9 (by decide) (by rw [gm_77]; decide) gr_77_9 lk26 dX4_flaw_1 ?_
    exact W.iret (v := (h 77 9)) hx hb hr (fun t ht hW => ⟨⟨(h 77 9), (h, g), rfl, HW, g_B ht hG⟩, hG.2.2.F ht⟩) hG.2.2.2.2 dX4_flaw_4
  exact E0 _ _ _ hG hl

def w_X4_put (x1 : Int32) (h : HI) (g : HL) (Q : HI → HL → Prop) : Prop :=
  (((h 77 4) < 0 → Q h g) ∧ (¬ (h 77 4) < 0 → (((60 : Int32) ≤ (h 77 4) → Q h g) ∧ (¬ (60 : Int32) ≤ (h 77 4) → (vp_in (h 77 4) 60 ∧ ∀ h_28 : HI, h_28 = hu h 78 (h 77 4).toNatClampNeg x1 → (∀ h_36 : HI, h_36 = hu h_28 77 4 ((h_28 77 4) + (1 : Int32)) → Q h_36 g))))))
set_option maxHeartbeats 8000000 in
set_option maxRecDepth 100000 in
theorem m_X4_put (l : Launch) (D : va_G) (cy : Nat → ClassId) (ad : Nat → Nat) (h : HI) (g : HL) (sz : Nat) (x1 : Int32) (Q : HI → HL → Prop) (HW : w_X4_put x1 h g Q) : Met l yX4_put (wa yX4_put cX4_put 2 none) ({ frames := 0, cells := 0, slots := 0, locals := 0 }) (va_Pc [.ref (ad 77), .int x1] (gI D cy ad h g sz)) (va_Qv (fun (u : HI × HL) => Q u.1 u.2) (gB D cy ad sz) (gA ad sz)) 0 0 (gA ad sz) := by
  refine Met.ofW (cc := cX4_put) (maxL := 2) (ret := none) (by decide) rfl ?_
  intro p e s m args below meth c s₁ B hml hv
  obtain ⟨hav, hsz, hP, hK, hD0, hNw⟩ := hv
  have hx := B.exec
  have hb := B.bytes
  have hr := B.returns
  have hts := atoms_spec (ws := (wa yX4_put cX4_put 2 none)) B.pre
  have hw := wa_hw hts
  have hown : s.vm.findClass RX4 = some m.cls := findClass_of_methodNamed B.named
  have hlocks := B.notSynchronized
  subst hsz
  have hG : gG D cy ad (gA ad s.heap.size) s.heap h g s.heap [] := ⟨hP, gA_self hD0, va_S.rf⟩
  clear hP hD0
  have lk30 := hw (.fieldLink RX4 30 "OldWorks$Law" "written" "I") (wm1 133 rfl rfl)
  have lk11 := hw (.fieldLink RX4 11 "OldWorks$Law" "steps" "[I") (wm1 130 rfl rfl)
  rw [show (headSpec (wa yX4_put cX4_put 2 none) ({ frames := 0, cells := 0, slots := 0, locals := 0 } : Room)).room = ({ frames := 0, cells := 0, slots := 0, locals := 0 } : Room) from rfl]
  have hl := lv_entry ([.ref (ad 77), .int x1]) (n := 2) (Nat.le_of_ble_eq_true rfl)
  rw [show entryFrame m args 2 = entryFrame m ([.ref (ad 77), .int x1] : List Value).toArray 2 from by rw [hav], lg_entry_eq]
  generalize (lg_sl ([.ref (ad 77), .int x1]) ++ List.replicate (2 - (lg_sl ([.ref (ad 77), .int x1])).length) Slot.unset).toArray = ls at hl ⊢
  have hl : lv_has ls 2 [(0, .ref (ad 77)), (1, .int x1)] := hl
  have E0 : ∀ (H : Heap) (locs : List Loc) (ls : Array Slot), gG D cy ad (gA ad s.heap.size) s.heap h g H locs → lv_has ls 2 [(0, .ref (ad 77)), (1, .int x1)] → W p l e ({ frames := 0, cells := 0, slots := 0, locals := 0 } : Room) s m args below meth c H locs 0 0 (MQ below (va_Qv (fun (u : HI × HL) => Q u.1 u.2) (gB D cy ad s.heap.size) (gA ad s.heap.size)) args s 0 0 (gA ad s.heap.size)) (F0 m 0 ls []) := by
    intro H locs ls hG hl
    unfold w_X4_put at HW
    refine lv_aload_n hx hb dX4_put_0 rfl (lv_at hl 0 rfl) ?_
    refine g_geti hx hb hw inG4 hown hK hG gl_77 rfl gk_77 (by decide) 4 (by decide) (by rw [gm_77]; decide) gr_77_4 lk30 dX4_put_1 ?_
    refine lv_if_lt (tgt := 39) hx hb dX4_put_4 (by decide) (fun c_4 => ?_) (fun c_4 => ?_)
    · replace HW := HW.1 c_4
      exact W.vret hx hb hr (fun t ht hW => ⟨⟨(h, g), rfl, HW, g_B ht hG⟩, hG.2.2.F ht⟩) hG.2.2.2.2 dX4_put_39
    · replace HW := HW.2 c_4
      refine lv_aload_n hx hb dX4_put_7 rfl (lv_at hl 0 rfl) ?_
      refine g_geti hx hb hw inG4 hown hK hG gl_77 rfl gk_77 (by decide) 4 (by decide) (by rw [gm_77]; decide) gr_77_4 lk30 dX4_put_8 ?_
      refine lv_aload_n hx hb dX4_put_11 rfl (lv_at hl 0 rfl) ?_
      refine g_getr hx hb hw inG4 hown hK hG gl_77 rfl gk_77 (by decide) 1 (by decide) (by rw [gm_77]; decide) (r := 78) gr_77_1 lk11 dX4_put_12 ?_
      refine g_alen hx hb hK hG gl_78 gk_78 (v := (60 : Int32)) (by rw [gn_78]; decide) dX4_put_15 ?_
      refine lv_icmp_ge (tgt := 39) hx hb dX4_put_16 (by decide) (fun c_16 => ?_) (fun c_16 => ?_)
      · replace HW := HW.1 c_16
        exact W.vret hx hb hr (fun t ht hW => ⟨⟨(h, g), rfl, HW, g_B ht hG⟩, hG.2.2.F ht⟩) hG.2.2.2.2 dX4_put_39
      · replace HW := HW.2 c_16
        refine lv_aload_n hx hb dX4_put_19 rfl (lv_at hl 0 rfl) ?_
        refine g_getr hx hb hw inG4 hown hK hG gl_77 rfl gk_77 (by decide) 1 (by decide) (by rw [gm_77]; decide) (r := 78) gr_77_1 lk11 dX4_put_20 ?_
        refine lv_aload_n hx hb dX4_put_23 rfl (lv_at hl 0 rfl) ?_
        refine g_geti hx hb hw inG4 hown hK hG gl_77 rfl gk_77 (by decide) 4 (by decide) (by rw [gm_77]; decide) gr_77_4 lk30 dX4_put_24 ?_
        refine lv_iload_n hx hb dX4_put_27 rfl (lv_at hl 1 rfl) ?_
        refine g_iast hx hb hK hG gl_78 gk_78 gn_78 HW.1 dX4_put_28 (fun H locs hG => ?_)
        replace HW := HW.2
        obtain ⟨h_28, eh_28⟩ : ∃ y : HI, y = hu h 78 (h 77 4).toNatClampNeg x1 := ⟨_, rfl⟩
        rw [← eh_28] at hG
        replace HW := HW h_28 eh_28
        refine lv_aload_n hx hb dX4_put_29 rfl (lv_at hl 0 rfl) ?_
        refine lv_dup hx hb dX4_put_30 rfl ?_
        refine g_geti hx hb hw inG4 hown hK hG gl_77 rfl gk_77 (by decide) 4 (by decide) (by rw [gm_77]; decide) gr_77_4 lk30 dX4_put_31 ?_
        refine lv_iconst (v := 1) hx hb dX4_put_34 (by decide) ?_
        refine lv_iadd hx hb dX4_put_35 ?_
        refine g_put hx hb hw inG4 tyX4 tyX4_ok nmX4 hown hK hG gl_77 rfl gk_77 (by decide) 4 (by decide) (by rw [gm_77]; decide) gr_77_4 rfl (ty := .int) (by decide +kernel) rfl rfl lk30 dX4_put_36 (fun H locs hG => ?_)
        obtain ⟨h_36, eh_36⟩ : ∃ y : HI, y = hu h_28 77 4 ((h_28 77 4) + (1 : Int32)) := ⟨_, rfl⟩
        rw [← eh_36] at hG
        replace HW := HW h_36 eh_36
        exact W.vret hx hb hr (fun t ht hW => ⟨⟨(h_36, g), rfl, HW, g_B ht hG⟩, hG.2.2.F ht⟩) hG.2.2.2.2 dX4_put_39
  exact E0 _ _ _ hG hl

def j_X4_readDigit_102 (Q : HI → HL → Prop) (x1 : Int32) (x3 : Int32) (h : HI) (g : HL) : Prop :=
  (∃ P_109 : HI → HL → Prop, w_X4_put (((10 : Int32) * x3) + x1) h g P_109 ∧ ∀ (h_109 : HI) (g_109 : HL), P_109 h_109 g_109 → (∀ h_119 : HI, h_119 = hu h_109 77 7 ((h_109 77 7) + (1 : Int32)) → (∀ h_124 : HI, h_124 = hu h_119 77 8 (0 : Int32) → Q h_124 g_109)))
def j_X4_readDigit_27 (Q : HI → HL → Prop) (x1 : Int32) (x2 : Int32) (h : HI) (g : HL) : Prop :=
  (((h 77 7) < (6 : Int32) → (((h 77 7) ≤ 0 → j_X4_readDigit_102 Q x1 (0 : Int32) h g) ∧ (¬ (h 77 7) ≤ 0 → (((h 77 4) ≤ 0 → j_X4_readDigit_102 Q x1 (0 : Int32) h g) ∧ (¬ (h 77 4) ≤ 0 → (((60 : Int32) < (h 77 4) → j_X4_readDigit_102 Q x1 (0 : Int32) h g) ∧ (¬ (60 : Int32) < (h 77 4) → (∀ h_89 : HI, h_89 = hu h 77 4 ((h 77 4) - (1 : Int32)) → (vp_in (h_89 77 4) 60 ∧ (∀ x3_101 : Int32, x3_101 = (h_89 78 (h_89 77 4).toNatClampNeg) → j_X4_readDigit_102 Q x1 x3_101 h_89 g)))))))))) ∧ (¬ (h 77 7) < (6 : Int32) → (∀ h_48 : HI, h_48 = hu h 77 9 (((10 : Int32) * (x2 - (h 77 7))) + (2 : Int32)) → Q h_48 g)))
def w_X4_readDigit (x1 : Int32) (x2 : Int32) (h : HI) (g : HL) (Q : HI → HL → Prop) : Prop :=
  ((¬ (h 77 7) = 0 → j_X4_readDigit_27 Q x1 x2 h g) ∧ ((h 77 7) = 0 → ((¬ (h 77 8) = 0 → j_X4_readDigit_27 Q x1 x2 h g) ∧ ((h 77 8) = 0 → (∀ h_21 : HI, h_21 = hu h 77 9 (((10 : Int32) * x2) + (1 : Int32)) → Q h_21 g)))))
set_option maxHeartbeats 8000000 in
set_option maxRecDepth 100000 in
theorem m_X4_readDigit (l : Launch) (D : va_G) (cy : Nat → ClassId) (ad : Nat → Nat) (h : HI) (g : HL) (sz : Nat) (x1 : Int32) (x2 : Int32) (Q : HI → HL → Prop) (HW : w_X4_readDigit x1 x2 h g Q) : Met l yX4_readDigit (wa yX4_readDigit cX4_readDigit 4 none) ({ frames := 1, cells := 0, slots := 0, locals := 21 }) (va_Pc [.ref (ad 77), .int x1, .int x2] (gI D cy ad h g sz)) (va_Qv (fun (u : HI × HL) => Q u.1 u.2) (gB D cy ad sz) (gA ad sz)) 0 0 (gA ad sz) := by
  refine Met.ofW (cc := cX4_readDigit) (maxL := 4) (ret := none) (by decide) rfl ?_
  intro p e s m args below meth c s₁ B hml hv
  obtain ⟨hav, hsz, hP, hK, hD0, hNw⟩ := hv
  have hx := B.exec
  have hb := B.bytes
  have hr := B.returns
  have hts := atoms_spec (ws := (wa yX4_readDigit cX4_readDigit 4 none)) B.pre
  have hw := wa_hw hts
  have hown : s.vm.findClass RX4 = some m.cls := findClass_of_methodNamed B.named
  have hlocks := B.notSynchronized
  subst hsz
  have hG : gG D cy ad (gA ad s.heap.size) s.heap h g s.heap [] := ⟨hP, gA_self hD0, va_S.rf⟩
  clear hP hD0
  have lk39 := hw (.fieldLink RX4 39 "OldWorks$Law" "digits" "I") (wm1 136 rfl rfl)
  have lk42 := hw (.fieldLink RX4 42 "OldWorks$Law" "unitDue" "Z") (wm1 137 rfl rfl)
  have lk26 := hw (.fieldLink RX4 26 "OldWorks$Law" "flaw" "I") (wm1 138 rfl rfl)
  have lk30 := hw (.fieldLink RX4 30 "OldWorks$Law" "written" "I") (wm1 133 rfl rfl)
  have lk11 := hw (.fieldLink RX4 11 "OldWorks$Law" "steps" "[I") (wm1 130 rfl rfl)
  rw [show (headSpec (wa yX4_readDigit cX4_readDigit 4 none) ({ frames := 1, cells := 0, slots := 0, locals := 21 } : Room)).room = ({ frames := 1, cells := 0, slots := 0, locals := 21 } : Room) from rfl]
  have hl := lv_entry ([.ref (ad 77), .int x1, .int x2]) (n := 4) (Nat.le_of_ble_eq_true rfl)
  rw [show entryFrame m args 4 = entryFrame m ([.ref (ad 77), .int x1, .int x2] : List Value).toArray 4 from by rw [hav], lg_entry_eq]
  generalize (lg_sl ([.ref (ad 77), .int x1, .int x2]) ++ List.replicate (4 - (lg_sl ([.ref (ad 77), .int x1, .int x2])).length) Slot.unset).toArray = ls at hl ⊢
  have hl : lv_has ls 4 [(0, .ref (ad 77)), (1, .int x1), (2, .int x2)] := hl
  have B102 : ∀ (x1 : Int32) (x3 : Int32) (h : HI) (g : HL) (H : Heap) (locs : List Loc) (ls : Array Slot), j_X4_readDigit_102 Q x1 x3 h g → gG D cy ad (gA ad s.heap.size) s.heap h g H locs → lv_has ls 4 [(0, .ref (ad 77)), (1, .int x1), (3, .int x3)] → W p l e ({ frames := 1, cells := 0, slots := 0, locals := 21 } : Room) s m args below meth c H locs 0 0 (MQ below (va_Qv (fun (u : HI × HL) => Q u.1 u.2) (gB D cy ad s.heap.size) (gA ad s.heap.size)) args s 0 0 (gA ad s.heap.size)) (F0 m 102 ls []) := by
    intro x1 x3 h g H locs ls HW hG hl
    unfold j_X4_readDigit_102 at HW
    refine lv_aload_n hx hb dX4_readDigit_102 rfl (lv_at hl 0 rfl) ?_
    refine lv_bipush (v := 10) hx hb dX4_readDigit_103 (by decide) ?_
    refine lv_iload_n hx hb dX4_readDigit_105 rfl (lv_at hl 2 rfl) ?_
    refine lv_imul hx hb dX4_readDigit_106 ?_
    refine lv_iload_n hx hb dX4_readDigit_107 rfl (lv_at hl 1 rfl) ?_
    refine lv_iadd hx hb dX4_readDigit_108 ?_
    obtain ⟨P_109, HC_109, HW⟩ := HW
    refine g_callv (g_runV (As := [.int (((10 : Int32) * x3) + x1)]) (rest := []) ⟨hx, hb, hml, hown, hts⟩ (m_X4_put l D cy ad h g H.size (((10 : Int32) * x3) + x1) P_109 HC_109) (cwV 1 hts (gd_V (wm2 228 rfl rfl) (wm2 230 rfl rfl) (wmp1 (q := (yX4_put, 10)) 1 rfl) (wm1 4 rfl rfl) (wm2 231 rfl rfl)) rfl rfl rfl (by decide +kernel) ⟨Nat.le_of_ble_eq_true rfl, Nat.le_of_ble_eq_true rfl⟩) hK hNw hG gl_77 rfl gk_77 (by decide) rfl rfl hl.1 rfl (lv_room (Nat.le_of_ble_eq_true rfl)) dX4_readDigit_109 ⟨Nat.zero_le _, Nat.zero_le _⟩) hG (fun h_109 g_109 H locs hq hG => ?_)
    replace HW := HW h_109 g_109 hq
    refine lv_aload_n hx hb dX4_readDigit_112 rfl (lv_at hl 0 rfl) ?_
    refine lv_dup hx hb dX4_readDigit_113 rfl ?_
    refine g_geti hx hb hw inG4 hown hK hG gl_77 rfl gk_77 (by decide) 7 (by decide) (by rw [gm_77]; decide) gr_77_7 lk39 dX4_readDigit_114 ?_
    refine lv_iconst (v := 1) hx hb dX4_readDigit_117 (by decide) ?_
    refine lv_iadd hx hb dX4_readDigit_118 ?_
    refine g_put hx hb hw inG4 tyX4 tyX4_ok nmX4 hown hK hG gl_77 rfl gk_77 (by decide) 7 (by decide) (by rw [gm_77]; decide) gr_77_7 rfl (ty := .int) (by decide +kernel) rfl rfl lk39 dX4_readDigit_119 (fun H locs hG => ?_)
    obtain ⟨h_119, eh_119⟩ : ∃ y : HI, y = hu h_109 77 7 ((h_109 77 7) + (1 : Int32)) := ⟨_, rfl⟩
    rw [← eh_119] at hG
    replace HW := HW h_119 eh_119
    refine lv_aload_n hx hb dX4_readDigit_122 rfl (lv_at hl 0 rfl) ?_
    refine lv_iconst (v := 0) hx hb dX4_readDigit_123 (by decide) ?_
    refine g_put hx hb hw inG4 tyX4 tyX4_ok nmX4 hown hK hG gl_77 rfl gk_77 (by decide) 8 (by decide) (by rw [gm_77]; decide) gr_77_8 rfl (ty := .boolean) (by decide +kernel) rfl rfl lk42 dX4_readDigit_124 (fun H locs hG => ?_)
    obtain ⟨h_124, eh_124⟩ : ∃ y : HI, y = hu h_119 77 8 (0 : Int32) := ⟨_, rfl⟩
    rw [← eh_124] at hG
    replace HW := HW h_124 eh_124
    exact W.vret hx hb hr (fun t ht hW => ⟨⟨(h_124, g_109), rfl, HW, g_B ht hG⟩, hG.2.2.F ht⟩) hG.2.2.2.2 dX4_readDigit_127
  have B27 : ∀ (x1 : Int32) (x2 : Int32) (h : HI) (g : HL) (H : Heap) (locs : List Loc) (ls : Array Slot), j_X4_readDigit_27 Q x1 x2 h g → gG D cy ad (gA ad s.heap.size) s.heap h g H locs → lv_has ls 4 [(0, .ref (ad 77)), (1, .int x1), (2, .int x2)] → W p l e ({ frames := 1, cells := 0, slots := 0, locals := 21 } : Room) s m args below meth c H locs 0 0 (MQ below (va_Qv (fun (u : HI × HL) => Q u.1 u.2) (gB D cy ad s.heap.size) (gA ad s.heap.size)) args s 0 0 (gA ad s.heap.size)) (F0 m 27 ls []) := by
    intro x1 x2 h g H locs ls HW hG hl
    unfold j_X4_readDigit_27 at HW
    refine lv_aload_n hx hb dX4_readDigit_27 rfl (lv_at hl 0 rfl) ?_
    refine g_geti hx hb hw inG4 hown hK hG gl_77 rfl gk_77 (by decide) 7 (by decide) (by rw [gm_77]; decide) gr_77_7 lk39 dX4_readDigit_28 ?_
    refine lv_bipush (v := 6) hx hb dX4_readDigit_31 (by decide) ?_
    refine lv_icmp_lt (tgt := 54) hx hb dX4_readDigit_33 (by decide) (fun c_33 => ?_) (fun c_33 => ?_)
    · replace HW := HW.1 c_33
      refine lv_iconst (v := 0) hx hb dX4_readDigit_54 (by decide) ?_
      refine lv_istore_n (lv' := [(3, .int (0 : Int32)), (0, .ref (ad 77)), (1, .int x1), (2, .int x2)]) hx hb dX4_readDigit_55 rfl hl (by decide) rfl (fun ls hl => ?_)
      refine lv_aload_n hx hb dX4_readDigit_56 rfl (lv_at hl 1 rfl) ?_
      refine g_geti hx hb hw inG4 hown hK hG gl_77 rfl gk_77 (by decide) 7 (by decide) (by rw [gm_77]; decide) gr_77_7 lk39 dX4_readDigit_57 ?_
      refine lv_if_le (tgt := 102) hx hb dX4_readDigit_60 (by decide) (fun c_60 => ?_) (fun c_60 => ?_)
      · replace HW := HW.1 c_60
        exact B102 x1 (0 : Int32) h g _ _ _ HW hG (lv_sub hl [1, 2, 0] rfl)
      · replace HW := HW.2 c_60
        refine lv_aload_n hx hb dX4_readDigit_63 rfl (lv_at hl 1 rfl) ?_
        refine g_geti hx hb hw inG4 hown hK hG gl_77 rfl gk_77 (by decide) 4 (by decide) (by rw [gm_77]; decide) gr_77_4 lk30 dX4_readDigit_64 ?_
        refine lv_if_le (tgt := 102) hx hb dX4_readDigit_67 (by decide) (fun c_67 => ?_) (fun c_67 => ?_)
        · replace HW := HW.1 c_67
          exact B102 x1 (0 : Int32) h g _ _ _ HW hG (lv_sub hl [1, 2, 0] rfl)
        · replace HW := HW.2 c_67
          refine lv_aload_n hx hb dX4_readDigit_70 rfl (lv_at hl 1 rfl) ?_
          refine g_geti hx hb hw inG4 hown hK hG gl_77 rfl gk_77 (by decide) 4 (by decide) (by rw [gm_77]; decide) gr_77_4 lk30 dX4_readDigit_71 ?_
          refine lv_aload_n hx hb dX4_readDigit_74 rfl (lv_at hl 1 rfl) ?_
          refine g_getr hx hb hw inG4 hown hK hG gl_77 rfl gk_77 (by decide) 1 (by decide) (by rw [gm_77]; decide) (r := 78) gr_77_1 lk11 dX4_readDigit_75 ?_
          refine g_alen hx hb hK hG gl_78 gk_78 (v := (60 : Int32)) (by rw [gn_78]; decide) dX4_readDigit_78 ?_
          refine lv_icmp_gt (tgt := 102) hx hb dX4_readDigit_79 (by decide) (fun c_79 => ?_) (fun c_79 => ?_)
          · replace HW := HW.1 c_79
            exact B102 x1 (0 : Int32) h g _ _ _ HW hG (lv_sub hl [1, 2, 0] rfl)
          · replace HW := HW.2 c_79
            refine lv_aload_n hx hb dX4_readDigit_82 rfl (lv_at hl 1 rfl) ?_
            refine lv_dup hx hb dX4_readDigit_83 rfl ?_
            refine g_geti hx hb hw inG4 hown hK hG gl_77 rfl gk_77 (by decide) 4 (by decide) (by rw [gm_77]; decide) gr_77_4 lk30 dX4_readDigit_84 ?_
            refine lv_iconst (v := 1) hx hb dX4_readDigit_87 (by decide) ?_
            refine lv_isub hx hb dX4_readDigit_88 ?_
            refine g_put hx hb hw inG4 tyX4 tyX4_ok nmX4 hown hK hG gl_77 rfl gk_77 (by decide) 4 (by decide) (by rw [gm_77]; decide) gr_77_4 rfl (ty := .int) (by decide +kernel) rfl rfl lk30 dX4_readDigit_89 (fun H locs hG => ?_)
            obtain ⟨h_89, eh_89⟩ : ∃ y : HI, y = hu h 77 4 ((h 77 4) - (1 : Int32)) := ⟨_, rfl⟩
            rw [← eh_89] at hG
            replace HW := HW h_89 eh_89
            refine lv_aload_n hx hb dX4_readDigit_92 rfl (lv_at hl 1 rfl) ?_
            refine g_getr hx hb hw inG4 hown hK hG gl_77 rfl gk_77 (by decide) 1 (by decide) (by rw [gm_77]; decide) (r := 78) gr_77_1 lk11 dX4_readDigit_93 ?_
            refine lv_aload_n hx hb dX4_readDigit_96 rfl (lv_at hl 1 rfl) ?_
            refine g_geti hx hb hw inG4 hown hK hG gl_77 rfl gk_77 (by decide) 4 (by decide) (by rw [gm_77]; decide) gr_77_4 lk30 dX4_readDigit_97 ?_
            refine g_iald hx hb hK hG gl_78 gk_78 gn_78 HW.1 dX4_readDigit_100 ?_
            replace HW := HW.2
            refine lv_topi (fun x3_101 ex3_101 => ?_)
            replace HW := HW x3_101 ex3_101
            refine lv_istore_n (lv' := [(3, .int x3_101), (0, .ref (ad 77)), (1, .int x1), (2, .int x2)]) hx hb dX4_readDigit_101 rfl hl (by decide) rfl (fun ls hl => ?_)
            exact B102 x1 x3_101 h_89 g _ _ _ HW hG (lv_sub hl [1, 2, 0] rfl)
    · replace HW := HW.2 c_33
      refine lv_aload_n hx hb dX4_readDigit_36 rfl (lv_at hl 0 rfl) ?_
      refine lv_bipush (v := 10) hx hb dX4_readDigit_37 (by decide) ?_
      refine lv_iload_n hx hb dX4_readDigit_39 rfl (lv_at hl 2 rfl) ?_
      refine lv_aload_n hx hb dX4_readDigit_40 rfl (lv_at hl 0 rfl) ?_
      refine g_geti hx hb hw inG4 hown hK hG gl_77 rfl gk_77 (by decide) 7 (by decide) (by rw [gm_77]; decide) gr_77_7 lk39 dX4_readDigit_41 ?_
      refine lv_isub hx hb dX4_readDigit_44 ?_
      refine lv_imul hx hb dX4_readDigit_45 ?_
      refine lv_iconst (v := 2) hx hb dX4_readDigit_46 (by decide) ?_
      refine lv_iadd hx hb dX4_readDigit_47 ?_
      refine g_put hx hb hw inG4 tyX4 tyX4_ok nmX4 hown hK hG gl_77 rfl gk_77 (by decide) 9 (by decide) (by rw [gm_77]; decide) gr_77_9 rfl (ty := .int) (by decide +kernel) rfl rfl lk26 dX4_readDigit_48 (fun H locs hG => ?_)
      obtain ⟨h_48, eh_48⟩ : ∃ y : HI, y = hu h 77 9 (((10 : Int32) * (x2 - (h 77 7))) + (2 : Int32)) := ⟨_, rfl⟩
      rw [← eh_48] at hG
      replace HW := HW h_48 eh_48
      refine lv_goto (tgt := 127) hx hb dX4_readDigit_51 (by decide) ?_
      exact W.vret hx hb hr (fun t ht hW => ⟨⟨(h_48, g), rfl, HW, g_B ht hG⟩, hG.2.2.F ht⟩) hG.2.2.2.2 dX4_readDigit_127
  have E0 : ∀ (H : Heap) (locs : List Loc) (ls : Array Slot), gG D cy ad (gA ad s.heap.size) s.heap h g H locs → lv_has ls 4 [(0, .ref (ad 77)), (1, .int x1), (2, .int x2)] → W p l e ({ frames := 1, cells := 0, slots := 0, locals := 21 } : Room) s m args below meth c H locs 0 0 (MQ below (va_Qv (fun (u : HI × HL) => Q u.1 u.2) (gB D cy ad s.heap.size) (gA ad s.heap.size)) args s 0 0 (gA ad s.heap.size)) (F0 m 0 ls []) := by
    intro H locs ls hG hl
    unfold w_X4_readDigit at HW
    refine lv_aload_n hx hb dX4_readDigit_0 rfl (lv_at hl 0 rfl) ?_
    refine g_geti hx hb hw inG4 hown hK hG gl_77 rfl gk_77 (by decide) 7 (by decide) (by rw [gm_77]; decide) gr_77_7 lk39 dX4_readDigit_1 ?_
    refine lv_if_ne (tgt := 27) hx hb dX4_readDigit_4 (by decide) (fun c_4 => ?_) (fun c_4 => ?_)
    · replace HW := HW.1 c_4
      exact B27 x1 x2 h g _ _ _ HW hG (lv_sub hl [0, 1, 2] rfl)
    · replace HW := HW.2 c_4
      refine lv_aload_n hx hb dX4_readDigit_7 rfl (lv_at hl 0 rfl) ?_
      refine g_geti hx hb hw inG4 hown hK hG gl_77 rfl gk_77 (by decide) 8 (by decide) (by rw [gm_77]; decide) gr_77_8 lk42 dX4_readDigit_8 ?_
      refine lv_if_ne (tgt := 27) hx hb dX4_readDigit_11 (by decide) (fun c_11 => ?_) (fun c_11 => ?_)
      · replace HW := HW.1 c_11
        exact B27 x1 x2 h g _ _ _ HW hG (lv_sub hl [0, 1, 2] rfl)
      · replace HW := HW.2 c_11
        refine lv_aload_n hx hb dX4_readDigit_14 rfl (lv_at hl 0 rfl) ?_
        refine lv_bipush (v := 10) hx hb dX4_readDigit_15 (by decide) ?_
        refine lv_iload_n hx hb dX4_readDigit_17 rfl (lv_at hl 2 rfl) ?_
        refine lv_imul hx hb dX4_readDigit_18 ?_
        refine lv_iconst (v := 1) hx hb dX4_readDigit_19 (by decide) ?_
        refine lv_iadd hx hb dX4_readDigit_20 ?_
        refine g_put hx hb hw inG4 tyX4 tyX4_ok nmX4 hown hK hG gl_77 rfl gk_77 (by decide) 9 (by decide) (by rw [gm_77]; decide) gr_77_9 rfl (ty := .int) (by decide +kernel) rfl rfl lk26 dX4_readDigit_21 (fun H locs hG => ?_)
        obtain ⟨h_21, eh_21⟩ : ∃ y : HI, y = hu h 77 9 (((10 : Int32) * x2) + (1 : Int32)) := ⟨_, rfl⟩
        rw [← eh_21] at hG
        replace HW := HW h_21 eh_21
        refine lv_goto (tgt := 127) hx hb dX4_readDigit_24 (by decide) ?_
        exact W.vret hx hb hr (fun t ht hW => ⟨⟨(h_21, g), rfl, HW, g_B ht hG⟩, hG.2.2.F ht⟩) hG.2.2.2.2 dX4_readDigit_127
  exact E0 _ _ _ hG hl

def w_X4_await (x1 : Int32) (h : HI) (g : HL) (Q : HI → HL → Prop) : Prop :=
  (((h 77 5) < 0 → Q h g) ∧ (¬ (h 77 5) < 0 → (((60 : Int32) ≤ (h 77 5) → Q h g) ∧ (¬ (60 : Int32) ≤ (h 77 5) → (vp_in (h 77 5) 60 ∧ ∀ h_28 : HI, h_28 = hu h 79 (h 77 5).toNatClampNeg x1 → (∀ h_36 : HI, h_36 = hu h_28 77 5 ((h_28 77 5) + (1 : Int32)) → Q h_36 g))))))
set_option maxHeartbeats 8000000 in
set_option maxRecDepth 100000 in
theorem m_X4_await (l : Launch) (D : va_G) (cy : Nat → ClassId) (ad : Nat → Nat) (h : HI) (g : HL) (sz : Nat) (x1 : Int32) (Q : HI → HL → Prop) (HW : w_X4_await x1 h g Q) : Met l yX4_await (wa yX4_await cX4_await 2 none) ({ frames := 0, cells := 0, slots := 0, locals := 0 }) (va_Pc [.ref (ad 77), .int x1] (gI D cy ad h g sz)) (va_Qv (fun (u : HI × HL) => Q u.1 u.2) (gB D cy ad sz) (gA ad sz)) 0 0 (gA ad sz) := by
  refine Met.ofW (cc := cX4_await) (maxL := 2) (ret := none) (by decide) rfl ?_
  intro p e s m args below meth c s₁ B hml hv
  obtain ⟨hav, hsz, hP, hK, hD0, hNw⟩ := hv
  have hx := B.exec
  have hb := B.bytes
  have hr := B.returns
  have hts := atoms_spec (ws := (wa yX4_await cX4_await 2 none)) B.pre
  have hw := wa_hw hts
  have hown : s.vm.findClass RX4 = some m.cls := findClass_of_methodNamed B.named
  have hlocks := B.notSynchronized
  subst hsz
  have hG : gG D cy ad (gA ad s.heap.size) s.heap h g s.heap [] := ⟨hP, gA_self hD0, va_S.rf⟩
  clear hP hD0
  have lk33 := hw (.fieldLink RX4 33 "OldWorks$Law" "waits" "I") (wm1 134 rfl rfl)
  have lk15 := hw (.fieldLink RX4 15 "OldWorks$Law" "waiting" "[I") (wm1 131 rfl rfl)
  rw [show (headSpec (wa yX4_await cX4_await 2 none) ({ frames := 0, cells := 0, slots := 0, locals := 0 } : Room)).room = ({ frames := 0, cells := 0, slots := 0, locals := 0 } : Room) from rfl]
  have hl := lv_entry ([.ref (ad 77), .int x1]) (n := 2) (Nat.le_of_ble_eq_true rfl)
  rw [show entryFrame m args 2 = entryFrame m ([.ref (ad 77), .int x1] : List Value).toArray 2 from by rw [hav], lg_entry_eq]
  generalize (lg_sl ([.ref (ad 77), .int x1]) ++ List.replicate (2 - (lg_sl ([.ref (ad 77), .int x1])).length) Slot.unset).toArray = ls at hl ⊢
  have hl : lv_has ls 2 [(0, .ref (ad 77)), (1, .int x1)] := hl
  have E0 : ∀ (H : Heap) (locs : List Loc) (ls : Array Slot), gG D cy ad (gA ad s.heap.size) s.heap h g H locs → lv_has ls 2 [(0, .ref (ad 77)), (1, .int x1)] → W p l e ({ frames := 0, cells := 0, slots := 0, locals := 0 } : Room) s m args below meth c H locs 0 0 (MQ below (va_Qv (fun (u : HI × HL) => Q u.1 u.2) (gB D cy ad s.heap.size) (gA ad s.heap.size)) args s 0 0 (gA ad s.heap.size)) (F0 m 0 ls []) := by
    intro H locs ls hG hl
    unfold w_X4_await at HW
    refine lv_aload_n hx hb dX4_await_0 rfl (lv_at hl 0 rfl) ?_
    refine g_geti hx hb hw inG4 hown hK hG gl_77 rfl gk_77 (by decide) 5 (by decide) (by rw [gm_77]; decide) gr_77_5 lk33 dX4_await_1 ?_
    refine lv_if_lt (tgt := 39) hx hb dX4_await_4 (by decide) (fun c_4 => ?_) (fun c_4 => ?_)
    · replace HW := HW.1 c_4
      exact W.vret hx hb hr (fun t ht hW => ⟨⟨(h, g), rfl, HW, g_B ht hG⟩, hG.2.2.F ht⟩) hG.2.2.2.2 dX4_await_39
    · replace HW := HW.2 c_4
      refine lv_aload_n hx hb dX4_await_7 rfl (lv_at hl 0 rfl) ?_
      refine g_geti hx hb hw inG4 hown hK hG gl_77 rfl gk_77 (by decide) 5 (by decide) (by rw [gm_77]; decide) gr_77_5 lk33 dX4_await_8 ?_
      refine lv_aload_n hx hb dX4_await_11 rfl (lv_at hl 0 rfl) ?_
      refine g_getr hx hb hw inG4 hown hK hG gl_77 rfl gk_77 (by decide) 2 (by decide) (by rw [gm_77]; decide) (r := 79) gr_77_2 lk15 dX4_await_12 ?_
      refine g_alen hx hb hK hG gl_79 gk_79 (v := (60 : Int32)) (by rw [gn_79]; decide) dX4_await_15 ?_
      refine lv_icmp_ge (tgt := 39) hx hb dX4_await_16 (by decide) (fun c_16 => ?_) (fun c_16 => ?_)
      · replace HW := HW.1 c_16
        exact W.vret hx hb hr (fun t ht hW => ⟨⟨(h, g), rfl, HW, g_B ht hG⟩, hG.2.2.F ht⟩) hG.2.2.2.2 dX4_await_39
      · replace HW := HW.2 c_16
        refine lv_aload_n hx hb dX4_await_19 rfl (lv_at hl 0 rfl) ?_
        refine g_getr hx hb hw inG4 hown hK hG gl_77 rfl gk_77 (by decide) 2 (by decide) (by rw [gm_77]; decide) (r := 79) gr_77_2 lk15 dX4_await_20 ?_
        refine lv_aload_n hx hb dX4_await_23 rfl (lv_at hl 0 rfl) ?_
        refine g_geti hx hb hw inG4 hown hK hG gl_77 rfl gk_77 (by decide) 5 (by decide) (by rw [gm_77]; decide) gr_77_5 lk33 dX4_await_24 ?_
        refine lv_iload_n hx hb dX4_await_27 rfl (lv_at hl 1 rfl) ?_
        refine g_iast hx hb hK hG gl_79 gk_79 gn_79 HW.1 dX4_await_28 (fun H locs hG => ?_)
        replace HW := HW.2
        obtain ⟨h_28, eh_28⟩ : ∃ y : HI, y = hu h 79 (h 77 5).toNatClampNeg x1 := ⟨_, rfl⟩
        rw [← eh_28] at hG
        replace HW := HW h_28 eh_28
        refine lv_aload_n hx hb dX4_await_29 rfl (lv_at hl 0 rfl) ?_
        refine lv_dup hx hb dX4_await_30 rfl ?_
        refine g_geti hx hb hw inG4 hown hK hG gl_77 rfl gk_77 (by decide) 5 (by decide) (by rw [gm_77]; decide) gr_77_5 lk33 dX4_await_31 ?_
        refine lv_iconst (v := 1) hx hb dX4_await_34 (by decide) ?_
        refine lv_iadd hx hb dX4_await_35 ?_
        refine g_put hx hb hw inG4 tyX4 tyX4_ok nmX4 hown hK hG gl_77 rfl gk_77 (by decide) 5 (by decide) (by rw [gm_77]; decide) gr_77_5 rfl (ty := .int) (by decide +kernel) rfl rfl lk33 dX4_await_36 (fun H locs hG => ?_)
        obtain ⟨h_36, eh_36⟩ : ∃ y : HI, y = hu h_28 77 5 ((h_28 77 5) + (1 : Int32)) := ⟨_, rfl⟩
        rw [← eh_36] at hG
        replace HW := HW h_36 eh_36
        exact W.vret hx hb hr (fun t ht hW => ⟨⟨(h_36, g), rfl, HW, g_B ht hG⟩, hG.2.2.F ht⟩) hG.2.2.2.2 dX4_await_39
  exact E0 _ _ _ hG hl
end
section
-- 03.w05
def j_X4_startsUnit_18 (Q : Int32 → HI → HL → Prop) (x1 : Int32) (h : HI) (g : HL) : Prop :=
  (∃ P_21 : HI → HL → Prop, w_X4_put (-x1) h g P_21 ∧ ∀ (h_21 : HI) (g_21 : HL), P_21 h_21 g_21 → (∀ h_26 : HI, h_26 = hu h_21 77 8 (0 : Int32) → Q (1 : Int32) h_26 g_21))
def j_X4_startsUnit_77 (Q : Int32 → HI → HL → Prop) (s1 : Int32) (h : HI) (g : HL) : Prop :=
  (∃ P_77 : HI → HL → Prop, w_X4_await s1 h g P_77 ∧ ∀ (h_77 : HI) (g_77 : HL), P_77 h_77 g_77 → Q (1 : Int32) h_77 g_77)
def j_X4_startsUnit_64 (Q : Int32 → HI → HL → Prop) (x1 : Int32) (h : HI) (g : HL) : Prop :=
  ((¬ x1 = (45 : Int32) → j_X4_startsUnit_77 Q x1 h g) ∧ (x1 = (45 : Int32) → j_X4_startsUnit_77 Q (126 : Int32) h g))
def w_X4_startsUnit (x1 : Int32) (h : HI) (g : HL) (Q : Int32 → HI → HL → Prop) : Prop :=
  ((x1 = (121 : Int32) → j_X4_startsUnit_18 Q x1 h g) ∧ (¬ x1 = (121 : Int32) → ((x1 = (108 : Int32) → j_X4_startsUnit_18 Q x1 h g) ∧ (¬ x1 = (108 : Int32) → ((¬ x1 = (104 : Int32) → ((¬ x1 = (40 : Int32) → ((x1 = (33 : Int32) → j_X4_startsUnit_64 Q x1 h g) ∧ (¬ x1 = (33 : Int32) → ((x1 = (45 : Int32) → j_X4_startsUnit_64 Q x1 h g) ∧ (¬ x1 = (45 : Int32) → Q (0 : Int32) h g))))) ∧ (x1 = (40 : Int32) → (∀ h_44 : HI, h_44 = hu h 77 6 ((h 77 6) + (1 : Int32)) → j_X4_startsUnit_64 Q x1 h_44 g)))) ∧ (x1 = (104 : Int32) → j_X4_startsUnit_18 Q x1 h g))))))
set_option maxHeartbeats 8000000 in
set_option maxRecDepth 100000 in
theorem m_X4_startsUnit (l : Launch) (D : va_G) (cy : Nat → ClassId) (ad : Nat → Nat) (h : HI) (g : HL) (sz : Nat) (x1 : Int32) (Q : Int32 → HI → HL → Prop) (HW : w_X4_startsUnit x1 h g Q) : Met l yX4_startsUnit (wa yX4_startsUnit cX4_startsUnit 2 (some .boolean)) ({ frames := 1, cells := 0, slots := 0, locals := 21 }) (va_Pc [.ref (ad 77), .int x1] (gI D cy ad h g sz)) (va_Qi (fun (r : Int32) (u : HI × HL) => zb r ∧ Q r u.1 u.2) (gB D cy ad sz) (gA ad sz)) 0 0 (gA ad sz) := by
  refine Met.ofW (cc := cX4_startsUnit) (maxL := 2) (ret := (some .boolean)) (by decide) rfl ?_
  intro p e s m args below meth c s₁ B hml hv
  obtain ⟨hav, hsz, hP, hK, hD0, hNw⟩ := hv
  have hx := B.exec
  have hb := B.bytes
  have hr := B.returns
  have hts := atoms_spec (ws := (wa yX4_startsUnit cX4_startsUnit 2 (some .boolean))) B.pre
  have hw := wa_hw hts
  have hown : s.vm.findClass RX4 = some m.cls := findClass_of_methodNamed B.named
  have hlocks := B.notSynchronized
  subst hsz
  have hG : gG D cy ad (gA ad s.heap.size) s.heap h g s.heap [] := ⟨hP, gA_self hD0, va_S.rf⟩
  clear hP hD0
  have lk36 := hw (.fieldLink RX4 36 "OldWorks$Law" "open" "I") (wm1 135 rfl rfl)
  have lk42 := hw (.fieldLink RX4 42 "OldWorks$Law" "unitDue" "Z") (wm1 137 rfl rfl)
  rw [show (headSpec (wa yX4_startsUnit cX4_startsUnit 2 (some .boolean)) ({ frames := 1, cells := 0, slots := 0, locals := 21 } : Room)).room = ({ frames := 1, cells := 0, slots := 0, locals := 21 } : Room) from rfl]
  have hl := lv_entry ([.ref (ad 77), .int x1]) (n := 2) (Nat.le_of_ble_eq_true rfl)
  rw [show entryFrame m args 2 = entryFrame m ([.ref (ad 77), .int x1] : List Value).toArray 2 from by rw [hav], lg_entry_eq]
  generalize (lg_sl ([.ref (ad 77), .int x1]) ++ List.replicate (2 - (lg_sl ([.ref (ad 77), .int x1])).length) Slot.unset).toArray = ls at hl ⊢
  have hl : lv_has ls 2 [(0, .ref (ad 77)), (1, .int x1)] := hl
  have B18 : ∀ (x1 : Int32) (h : HI) (g : HL) (H : Heap) (locs : List Loc) (ls : Array Slot), j_X4_startsUnit_18 Q x1 h g → gG D cy ad (gA ad s.heap.size) s.heap h g H locs → lv_has ls 2 [(0, .ref (ad 77)), (1, .int x1)] → W p l e ({ frames := 1, cells := 0, slots := 0, locals := 21 } : Room) s m args below meth c H locs 0 0 (MQ below (va_Qi (fun (r : Int32) (u : HI × HL) => zb r ∧ Q r u.1 u.2) (gB D cy ad s.heap.size) (gA ad s.heap.size)) args s 0 0 (gA ad s.heap.size)) (F0 m 18 ls []) := by
    intro x1 h g H locs ls HW hG hl
    unfold j_X4_startsUnit_18 at HW
    refine lv_aload_n hx hb dX4_startsUnit_18 rfl (lv_at hl 0 rfl) ?_
    refine lv_iload_n hx hb dX4_startsUnit_19 rfl (lv_at hl 1 rfl) ?_
    refine lv_ineg hx hb dX4_startsUnit_20 ?_
    obtain ⟨P_21, HC_21, HW⟩ := HW
    refine g_callv (g_runV (As := [.int (-x1)]) (rest := []) ⟨hx, hb, hml, hown, hts⟩ (m_X4_put l D cy ad h g H.size (-x1) P_21 HC_21) (cwV 1 hts (gd_V (wm2 228 rfl rfl) (wm2 230 rfl rfl) (wmp1 (q := (yX4_put, 10)) 1 rfl) (wm1 4 rfl rfl) (wm2 231 rfl rfl)) rfl rfl rfl (by decide +kernel) ⟨Nat.le_of_ble_eq_true rfl, Nat.le_of_ble_eq_true rfl⟩) hK hNw hG gl_77 rfl gk_77 (by decide) rfl rfl hl.1 rfl (lv_room (Nat.le_of_ble_eq_true rfl)) dX4_startsUnit_21 ⟨Nat.zero_le _, Nat.zero_le _⟩) hG (fun h_21 g_21 H locs hq hG => ?_)
    replace HW := HW h_21 g_21 hq
    refine lv_aload_n hx hb dX4_startsUnit_24 rfl (lv_at hl 0 rfl) ?_
    refine lv_iconst (v := 0) hx hb dX4_startsUnit_25 (by decide) ?_
    refine g_put hx hb hw inG4 tyX4 tyX4_ok nmX4 hown hK hG gl_77 rfl gk_77 (by decide) 8 (by decide) (by rw [gm_77]; decide) gr_77_8 rfl (ty := .boolean) (by decide +kernel) rfl rfl lk42 dX4_startsUnit_26 (fun H locs hG => ?_)
    obtain ⟨h_26, eh_26⟩ : ∃ y : HI, y = hu h_21 77 8 (0 : Int32) := ⟨_, rfl⟩
    rw [← eh_26] at hG
    replace HW := HW h_26 eh_26
    refine lv_iconst (v := 1) hx hb dX4_startsUnit_29 (by decide) ?_
    exact W.zret (v := (1 : Int32)) hx hb hr rfl (fun t ht hW => ⟨⟨(1 : Int32), (h_26, g_21), rfl, ⟨Or.inr rfl, HW⟩, g_B ht hG⟩, hG.2.2.F ht⟩) hG.2.2.2.2 dX4_startsUnit_30
  have B77 : ∀ (s1 : Int32) (h : HI) (g : HL) (H : Heap) (locs : List Loc) (ls : Array Slot), j_X4_startsUnit_77 Q s1 h g → gG D cy ad (gA ad s.heap.size) s.heap h g H locs → lv_has ls 2 [] → W p l e ({ frames := 1, cells := 0, slots := 0, locals := 21 } : Room) s m args below meth c H locs 0 0 (MQ below (va_Qi (fun (r : Int32) (u : HI × HL) => zb r ∧ Q r u.1 u.2) (gB D cy ad s.heap.size) (gA ad s.heap.size)) args s 0 0 (gA ad s.heap.size)) (F0 m 77 ls [.int s1, .ref (ad 77)]) := by
    intro s1 h g H locs ls HW hG hl
    unfold j_X4_startsUnit_77 at HW
    obtain ⟨P_77, HC_77, HW⟩ := HW
    refine g_callv (g_runV (As := [.int s1]) (rest := []) ⟨hx, hb, hml, hown, hts⟩ (m_X4_await l D cy ad h g H.size s1 P_77 HC_77) (cwV 1 hts (gd_V (wm3 0 rfl rfl) (wm3 2 rfl rfl) (wmp1 (q := (yX4_await, 10)) 4 rfl) (wm1 4 rfl rfl) (wm3 3 rfl rfl)) rfl rfl rfl (by decide +kernel) ⟨Nat.le_of_ble_eq_true rfl, Nat.le_of_ble_eq_true rfl⟩) hK hNw hG gl_77 rfl gk_77 (by decide) rfl rfl hl.1 rfl (lv_room (Nat.le_of_ble_eq_true rfl)) dX4_startsUnit_77 ⟨Nat.zero_le _, Nat.zero_le _⟩) hG (fun h_77 g_77 H locs hq hG => ?_)
    replace HW := HW h_77 g_77 hq
    refine lv_iconst (v := 1) hx hb dX4_startsUnit_80 (by decide) ?_
    exact W.zret (v := (1 : Int32)) hx hb hr rfl (fun t ht hW => ⟨⟨(1 : Int32), (h_77, g_77), rfl, ⟨Or.inr rfl, HW⟩, g_B ht hG⟩, hG.2.2.F ht⟩) hG.2.2.2.2 dX4_startsUnit_81
  have B64 : ∀ (x1 : Int32) (h : HI) (g : HL) (H : Heap) (locs : List Loc) (ls : Array Slot), j_X4_startsUnit_64 Q x1 h g → gG D cy ad (gA ad s.heap.size) s.heap h g H locs → lv_has ls 2 [(0, .ref (ad 77)), (1, .int x1)] → W p l e ({ frames := 1, cells := 0, slots := 0, locals := 21 } : Room) s m args below meth c H locs 0 0 (MQ below (va_Qi (fun (r : Int32) (u : HI × HL) => zb r ∧ Q r u.1 u.2) (gB D cy ad s.heap.size) (gA ad s.heap.size)) args s 0 0 (gA ad s.heap.size)) (F0 m 64 ls []) := by
    intro x1 h g H locs ls HW hG hl
    unfold j_X4_startsUnit_64 at HW
    refine lv_aload_n hx hb dX4_startsUnit_64 rfl (lv_at hl 0 rfl) ?_
    refine lv_iload_n hx hb dX4_startsUnit_65 rfl (lv_at hl 1 rfl) ?_
    refine lv_bipush (v := 45) hx hb dX4_startsUnit_66 (by decide) ?_
    refine lv_icmp_ne (tgt := 76) hx hb dX4_startsUnit_68 (by decide) (fun c_68 => ?_) (fun c_68 => ?_)
    · replace HW := HW.1 c_68
      refine lv_iload_n hx hb dX4_startsUnit_76 rfl (lv_at hl 1 rfl) ?_
      exact B77 x1 h g _ _ _ HW hG (lv_sub hl [] rfl)
    · replace HW := HW.2 c_68
      refine lv_bipush (v := 126) hx hb dX4_startsUnit_71 (by decide) ?_
      refine lv_goto (tgt := 77) hx hb dX4_startsUnit_73 (by decide) ?_
      exact B77 (126 : Int32) h g _ _ _ HW hG (lv_sub hl [] rfl)
  have E0 : ∀ (H : Heap) (locs : List Loc) (ls : Array Slot), gG D cy ad (gA ad s.heap.size) s.heap h g H locs → lv_has ls 2 [(0, .ref (ad 77)), (1, .int x1)] → W p l e ({ frames := 1, cells := 0, slots := 0, locals := 21 } : Room) s m args below meth c H locs 0 0 (MQ below (va_Qi (fun (r : Int32) (u : HI × HL) => zb r ∧ Q r u.1 u.2) (gB D cy ad s.heap.size) (gA ad s.heap.size)) args s 0 0 (gA ad s.heap.size)) (F0 m 0 ls []) := by
    intro H locs ls hG hl
    unfold w_X4_startsUnit at HW
    refine lv_iload_n hx hb dX4_startsUnit_0 rfl (lv_at hl 1 rfl) ?_
    refine lv_bipush (v := 121) hx hb dX4_startsUnit_1 (by decide) ?_
    refine lv_icmp_eq (tgt := 18) hx hb dX4_startsUnit_3 (by decide) (fun c_3 => ?_) (fun c_3 => ?_)
    · replace HW := HW.1 c_3
      exact B18 x1 h g _ _ _ HW hG (lv_sub hl [0, 1] rfl)
    · replace HW := HW.2 c_3
      refine lv_iload_n hx hb dX4_startsUnit_6 rfl (lv_at hl 1 rfl) ?_
      refine lv_bipush (v := 108) hx hb dX4_startsUnit_7 (by decide) ?_
      refine lv_icmp_eq (tgt := 18) hx hb dX4_startsUnit_9 (by decide) (fun c_9 => ?_) (fun c_9 => ?_)
      · replace HW := HW.1 c_9
        exact B18 x1 h g _ _ _ HW hG (lv_sub hl [0, 1] rfl)
      · replace HW := HW.2 c_9
        refine lv_iload_n hx hb dX4_startsUnit_12 rfl (lv_at hl 1 rfl) ?_
        refine lv_bipush (v := 104) hx hb dX4_startsUnit_13 (by decide) ?_
        refine lv_icmp_ne (tgt := 31) hx hb dX4_startsUnit_15 (by decide) (fun c_15 => ?_) (fun c_15 => ?_)
        · replace HW := HW.1 c_15
          refine lv_iload_n hx hb dX4_startsUnit_31 rfl (lv_at hl 1 rfl) ?_
          refine lv_bipush (v := 40) hx hb dX4_startsUnit_32 (by decide) ?_
          refine lv_icmp_ne (tgt := 50) hx hb dX4_startsUnit_34 (by decide) (fun c_34 => ?_) (fun c_34 => ?_)
          · replace HW := HW.1 c_34
            refine lv_iload_n hx hb dX4_startsUnit_50 rfl (lv_at hl 1 rfl) ?_
            refine lv_bipush (v := 33) hx hb dX4_startsUnit_51 (by decide) ?_
            refine lv_icmp_eq (tgt := 64) hx hb dX4_startsUnit_53 (by decide) (fun c_53 => ?_) (fun c_53 => ?_)
            · replace HW := HW.1 c_53
              exact B64 x1 h g _ _ _ HW hG (lv_sub hl [0, 1] rfl)
            · replace HW := HW.2 c_53
              refine lv_iload_n hx hb dX4_startsUnit_56 rfl (lv_at hl 1 rfl) ?_
              refine lv_bipush (v := 45) hx hb dX4_startsUnit_57 (by decide) ?_
              refine lv_icmp_eq (tgt := 64) hx hb dX4_startsUnit_59 (by decide) (fun c_59 => ?_) (fun c_59 => ?_)
              · replace HW := HW.1 c_59
                exact B64 x1 h g _ _ _ HW hG (lv_sub hl [0, 1] rfl)
              · replace HW := HW.2 c_59
                refine lv_iconst (v := 0) hx hb dX4_startsUnit_62 (by decide) ?_
                exact W.zret (v := (0 : Int32)) hx hb hr rfl (fun t ht hW => ⟨⟨(0 : Int32), (h, g), rfl, ⟨Or.inl rfl, HW⟩, g_B ht hG⟩, hG.2.2.F ht⟩) hG.2.2.2.2 dX4_startsUnit_63
          · replace HW := HW.2 c_34
            refine lv_aload_n hx hb dX4_startsUnit_37 rfl (lv_at hl 0 rfl) ?_
            refine lv_dup hx hb dX4_startsUnit_38 rfl ?_
            refine g_geti hx hb hw inG4 hown hK hG gl_77 rfl gk_77 (by decide) 6 (by decide) (by rw [gm_77]; decide) gr_77_6 lk36 dX4_startsUnit_39 ?_
            refine lv_iconst (v := 1) hx hb dX4_startsUnit_42 (by decide) ?_
            refine lv_iadd hx hb dX4_startsUnit_43 ?_
            refine g_put hx hb hw inG4 tyX4 tyX4_ok nmX4 hown hK hG gl_77 rfl gk_77 (by decide) 6 (by decide) (by rw [gm_77]; decide) gr_77_6 rfl (ty := .int) (by decide +kernel) rfl rfl lk36 dX4_startsUnit_44 (fun H locs hG => ?_)
            obtain ⟨h_44, eh_44⟩ : ∃ y : HI, y = hu h 77 6 ((h 77 6) + (1 : Int32)) := ⟨_, rfl⟩
            rw [← eh_44] at hG
            replace HW := HW h_44 eh_44
            refine lv_goto (tgt := 64) hx hb dX4_startsUnit_47 (by decide) ?_
            exact B64 x1 h_44 g _ _ _ HW hG (lv_sub hl [0, 1] rfl)
        · replace HW := HW.2 c_15
          exact B18 x1 h g _ _ _ HW hG (lv_sub hl [0, 1] rfl)
  exact E0 _ _ _ hG hl

def w_X4_rank (x0 : Int32) (h : HI) (g : HL) (Q : Int32 → HI → HL → Prop) : Prop :=
  ((x0 = 33 → Q (6 : Int32) h g) ∧ (x0 = 38 → Q (2 : Int32) h g) ∧ (x0 = 42 → Q (5 : Int32) h g) ∧ (x0 = 43 → Q (4 : Int32) h g) ∧ (x0 = 45 → Q (4 : Int32) h g) ∧ (x0 = 47 → Q (5 : Int32) h g) ∧ (x0 = 60 → Q (3 : Int32) h g) ∧ (x0 = 61 → Q (3 : Int32) h g) ∧ (x0 = 62 → Q (3 : Int32) h g) ∧ (x0 = 124 → Q (1 : Int32) h g) ∧ (x0 = 126 → Q (6 : Int32) h g) ∧ (¬ x0 = 33 → ¬ x0 = 38 → ¬ x0 = 42 → ¬ x0 = 43 → ¬ x0 = 45 → ¬ x0 = 47 → ¬ x0 = 60 → ¬ x0 = 61 → ¬ x0 = 62 → ¬ x0 = 124 → ¬ x0 = 126 → Q (0 : Int32) h g))
set_option maxHeartbeats 8000000 in
set_option maxRecDepth 100000 in
theorem m_X4_rank (l : Launch) (D : va_G) (cy : Nat → ClassId) (ad : Nat → Nat) (h : HI) (g : HL) (sz : Nat) (x0 : Int32) (Q : Int32 → HI → HL → Prop) (HW : w_X4_rank x0 h g Q) : Met l yX4_rank (wa yX4_rank cX4_rank 1 (some .int)) ({ frames := 0, cells := 0, slots := 0, locals := 0 }) (va_Pc [.int x0] (gI D cy ad h g sz)) (va_Qi (fun (r : Int32) (u : HI × HL) => Q r u.1 u.2) (gB D cy ad sz) (gA ad sz)) 0 0 (gA ad sz) := by
  refine Met.ofW (cc := cX4_rank) (maxL := 1) (ret := (some .int)) (by decide) rfl ?_
  intro p e s m args below meth c s₁ B hml hv
  obtain ⟨hav, hsz, hP, hK, hD0, hNw⟩ := hv
  have hx := B.exec
  have hb := B.bytes
  have hr := B.returns
  have hts := atoms_spec (ws := (wa yX4_rank cX4_rank 1 (some .int))) B.pre
  have hw := wa_hw hts
  have hown : s.vm.findClass RX4 = some m.cls := findClass_of_methodNamed B.named
  have hlocks := B.notSynchronized
  subst hsz
  have hG : gG D cy ad (gA ad s.heap.size) s.heap h g s.heap [] := ⟨hP, gA_self hD0, va_S.rf⟩
  clear hP hD0
  rw [show (headSpec (wa yX4_rank cX4_rank 1 (some .int)) ({ frames := 0, cells := 0, slots := 0, locals := 0 } : Room)).room = ({ frames := 0, cells := 0, slots := 0, locals := 0 } : Room) from rfl]
  have hl := lv_entry ([.int x0]) (n := 1) (Nat.le_of_ble_eq_true rfl)
  rw [show entryFrame m args 1 = entryFrame m ([.int x0] : List Value).toArray 1 from by rw [hav], lg_entry_eq]
  generalize (lg_sl ([.int x0]) ++ List.replicate (1 - (lg_sl ([.int x0])).length) Slot.unset).toArray = ls at hl ⊢
  have hl : lv_has ls 1 [(0, .int x0)] := hl
  have E0 : ∀ (H : Heap) (locs : List Loc) (ls : Array Slot), gG D cy ad (gA ad s.heap.size) s.heap h g H locs → lv_has ls 1 [(0, .int x0)] → W p l e ({ frames := 0, cells := 0, slots := 0, locals := 0 } : Room) s m args below meth c H locs 0 0 (MQ below (va_Qi (fun (r : Int32) (u : HI × HL) => Q r u.1 u.2) (gB D cy ad s.heap.size) (gA ad s.heap.size)) args s 0 0 (gA ad s.heap.size)) (F0 m 0 ls []) := by
    intro H locs ls hG hl
    unfold w_X4_rank at HW
    refine lv_iload_n hx hb dX4_rank_0 rfl (lv_at hl 0 rfl) ?_
    by_cases c_1_0 : x0 = 33
    · replace HW := HW.1 c_1_0
      refine lv_lookup (tgt := 110) hx hb dX4_rank_1 (by decide) (by rw [c_1_0]; first | done | decide) (by decide) ?_
      refine lv_bipush (v := 6) hx hb dX4_rank_110 (by decide) ?_
      exact W.iret (v := (6 : Int32)) hx hb hr (fun t ht hW => ⟨⟨(6 : Int32), (h, g), rfl, HW, g_B ht hG⟩, hG.2.2.F ht⟩) hG.2.2.2.2 dX4_rank_112
    · by_cases c_1_1 : x0 = 38
      · replace HW := HW.2.1 c_1_1
        refine lv_lookup (tgt := 102) hx hb dX4_rank_1 (by decide) (by rw [c_1_1]; first | done | decide) (by decide) ?_
        refine lv_iconst (v := 2) hx hb dX4_rank_102 (by decide) ?_
        exact W.iret (v := (2 : Int32)) hx hb hr (fun t ht hW => ⟨⟨(2 : Int32), (h, g), rfl, HW, g_B ht hG⟩, hG.2.2.F ht⟩) hG.2.2.2.2 dX4_rank_103
      · by_cases c_1_2 : x0 = 42
        · replace HW := HW.2.2.1 c_1_2
          refine lv_lookup (tgt := 108) hx hb dX4_rank_1 (by decide) (by rw [c_1_2]; first | done | decide) (by decide) ?_
          refine lv_iconst (v := 5) hx hb dX4_rank_108 (by decide) ?_
          exact W.iret (v := (5 : Int32)) hx hb hr (fun t ht hW => ⟨⟨(5 : Int32), (h, g), rfl, HW, g_B ht hG⟩, hG.2.2.F ht⟩) hG.2.2.2.2 dX4_rank_109
        · by_cases c_1_3 : x0 = 43
          · replace HW := HW.2.2.2.1 c_1_3
            refine lv_lookup (tgt := 106) hx hb dX4_rank_1 (by decide) (by rw [c_1_3]; first | done | decide) (by decide) ?_
            refine lv_iconst (v := 4) hx hb dX4_rank_106 (by decide) ?_
            exact W.iret (v := (4 : Int32)) hx hb hr (fun t ht hW => ⟨⟨(4 : Int32), (h, g), rfl, HW, g_B ht hG⟩, hG.2.2.F ht⟩) hG.2.2.2.2 dX4_rank_107
          · by_cases c_1_4 : x0 = 45
            · replace HW := HW.2.2.2.2.1 c_1_4
              refine lv_lookup (tgt := 106) hx hb dX4_rank_1 (by decide) (by rw [c_1_4]; first | done | decide) (by decide) ?_
              refine lv_iconst (v := 4) hx hb dX4_rank_106 (by decide) ?_
              exact W.iret (v := (4 : Int32)) hx hb hr (fun t ht hW => ⟨⟨(4 : Int32), (h, g), rfl, HW, g_B ht hG⟩, hG.2.2.F ht⟩) hG.2.2.2.2 dX4_rank_107
            · by_cases c_1_5 : x0 = 47
              · replace HW := HW.2.2.2.2.2.1 c_1_5
                refine lv_lookup (tgt := 108) hx hb dX4_rank_1 (by decide) (by rw [c_1_5]; first | done | decide) (by decide) ?_
                refine lv_iconst (v := 5) hx hb dX4_rank_108 (by decide) ?_
                exact W.iret (v := (5 : Int32)) hx hb hr (fun t ht hW => ⟨⟨(5 : Int32), (h, g), rfl, HW, g_B ht hG⟩, hG.2.2.F ht⟩) hG.2.2.2.2 dX4_rank_109
              · by_cases c_1_6 : x0 = 60
                · replace HW := HW.2.2.2.2.2.2.1 c_1_6
                  refine lv_lookup (tgt := 104) hx hb dX4_rank_1 (by decide) (by rw [c_1_6]; first | done | decide) (by decide) ?_
                  refine lv_iconst (v := 3) hx hb dX4_rank_104 (by decide) ?_
                  exact W.iret (v := (3 : Int32)) hx hb hr (fun t ht hW => ⟨⟨(3 : Int32), (h, g), rfl, HW, g_B ht hG⟩, hG.2.2.F ht⟩) hG.2.2.2.2 dX4_rank_105
                · by_cases c_1_7 : x0 = 61
                  · replace HW := HW.2.2.2.2.2.2.2.1 c_1_7
                    refine lv_lookup (tgt := 104) hx hb dX4_rank_1 (by decide) (by rw [c_1_7]; first | done | decide) (by decide) ?_
                    refine lv_iconst (v := 3) hx hb dX4_rank_104 (by decide) ?_
                    exact W.iret (v := (3 : Int32)) hx hb hr (fun t ht hW => ⟨⟨(3 : Int32), (h, g), rfl, HW, g_B ht hG⟩, hG.2.2.F ht⟩) hG.2.2.2.2 dX4_rank_105
                  · by_cases c_1_8 : x0 = 62
                    · replace HW := HW.2.2.2.2.2.2.2.2.1 c_1_8
                      refine lv_lookup (tgt := 104) hx hb dX4_rank_1 (by decide) (by rw [c_1_8]; first | done | decide) (by decide) ?_
                      refine lv_iconst (v := 3) hx hb dX4_rank_104 (by decide) ?_
                      exact W.iret (v := (3 : Int32)) hx hb hr (fun t ht hW => ⟨⟨(3 : Int32), (h, g), rfl, HW, g_B ht hG⟩, hG.2.2.F ht⟩) hG.2.2.2.2 dX4_rank_105
                    · by_cases c_1_9 : x0 = 124
                      · replace HW := HW.2.2.2.2.2.2.2.2.2.1 c_1_9
                        refine lv_lookup (tgt := 100) hx hb dX4_rank_1 (by decide) (by rw [c_1_9]; first | done | decide) (by decide) ?_
                        refine lv_iconst (v := 1) hx hb dX4_rank_100 (by decide) ?_
                        exact W.iret (v := (1 : Int32)) hx hb hr (fun t ht hW => ⟨⟨(1 : Int32), (h, g), rfl, HW, g_B ht hG⟩, hG.2.2.F ht⟩) hG.2.2.2.2 dX4_rank_101
                      · by_cases c_1_10 : x0 = 126
                        · replace HW := HW.2.2.2.2.2.2.2.2.2.2.1 c_1_10
                          refine lv_lookup (tgt := 110) hx hb dX4_rank_1 (by decide) (by rw [c_1_10]; first | done | decide) (by decide) ?_
                          refine lv_bipush (v := 6) hx hb dX4_rank_110 (by decide) ?_
                          exact W.iret (v := (6 : Int32)) hx hb hr (fun t ht hW => ⟨⟨(6 : Int32), (h, g), rfl, HW, g_B ht hG⟩, hG.2.2.F ht⟩) hG.2.2.2.2 dX4_rank_112
                        · replace HW := HW.2.2.2.2.2.2.2.2.2.2.2 c_1_0 c_1_1 c_1_2 c_1_3 c_1_4 c_1_5 c_1_6 c_1_7 c_1_8 c_1_9 c_1_10
                          have z_1_0 : ¬ ((33 : Int) = (x0).toInt) := fun q => g_ne c_1_0 (n := 33) (by decide) q.symm
                          have z_1_1 : ¬ ((38 : Int) = (x0).toInt) := fun q => g_ne c_1_1 (n := 38) (by decide) q.symm
                          have z_1_2 : ¬ ((42 : Int) = (x0).toInt) := fun q => g_ne c_1_2 (n := 42) (by decide) q.symm
                          have z_1_3 : ¬ ((43 : Int) = (x0).toInt) := fun q => g_ne c_1_3 (n := 43) (by decide) q.symm
                          have z_1_4 : ¬ ((45 : Int) = (x0).toInt) := fun q => g_ne c_1_4 (n := 45) (by decide) q.symm
                          have z_1_5 : ¬ ((47 : Int) = (x0).toInt) := fun q => g_ne c_1_5 (n := 47) (by decide) q.symm
                          have z_1_6 : ¬ ((60 : Int) = (x0).toInt) := fun q => g_ne c_1_6 (n := 60) (by decide) q.symm
                          have z_1_7 : ¬ ((61 : Int) = (x0).toInt) := fun q => g_ne c_1_7 (n := 61) (by decide) q.symm
                          have z_1_8 : ¬ ((62 : Int) = (x0).toInt) := fun q => g_ne c_1_8 (n := 62) (by decide) q.symm
                          have z_1_9 : ¬ ((124 : Int) = (x0).toInt) := fun q => g_ne c_1_9 (n := 124) (by decide) q.symm
                          have z_1_10 : ¬ ((126 : Int) = (x0).toInt) := fun q => g_ne c_1_10 (n := 126) (by decide) q.symm
                          refine lv_lookup (tgt := 113) (off := 112) hx hb dX4_rank_1 (by decide) (by show Op.lookupswitch.offset [(33, 109), (38, 101), (42, 107), (43, 105), (45, 105), (47, 107), (60, 103), (61, 103), (62, 103), (124, 99), (126, 109)] (112) (x0).toInt = 112; rw [Op.lookupswitch.offset_cons, if_neg z_1_0, Op.lookupswitch.offset_cons, if_neg z_1_1, Op.lookupswitch.offset_cons, if_neg z_1_2, Op.lookupswitch.offset_cons, if_neg z_1_3, Op.lookupswitch.offset_cons, if_neg z_1_4, Op.lookupswitch.offset_cons, if_neg z_1_5, Op.lookupswitch.offset_cons, if_neg z_1_6, Op.lookupswitch.offset_cons, if_neg z_1_7, Op.lookupswitch.offset_cons, if_neg z_1_8, Op.lookupswitch.offset_cons, if_neg z_1_9, Op.lookupswitch.offset_cons, if_neg z_1_10, Op.lookupswitch.offset_nil]) (by decide) ?_
                          refine lv_iconst (v := 0) hx hb dX4_rank_113 (by decide) ?_
                          exact W.iret (v := (0 : Int32)) hx hb hr (fun t ht hW => ⟨⟨(0 : Int32), (h, g), rfl, HW, g_B ht hG⟩, hG.2.2.F ht⟩) hG.2.2.2.2 dX4_rank_114
  exact E0 _ _ _ hG hl

def b_X4_settle_7 (Q : HI → HL → Prop) (K7 : Int32 → Int32 → HI → HL → Prop) (x1 : Int32) (x2 : Int32) (h : HI) (g : HL) : Prop :=
  ((x2 < 0 → Q h g) ∧ (¬ x2 < 0 → (((60 : Int32) ≤ x2 → Q h g) ∧ (¬ (60 : Int32) ≤ x2 → (vp_in x2 60 ∧ (∃ P_26 : Int32 → HI → HL → Prop, w_X4_rank (h 79 x2.toNatClampNeg) h g P_26 ∧ ∀ (r_26 : Int32) (h_26 : HI) (g_26 : HL), P_26 r_26 h_26 g_26 → ((r_26 < x1 → Q h_26 g_26) ∧ (¬ r_26 < x1 → (vp_in x2 60 ∧ (∃ P_41 : HI → HL → Prop, w_X4_put (-(h_26 79 x2.toNatClampNeg)) h_26 g_26 P_41 ∧ ∀ (h_41 : HI) (g_41 : HL), P_41 h_41 g_41 → (∀ h_46 : HI, h_46 = hu h_41 77 5 x2 → (∀ x2_49 : Int32, x2_49 = (x2 + (-1)) → K7 x1 x2_49 h_46 g_41))))))))))))
def F_X4_settle_7 (Q : HI → HL → Prop) (K : Int32 × Int32 × HI × HL → Prop) (q : Int32 × Int32 × HI × HL) : Prop := b_X4_settle_7 Q (fun x1 x2 h g => K (x1, x2, h, g)) q.1 q.2.1 q.2.2.1 q.2.2.2
def w_X4_settle (x1 : Int32) (h : HI) (g : HL) (Q : HI → HL → Prop) : Prop :=
  (∀ x2_6 : Int32, x2_6 = ((h 77 5) - (1 : Int32)) → lpE (F_X4_settle_7 Q) (x1, x2_6, h, g))
set_option maxHeartbeats 8000000 in
set_option maxRecDepth 100000 in
theorem m_X4_settle (l : Launch) (D : va_G) (cy : Nat → ClassId) (ad : Nat → Nat) (h : HI) (g : HL) (sz : Nat) (x1 : Int32) (Q : HI → HL → Prop) (HW : w_X4_settle x1 h g Q) : Met l yX4_settle (wa yX4_settle cX4_settle 3 none) ({ frames := 1, cells := 0, slots := 0, locals := 21 }) (va_Pc [.ref (ad 77), .int x1] (gI D cy ad h g sz)) (va_Qv (fun (u : HI × HL) => Q u.1 u.2) (gB D cy ad sz) (gA ad sz)) 0 0 (gA ad sz) := by
  refine Met.ofW (cc := cX4_settle) (maxL := 3) (ret := none) (by decide) rfl ?_
  intro p e s m args below meth c s₁ B hml hv
  obtain ⟨hav, hsz, hP, hK, hD0, hNw⟩ := hv
  have hx := B.exec
  have hb := B.bytes
  have hr := B.returns
  have hts := atoms_spec (ws := (wa yX4_settle cX4_settle 3 none)) B.pre
  have hw := wa_hw hts
  have hown : s.vm.findClass RX4 = some m.cls := findClass_of_methodNamed B.named
  have hlocks := B.notSynchronized
  subst hsz
  have hG : gG D cy ad (gA ad s.heap.size) s.heap h g s.heap [] := ⟨hP, gA_self hD0, va_S.rf⟩
  clear hP hD0
  have lk33 := hw (.fieldLink RX4 33 "OldWorks$Law" "waits" "I") (wm1 134 rfl rfl)
  have lk15 := hw (.fieldLink RX4 15 "OldWorks$Law" "waiting" "[I") (wm1 131 rfl rfl)
  rw [show (headSpec (wa yX4_settle cX4_settle 3 none) ({ frames := 1, cells := 0, slots := 0, locals := 21 } : Room)).room = ({ frames := 1, cells := 0, slots := 0, locals := 21 } : Room) from rfl]
  have hl := lv_entry ([.ref (ad 77), .int x1]) (n := 3) (Nat.le_of_ble_eq_true rfl)
  rw [show entryFrame m args 3 = entryFrame m ([.ref (ad 77), .int x1] : List Value).toArray 3 from by rw [hav], lg_entry_eq]
  generalize (lg_sl ([.ref (ad 77), .int x1]) ++ List.replicate (3 - (lg_sl ([.ref (ad 77), .int x1])).length) Slot.unset).toArray = ls at hl ⊢
  have hl : lv_has ls 3 [(0, .ref (ad 77)), (1, .int x1)] := hl
  have L7 : ∀ (n : Nat) (x1 : Int32) (x2 : Int32) (h : HI) (g : HL) (H : Heap) (locs : List Loc) (ls : Array Slot), lpN (F_X4_settle_7 Q) n (x1, x2, h, g) → gG D cy ad (gA ad s.heap.size) s.heap h g H locs → lv_has ls 3 [(0, .ref (ad 77)), (1, .int x1), (2, .int x2)] → W p l e ({ frames := 1, cells := 0, slots := 0, locals := 21 } : Room) s m args below meth c H locs 0 0 (MQ below (va_Qv (fun (u : HI × HL) => Q u.1 u.2) (gB D cy ad s.heap.size) (gA ad s.heap.size)) args s 0 0 (gA ad s.heap.size)) (F0 m 7 ls []) := by
    intro n
    induction n with
    | zero => intro x1 x2 h g H locs ls HW; exact HW.elim
    | succ n ih =>
      intro x1 x2 h g H locs ls HW hG hl
      have HW : b_X4_settle_7 Q (fun x1 x2 h g => lpN (F_X4_settle_7 Q) n (x1, x2, h, g)) x1 x2 h g := HW
      generalize hKe : (fun (x1 : Int32) (x2 : Int32) (h : HI) (g : HL) => lpN (F_X4_settle_7 Q) n (x1, x2, h, g)) = K7 at HW
      have hK7 : ∀ (x1 : Int32) (x2 : Int32) (h : HI) (g : HL) (H : Heap) (locs : List Loc) (ls : Array Slot), K7 x1 x2 h g → gG D cy ad (gA ad s.heap.size) s.heap h g H locs → lv_has ls 3 [(0, .ref (ad 77)), (1, .int x1), (2, .int x2)] → W p l e ({ frames := 1, cells := 0, slots := 0, locals := 21 } : Room) s m args below meth c H locs 0 0 (MQ below (va_Qv (fun (u : HI × HL) => Q u.1 u.2) (gB D cy ad s.heap.size) (gA ad s.heap.size)) args s 0 0 (gA ad s.heap.size)) (F0 m 7 ls []) := by subst hKe; exact ih
      clear ih
      clear hKe
      unfold b_X4_settle_7 at HW
      refine lv_iload_n hx hb dX4_settle_7 rfl (lv_at hl 2 rfl) ?_
      refine lv_if_lt (tgt := 55) hx hb dX4_settle_8 (by decide) (fun c_8 => ?_) (fun c_8 => ?_)
      · replace HW := HW.1 c_8
        exact W.vret hx hb hr (fun t ht hW => ⟨⟨(h, g), rfl, HW, g_B ht hG⟩, hG.2.2.F ht⟩) hG.2.2.2.2 dX4_settle_55
      · replace HW := HW.2 c_8
        refine lv_iload_n hx hb dX4_settle_11 rfl (lv_at hl 2 rfl) ?_
        refine lv_aload_n hx hb dX4_settle_12 rfl (lv_at hl 0 rfl) ?_
        refine g_getr hx hb hw inG4 hown hK hG gl_77 rfl gk_77 (by decide) 2 (by decide) (by rw [gm_77]; decide) (r := 79) gr_77_2 lk15 dX4_settle_13 ?_
        refine g_alen hx hb hK hG gl_79 gk_79 (v := (60 : Int32)) (by rw [gn_79]; decide) dX4_settle_16 ?_
        refine lv_icmp_ge (tgt := 55) hx hb dX4_settle_17 (by decide) (fun c_17 => ?_) (fun c_17 => ?_)
        · replace HW := HW.1 c_17
          exact W.vret hx hb hr (fun t ht hW => ⟨⟨(h, g), rfl, HW, g_B ht hG⟩, hG.2.2.F ht⟩) hG.2.2.2.2 dX4_settle_55
        · replace HW := HW.2 c_17
          refine lv_aload_n hx hb dX4_settle_20 rfl (lv_at hl 0 rfl) ?_
          refine g_getr hx hb hw inG4 hown hK hG gl_77 rfl gk_77 (by decide) 2 (by decide) (by rw [gm_77]; decide) (r := 79) gr_77_2 lk15 dX4_settle_21 ?_
          refine lv_iload_n hx hb dX4_settle_24 rfl (lv_at hl 2 rfl) ?_
          refine g_iald hx hb hK hG gl_79 gk_79 gn_79 HW.1 dX4_settle_25 ?_
          replace HW := HW.2
          obtain ⟨P_26, HC_26, HW⟩ := HW
          refine g_calli (g_runS (As := [.int (h 79 x2.toNatClampNeg)]) (rest := []) ⟨hx, hb, hml, hown, hts⟩ (m_X4_rank l D cy ad h g H.size (h 79 x2.toNatClampNeg) P_26 HC_26) (va_cwS 1 hts (gd_S (wm3 12 rfl rfl) (wm3 13 rfl rfl) (wm1 4 rfl rfl) (wm3 14 rfl rfl)) rfl rfl rfl (by decide +kernel) ⟨Nat.le_of_ble_eq_true rfl, Nat.le_of_ble_eq_true rfl⟩) hK hNw hG rfl rfl hl.1 rfl (lv_room (Nat.le_of_ble_eq_true rfl)) dX4_settle_26 ⟨Nat.zero_le _, Nat.zero_le _⟩) hG (fun r_26 h_26 g_26 H locs hq hG => ?_)
          replace HW := HW r_26 h_26 g_26 hq
          refine lv_iload_n hx hb dX4_settle_29 rfl (lv_at hl 1 rfl) ?_
          refine lv_icmp_lt (tgt := 55) hx hb dX4_settle_30 (by decide) (fun c_30 => ?_) (fun c_30 => ?_)
          · replace HW := HW.1 c_30
            exact W.vret hx hb hr (fun t ht hW => ⟨⟨(h_26, g_26), rfl, HW, g_B ht hG⟩, hG.2.2.F ht⟩) hG.2.2.2.2 dX4_settle_55
          · replace HW := HW.2 c_30
            refine lv_aload_n hx hb dX4_settle_33 rfl (lv_at hl 0 rfl) ?_
            refine lv_aload_n hx hb dX4_settle_34 rfl (lv_at hl 0 rfl) ?_
            refine g_getr hx hb hw inG4 hown hK hG gl_77 rfl gk_77 (by decide) 2 (by decide) (by rw [gm_77]; decide) (r := 79) gr_77_2 lk15 dX4_settle_35 ?_
            refine lv_iload_n hx hb dX4_settle_38 rfl (lv_at hl 2 rfl) ?_
            refine g_iald hx hb hK hG gl_79 gk_79 gn_79 HW.1 dX4_settle_39 ?_
            replace HW := HW.2
            refine lv_ineg hx hb dX4_settle_40 ?_
            obtain ⟨P_41, HC_41, HW⟩ := HW
            refine g_callv (g_runV (As := [.int (-(h_26 79 x2.toNatClampNeg))]) (rest := []) ⟨hx, hb, hml, hown, hts⟩ (m_X4_put l D cy ad h_26 g_26 H.size (-(h_26 79 x2.toNatClampNeg)) P_41 HC_41) (cwV 1 hts (gd_V (wm2 228 rfl rfl) (wm2 230 rfl rfl) (wmp1 (q := (yX4_put, 10)) 1 rfl) (wm1 4 rfl rfl) (wm2 231 rfl rfl)) rfl rfl rfl (by decide +kernel) ⟨Nat.le_of_ble_eq_true rfl, Nat.le_of_ble_eq_true rfl⟩) hK hNw hG gl_77 rfl gk_77 (by decide) rfl rfl hl.1 rfl (lv_room (Nat.le_of_ble_eq_true rfl)) dX4_settle_41 ⟨Nat.zero_le _, Nat.zero_le _⟩) hG (fun h_41 g_41 H locs hq hG => ?_)
            replace HW := HW h_41 g_41 hq
            refine lv_aload_n hx hb dX4_settle_44 rfl (lv_at hl 0 rfl) ?_
            refine lv_iload_n hx hb dX4_settle_45 rfl (lv_at hl 2 rfl) ?_
            refine g_put hx hb hw inG4 tyX4 tyX4_ok nmX4 hown hK hG gl_77 rfl gk_77 (by decide) 5 (by decide) (by rw [gm_77]; decide) gr_77_5 rfl (ty := .int) (by decide +kernel) rfl rfl lk33 dX4_settle_46 (fun H locs hG => ?_)
            obtain ⟨h_46, eh_46⟩ : ∃ y : HI, y = hu h_41 77 5 x2 := ⟨_, rfl⟩
            rw [← eh_46] at hG
            replace HW := HW h_46 eh_46
            obtain ⟨x2_49, ex2_49⟩ : ∃ y : Int32, y = (x2 + (-1)) := ⟨_, rfl⟩
            replace HW := HW x2_49 ex2_49
            refine lv_iinc (v := x2_49) (lv' := [(2, .int x2_49), (0, .ref (ad 77)), (1, .int x1)]) hx hb dX4_settle_49 hl (k := 2) rfl (by rw [ex2_49]; rfl) (by decide) rfl (fun ls hl => ?_)
            refine lv_goto (tgt := 7) hx hb dX4_settle_52 (by decide) ?_
            exact hK7 x1 x2_49 h_46 g_41 _ _ _ HW hG (lv_sub hl [1, 2, 0] rfl)
  have E0 : ∀ (H : Heap) (locs : List Loc) (ls : Array Slot), gG D cy ad (gA ad s.heap.size) s.heap h g H locs → lv_has ls 3 [(0, .ref (ad 77)), (1, .int x1)] → W p l e ({ frames := 1, cells := 0, slots := 0, locals := 21 } : Room) s m args below meth c H locs 0 0 (MQ below (va_Qv (fun (u : HI × HL) => Q u.1 u.2) (gB D cy ad s.heap.size) (gA ad s.heap.size)) args s 0 0 (gA ad s.heap.size)) (F0 m 0 ls []) := by
    intro H locs ls hG hl
    unfold w_X4_settle at HW
    refine lv_aload_n hx hb dX4_settle_0 rfl (lv_at hl 0 rfl) ?_
    refine g_geti hx hb hw inG4 hown hK hG gl_77 rfl gk_77 (by decide) 5 (by decide) (by rw [gm_77]; decide) gr_77_5 lk33 dX4_settle_1 ?_
    refine lv_iconst (v := 1) hx hb dX4_settle_4 (by decide) ?_
    refine lv_isub hx hb dX4_settle_5 ?_
    refine lv_topi (fun x2_6 ex2_6 => ?_)
    replace HW := HW x2_6 ex2_6
    refine lv_istore_n (lv' := [(2, .int x2_6), (0, .ref (ad 77)), (1, .int x1)]) hx hb dX4_settle_6 rfl hl (by decide) rfl (fun ls hl => ?_)
    obtain ⟨n_7, HW⟩ := HW
    exact L7 n_7 x1 x2_6 h g _ _ _ HW hG (lv_sub hl [1, 2, 0] rfl)
  exact E0 _ _ _ hG hl

def w_X4_lastRank  (h : HI) (g : HL) (Q : Int32 → HI → HL → Prop) : Prop :=
  (((h 77 5) ≤ 0 → Q (0 : Int32) h g) ∧ (¬ (h 77 5) ≤ 0 → (((60 : Int32) < (h 77 5) → Q (0 : Int32) h g) ∧ (¬ (60 : Int32) < (h 77 5) → (vp_in ((h 77 5) - (1 : Int32)) 60 ∧ (∃ P_30 : Int32 → HI → HL → Prop, w_X4_rank (h 79 ((h 77 5) - (1 : Int32)).toNatClampNeg) h g P_30 ∧ ∀ (r_30 : Int32) (h_30 : HI) (g_30 : HL), P_30 r_30 h_30 g_30 → Q r_30 h_30 g_30))))))
set_option maxHeartbeats 8000000 in
set_option maxRecDepth 100000 in
theorem m_X4_lastRank (l : Launch) (D : va_G) (cy : Nat → ClassId) (ad : Nat → Nat) (h : HI) (g : HL) (sz : Nat)  (Q : Int32 → HI → HL → Prop) (HW : w_X4_lastRank h g Q) : Met l yX4_lastRank (wa yX4_lastRank cX4_lastRank 1 (some .int)) ({ frames := 1, cells := 0, slots := 0, locals := 20 }) (va_Pc [.ref (ad 77)] (gI D cy ad h g sz)) (va_Qi (fun (r : Int32) (u : HI × HL) => Q r u.1 u.2) (gB D cy ad sz) (gA ad sz)) 0 0 (gA ad sz) := by
  refine Met.ofW (cc := cX4_lastRank) (maxL := 1) (ret := (some .int)) (by decide) rfl ?_
  intro p e s m args below meth c s₁ B hml hv
  obtain ⟨hav, hsz, hP, hK, hD0, hNw⟩ := hv
  have hx := B.exec
  have hb := B.bytes
  have hr := B.returns
  have hts := atoms_spec (ws := (wa yX4_lastRank cX4_lastRank 1 (some .int))) B.pre
  have hw := wa_hw hts
  have hown : s.vm.findClass RX4 = some m.cls := findClass_of_methodNamed B.named
  have hlocks := B.notSynchronized
  subst hsz
  have hG : gG D cy ad (gA ad s.heap.size) s.heap h g s.heap [] := ⟨hP, gA_self hD0, va_S.rf⟩
  clear hP hD0
  have lk33 := hw (.fieldLink RX4 33 "OldWorks$Law" "waits" "I") (wm1 134 rfl rfl)
  have lk15 := hw (.fieldLink RX4 15 "OldWorks$Law" "waiting" "[I") (wm1 131 rfl rfl)
  rw [show (headSpec (wa yX4_lastRank cX4_lastRank 1 (some .int)) ({ frames := 1, cells := 0, slots := 0, locals := 20 } : Room)).room = ({ frames := 1, cells := 0, slots := 0, locals := 20 } : Room) from rfl]
  have hl := lv_entry ([.ref (ad 77)]) (n := 1) (Nat.le_of_ble_eq_true rfl)
  rw [show entryFrame m args 1 = entryFrame m ([.ref (ad 77)] : List Value).toArray 1 from by rw [hav], lg_entry_eq]
  generalize (lg_sl ([.ref (ad 77)]) ++ List.replicate (1 - (lg_sl ([.ref (ad 77)])).length) Slot.unset).toArray = ls at hl ⊢
  have hl : lv_has ls 1 [(0, .ref (ad 77))] := hl
  have E0 : ∀ (H : Heap) (locs : List Loc) (ls : Array Slot), gG D cy ad (gA ad s.heap.size) s.heap h g H locs → lv_has ls 1 [(0, .ref (ad 77))] → W p l e ({ frames := 1, cells := 0, slots := 0, locals := 20 } : Room) s m args below meth c H locs 0 0 (MQ below (va_Qi (fun (r : Int32) (u : HI × HL) => Q r u.1 u.2) (gB D cy ad s.heap.size) (gA ad s.heap.size)) args s 0 0 (gA ad s.heap.size)) (F0 m 0 ls []) := by
    intro H locs ls hG hl
    unfold w_X4_lastRank at HW
    refine lv_aload_n hx hb dX4_lastRank_0 rfl (lv_at hl 0 rfl) ?_
    refine g_geti hx hb hw inG4 hown hK hG gl_77 rfl gk_77 (by decide) 5 (by decide) (by rw [gm_77]; decide) gr_77_5 lk33 dX4_lastRank_1 ?_
    refine lv_if_le (tgt := 36) hx hb dX4_lastRank_4 (by decide) (fun c_4 => ?_) (fun c_4 => ?_)
    · replace HW := HW.1 c_4
      refine lv_iconst (v := 0) hx hb dX4_lastRank_36 (by decide) ?_
      exact W.iret (v := (0 : Int32)) hx hb hr (fun t ht hW => ⟨⟨(0 : Int32), (h, g), rfl, HW, g_B ht hG⟩, hG.2.2.F ht⟩) hG.2.2.2.2 dX4_lastRank_37
    · replace HW := HW.2 c_4
      refine lv_aload_n hx hb dX4_lastRank_7 rfl (lv_at hl 0 rfl) ?_
      refine g_geti hx hb hw inG4 hown hK hG gl_77 rfl gk_77 (by decide) 5 (by decide) (by rw [gm_77]; decide) gr_77_5 lk33 dX4_lastRank_8 ?_
      refine lv_aload_n hx hb dX4_lastRank_11 rfl (lv_at hl 0 rfl) ?_
      refine g_getr hx hb hw inG4 hown hK hG gl_77 rfl gk_77 (by decide) 2 (by decide) (by rw [gm_77]; decide) (r := 79) gr_77_2 lk15 dX4_lastRank_12 ?_
      refine g_alen hx hb hK hG gl_79 gk_79 (v := (60 : Int32)) (by rw [gn_79]; decide) dX4_lastRank_15 ?_
      refine lv_icmp_gt (tgt := 36) hx hb dX4_lastRank_16 (by decide) (fun c_16 => ?_) (fun c_16 => ?_)
      · replace HW := HW.1 c_16
        refine lv_iconst (v := 0) hx hb dX4_lastRank_36 (by decide) ?_
        exact W.iret (v := (0 : Int32)) hx hb hr (fun t ht hW => ⟨⟨(0 : Int32), (h, g), rfl, HW, g_B ht hG⟩, hG.2.2.F ht⟩) hG.2.2.2.2 dX4_lastRank_37
      · replace HW := HW.2 c_16
        refine lv_aload_n hx hb dX4_lastRank_19 rfl (lv_at hl 0 rfl) ?_
        refine g_getr hx hb hw inG4 hown hK hG gl_77 rfl gk_77 (by decide) 2 (by decide) (by rw [gm_77]; decide) (r := 79) gr_77_2 lk15 dX4_lastRank_20 ?_
        refine lv_aload_n hx hb dX4_lastRank_23 rfl (lv_at hl 0 rfl) ?_
        refine g_geti hx hb hw inG4 hown hK hG gl_77 rfl gk_77 (by decide) 5 (by decide) (by rw [gm_77]; decide) gr_77_5 lk33 dX4_lastRank_24 ?_
        refine lv_iconst (v := 1) hx hb dX4_lastRank_27 (by decide) ?_
        refine lv_isub hx hb dX4_lastRank_28 ?_
        refine g_iald hx hb hK hG gl_79 gk_79 gn_79 HW.1 dX4_lastRank_29 ?_
        replace HW := HW.2
        obtain ⟨P_30, HC_30, HW⟩ := HW
        refine g_calli (g_runS (As := [.int (h 79 ((h 77 5) - (1 : Int32)).toNatClampNeg)]) (rest := []) ⟨hx, hb, hml, hown, hts⟩ (m_X4_rank l D cy ad h g H.size (h 79 ((h 77 5) - (1 : Int32)).toNatClampNeg) P_30 HC_30) (va_cwS 1 hts (gd_S (wm3 12 rfl rfl) (wm3 13 rfl rfl) (wm1 4 rfl rfl) (wm3 14 rfl rfl)) rfl rfl rfl (by decide +kernel) ⟨Nat.le_of_ble_eq_true rfl, Nat.le_of_ble_eq_true rfl⟩) hK hNw hG rfl rfl hl.1 rfl (lv_room (Nat.le_of_ble_eq_true rfl)) dX4_lastRank_30 ⟨Nat.zero_le _, Nat.zero_le _⟩) hG (fun r_30 h_30 g_30 H locs hq hG => ?_)
        replace HW := HW r_30 h_30 g_30 hq
        refine lv_goto (tgt := 37) hx hb dX4_lastRank_33 (by decide) ?_
        exact W.iret (v := r_30) hx hb hr (fun t ht hW => ⟨⟨r_30, (h_30, g_30), rfl, HW, g_B ht hG⟩, hG.2.2.F ht⟩) hG.2.2.2.2 dX4_lastRank_37
  exact E0 _ _ _ hG hl

def j_X4_followsUnit_91 (Q : Int32 → HI → HL → Prop) (x1 : Int32) (h : HI) (g : HL) : Prop :=
  (∃ P_93 : HI → HL → Prop, w_X4_await x1 h g P_93 ∧ ∀ (h_93 : HI) (g_93 : HL), P_93 h_93 g_93 → (∀ h_98 : HI, h_98 = hu h_93 77 8 (1 : Int32) → Q (1 : Int32) h_98 g_93))
def j_X4_followsUnit_73 (Q : Int32 → HI → HL → Prop) (x1 : Int32) (x2 : Int32) (s1 : Int32) (h : HI) (g : HL) : Prop :=
  (∃ P_73 : HI → HL → Prop, w_X4_settle s1 h g P_73 ∧ ∀ (h_73 : HI) (g_73 : HL), P_73 h_73 g_73 → ((¬ x2 = (3 : Int32) → j_X4_followsUnit_91 Q x1 h_73 g_73) ∧ (x2 = (3 : Int32) → (∃ P_82 : Int32 → HI → HL → Prop, w_X4_lastRank h_73 g_73 P_82 ∧ ∀ (r_82 : Int32) (h_82 : HI) (g_82 : HL), P_82 r_82 h_82 g_82 → ((¬ r_82 = (3 : Int32) → j_X4_followsUnit_91 Q x1 h_82 g_82) ∧ (r_82 = (3 : Int32) → Q (0 : Int32) h_82 g_82))))))
def w_X4_followsUnit (x1 : Int32) (h : HI) (g : HL) (Q : Int32 → HI → HL → Prop) : Prop :=
  ((¬ x1 = (41 : Int32) → (∃ P_43 : Int32 → HI → HL → Prop, w_X4_rank x1 h g P_43 ∧ ∀ (r_43 : Int32) (h_43 : HI) (g_43 : HL), P_43 r_43 h_43 g_43 → ((r_43 < (1 : Int32) → Q (0 : Int32) h_43 g_43) ∧ (¬ r_43 < (1 : Int32) → ((r_43 < (6 : Int32) → ((¬ r_43 = (3 : Int32) → j_X4_followsUnit_73 Q x1 r_43 r_43 h_43 g_43) ∧ (r_43 = (3 : Int32) → j_X4_followsUnit_73 Q x1 r_43 (r_43 + (1 : Int32)) h_43 g_43))) ∧ (¬ r_43 < (6 : Int32) → Q (0 : Int32) h_43 g_43)))))) ∧ (x1 = (41 : Int32) → ((¬ (h 77 6) = 0 → (∃ P_17 : HI → HL → Prop, w_X4_settle (1 : Int32) h g P_17 ∧ ∀ (h_17 : HI) (g_17 : HL), P_17 h_17 g_17 → (∀ h_27 : HI, h_27 = hu h_17 77 5 ((h_17 77 5) - (1 : Int32)) → (∀ h_37 : HI, h_37 = hu h_27 77 6 ((h_27 77 6) - (1 : Int32)) → Q (1 : Int32) h_37 g_17)))) ∧ ((h 77 6) = 0 → Q (0 : Int32) h g))))
set_option maxHeartbeats 8000000 in
set_option maxRecDepth 100000 in
theorem m_X4_followsUnit (l : Launch) (D : va_G) (cy : Nat → ClassId) (ad : Nat → Nat) (h : HI) (g : HL) (sz : Nat) (x1 : Int32) (Q : Int32 → HI → HL → Prop) (HW : w_X4_followsUnit x1 h g Q) : Met l yX4_followsUnit (wa yX4_followsUnit cX4_followsUnit 3 (some .boolean)) ({ frames := 2, cells := 0, slots := 0, locals := 43 }) (va_Pc [.ref (ad 77), .int x1] (gI D cy ad h g sz)) (va_Qi (fun (r : Int32) (u : HI × HL) => zb r ∧ Q r u.1 u.2) (gB D cy ad sz) (gA ad sz)) 0 0 (gA ad sz) := by
  refine Met.ofW (cc := cX4_followsUnit) (maxL := 3) (ret := (some .boolean)) (by decide) rfl ?_
  intro p e s m args below meth c s₁ B hml hv
  obtain ⟨hav, hsz, hP, hK, hD0, hNw⟩ := hv
  have hx := B.exec
  have hb := B.bytes
  have hr := B.returns
  have hts := atoms_spec (ws := (wa yX4_followsUnit cX4_followsUnit 3 (some .boolean))) B.pre
  have hw := wa_hw hts
  have hown : s.vm.findClass RX4 = some m.cls := findClass_of_methodNamed B.named
  have hlocks := B.notSynchronized
  subst hsz
  have hG : gG D cy ad (gA ad s.heap.size) s.heap h g s.heap [] := ⟨hP, gA_self hD0, va_S.rf⟩
  clear hP hD0
  have lk36 := hw (.fieldLink RX4 36 "OldWorks$Law" "open" "I") (wm1 135 rfl rfl)
  have lk33 := hw (.fieldLink RX4 33 "OldWorks$Law" "waits" "I") (wm1 134 rfl rfl)
  have lk42 := hw (.fieldLink RX4 42 "OldWorks$Law" "unitDue" "Z") (wm1 137 rfl rfl)
  rw [show (headSpec (wa yX4_followsUnit cX4_followsUnit 3 (some .boolean)) ({ frames := 2, cells := 0, slots := 0, locals := 43 } : Room)).room = ({ frames := 2, cells := 0, slots := 0, locals := 43 } : Room) from rfl]
  have hl := lv_entry ([.ref (ad 77), .int x1]) (n := 3) (Nat.le_of_ble_eq_true rfl)
  rw [show entryFrame m args 3 = entryFrame m ([.ref (ad 77), .int x1] : List Value).toArray 3 from by rw [hav], lg_entry_eq]
  generalize (lg_sl ([.ref (ad 77), .int x1]) ++ List.replicate (3 - (lg_sl ([.ref (ad 77), .int x1])).length) Slot.unset).toArray = ls at hl ⊢
  have hl : lv_has ls 3 [(0, .ref (ad 77)), (1, .int x1)] := hl
  have B91 : ∀ (x1 : Int32) (h : HI) (g : HL) (H : Heap) (locs : List Loc) (ls : Array Slot), j_X4_followsUnit_91 Q x1 h g → gG D cy ad (gA ad s.heap.size) s.heap h g H locs → lv_has ls 3 [(0, .ref (ad 77)), (1, .int x1)] → W p l e ({ frames := 2, cells := 0, slots := 0, locals := 43 } : Room) s m args below meth c H locs 0 0 (MQ below (va_Qi (fun (r : Int32) (u : HI × HL) => zb r ∧ Q r u.1 u.2) (gB D cy ad s.heap.size) (gA ad s.heap.size)) args s 0 0 (gA ad s.heap.size)) (F0 m 91 ls []) := by
    intro x1 h g H locs ls HW hG hl
    unfold j_X4_followsUnit_91 at HW
    refine lv_aload_n hx hb dX4_followsUnit_91 rfl (lv_at hl 0 rfl) ?_
    refine lv_iload_n hx hb dX4_followsUnit_92 rfl (lv_at hl 1 rfl) ?_
    obtain ⟨P_93, HC_93, HW⟩ := HW
    refine g_callv (g_runV (As := [.int x1]) (rest := []) ⟨hx, hb, hml, hown, hts⟩ (m_X4_await l D cy ad h g H.size x1 P_93 HC_93) (cwV 1 hts (gd_V (wm3 0 rfl rfl) (wm3 2 rfl rfl) (wmp1 (q := (yX4_await, 10)) 4 rfl) (wm1 4 rfl rfl) (wm3 3 rfl rfl)) rfl rfl rfl (by decide +kernel) ⟨Nat.le_of_ble_eq_true rfl, Nat.le_of_ble_eq_true rfl⟩) hK hNw hG gl_77 rfl gk_77 (by decide) rfl rfl hl.1 rfl (lv_room (Nat.le_of_ble_eq_true rfl)) dX4_followsUnit_93 ⟨Nat.zero_le _, Nat.zero_le _⟩) hG (fun h_93 g_93 H locs hq hG => ?_)
    replace HW := HW h_93 g_93 hq
    refine lv_aload_n hx hb dX4_followsUnit_96 rfl (lv_at hl 0 rfl) ?_
    refine lv_iconst (v := 1) hx hb dX4_followsUnit_97 (by decide) ?_
    refine g_put hx hb hw inG4 tyX4 tyX4_ok nmX4 hown hK hG gl_77 rfl gk_77 (by decide) 8 (by decide) (by rw [gm_77]; decide) gr_77_8 rfl (ty := .boolean) (by decide +kernel) rfl rfl lk42 dX4_followsUnit_98 (fun H locs hG => ?_)
    obtain ⟨h_98, eh_98⟩ : ∃ y : HI, y = hu h_93 77 8 (1 : Int32) := ⟨_, rfl⟩
    rw [← eh_98] at hG
    replace HW := HW h_98 eh_98
    refine lv_iconst (v := 1) hx hb dX4_followsUnit_101 (by decide) ?_
    exact W.zret (v := (1 : Int32)) hx hb hr rfl (fun t ht hW => ⟨⟨(1 : Int32), (h_98, g_93), rfl, ⟨Or.inr rfl, HW⟩, g_B ht hG⟩, hG.2.2.F ht⟩) hG.2.2.2.2 dX4_followsUnit_102
  have B73 : ∀ (x1 : Int32) (x2 : Int32) (s1 : Int32) (h : HI) (g : HL) (H : Heap) (locs : List Loc) (ls : Array Slot), j_X4_followsUnit_73 Q x1 x2 s1 h g → gG D cy ad (gA ad s.heap.size) s.heap h g H locs → lv_has ls 3 [(0, .ref (ad 77)), (1, .int x1), (2, .int x2)] → W p l e ({ frames := 2, cells := 0, slots := 0, locals := 43 } : Room) s m args below meth c H locs 0 0 (MQ below (va_Qi (fun (r : Int32) (u : HI × HL) => zb r ∧ Q r u.1 u.2) (gB D cy ad s.heap.size) (gA ad s.heap.size)) args s 0 0 (gA ad s.heap.size)) (F0 m 73 ls [.int s1, .ref (ad 77)]) := by
    intro x1 x2 s1 h g H locs ls HW hG hl
    unfold j_X4_followsUnit_73 at HW
    obtain ⟨P_73, HC_73, HW⟩ := HW
    refine g_callv (g_runV (As := [.int s1]) (rest := []) ⟨hx, hb, hml, hown, hts⟩ (m_X4_settle l D cy ad h g H.size s1 P_73 HC_73) (cwV 1 hts (gd_V (wm3 8 rfl rfl) (wm3 10 rfl rfl) (wmp1 (q := (yX4_settle, 10)) 6 rfl) (wm1 4 rfl rfl) (wm3 11 rfl rfl)) rfl rfl rfl (by decide +kernel) ⟨Nat.le_of_ble_eq_true rfl, Nat.le_of_ble_eq_true rfl⟩) hK hNw hG gl_77 rfl gk_77 (by decide) rfl rfl hl.1 rfl (lv_room (Nat.le_of_ble_eq_true rfl)) dX4_followsUnit_73 ⟨Nat.zero_le _, Nat.zero_le _⟩) hG (fun h_73 g_73 H locs hq hG => ?_)
    replace HW := HW h_73 g_73 hq
    refine lv_iload_n hx hb dX4_followsUnit_76 rfl (lv_at hl 2 rfl) ?_
    refine lv_iconst (v := 3) hx hb dX4_followsUnit_77 (by decide) ?_
    refine lv_icmp_ne (tgt := 91) hx hb dX4_followsUnit_78 (by decide) (fun c_78 => ?_) (fun c_78 => ?_)
    · replace HW := HW.1 c_78
      exact B91 x1 h_73 g_73 _ _ _ HW hG (lv_sub hl [0, 1] rfl)
    · replace HW := HW.2 c_78
      refine lv_aload_n hx hb dX4_followsUnit_81 rfl (lv_at hl 0 rfl) ?_
      obtain ⟨P_82, HC_82, HW⟩ := HW
      refine g_calli (g_runV (As := []) (rest := []) ⟨hx, hb, hml, hown, hts⟩ (m_X4_lastRank l D cy ad h_73 g_73 H.size  P_82 HC_82) (cwV 0 hts (gd_V (wm3 15 rfl rfl) (wm3 17 rfl rfl) (wmp1 (q := (yX4_lastRank, 10)) 7 rfl) (wm1 4 rfl rfl) (wm3 18 rfl rfl)) rfl rfl rfl (by decide +kernel) ⟨Nat.le_of_ble_eq_true rfl, Nat.le_of_ble_eq_true rfl⟩) hK hNw hG gl_77 rfl gk_77 (by decide) rfl rfl hl.1 rfl (lv_room (Nat.le_of_ble_eq_true rfl)) dX4_followsUnit_82 ⟨Nat.zero_le _, Nat.zero_le _⟩) hG (fun r_82 h_82 g_82 H locs hq hG => ?_)
      replace HW := HW r_82 h_82 g_82 hq
      refine lv_iconst (v := 3) hx hb dX4_followsUnit_85 (by decide) ?_
      refine lv_icmp_ne (tgt := 91) hx hb dX4_followsUnit_86 (by decide) (fun c_86 => ?_) (fun c_86 => ?_)
      · replace HW := HW.1 c_86
        exact B91 x1 h_82 g_82 _ _ _ HW hG (lv_sub hl [0, 1] rfl)
      · replace HW := HW.2 c_86
        refine lv_iconst (v := 0) hx hb dX4_followsUnit_89 (by decide) ?_
        exact W.zret (v := (0 : Int32)) hx hb hr rfl (fun t ht hW => ⟨⟨(0 : Int32), (h_82, g_82), rfl, ⟨Or.inl rfl, HW⟩, g_B ht hG⟩, hG.2.2.F ht⟩) hG.2.2.2.2 dX4_followsUnit_90
  have E0 : ∀ (H : Heap) (locs : List Loc) (ls : Array Slot), gG D cy ad (gA ad s.heap.size) s.heap h g H locs → lv_has ls 3 [(0, .ref (ad 77)), (1, .int x1)] → W p l e ({ frames := 2, cells := 0, slots := 0, locals := 43 } : Room) s m args below meth c H locs 0 0 (MQ below (va_Qi (fun (r : Int32) (u : HI × HL) => zb r ∧ Q r u.1 u.2) (gB D cy ad s.heap.size) (gA ad s.heap.size)) args s 0 0 (gA ad s.heap.size)) (F0 m 0 ls []) := by
    intro H locs ls hG hl
    unfold w_X4_followsUnit at HW
    refine lv_iload_n hx hb dX4_followsUnit_0 rfl (lv_at hl 1 rfl) ?_
    refine lv_bipush (v := 41) hx hb dX4_followsUnit_1 (by decide) ?_
    refine lv_icmp_ne (tgt := 42) hx hb dX4_followsUnit_3 (by decide) (fun c_3 => ?_) (fun c_3 => ?_)
    · replace HW := HW.1 c_3
      refine lv_iload_n hx hb dX4_followsUnit_42 rfl (lv_at hl 1 rfl) ?_
      obtain ⟨P_43, HC_43, HW⟩ := HW
      refine g_calli (g_runS (As := [.int x1]) (rest := []) ⟨hx, hb, hml, hown, hts⟩ (m_X4_rank l D cy ad h g H.size x1 P_43 HC_43) (va_cwS 1 hts (gd_S (wm3 12 rfl rfl) (wm3 13 rfl rfl) (wm1 4 rfl rfl) (wm3 14 rfl rfl)) rfl rfl rfl (by decide +kernel) ⟨Nat.le_of_ble_eq_true rfl, Nat.le_of_ble_eq_true rfl⟩) hK hNw hG rfl rfl hl.1 rfl (lv_room (Nat.le_of_ble_eq_true rfl)) dX4_followsUnit_43 ⟨Nat.zero_le _, Nat.zero_le _⟩) hG (fun r_43 h_43 g_43 H locs hq hG => ?_)
      replace HW := HW r_43 h_43 g_43 hq
      refine lv_istore_n (lv' := [(2, .int r_43), (0, .ref (ad 77)), (1, .int x1)]) hx hb dX4_followsUnit_46 rfl hl (by decide) rfl (fun ls hl => ?_)
      refine lv_iload_n hx hb dX4_followsUnit_47 rfl (lv_at hl 0 rfl) ?_
      refine lv_iconst (v := 1) hx hb dX4_followsUnit_48 (by decide) ?_
      refine lv_icmp_lt (tgt := 58) hx hb dX4_followsUnit_49 (by decide) (fun c_49 => ?_) (fun c_49 => ?_)
      · replace HW := HW.1 c_49
        refine lv_iconst (v := 0) hx hb dX4_followsUnit_58 (by decide) ?_
        exact W.zret (v := (0 : Int32)) hx hb hr rfl (fun t ht hW => ⟨⟨(0 : Int32), (h_43, g_43), rfl, ⟨Or.inl rfl, HW⟩, g_B ht hG⟩, hG.2.2.F ht⟩) hG.2.2.2.2 dX4_followsUnit_59
      · replace HW := HW.2 c_49
        refine lv_iload_n hx hb dX4_followsUnit_52 rfl (lv_at hl 0 rfl) ?_
        refine lv_bipush (v := 6) hx hb dX4_followsUnit_53 (by decide) ?_
        refine lv_icmp_lt (tgt := 60) hx hb dX4_followsUnit_55 (by decide) (fun c_55 => ?_) (fun c_55 => ?_)
        · replace HW := HW.1 c_55
          refine lv_aload_n hx hb dX4_followsUnit_60 rfl (lv_at hl 1 rfl) ?_
          refine lv_iload_n hx hb dX4_followsUnit_61 rfl (lv_at hl 0 rfl) ?_
          refine lv_iconst (v := 3) hx hb dX4_followsUnit_62 (by decide) ?_
          refine lv_icmp_ne (tgt := 72) hx hb dX4_followsUnit_63 (by decide) (fun c_63 => ?_) (fun c_63 => ?_)
          · replace HW := HW.1 c_63
            refine lv_iload_n hx hb dX4_followsUnit_72 rfl (lv_at hl 0 rfl) ?_
            exact B73 x1 r_43 r_43 h_43 g_43 _ _ _ HW hG (lv_sub hl [1, 2, 0] rfl)
          · replace HW := HW.2 c_63
            refine lv_iload_n hx hb dX4_followsUnit_66 rfl (lv_at hl 0 rfl) ?_
            refine lv_iconst (v := 1) hx hb dX4_followsUnit_67 (by decide) ?_
            refine lv_iadd hx hb dX4_followsUnit_68 ?_
            refine lv_goto (tgt := 73) hx hb dX4_followsUnit_69 (by decide) ?_
            exact B73 x1 r_43 (r_43 + (1 : Int32)) h_43 g_43 _ _ _ HW hG (lv_sub hl [1, 2, 0] rfl)
        · replace HW := HW.2 c_55
          refine lv_iconst (v := 0) hx hb dX4_followsUnit_58 (by decide) ?_
          exact W.zret (v := (0 : Int32)) hx hb hr rfl (fun t ht hW => ⟨⟨(0 : Int32), (h_43, g_43), rfl, ⟨Or.inl rfl, HW⟩, g_B ht hG⟩, hG.2.2.F ht⟩) hG.2.2.2.2 dX4_followsUnit_59
    · replace HW := HW.2 c_3
      refine lv_aload_n hx hb dX4_followsUnit_6 rfl (lv_at hl 0 rfl) ?_
      refine g_geti hx hb hw inG4 hown hK hG gl_77 rfl gk_77 (by decide) 6 (by decide) (by rw [gm_77]; decide) gr_77_6 lk36 dX4_followsUnit_7 ?_
      refine lv_if_ne (tgt := 15) hx hb dX4_followsUnit_10 (by decide) (fun c_10 => ?_) (fun c_10 => ?_)
      · replace HW := HW.1 c_10
        refine lv_aload_n hx hb dX4_followsUnit_15 rfl (lv_at hl 0 rfl) ?_
        refine lv_iconst (v := 1) hx hb dX4_followsUnit_16 (by decide) ?_
        obtain ⟨P_17, HC_17, HW⟩ := HW
        refine g_callv (g_runV (As := [.int (1 : Int32)]) (rest := []) ⟨hx, hb, hml, hown, hts⟩ (m_X4_settle l D cy ad h g H.size (1 : Int32) P_17 HC_17) (cwV 1 hts (gd_V (wm3 8 rfl rfl) (wm3 10 rfl rfl) (wmp1 (q := (yX4_settle, 10)) 6 rfl) (wm1 4 rfl rfl) (wm3 11 rfl rfl)) rfl rfl rfl (by decide +kernel) ⟨Nat.le_of_ble_eq_true rfl, Nat.le_of_ble_eq_true rfl⟩) hK hNw hG gl_77 rfl gk_77 (by decide) rfl rfl hl.1 rfl (lv_room (Nat.le_of_ble_eq_true rfl)) dX4_followsUnit_17 ⟨Nat.zero_le _, Nat.zero_le _⟩) hG (fun h_17 g_17 H locs hq hG => ?_)
        replace HW := HW h_17 g_17 hq
        refine lv_aload_n hx hb dX4_followsUnit_20 rfl (lv_at hl 0 rfl) ?_
        refine lv_dup hx hb dX4_followsUnit_21 rfl ?_
        refine g_geti hx hb hw inG4 hown hK hG gl_77 rfl gk_77 (by decide) 5 (by decide) (by rw [gm_77]; decide) gr_77_5 lk33 dX4_followsUnit_22 ?_
        refine lv_iconst (v := 1) hx hb dX4_followsUnit_25 (by decide) ?_
        refine lv_isub hx hb dX4_followsUnit_26 ?_
        refine g_put hx hb hw inG4 tyX4 tyX4_ok nmX4 hown hK hG gl_77 rfl gk_77 (by decide) 5 (by decide) (by rw [gm_77]; decide) gr_77_5 rfl (ty := .int) (by decide +kernel) rfl rfl lk33 dX4_followsUnit_27 (fun H locs hG => ?_)
        obtain ⟨h_27, eh_27⟩ : ∃ y : HI, y = hu h_17 77 5 ((h_17 77 5) - (1 : Int32)) := ⟨_, rfl⟩
        rw [← eh_27] at hG
        replace HW := HW h_27 eh_27
        refine lv_aload_n hx hb dX4_followsUnit_30 rfl (lv_at hl 0 rfl) ?_
        refine lv_dup hx hb dX4_followsUnit_31 rfl ?_
        refine g_geti hx hb hw inG4 hown hK hG gl_77 rfl gk_77 (by decide) 6 (by decide) (by rw [gm_77]; decide) gr_77_6 lk36 dX4_followsUnit_32 ?_
        refine lv_iconst (v := 1) hx hb dX4_followsUnit_35 (by decide) ?_
        refine lv_isub hx hb dX4_followsUnit_36 ?_
        refine g_put hx hb hw inG4 tyX4 tyX4_ok nmX4 hown hK hG gl_77 rfl gk_77 (by decide) 6 (by decide) (by rw [gm_77]; decide) gr_77_6 rfl (ty := .int) (by decide +kernel) rfl rfl lk36 dX4_followsUnit_37 (fun H locs hG => ?_)
        obtain ⟨h_37, eh_37⟩ : ∃ y : HI, y = hu h_27 77 6 ((h_27 77 6) - (1 : Int32)) := ⟨_, rfl⟩
        rw [← eh_37] at hG
        replace HW := HW h_37 eh_37
        refine lv_iconst (v := 1) hx hb dX4_followsUnit_40 (by decide) ?_
        exact W.zret (v := (1 : Int32)) hx hb hr rfl (fun t ht hW => ⟨⟨(1 : Int32), (h_37, g_17), rfl, ⟨Or.inr rfl, HW⟩, g_B ht hG⟩, hG.2.2.F ht⟩) hG.2.2.2.2 dX4_followsUnit_41
      · replace HW := HW.2 c_10
        refine lv_iconst (v := 0) hx hb dX4_followsUnit_13 (by decide) ?_
        exact W.zret (v := (0 : Int32)) hx hb hr rfl (fun t ht hW => ⟨⟨(0 : Int32), (h, g), rfl, ⟨Or.inl rfl, HW⟩, g_B ht hG⟩, hG.2.2.F ht⟩) hG.2.2.2.2 dX4_followsUnit_14
  exact E0 _ _ _ hG hl

def j_X4_readSign_61 (Q : HI → HL → Prop) (x2 : Int32) (h : HI) (g : HL) : Prop :=
  (∀ h_68 : HI, h_68 = hu h 77 9 (((10 : Int32) * x2) + (1 : Int32)) → Q h_68 g)
def j_X4_readSign_35 (Q : HI → HL → Prop) (x1 : Int32) (x2 : Int32) (h : HI) (g : HL) : Prop :=
  (((h 77 8) = 0 → (∃ P_55 : Int32 → HI → HL → Prop, w_X4_followsUnit x1 h g P_55 ∧ ∀ (r_55 : Int32) (h_55 : HI) (g_55 : HL), zb r_55 → P_55 r_55 h_55 g_55 → ((¬ r_55 = 0 → Q h_55 g_55) ∧ (r_55 = 0 → j_X4_readSign_61 Q x2 h_55 g_55)))) ∧ (¬ (h 77 8) = 0 → (∃ P_44 : Int32 → HI → HL → Prop, w_X4_startsUnit x1 h g P_44 ∧ ∀ (r_44 : Int32) (h_44 : HI) (g_44 : HL), zb r_44 → P_44 r_44 h_44 g_44 → ((¬ r_44 = 0 → Q h_44 g_44) ∧ (r_44 = 0 → j_X4_readSign_61 Q x2 h_44 g_44)))))
def w_X4_readSign (x1 : Int32) (x2 : Int32) (h : HI) (g : HL) (Q : HI → HL → Prop) : Prop :=
  (((h 77 8) = 0 → j_X4_readSign_35 Q x1 x2 h g) ∧ (¬ (h 77 8) = 0 → ((¬ x1 = (40 : Int32) → j_X4_readSign_35 Q x1 x2 h g) ∧ (x1 = (40 : Int32) → (((h 77 6) < (8 : Int32) → j_X4_readSign_35 Q x1 x2 h g) ∧ (¬ (h 77 6) < (8 : Int32) → (∀ h_29 : HI, h_29 = hu h 77 9 (((10 : Int32) * x2) + (3 : Int32)) → Q h_29 g)))))))
set_option maxHeartbeats 8000000 in
set_option maxRecDepth 100000 in
theorem m_X4_readSign (l : Launch) (D : va_G) (cy : Nat → ClassId) (ad : Nat → Nat) (h : HI) (g : HL) (sz : Nat) (x1 : Int32) (x2 : Int32) (Q : HI → HL → Prop) (HW : w_X4_readSign x1 x2 h g Q) : Met l yX4_readSign (wa yX4_readSign cX4_readSign 3 none) ({ frames := 3, cells := 0, slots := 0, locals := 65 }) (va_Pc [.ref (ad 77), .int x1, .int x2] (gI D cy ad h g sz)) (va_Qv (fun (u : HI × HL) => Q u.1 u.2) (gB D cy ad sz) (gA ad sz)) 0 0 (gA ad sz) := by
  refine Met.ofW (cc := cX4_readSign) (maxL := 3) (ret := none) (by decide) rfl ?_
  intro p e s m args below meth c s₁ B hml hv
  obtain ⟨hav, hsz, hP, hK, hD0, hNw⟩ := hv
  have hx := B.exec
  have hb := B.bytes
  have hr := B.returns
  have hts := atoms_spec (ws := (wa yX4_readSign cX4_readSign 3 none)) B.pre
  have hw := wa_hw hts
  have hown : s.vm.findClass RX4 = some m.cls := findClass_of_methodNamed B.named
  have hlocks := B.notSynchronized
  subst hsz
  have hG : gG D cy ad (gA ad s.heap.size) s.heap h g s.heap [] := ⟨hP, gA_self hD0, va_S.rf⟩
  clear hP hD0
  have lk42 := hw (.fieldLink RX4 42 "OldWorks$Law" "unitDue" "Z") (wm1 137 rfl rfl)
  have lk36 := hw (.fieldLink RX4 36 "OldWorks$Law" "open" "I") (wm1 135 rfl rfl)
  have lk26 := hw (.fieldLink RX4 26 "OldWorks$Law" "flaw" "I") (wm1 138 rfl rfl)
  rw [show (headSpec (wa yX4_readSign cX4_readSign 3 none) ({ frames := 3, cells := 0, slots := 0, locals := 65 } : Room)).room = ({ frames := 3, cells := 0, slots := 0, locals := 65 } : Room) from rfl]
  have hl := lv_entry ([.ref (ad 77), .int x1, .int x2]) (n := 3) (Nat.le_of_ble_eq_true rfl)
  rw [show entryFrame m args 3 = entryFrame m ([.ref (ad 77), .int x1, .int x2] : List Value).toArray 3 from by rw [hav], lg_entry_eq]
  generalize (lg_sl ([.ref (ad 77), .int x1, .int x2]) ++ List.replicate (3 - (lg_sl ([.ref (ad 77), .int x1, .int x2])).length) Slot.unset).toArray = ls at hl ⊢
  have hl : lv_has ls 3 [(0, .ref (ad 77)), (1, .int x1), (2, .int x2)] := hl
  have B61 : ∀ (x2 : Int32) (h : HI) (g : HL) (H : Heap) (locs : List Loc) (ls : Array Slot), j_X4_readSign_61 Q x2 h g → gG D cy ad (gA ad s.heap.size) s.heap h g H locs → lv_has ls 3 [(0, .ref (ad 77)), (2, .int x2)] → W p l e ({ frames := 3, cells := 0, slots := 0, locals := 65 } : Room) s m args below meth c H locs 0 0 (MQ below (va_Qv (fun (u : HI × HL) => Q u.1 u.2) (gB D cy ad s.heap.size) (gA ad s.heap.size)) args s 0 0 (gA ad s.heap.size)) (F0 m 61 ls []) := by
    intro x2 h g H locs ls HW hG hl
    unfold j_X4_readSign_61 at HW
    refine lv_aload_n hx hb dX4_readSign_61 rfl (lv_at hl 0 rfl) ?_
    refine lv_bipush (v := 10) hx hb dX4_readSign_62 (by decide) ?_
    refine lv_iload_n hx hb dX4_readSign_64 rfl (lv_at hl 1 rfl) ?_
    refine lv_imul hx hb dX4_readSign_65 ?_
    refine lv_iconst (v := 1) hx hb dX4_readSign_66 (by decide) ?_
    refine lv_iadd hx hb dX4_readSign_67 ?_
    refine g_put hx hb hw inG4 tyX4 tyX4_ok nmX4 hown hK hG gl_77 rfl gk_77 (by decide) 9 (by decide) (by rw [gm_77]; decide) gr_77_9 rfl (ty := .int) (by decide +kernel) rfl rfl lk26 dX4_readSign_68 (fun H locs hG => ?_)
    obtain ⟨h_68, eh_68⟩ : ∃ y : HI, y = hu h 77 9 (((10 : Int32) * x2) + (1 : Int32)) := ⟨_, rfl⟩
    rw [← eh_68] at hG
    replace HW := HW h_68 eh_68
    exact W.vret hx hb hr (fun t ht hW => ⟨⟨(h_68, g), rfl, HW, g_B ht hG⟩, hG.2.2.F ht⟩) hG.2.2.2.2 dX4_readSign_71
  have B35 : ∀ (x1 : Int32) (x2 : Int32) (h : HI) (g : HL) (H : Heap) (locs : List Loc) (ls : Array Slot), j_X4_readSign_35 Q x1 x2 h g → gG D cy ad (gA ad s.heap.size) s.heap h g H locs → lv_has ls 3 [(0, .ref (ad 77)), (1, .int x1), (2, .int x2)] → W p l e ({ frames := 3, cells := 0, slots := 0, locals := 65 } : Room) s m args below meth c H locs 0 0 (MQ below (va_Qv (fun (u : HI × HL) => Q u.1 u.2) (gB D cy ad s.heap.size) (gA ad s.heap.size)) args s 0 0 (gA ad s.heap.size)) (F0 m 35 ls []) := by
    intro x1 x2 h g H locs ls HW hG hl
    unfold j_X4_readSign_35 at HW
    refine lv_aload_n hx hb dX4_readSign_35 rfl (lv_at hl 0 rfl) ?_
    refine g_geti hx hb hw inG4 hown hK hG gl_77 rfl gk_77 (by decide) 8 (by decide) (by rw [gm_77]; decide) gr_77_8 lk42 dX4_readSign_36 ?_
    refine lv_if_eq (tgt := 53) hx hb dX4_readSign_39 (by decide) (fun c_39 => ?_) (fun c_39 => ?_)
    · replace HW := HW.1 c_39
      refine lv_aload_n hx hb dX4_readSign_53 rfl (lv_at hl 0 rfl) ?_
      refine lv_iload_n hx hb dX4_readSign_54 rfl (lv_at hl 1 rfl) ?_
      obtain ⟨P_55, HC_55, HW⟩ := HW
      refine g_callz (g_runV (As := [.int x1]) (rest := []) ⟨hx, hb, hml, hown, hts⟩ (m_X4_followsUnit l D cy ad h g H.size x1 P_55 HC_55) (cwV 1 hts (gd_V (wm3 4 rfl rfl) (wm3 6 rfl rfl) (wmp1 (q := (yX4_followsUnit, 10)) 5 rfl) (wm1 4 rfl rfl) (wm3 7 rfl rfl)) rfl rfl rfl (by decide +kernel) ⟨Nat.le_of_ble_eq_true rfl, Nat.le_of_ble_eq_true rfl⟩) hK hNw hG gl_77 rfl gk_77 (by decide) rfl rfl hl.1 rfl (lv_room (Nat.le_of_ble_eq_true rfl)) dX4_readSign_55 ⟨Nat.zero_le _, Nat.zero_le _⟩) hG (fun r_55 h_55 g_55 H locs hz hq hG => ?_)
      replace HW := HW r_55 h_55 g_55 hz hq
      refine lv_if_ne (tgt := 71) hx hb dX4_readSign_58 (by decide) (fun c_58 => ?_) (fun c_58 => ?_)
      · replace HW := HW.1 c_58
        exact W.vret hx hb hr (fun t ht hW => ⟨⟨(h_55, g_55), rfl, HW, g_B ht hG⟩, hG.2.2.F ht⟩) hG.2.2.2.2 dX4_readSign_71
      · replace HW := HW.2 c_58
        exact B61 x2 h_55 g_55 _ _ _ HW hG (lv_sub hl [0, 2] rfl)
    · replace HW := HW.2 c_39
      refine lv_aload_n hx hb dX4_readSign_42 rfl (lv_at hl 0 rfl) ?_
      refine lv_iload_n hx hb dX4_readSign_43 rfl (lv_at hl 1 rfl) ?_
      obtain ⟨P_44, HC_44, HW⟩ := HW
      refine g_callz (g_runV (As := [.int x1]) (rest := []) ⟨hx, hb, hml, hown, hts⟩ (m_X4_startsUnit l D cy ad h g H.size x1 P_44 HC_44) (cwV 1 hts (gd_V (wm2 236 rfl rfl) (wm2 238 rfl rfl) (wmp1 (q := (yX4_startsUnit, 10)) 3 rfl) (wm1 4 rfl rfl) (wm2 239 rfl rfl)) rfl rfl rfl (by decide +kernel) ⟨Nat.le_of_ble_eq_true rfl, Nat.le_of_ble_eq_true rfl⟩) hK hNw hG gl_77 rfl gk_77 (by decide) rfl rfl hl.1 rfl (lv_room (Nat.le_of_ble_eq_true rfl)) dX4_readSign_44 ⟨Nat.zero_le _, Nat.zero_le _⟩) hG (fun r_44 h_44 g_44 H locs hz hq hG => ?_)
      replace HW := HW r_44 h_44 g_44 hz hq
      refine lv_if_ne (tgt := 71) hx hb dX4_readSign_47 (by decide) (fun c_47 => ?_) (fun c_47 => ?_)
      · replace HW := HW.1 c_47
        exact W.vret hx hb hr (fun t ht hW => ⟨⟨(h_44, g_44), rfl, HW, g_B ht hG⟩, hG.2.2.F ht⟩) hG.2.2.2.2 dX4_readSign_71
      · replace HW := HW.2 c_47
        refine lv_goto (tgt := 61) hx hb dX4_readSign_50 (by decide) ?_
        exact B61 x2 h_44 g_44 _ _ _ HW hG (lv_sub hl [0, 2] rfl)
  have E0 : ∀ (H : Heap) (locs : List Loc) (ls : Array Slot), gG D cy ad (gA ad s.heap.size) s.heap h g H locs → lv_has ls 3 [(0, .ref (ad 77)), (1, .int x1), (2, .int x2)] → W p l e ({ frames := 3, cells := 0, slots := 0, locals := 65 } : Room) s m args below meth c H locs 0 0 (MQ below (va_Qv (fun (u : HI × HL) => Q u.1 u.2) (gB D cy ad s.heap.size) (gA ad s.heap.size)) args s 0 0 (gA ad s.heap.size)) (F0 m 0 ls []) := by
    intro H locs ls hG hl
    unfold w_X4_readSign at HW
    refine lv_aload_n hx hb dX4_readSign_0 rfl (lv_at hl 0 rfl) ?_
    refine g_geti hx hb hw inG4 hown hK hG gl_77 rfl gk_77 (by decide) 8 (by decide) (by rw [gm_77]; decide) gr_77_8 lk42 dX4_readSign_1 ?_
    refine lv_if_eq (tgt := 35) hx hb dX4_readSign_4 (by decide) (fun c_4 => ?_) (fun c_4 => ?_)
    · replace HW := HW.1 c_4
      exact B35 x1 x2 h g _ _ _ HW hG (lv_sub hl [0, 1, 2] rfl)
    · replace HW := HW.2 c_4
      refine lv_iload_n hx hb dX4_readSign_7 rfl (lv_at hl 1 rfl) ?_
      refine lv_bipush (v := 40) hx hb dX4_readSign_8 (by decide) ?_
      refine lv_icmp_ne (tgt := 35) hx hb dX4_readSign_10 (by decide) (fun c_10 => ?_) (fun c_10 => ?_)
      · replace HW := HW.1 c_10
        exact B35 x1 x2 h g _ _ _ HW hG (lv_sub hl [0, 1, 2] rfl)
      · replace HW := HW.2 c_10
        refine lv_aload_n hx hb dX4_readSign_13 rfl (lv_at hl 0 rfl) ?_
        refine g_geti hx hb hw inG4 hown hK hG gl_77 rfl gk_77 (by decide) 6 (by decide) (by rw [gm_77]; decide) gr_77_6 lk36 dX4_readSign_14 ?_
        refine lv_bipush (v := 8) hx hb dX4_readSign_17 (by decide) ?_
        refine lv_icmp_lt (tgt := 35) hx hb dX4_readSign_19 (by decide) (fun c_19 => ?_) (fun c_19 => ?_)
        · replace HW := HW.1 c_19
          exact B35 x1 x2 h g _ _ _ HW hG (lv_sub hl [0, 1, 2] rfl)
        · replace HW := HW.2 c_19
          refine lv_aload_n hx hb dX4_readSign_22 rfl (lv_at hl 0 rfl) ?_
          refine lv_bipush (v := 10) hx hb dX4_readSign_23 (by decide) ?_
          refine lv_iload_n hx hb dX4_readSign_25 rfl (lv_at hl 2 rfl) ?_
          refine lv_imul hx hb dX4_readSign_26 ?_
          refine lv_iconst (v := 3) hx hb dX4_readSign_27 (by decide) ?_
          refine lv_iadd hx hb dX4_readSign_28 ?_
          refine g_put hx hb hw inG4 tyX4 tyX4_ok nmX4 hown hK hG gl_77 rfl gk_77 (by decide) 9 (by decide) (by rw [gm_77]; decide) gr_77_9 rfl (ty := .int) (by decide +kernel) rfl rfl lk26 dX4_readSign_29 (fun H locs hG => ?_)
          obtain ⟨h_29, eh_29⟩ : ∃ y : HI, y = hu h 77 9 (((10 : Int32) * x2) + (3 : Int32)) := ⟨_, rfl⟩
          rw [← eh_29] at hG
          replace HW := HW h_29 eh_29
          refine lv_goto (tgt := 71) hx hb dX4_readSign_32 (by decide) ?_
          exact W.vret hx hb hr (fun t ht hW => ⟨⟨(h_29, g), rfl, HW, g_B ht hG⟩, hG.2.2.F ht⟩) hG.2.2.2.2 dX4_readSign_71
  exact E0 _ _ _ hG hl

def j_X4_read_148 (Q : HI → HL → Prop) (h : HI) (g : HL) : Prop :=
  ((¬ (h 77 9) = (-1 : Int32) → Q h g) ∧ ((h 77 9) = (-1 : Int32) → (∃ P_158 : HI → HL → Prop, w_X4_settle (1 : Int32) h g P_158 ∧ ∀ (h_158 : HI) (g_158 : HL), P_158 h_158 g_158 → Q h_158 g_158)))
def j_X4_read_138 (Q : HI → HL → Prop) (x1 : Int32) (h : HI) (g : HL) : Prop :=
  (∀ h_145 : HI, h_145 = hu h 77 9 (((10 : Int32) * x1) + (1 : Int32)) → j_X4_read_148 Q h_145 g)
def j_X4_read_116 (Q : HI → HL → Prop) (x1 : Int32) (h : HI) (g : HL) : Prop :=
  ((¬ (h 77 9) = (-1 : Int32) → j_X4_read_148 Q h g) ∧ ((h 77 9) = (-1 : Int32) → ((¬ (h 77 8) = 0 → j_X4_read_138 Q x1 h g) ∧ ((h 77 8) = 0 → (((h 77 6) ≤ 0 → j_X4_read_148 Q h g) ∧ (¬ (h 77 6) ≤ 0 → j_X4_read_138 Q x1 h g))))))
def j_X4_read_110 (Q : HI → HL → Prop) (K43 : Int32 → Int32 → HI → HL → Prop) (x1 : Int32) (x2 : Int32) (h : HI) (g : HL) : Prop :=
  (∀ x2_110 : Int32, x2_110 = (x2 + 1) → K43 x1 x2_110 h g)
def j_X4_read_93 (Q : HI → HL → Prop) (K43 : Int32 → Int32 → HI → HL → Prop) (x1 : Int32) (x2 : Int32) (x3 : Int32) (h : HI) (g : HL) : Prop :=
  (∀ h_95 : HI, h_95 = hu h 77 7 (0 : Int32) → ((x3 = (32 : Int32) → j_X4_read_110 Q K43 x1 x2 h_95 g) ∧ (¬ x3 = (32 : Int32) → (∃ P_107 : HI → HL → Prop, w_X4_readSign x3 x2 h_95 g P_107 ∧ ∀ (h_107 : HI) (g_107 : HL), P_107 h_107 g_107 → j_X4_read_110 Q K43 x1 x2 h_107 g_107))))
def b_X4_read_43 (Q : HI → HL → Prop) (K43 : Int32 → Int32 → HI → HL → Prop) (x1 : Int32) (x2 : Int32) (h : HI) (g : HL) : Prop :=
  ((x1 ≤ x2 → j_X4_read_116 Q x1 h g) ∧ (¬ x1 ≤ x2 → ((¬ (h 77 9) = (-1 : Int32) → j_X4_read_116 Q x1 h g) ∧ ((h 77 9) = (-1 : Int32) → (∃ P_65 : Int32 → HI → HL → Prop, w_X8_at 24 x2 (0 : Int32) h g P_65 ∧ ∀ (r_65 : Int32) (h_65 : HI) (g_65 : HL), P_65 r_65 h_65 g_65 → ((r_65 < (48 : Int32) → j_X4_read_93 Q K43 x1 x2 r_65 h_65 g_65) ∧ (¬ r_65 < (48 : Int32) → (((57 : Int32) < r_65 → j_X4_read_93 Q K43 x1 x2 r_65 h_65 g_65) ∧ (¬ (57 : Int32) < r_65 → (∃ P_87 : HI → HL → Prop, w_X4_readDigit (r_65 - (48 : Int32)) x2 h_65 g_65 P_87 ∧ ∀ (h_87 : HI) (g_87 : HL), P_87 h_87 g_87 → j_X4_read_110 Q K43 x1 x2 h_87 g_87))))))))))
def F_X4_read_43 (Q : HI → HL → Prop) (K : Int32 × Int32 × HI × HL → Prop) (q : Int32 × Int32 × HI × HL) : Prop := b_X4_read_43 Q (fun x1 x2 h g => K (x1, x2, h, g)) q.1 q.2.1 q.2.2.1 q.2.2.2
def w_X4_read  (h : HI) (g : HL) (Q : HI → HL → Prop) : Prop :=
  (∀ h_2 : HI, h_2 = hu h 77 4 (0 : Int32) → (∀ h_7 : HI, h_7 = hu h_2 77 5 (0 : Int32) → (∀ h_12 : HI, h_12 = hu h_7 77 6 (0 : Int32) → (∀ h_17 : HI, h_17 = hu h_12 77 7 (0 : Int32) → (∀ h_22 : HI, h_22 = hu h_17 77 8 (1 : Int32) → (∀ h_27 : HI, h_27 = hu h_22 77 9 (-1 : Int32) → (∃ P_37 : Int32 → HI → HL → Prop, w_X8_rows 24 h_27 g P_37 ∧ ∀ (r_37 : Int32) (h_37 : HI) (g_37 : HL), P_37 r_37 h_37 g_37 → lpE (F_X4_read_43 Q) (r_37, (0 : Int32), h_37, g_37))))))))
set_option maxHeartbeats 8000000 in
set_option maxRecDepth 100000 in
theorem m_X4_read (l : Launch) (D : va_G) (cy : Nat → ClassId) (ad : Nat → Nat) (h : HI) (g : HL) (sz : Nat)  (Q : HI → HL → Prop) (HW : w_X4_read h g Q) : Met l yX4_read (wa yX4_read cX4_read 4 none) ({ frames := 4, cells := 0, slots := 0, locals := 87 }) (va_Pc [.ref (ad 77)] (gI D cy ad h g sz)) (va_Qv (fun (u : HI × HL) => Q u.1 u.2) (gB D cy ad sz) (gA ad sz)) 0 0 (gA ad sz) := by
  refine Met.ofW (cc := cX4_read) (maxL := 4) (ret := none) (by decide) rfl ?_
  intro p e s m args below meth c s₁ B hml hv
  obtain ⟨hav, hsz, hP, hK, hD0, hNw⟩ := hv
  have hx := B.exec
  have hb := B.bytes
  have hr := B.returns
  have hts := atoms_spec (ws := (wa yX4_read cX4_read 4 none)) B.pre
  have hw := wa_hw hts
  have hown : s.vm.findClass RX4 = some m.cls := findClass_of_methodNamed B.named
  have hlocks := B.notSynchronized
  subst hsz
  have hG : gG D cy ad (gA ad s.heap.size) s.heap h g s.heap [] := ⟨hP, gA_self hD0, va_S.rf⟩
  clear hP hD0
  have lk30 := hw (.fieldLink RX4 30 "OldWorks$Law" "written" "I") (wm1 133 rfl rfl)
  have lk33 := hw (.fieldLink RX4 33 "OldWorks$Law" "waits" "I") (wm1 134 rfl rfl)
  have lk36 := hw (.fieldLink RX4 36 "OldWorks$Law" "open" "I") (wm1 135 rfl rfl)
  have lk39 := hw (.fieldLink RX4 39 "OldWorks$Law" "digits" "I") (wm1 136 rfl rfl)
  have lk42 := hw (.fieldLink RX4 42 "OldWorks$Law" "unitDue" "Z") (wm1 137 rfl rfl)
  have lk26 := hw (.fieldLink RX4 26 "OldWorks$Law" "flaw" "I") (wm1 138 rfl rfl)
  have lk22 := hw (.fieldLink RX4 22 "OldWorks$Law" "shop" "LOldWorks$Shop;") (wm1 129 rfl rfl)
  have lk46 := hw (.fieldLink RX4 46 "OldWorks$Shop" "signs" "LOldWorks$Table;") (wm1 96 rfl rfl)
  rw [show (headSpec (wa yX4_read cX4_read 4 none) ({ frames := 4, cells := 0, slots := 0, locals := 87 } : Room)).room = ({ frames := 4, cells := 0, slots := 0, locals := 87 } : Room) from rfl]
  have hl := lv_entry ([.ref (ad 77)]) (n := 4) (Nat.le_of_ble_eq_true rfl)
  rw [show entryFrame m args 4 = entryFrame m ([.ref (ad 77)] : List Value).toArray 4 from by rw [hav], lg_entry_eq]
  generalize (lg_sl ([.ref (ad 77)]) ++ List.replicate (4 - (lg_sl ([.ref (ad 77)])).length) Slot.unset).toArray = ls at hl ⊢
  have hl : lv_has ls 4 [(0, .ref (ad 77))] := hl
  have B148 : ∀ (h : HI) (g : HL) (H : Heap) (locs : List Loc) (ls : Array Slot), j_X4_read_148 Q h g → gG D cy ad (gA ad s.heap.size) s.heap h g H locs → lv_has ls 4 [(0, .ref (ad 77))] → W p l e ({ frames := 4, cells := 0, slots := 0, locals := 87 } : Room) s m args below meth c H locs 0 0 (MQ below (va_Qv (fun (u : HI × HL) => Q u.1 u.2) (gB D cy ad s.heap.size) (gA ad s.heap.size)) args s 0 0 (gA ad s.heap.size)) (F0 m 148 ls []) := by
    intro  h g H locs ls HW hG hl
    unfold j_X4_read_148 at HW
    refine lv_aload_n hx hb dX4_read_148 rfl (lv_at hl 0 rfl) ?_
    refine g_geti hx hb hw inG4 hown hK hG gl_77 rfl gk_77 (by decide) 9 (by decide) (by rw [gm_77]; decide) gr_77_9 lk26 dX4_read_149 ?_
    refine lv_iconst (v := (-1)) hx hb dX4_read_152 (by decide) ?_
    refine lv_icmp_ne (tgt := 161) hx hb dX4_read_153 (by decide) (fun c_153 => ?_) (fun c_153 => ?_)
    · replace HW := HW.1 c_153
      exact W.vret hx hb hr (fun t ht hW => ⟨⟨(h, g), rfl, HW, g_B ht hG⟩, hG.2.2.F ht⟩) hG.2.2.2.2 dX4_read_161
    · replace HW := HW.2 c_153
      refine lv_aload_n hx hb dX4_read_156 rfl (lv_at hl 0 rfl) ?_
      refine lv_iconst (v := 1) hx hb dX4_read_157 (by decide) ?_
      obtain ⟨P_158, HC_158, HW⟩ := HW
      refine g_callv (g_runV (As := [.int (1 : Int32)]) (rest := []) ⟨hx, hb, hml, hown, hts⟩ (m_X4_settle l D cy ad h g H.size (1 : Int32) P_158 HC_158) (cwV 1 hts (gd_V (wm3 8 rfl rfl) (wm3 10 rfl rfl) (wmp1 (q := (yX4_settle, 10)) 6 rfl) (wm1 4 rfl rfl) (wm3 11 rfl rfl)) rfl rfl rfl (by decide +kernel) ⟨Nat.le_of_ble_eq_true rfl, Nat.le_of_ble_eq_true rfl⟩) hK hNw hG gl_77 rfl gk_77 (by decide) rfl rfl hl.1 rfl (lv_room (Nat.le_of_ble_eq_true rfl)) dX4_read_158 ⟨Nat.zero_le _, Nat.zero_le _⟩) hG (fun h_158 g_158 H locs hq hG => ?_)
      replace HW := HW h_158 g_158 hq
      exact W.vret hx hb hr (fun t ht hW => ⟨⟨(h_158, g_158), rfl, HW, g_B ht hG⟩, hG.2.2.F ht⟩) hG.2.2.2.2 dX4_read_161
  have B138 : ∀ (x1 : Int32) (h : HI) (g : HL) (H : Heap) (locs : List Loc) (ls : Array Slot), j_X4_read_138 Q x1 h g → gG D cy ad (gA ad s.heap.size) s.heap h g H locs → lv_has ls 4 [(0, .ref (ad 77)), (1, .int x1)] → W p l e ({ frames := 4, cells := 0, slots := 0, locals := 87 } : Room) s m args below meth c H locs 0 0 (MQ below (va_Qv (fun (u : HI × HL) => Q u.1 u.2) (gB D cy ad s.heap.size) (gA ad s.heap.size)) args s 0 0 (gA ad s.heap.size)) (F0 m 138 ls []) := by
    intro x1 h g H locs ls HW hG hl
    unfold j_X4_read_138 at HW
    refine lv_aload_n hx hb dX4_read_138 rfl (lv_at hl 0 rfl) ?_
    refine lv_bipush (v := 10) hx hb dX4_read_139 (by decide) ?_
    refine lv_iload_n hx hb dX4_read_141 rfl (lv_at hl 1 rfl) ?_
    refine lv_imul hx hb dX4_read_142 ?_
    refine lv_iconst (v := 1) hx hb dX4_read_143 (by decide) ?_
    refine lv_iadd hx hb dX4_read_144 ?_
    refine g_put hx hb hw inG4 tyX4 tyX4_ok nmX4 hown hK hG gl_77 rfl gk_77 (by decide) 9 (by decide) (by rw [gm_77]; decide) gr_77_9 rfl (ty := .int) (by decide +kernel) rfl rfl lk26 dX4_read_145 (fun H locs hG => ?_)
    obtain ⟨h_145, eh_145⟩ : ∃ y : HI, y = hu h 77 9 (((10 : Int32) * x1) + (1 : Int32)) := ⟨_, rfl⟩
    rw [← eh_145] at hG
    replace HW := HW h_145 eh_145
    exact B148 h_145 g _ _ _ HW hG (lv_sub hl [0] rfl)
  have B116 : ∀ (x1 : Int32) (h : HI) (g : HL) (H : Heap) (locs : List Loc) (ls : Array Slot), j_X4_read_116 Q x1 h g → gG D cy ad (gA ad s.heap.size) s.heap h g H locs → lv_has ls 4 [(0, .ref (ad 77)), (1, .int x1)] → W p l e ({ frames := 4, cells := 0, slots := 0, locals := 87 } : Room) s m args below meth c H locs 0 0 (MQ below (va_Qv (fun (u : HI × HL) => Q u.1 u.2) (gB D cy ad s.heap.size) (gA ad s.heap.size)) args s 0 0 (gA ad s.heap.size)) (F0 m 116 ls []) := by
    intro x1 h g H locs ls HW hG hl
    unfold j_X4_read_116 at HW
    refine lv_aload_n hx hb dX4_read_116 rfl (lv_at hl 0 rfl) ?_
    refine g_geti hx hb hw inG4 hown hK hG gl_77 rfl gk_77 (by decide) 9 (by decide) (by rw [gm_77]; decide) gr_77_9 lk26 dX4_read_117 ?_
    refine lv_iconst (v := (-1)) hx hb dX4_read_120 (by decide) ?_
    refine lv_icmp_ne (tgt := 148) hx hb dX4_read_121 (by decide) (fun c_121 => ?_) (fun c_121 => ?_)
    · replace HW := HW.1 c_121
      exact B148 h g _ _ _ HW hG (lv_sub hl [0] rfl)
    · replace HW := HW.2 c_121
      refine lv_aload_n hx hb dX4_read_124 rfl (lv_at hl 0 rfl) ?_
      refine g_geti hx hb hw inG4 hown hK hG gl_77 rfl gk_77 (by decide) 8 (by decide) (by rw [gm_77]; decide) gr_77_8 lk42 dX4_read_125 ?_
      refine lv_if_ne (tgt := 138) hx hb dX4_read_128 (by decide) (fun c_128 => ?_) (fun c_128 => ?_)
      · replace HW := HW.1 c_128
        exact B138 x1 h g _ _ _ HW hG (lv_sub hl [0, 1] rfl)
      · replace HW := HW.2 c_128
        refine lv_aload_n hx hb dX4_read_131 rfl (lv_at hl 0 rfl) ?_
        refine g_geti hx hb hw inG4 hown hK hG gl_77 rfl gk_77 (by decide) 6 (by decide) (by rw [gm_77]; decide) gr_77_6 lk36 dX4_read_132 ?_
        refine lv_if_le (tgt := 148) hx hb dX4_read_135 (by decide) (fun c_135 => ?_) (fun c_135 => ?_)
        · replace HW := HW.1 c_135
          exact B148 h g _ _ _ HW hG (lv_sub hl [0] rfl)
        · replace HW := HW.2 c_135
          exact B138 x1 h g _ _ _ HW hG (lv_sub hl [0, 1] rfl)
  have B110 : ∀ (K43 : Int32 → Int32 → HI → HL → Prop) (hK43 : ∀ (x1 : Int32) (x2 : Int32) (h : HI) (g : HL) (H : Heap) (locs : List Loc) (ls : Array Slot), K43 x1 x2 h g → gG D cy ad (gA ad s.heap.size) s.heap h g H locs → lv_has ls 4 [(0, .ref (ad 77)), (1, .int x1), (2, .int x2)] → W p l e ({ frames := 4, cells := 0, slots := 0, locals := 87 } : Room) s m args below meth c H locs 0 0 (MQ below (va_Qv (fun (u : HI × HL) => Q u.1 u.2) (gB D cy ad s.heap.size) (gA ad s.heap.size)) args s 0 0 (gA ad s.heap.size)) (F0 m 43 ls [])) (x1 : Int32) (x2 : Int32) (h : HI) (g : HL) (H : Heap) (locs : List Loc) (ls : Array Slot), j_X4_read_110 Q K43 x1 x2 h g → gG D cy ad (gA ad s.heap.size) s.heap h g H locs → lv_has ls 4 [(0, .ref (ad 77)), (1, .int x1), (2, .int x2)] → W p l e ({ frames := 4, cells := 0, slots := 0, locals := 87 } : Room) s m args below meth c H locs 0 0 (MQ below (va_Qv (fun (u : HI × HL) => Q u.1 u.2) (gB D cy ad s.heap.size) (gA ad s.heap.size)) args s 0 0 (gA ad s.heap.size)) (F0 m 110 ls []) := by
    intro K43 hK43 x1 x2 h g H locs ls HW hG hl
    unfold j_X4_read_110 at HW
    obtain ⟨x2_110, ex2_110⟩ : ∃ y : Int32, y = (x2 + 1) := ⟨_, rfl⟩
    replace HW := HW x2_110 ex2_110
    refine lv_iinc (v := x2_110) (lv' := [(2, .int x2_110), (0, .ref (ad 77)), (1, .int x1)]) hx hb dX4_read_110 hl (k := 2) rfl (by rw [ex2_110]; rfl) (by decide) rfl (fun ls hl => ?_)
    refine lv_goto (tgt := 43) hx hb dX4_read_113 (by decide) ?_
    exact hK43 x1 x2_110 h g _ _ _ HW hG (lv_sub hl [1, 2, 0] rfl)
  have B93 : ∀ (K43 : Int32 → Int32 → HI → HL → Prop) (hK43 : ∀ (x1 : Int32) (x2 : Int32) (h : HI) (g : HL) (H : Heap) (locs : List Loc) (ls : Array Slot), K43 x1 x2 h g → gG D cy ad (gA ad s.heap.size) s.heap h g H locs → lv_has ls 4 [(0, .ref (ad 77)), (1, .int x1), (2, .int x2)] → W p l e ({ frames := 4, cells := 0, slots := 0, locals := 87 } : Room) s m args below meth c H locs 0 0 (MQ below (va_Qv (fun (u : HI × HL) => Q u.1 u.2) (gB D cy ad s.heap.size) (gA ad s.heap.size)) args s 0 0 (gA ad s.heap.size)) (F0 m 43 ls [])) (x1 : Int32) (x2 : Int32) (x3 : Int32) (h : HI) (g : HL) (H : Heap) (locs : List Loc) (ls : Array Slot), j_X4_read_93 Q K43 x1 x2 x3 h g → gG D cy ad (gA ad s.heap.size) s.heap h g H locs → lv_has ls 4 [(0, .ref (ad 77)), (1, .int x1), (2, .int x2), (3, .int x3)] → W p l e ({ frames := 4, cells := 0, slots := 0, locals := 87 } : Room) s m args below meth c H locs 0 0 (MQ below (va_Qv (fun (u : HI × HL) => Q u.1 u.2) (gB D cy ad s.heap.size) (gA ad s.heap.size)) args s 0 0 (gA ad s.heap.size)) (F0 m 93 ls []) := by
    intro K43 hK43 x1 x2 x3 h g H locs ls HW hG hl
    unfold j_X4_read_93 at HW
    refine lv_aload_n hx hb dX4_read_93 rfl (lv_at hl 0 rfl) ?_
    refine lv_iconst (v := 0) hx hb dX4_read_94 (by decide) ?_
    refine g_put hx hb hw inG4 tyX4 tyX4_ok nmX4 hown hK hG gl_77 rfl gk_77 (by decide) 7 (by decide) (by rw [gm_77]; decide) gr_77_7 rfl (ty := .int) (by decide +kernel) rfl rfl lk39 dX4_read_95 (fun H locs hG => ?_)
    obtain ⟨h_95, eh_95⟩ : ∃ y : HI, y = hu h 77 7 (0 : Int32) := ⟨_, rfl⟩
    rw [← eh_95] at hG
    replace HW := HW h_95 eh_95
    refine lv_iload_n hx hb dX4_read_98 rfl (lv_at hl 3 rfl) ?_
    refine lv_bipush (v := 32) hx hb dX4_read_99 (by decide) ?_
    refine lv_icmp_eq (tgt := 110) hx hb dX4_read_101 (by decide) (fun c_101 => ?_) (fun c_101 => ?_)
    · replace HW := HW.1 c_101
      exact B110 K43 hK43 x1 x2 h_95 g _ _ _ HW hG (lv_sub hl [0, 1, 2] rfl)
    · replace HW := HW.2 c_101
      refine lv_aload_n hx hb dX4_read_104 rfl (lv_at hl 0 rfl) ?_
      refine lv_iload_n hx hb dX4_read_105 rfl (lv_at hl 3 rfl) ?_
      refine lv_iload_n hx hb dX4_read_106 rfl (lv_at hl 2 rfl) ?_
      obtain ⟨P_107, HC_107, HW⟩ := HW
      refine g_callv (g_runV (As := [.int x3, .int x2]) (rest := []) ⟨hx, hb, hml, hown, hts⟩ (m_X4_readSign l D cy ad h_95 g H.size x3 x2 P_107 HC_107) (cwV 2 hts (gd_V (wm2 232 rfl rfl) (wm2 234 rfl rfl) (wmp1 (q := (yX4_readSign, 10)) 2 rfl) (wm1 4 rfl rfl) (wm2 235 rfl rfl)) rfl rfl rfl (by decide +kernel) ⟨Nat.le_of_ble_eq_true rfl, Nat.le_of_ble_eq_true rfl⟩) hK hNw hG gl_77 rfl gk_77 (by decide) rfl rfl hl.1 rfl (lv_room (Nat.le_of_ble_eq_true rfl)) dX4_read_107 ⟨Nat.zero_le _, Nat.zero_le _⟩) hG (fun h_107 g_107 H locs hq hG => ?_)
      replace HW := HW h_107 g_107 hq
      exact B110 K43 hK43 x1 x2 h_107 g_107 _ _ _ HW hG (lv_sub hl [0, 1, 2] rfl)
  have L43 : ∀ (n : Nat) (x1 : Int32) (x2 : Int32) (h : HI) (g : HL) (H : Heap) (locs : List Loc) (ls : Array Slot), lpN (F_X4_read_43 Q) n (x1, x2, h, g) → gG D cy ad (gA ad s.heap.size) s.heap h g H locs → lv_has ls 4 [(0, .ref (ad 77)), (1, .int x1), (2, .int x2)] → W p l e ({ frames := 4, cells := 0, slots := 0, locals := 87 } : Room) s m args below meth c H locs 0 0 (MQ below (va_Qv (fun (u : HI × HL) => Q u.1 u.2) (gB D cy ad s.heap.size) (gA ad s.heap.size)) args s 0 0 (gA ad s.heap.size)) (F0 m 43 ls []) := by
    intro n
    induction n with
    | zero => intro x1 x2 h g H locs ls HW; exact HW.elim
    | succ n ih =>
      intro x1 x2 h g H locs ls HW hG hl
      have HW : b_X4_read_43 Q (fun x1 x2 h g => lpN (F_X4_read_43 Q) n (x1, x2, h, g)) x1 x2 h g := HW
      generalize hKe : (fun (x1 : Int32) (x2 : Int32) (h : HI) (g : HL) => lpN (F_X4_read_43 Q) n (x1, x2, h, g)) = K43 at HW
      have hK43 : ∀ (x1 : Int32) (x2 : Int32) (h : HI) (g : HL) (H : Heap) (locs : List Loc) (ls : Array Slot), K43 x1 x2 h g → gG D cy ad (gA ad s.heap.size) s.heap h g H locs → lv_has ls 4 [(0, .ref (ad 77)), (1, .int x1), (2, .int x2)] → W p l e ({ frames := 4, cells := 0, slots := 0, locals := 87 } : Room) s m args below meth c H locs 0 0 (MQ below (va_Qv (fun (u : HI × HL) => Q u.1 u.2) (gB D cy ad s.heap.size) (gA ad s.heap.size)) args s 0 0 (gA ad s.heap.size)) (F0 m 43 ls []) := by subst hKe; exact ih
      clear ih
      clear hKe
      unfold b_X4_read_43 at HW
      refine lv_iload_n hx hb dX4_read_43 rfl (lv_at hl 2 rfl) ?_
      refine lv_iload_n hx hb dX4_read_44 rfl (lv_at hl 1 rfl) ?_
      refine lv_icmp_ge (tgt := 116) hx hb dX4_read_45 (by decide) (fun c_45 => ?_) (fun c_45 => ?_)
      · replace HW := HW.1 c_45
        exact B116 x1 h g _ _ _ HW hG (lv_sub hl [0, 1] rfl)
      · replace HW := HW.2 c_45
        refine lv_aload_n hx hb dX4_read_48 rfl (lv_at hl 0 rfl) ?_
        refine g_geti hx hb hw inG4 hown hK hG gl_77 rfl gk_77 (by decide) 9 (by decide) (by rw [gm_77]; decide) gr_77_9 lk26 dX4_read_49 ?_
        refine lv_iconst (v := (-1)) hx hb dX4_read_52 (by decide) ?_
        refine lv_icmp_ne (tgt := 116) hx hb dX4_read_53 (by decide) (fun c_53 => ?_) (fun c_53 => ?_)
        · replace HW := HW.1 c_53
          exact B116 x1 h g _ _ _ HW hG (lv_sub hl [0, 1] rfl)
        · replace HW := HW.2 c_53
          refine lv_aload_n hx hb dX4_read_56 rfl (lv_at hl 0 rfl) ?_
          refine g_getr hx hb hw inG4 hown hK hG gl_77 rfl gk_77 (by decide) 0 (by decide) (by rw [gm_77]; decide) (r := 1) gr_77_0 lk22 dX4_read_57 ?_
          refine g_getr hx hb hw inG6 hown hK hG gl_1 rfl gk_1 (by decide) 11 (by decide) (by rw [gm_1]; decide) (r := 24) gr_1_11 lk46 dX4_read_60 ?_
          refine lv_iload_n hx hb dX4_read_63 rfl (lv_at hl 2 rfl) ?_
          refine lv_iconst (v := 0) hx hb dX4_read_64 (by decide) ?_
          obtain ⟨P_65, HC_65, HW⟩ := HW
          refine g_calli (g_runV (As := [.int x2, .int (0 : Int32)]) (rest := []) ⟨hx, hb, hml, hown, hts⟩ (m_X8_at l D cy ad h g H.size 24 (gs_24) x2 (0 : Int32) P_65 HC_65) (cwV 2 hts (gd_V (wm2 220 rfl rfl) (wm2 221 rfl rfl) (wm2 222 rfl rfl) (wm1 3 rfl rfl) (wm2 223 rfl rfl)) rfl rfl rfl (by decide +kernel) ⟨Nat.le_of_ble_eq_true rfl, Nat.le_of_ble_eq_true rfl⟩) hK hNw hG gl_24 rfl gk_24 (by decide) rfl rfl hl.1 rfl (lv_room (Nat.le_of_ble_eq_true rfl)) dX4_read_65 ⟨Nat.zero_le _, Nat.zero_le _⟩) hG (fun r_65 h_65 g_65 H locs hq hG => ?_)
          replace HW := HW r_65 h_65 g_65 hq
          refine lv_istore_n (lv' := [(3, .int r_65), (0, .ref (ad 77)), (1, .int x1), (2, .int x2)]) hx hb dX4_read_68 rfl hl (by decide) rfl (fun ls hl => ?_)
          refine lv_bipush (v := 48) hx hb dX4_read_69 (by decide) ?_
          refine lv_iload_n hx hb dX4_read_71 rfl (lv_at hl 0 rfl) ?_
          refine lv_icmp_gt (tgt := 93) hx hb dX4_read_72 (by decide) (fun c_72 => ?_) (fun c_72 => ?_)
          · replace HW := HW.1 c_72
            exact B93 K43 hK43 x1 x2 r_65 h_65 g_65 _ _ _ HW hG (lv_sub hl [1, 2, 3, 0] rfl)
          · replace HW := HW.2 c_72
            refine lv_iload_n hx hb dX4_read_75 rfl (lv_at hl 0 rfl) ?_
            refine lv_bipush (v := 57) hx hb dX4_read_76 (by decide) ?_
            refine lv_icmp_gt (tgt := 93) hx hb dX4_read_78 (by decide) (fun c_78 => ?_) (fun c_78 => ?_)
            · replace HW := HW.1 c_78
              exact B93 K43 hK43 x1 x2 r_65 h_65 g_65 _ _ _ HW hG (lv_sub hl [1, 2, 3, 0] rfl)
            · replace HW := HW.2 c_78
              refine lv_aload_n hx hb dX4_read_81 rfl (lv_at hl 1 rfl) ?_
              refine lv_iload_n hx hb dX4_read_82 rfl (lv_at hl 0 rfl) ?_
              refine lv_bipush (v := 48) hx hb dX4_read_83 (by decide) ?_
              refine lv_isub hx hb dX4_read_85 ?_
              refine lv_iload_n hx hb dX4_read_86 rfl (lv_at hl 3 rfl) ?_
              obtain ⟨P_87, HC_87, HW⟩ := HW
              refine g_callv (g_runV (As := [.int (r_65 - (48 : Int32)), .int x2]) (rest := []) ⟨hx, hb, hml, hown, hts⟩ (m_X4_readDigit l D cy ad h_65 g_65 H.size (r_65 - (48 : Int32)) x2 P_87 HC_87) (cwV 2 hts (gd_V (wm2 224 rfl rfl) (wm2 226 rfl rfl) (wmp1 (q := (yX4_readDigit, 10)) 0 rfl) (wm1 4 rfl rfl) (wm2 227 rfl rfl)) rfl rfl rfl (by decide +kernel) ⟨Nat.le_of_ble_eq_true rfl, Nat.le_of_ble_eq_true rfl⟩) hK hNw hG gl_77 rfl gk_77 (by decide) rfl rfl hl.1 rfl (lv_room (Nat.le_of_ble_eq_true rfl)) dX4_read_87 ⟨Nat.zero_le _, Nat.zero_le _⟩) hG (fun h_87 g_87 H locs hq hG => ?_)
              replace HW := HW h_87 g_87 hq
              refine lv_goto (tgt := 110) hx hb dX4_read_90 (by decide) ?_
              exact B110 K43 hK43 x1 x2 h_87 g_87 _ _ _ HW hG (lv_sub hl [1, 2, 3] rfl)
  have E0 : ∀ (H : Heap) (locs : List Loc) (ls : Array Slot), gG D cy ad (gA ad s.heap.size) s.heap h g H locs → lv_has ls 4 [(0, .ref (ad 77))] → W p l e ({ frames := 4, cells := 0, slots := 0, locals := 87 } : Room) s m args below meth c H locs 0 0 (MQ below (va_Qv (fun (u : HI × HL) => Q u.1 u.2) (gB D cy ad s.heap.size) (gA ad s.heap.size)) args s 0 0 (gA ad s.heap.size)) (F0 m 0 ls []) := by
    intro H locs ls hG hl
    unfold w_X4_read at HW
    refine lv_aload_n hx hb dX4_read_0 rfl (lv_at hl 0 rfl) ?_
    refine lv_iconst (v := 0) hx hb dX4_read_1 (by decide) ?_
    refine g_put hx hb hw inG4 tyX4 tyX4_ok nmX4 hown hK hG gl_77 rfl gk_77 (by decide) 4 (by decide) (by rw [gm_77]; decide) gr_77_4 rfl (ty := .int) (by decide +kernel) rfl rfl lk30 dX4_read_2 (fun H locs hG => ?_)
    obtain ⟨h_2, eh_2⟩ : ∃ y : HI, y = hu h 77 4 (0 : Int32) := ⟨_, rfl⟩
    rw [← eh_2] at hG
    replace HW := HW h_2 eh_2
    refine lv_aload_n hx hb dX4_read_5 rfl (lv_at hl 0 rfl) ?_
    refine lv_iconst (v := 0) hx hb dX4_read_6 (by decide) ?_
    refine g_put hx hb hw inG4 tyX4 tyX4_ok nmX4 hown hK hG gl_77 rfl gk_77 (by decide) 5 (by decide) (by rw [gm_77]; decide) gr_77_5 rfl (ty := .int) (by decide +kernel) rfl rfl lk33 dX4_read_7 (fun H locs hG => ?_)
    obtain ⟨h_7, eh_7⟩ : ∃ y : HI, y = hu h_2 77 5 (0 : Int32) := ⟨_, rfl⟩
    rw [← eh_7] at hG
    replace HW := HW h_7 eh_7
    refine lv_aload_n hx hb dX4_read_10 rfl (lv_at hl 0 rfl) ?_
    refine lv_iconst (v := 0) hx hb dX4_read_11 (by decide) ?_
    refine g_put hx hb hw inG4 tyX4 tyX4_ok nmX4 hown hK hG gl_77 rfl gk_77 (by decide) 6 (by decide) (by rw [gm_77]; decide) gr_77_6 rfl (ty := .int) (by decide +kernel) rfl rfl lk36 dX4_read_12 (fun H locs hG => ?_)
    obtain ⟨h_12, eh_12⟩ : ∃ y : HI, y = hu h_7 77 6 (0 : Int32) := ⟨_, rfl⟩
    rw [← eh_12] at hG
    replace HW := HW h_12 eh_12
    refine lv_aload_n hx hb dX4_read_15 rfl (lv_at hl 0 rfl) ?_
    refine lv_iconst (v := 0) hx hb dX4_read_16 (by decide) ?_
    refine g_put hx hb hw inG4 tyX4 tyX4_ok nmX4 hown hK hG gl_77 rfl gk_77 (by decide) 7 (by decide) (by rw [gm_77]; decide) gr_77_7 rfl (ty := .int) (by decide +kernel) rfl rfl lk39 dX4_read_17 (fun H locs hG => ?_)
    obtain ⟨h_17, eh_17⟩ : ∃ y : HI, y = hu h_12 77 7 (0 : Int32) := ⟨_, rfl⟩
    rw [← eh_17] at hG
    replace HW := HW h_17 eh_17
    refine lv_aload_n hx hb dX4_read_20 rfl (lv_at hl 0 rfl) ?_
    refine lv_iconst (v := 1) hx hb dX4_read_21 (by decide) ?_
    refine g_put hx hb hw inG4 tyX4 tyX4_ok nmX4 hown hK hG gl_77 rfl gk_77 (by decide) 8 (by decide) (by rw [gm_77]; decide) gr_77_8 rfl (ty := .boolean) (by decide +kernel) rfl rfl lk42 dX4_read_22 (fun H locs hG => ?_)
    obtain ⟨h_22, eh_22⟩ : ∃ y : HI, y = hu h_17 77 8 (1 : Int32) := ⟨_, rfl⟩
    rw [← eh_22] at hG
    replace HW := HW h_22 eh_22
    refine lv_aload_n hx hb dX4_read_25 rfl (lv_at hl 0 rfl) ?_
    refine lv_iconst (v := (-1)) hx hb dX4_read_26 (by decide) ?_
    refine g_put hx hb hw inG4 tyX4 tyX4_ok nmX4 hown hK hG gl_77 rfl gk_77 (by decide) 9 (by decide) (by rw [gm_77]; decide) gr_77_9 rfl (ty := .int) (by decide +kernel) rfl rfl lk26 dX4_read_27 (fun H locs hG => ?_)
    obtain ⟨h_27, eh_27⟩ : ∃ y : HI, y = hu h_22 77 9 (-1 : Int32) := ⟨_, rfl⟩
    rw [← eh_27] at hG
    replace HW := HW h_27 eh_27
    refine lv_aload_n hx hb dX4_read_30 rfl (lv_at hl 0 rfl) ?_
    refine g_getr hx hb hw inG4 hown hK hG gl_77 rfl gk_77 (by decide) 0 (by decide) (by rw [gm_77]; decide) (r := 1) gr_77_0 lk22 dX4_read_31 ?_
    refine g_getr hx hb hw inG6 hown hK hG gl_1 rfl gk_1 (by decide) 11 (by decide) (by rw [gm_1]; decide) (r := 24) gr_1_11 lk46 dX4_read_34 ?_
    obtain ⟨P_37, HC_37, HW⟩ := HW
    refine g_calli (g_runV (As := []) (rest := []) ⟨hx, hb, hml, hown, hts⟩ (m_X8_rows l D cy ad h_27 g H.size 24 (gs_24) P_37 HC_37) (cwV 0 hts (gd_V (wm2 216 rfl rfl) (wm2 217 rfl rfl) (wm2 218 rfl rfl) (wm1 3 rfl rfl) (wm2 219 rfl rfl)) rfl rfl rfl (by decide +kernel) ⟨Nat.le_of_ble_eq_true rfl, Nat.le_of_ble_eq_true rfl⟩) hK hNw hG gl_24 rfl gk_24 (by decide) rfl rfl hl.1 rfl (lv_room (Nat.le_of_ble_eq_true rfl)) dX4_read_37 ⟨Nat.zero_le _, Nat.zero_le _⟩) hG (fun r_37 h_37 g_37 H locs hq hG => ?_)
    replace HW := HW r_37 h_37 g_37 hq
    refine lv_istore_n (lv' := [(1, .int r_37), (0, .ref (ad 77))]) hx hb dX4_read_40 rfl hl (by decide) rfl (fun ls hl => ?_)
    refine lv_iconst (v := 0) hx hb dX4_read_41 (by decide) ?_
    refine lv_istore_n (lv' := [(2, .int (0 : Int32)), (1, .int r_37), (0, .ref (ad 77))]) hx hb dX4_read_42 rfl hl (by decide) rfl (fun ls hl => ?_)
    obtain ⟨n_43, HW⟩ := HW
    exact L43 n_43 r_37 (0 : Int32) h_37 g_37 _ _ _ HW hG (lv_sub hl [2, 1, 0] rfl)
  exact E0 _ _ _ hG hl

def w_X5_knows (x0 : Int32) (x1 : Int32) (x2 : Int32) (h : HI) (g : HL) (Q : Int32 → HI → HL → Prop) : Prop :=
  ((¬ ((x0 >>> ((((4 : Int32) * x1) + x2) &&& 31)) &&& (1 : Int32)) = (1 : Int32) → Q (0 : Int32) h g) ∧ (((x0 >>> ((((4 : Int32) * x1) + x2) &&& 31)) &&& (1 : Int32)) = (1 : Int32) → Q (1 : Int32) h g))
set_option maxHeartbeats 8000000 in
set_option maxRecDepth 100000 in
theorem m_X5_knows (l : Launch) (D : va_G) (cy : Nat → ClassId) (ad : Nat → Nat) (h : HI) (g : HL) (sz : Nat) (x0 : Int32) (x1 : Int32) (x2 : Int32) (Q : Int32 → HI → HL → Prop) (HW : w_X5_knows x0 x1 x2 h g Q) : Met l yX5_knows (wa yX5_knows cX5_knows 3 (some .boolean)) ({ frames := 0, cells := 0, slots := 0, locals := 0 }) (va_Pc [.int x0, .int x1, .int x2] (gI D cy ad h g sz)) (va_Qi (fun (r : Int32) (u : HI × HL) => zb r ∧ Q r u.1 u.2) (gB D cy ad sz) (gA ad sz)) 0 0 (gA ad sz) := by
  refine Met.ofW (cc := cX5_knows) (maxL := 3) (ret := (some .boolean)) (by decide) rfl ?_
  intro p e s m args below meth c s₁ B hml hv
  obtain ⟨hav, hsz, hP, hK, hD0, hNw⟩ := hv
  have hx := B.exec
  have hb := B.bytes
  have hr := B.returns
  have hts := atoms_spec (ws := (wa yX5_knows cX5_knows 3 (some .boolean))) B.pre
  have hw := wa_hw hts
  have hown : s.vm.findClass RX5 = some m.cls := findClass_of_methodNamed B.named
  have hlocks := B.notSynchronized
  subst hsz
  have hG : gG D cy ad (gA ad s.heap.size) s.heap h g s.heap [] := ⟨hP, gA_self hD0, va_S.rf⟩
  clear hP hD0
  rw [show (headSpec (wa yX5_knows cX5_knows 3 (some .boolean)) ({ frames := 0, cells := 0, slots := 0, locals := 0 } : Room)).room = ({ frames := 0, cells := 0, slots := 0, locals := 0 } : Room) from rfl]
  have hl := lv_entry ([.int x0, .int x1, .int x2]) (n := 3) (Nat.le_of_ble_eq_true rfl)
  rw [show entryFrame m args 3 = entryFrame m ([.int x0, .int x1, .int x2] : List Value).toArray 3 from by rw [hav], lg_entry_eq]
  generalize (lg_sl ([.int x0, .int x1, .int x2]) ++ List.replicate (3 - (lg_sl ([.int x0, .int x1, .int x2])).length) Slot.unset).toArray = ls at hl ⊢
  have hl : lv_has ls 3 [(0, .int x0), (1, .int x1), (2, .int x2)] := hl
  have E0 : ∀ (H : Heap) (locs : List Loc) (ls : Array Slot), gG D cy ad (gA ad s.heap.size) s.heap h g H locs → lv_has ls 3 [(0, .int x0), (1, .int x1), (2, .int x2)] → W p l e ({ frames := 0, cells := 0, slots := 0, locals := 0 } : Room) s m args below meth c H locs 0 0 (MQ below (va_Qi (fun (r : Int32) (u : HI × HL) => zb r ∧ Q r u.1 u.2) (gB D cy ad s.heap.size) (gA ad s.heap.size)) args s 0 0 (gA ad s.heap.size)) (F0 m 0 ls []) := by
    intro H locs ls hG hl
    unfold w_X5_knows at HW
    refine lv_iload_n hx hb dX5_knows_0 rfl (lv_at hl 0 rfl) ?_
    refine lv_iconst (v := 4) hx hb dX5_knows_1 (by decide) ?_
    refine lv_iload_n hx hb dX5_knows_2 rfl (lv_at hl 1 rfl) ?_
    refine lv_imul hx hb dX5_knows_3 ?_
    refine lv_iload_n hx hb dX5_knows_4 rfl (lv_at hl 2 rfl) ?_
    refine lv_iadd hx hb dX5_knows_5 ?_
    refine lv_ishr hx hb dX5_knows_6 ?_
    refine lv_iconst (v := 1) hx hb dX5_knows_7 (by decide) ?_
    refine lv_iand hx hb dX5_knows_8 ?_
    refine lv_iconst (v := 1) hx hb dX5_knows_9 (by decide) ?_
    refine lv_icmp_ne (tgt := 17) hx hb dX5_knows_10 (by decide) (fun c_10 => ?_) (fun c_10 => ?_)
    · replace HW := HW.1 c_10
      refine lv_iconst (v := 0) hx hb dX5_knows_17 (by decide) ?_
      exact W.zret (v := (0 : Int32)) hx hb hr rfl (fun t ht hW => ⟨⟨(0 : Int32), (h, g), rfl, ⟨Or.inl rfl, HW⟩, g_B ht hG⟩, hG.2.2.F ht⟩) hG.2.2.2.2 dX5_knows_18
    · replace HW := HW.2 c_10
      refine lv_iconst (v := 1) hx hb dX5_knows_13 (by decide) ?_
      refine lv_goto (tgt := 18) hx hb dX5_knows_14 (by decide) ?_
      exact W.zret (v := (1 : Int32)) hx hb hr rfl (fun t ht hW => ⟨⟨(1 : Int32), (h, g), rfl, ⟨Or.inr rfl, HW⟩, g_B ht hG⟩, hG.2.2.F ht⟩) hG.2.2.2.2 dX5_knows_18
  exact E0 _ _ _ hG hl
end
