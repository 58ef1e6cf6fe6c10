section
-- 03.w09
def j_X9_look_131 (Q : HI → HL → Prop) (x2 : Int32) (x5 : Int32) (h : HI) (g : HL) : Prop :=
  (∀ h_137 : HI, h_137 = hu h 89 5 (x5 / (32768 : Int32)) → (∀ h_146 : HI, h_146 = hu h_137 89 4 (x5 - x5 / (32768 : Int32) * (32768 : Int32)) → (∀ h_151 : HI, h_151 = hu h_146 89 6 x2 → Q h_151 g)))
def j_X9_look_104 (Q : HI → HL → Prop) (x2 : Int32) (x5 : Int32) (h : HI) (g : HL) : Prop :=
  ((x5 = (-1 : Int32) → Q h g) ∧ (¬ x5 = (-1 : Int32) → (((h 89 5) = (-1 : Int32) → j_X9_look_131 Q x2 x5 h g) ∧ (¬ (h 89 5) = (-1 : Int32) → (((x5 / (32768 : Int32)) < (h 89 5) → j_X9_look_131 Q x2 x5 h g) ∧ (¬ (x5 / (32768 : Int32)) < (h 89 5) → Q h g))))))
def j_X9_look_98 (Q : HI → HL → Prop) (K16 : Int32 → Int32 → Int32 → Int32 → Int32 → Int32 → HI → HL → Prop) (x1 : Int32) (x2 : Int32) (x3 : Int32) (x4 : Int32) (x5 : Int32) (x6 : Int32) (h : HI) (g : HL) : Prop :=
  (∀ x6_98 : Int32, x6_98 = (x6 + 1) → K16 x1 x2 x3 x4 x5 x6_98 h g)
def j_X9_look_94 (Q : HI → HL → Prop) (K16 : Int32 → Int32 → Int32 → Int32 → Int32 → Int32 → HI → HL → Prop) (x1 : Int32) (x2 : Int32) (x3 : Int32) (x4 : Int32) (x6 : Int32) (x8 : Int32) (h : HI) (g : HL) : Prop :=
  j_X9_look_98 Q K16 x1 x2 x3 x4 x8 x6 h g
def b_X9_look_16 (Q : HI → HL → Prop) (K16 : Int32 → Int32 → Int32 → Int32 → Int32 → Int32 → HI → HL → Prop) (x1 : Int32) (x2 : Int32) (x3 : Int32) (x4 : Int32) (x5 : Int32) (x6 : Int32) (h : HI) (g : HL) : Prop :=
  (vp_in x1 2 ∧ (((h 96 x1.toNatClampNeg) ≤ x6 → j_X9_look_104 Q x2 x5 h g) ∧ (¬ (h 96 x1.toNatClampNeg) ≤ x6 → (((3000 : Int32) ≤ x6 → j_X9_look_104 Q x2 x5 h g) ∧ (¬ (3000 : Int32) ≤ x6 → (vp_in x1 2 ∧ (vp_in x6 3000 ∧ (∀ x7_44 : Int32, x7_44 = (h (94 + x1.toNatClampNeg) x6.toNatClampNeg) → (∃ P_61 : Int32 → HI → HL → Prop, w_X10_within x7_44 (if x3 < (1 : Int32) then (1 : Int32) else x3) (if (3000 : Int32) < x4 then (3000 : Int32) else x4) h g P_61 ∧ ∀ (r_61 : Int32) (h_61 : HI) (g_61 : HL), zb r_61 → P_61 r_61 h_61 g_61 → ((¬ r_61 = 0 → (vp_in x1 2 ∧ (vp_in x7_44 3001 ∧ (∀ x8_79 : Int32, x8_79 = (h_61 (91 + x1.toNatClampNeg) x7_44.toNatClampNeg) → ((x5 = (-1 : Int32) → j_X9_look_94 Q K16 x1 x2 x3 x4 x6 x8_79 h_61 g_61) ∧ (¬ x5 = (-1 : Int32) → ((x5 ≤ x8_79 → j_X9_look_98 Q K16 x1 x2 x3 x4 x5 x6 h_61 g_61) ∧ (¬ x5 ≤ x8_79 → j_X9_look_94 Q K16 x1 x2 x3 x4 x6 x8_79 h_61 g_61)))))))) ∧ (r_61 = 0 → j_X9_look_98 Q K16 x1 x2 x3 x4 x5 x6 h_61 g_61)))))))))))
def F_X9_look_16 (Q : HI → HL → Prop) (K : Int32 × Int32 × Int32 × Int32 × Int32 × Int32 × HI × HL → Prop) (q : Int32 × Int32 × Int32 × Int32 × Int32 × Int32 × HI × HL) : Prop := b_X9_look_16 Q (fun x1 x2 x3 x4 x5 x6 h g => K (x1, x2, x3, x4, x5, x6, h, g)) q.1 q.2.1 q.2.2.1 q.2.2.2.1 q.2.2.2.2.1 q.2.2.2.2.2.1 q.2.2.2.2.2.2.1 q.2.2.2.2.2.2.2
def w_X9_look (x1 : Int32) (x2 : Int32) (x3 : Int32) (x4 : Int32) (h : HI) (g : HL) (Q : HI → HL → Prop) : Prop :=
  (∃ P_3 : Int32 → HI → HL → Prop, w_X10_within x1 (0 : Int32) (1 : Int32) h g P_3 ∧ ∀ (r_3 : Int32) (h_3 : HI) (g_3 : HL), zb r_3 → P_3 r_3 h_3 g_3 → ((¬ r_3 = 0 → lpE (F_X9_look_16 Q) (x1, x2, x3, x4, (-1 : Int32), (0 : Int32), h_3, g_3)) ∧ (r_3 = 0 → Q h_3 g_3)))
set_option maxHeartbeats 8000000 in
set_option maxRecDepth 100000 in
theorem m_X9_look (l : Launch) (D : va_G) (cy : Nat → ClassId) (ad : Nat → Nat) (h : HI) (g : HL) (sz : Nat) (x1 : Int32) (x2 : Int32) (x3 : Int32) (x4 : Int32) (Q : HI → HL → Prop) (HW : w_X9_look x1 x2 x3 x4 h g Q) : Met l yX9_look (wa yX9_look cX9_look 9 none) ({ frames := 1, cells := 0, slots := 0, locals := 32 }) (va_Pc [.ref (ad 89), .int x1, .int x2, .int x3, .int x4] (gI D cy ad h g sz)) (va_Qv (fun (u : HI × HL) => Q u.1 u.2) (gB D cy ad sz) (gA ad sz)) 0 0 (gA ad sz) := by
  refine Met.ofW (cc := cX9_look) (maxL := 9) (ret := none) (by decide) rfl ?_
  intro p e s m args below meth c s₁ B hml hv
  obtain ⟨hav, hsz, hP, hK, hD0, hNw⟩ := hv
  have hx := B.exec
  have hb := B.bytes
  have hr := B.returns
  have hts := atoms_spec (ws := (wa yX9_look cX9_look 9 none)) B.pre
  have hw := wa_hw hts
  have hown : s.vm.findClass RX9 = some m.cls := findClass_of_methodNamed B.named
  have hlocks := B.notSynchronized
  subst hsz
  have hG : gG D cy ad (gA ad s.heap.size) s.heap h g s.heap [] := ⟨hP, gA_self hD0, va_S.rf⟩
  clear hP hD0
  have lk19 := hw (.fieldLink RX9 19 "OldWorks$Ways" "many" "[I") (wm2 22 rfl rfl)
  have lk16 := hw (.fieldLink RX9 16 "OldWorks$Ways" "reached" "[[I") (wm2 21 rfl rfl)
  have ml56 := hw (.methodLink RX9 56 Lib.Math.max.name) (wm3 195 rfl rfl)
  have ms56 := hw (.static Lib.Math.max.name) (wm3 45 rfl rfl)
  have mi56 := hw (.initialized "java/lang/Math") (wm1 14 rfl rfl)
  have mc56 := hw (.code Lib.Math.max.name Lib.Math.max.code 2 (some .int)) (wm3 46 rfl rfl)
  have ml62 := hw (.methodLink RX9 62 Lib.Math.min.name) (wm3 196 rfl rfl)
  have ms62 := hw (.static Lib.Math.min.name) (wm3 99 rfl rfl)
  have mi62 := hw (.initialized "java/lang/Math") (wm1 14 rfl rfl)
  have mc62 := hw (.code Lib.Math.min.name Lib.Math.min.code 2 (some .int)) (wm3 100 rfl rfl)
  have lk11 := hw (.fieldLink RX9 11 "OldWorks$Ways" "best" "[[I") (wm2 20 rfl rfl)
  have lk33 := hw (.fieldLink RX9 33 "OldWorks$Ways" "price" "I") (wm2 24 rfl rfl)
  have cn65 := hw (.constant RX9 65 (32768)) (wm3 197 rfl rfl)
  have lk66 := hw (.fieldLink RX9 66 "OldWorks$Ways" "row" "I") (wm2 23 rfl rfl)
  have lk69 := hw (.fieldLink RX9 69 "OldWorks$Ways" "steps" "I") (wm2 26 rfl rfl)
  rw [show (headSpec (wa yX9_look cX9_look 9 none) ({ frames := 1, cells := 0, slots := 0, locals := 32 } : Room)).room = ({ frames := 1, cells := 0, slots := 0, locals := 32 } : Room) from rfl]
  have hl := lv_entry ([.ref (ad 89), .int x1, .int x2, .int x3, .int x4]) (n := 9) (Nat.le_of_ble_eq_true rfl)
  rw [show entryFrame m args 9 = entryFrame m ([.ref (ad 89), .int x1, .int x2, .int x3, .int x4] : List Value).toArray 9 from by rw [hav], lg_entry_eq]
  generalize (lg_sl ([.ref (ad 89), .int x1, .int x2, .int x3, .int x4]) ++ List.replicate (9 - (lg_sl ([.ref (ad 89), .int x1, .int x2, .int x3, .int x4])).length) Slot.unset).toArray = ls at hl ⊢
  have hl : lv_has ls 9 [(0, .ref (ad 89)), (1, .int x1), (2, .int x2), (3, .int x3), (4, .int x4)] := hl
  have B131 : ∀ (x2 : Int32) (x5 : Int32) (h : HI) (g : HL) (H : Heap) (locs : List Loc) (ls : Array Slot), j_X9_look_131 Q x2 x5 h g → gG D cy ad (gA ad s.heap.size) s.heap h g H locs → lv_has ls 9 [(0, .ref (ad 89)), (2, .int x2), (5, .int x5)] → W p l e ({ frames := 1, cells := 0, slots := 0, locals := 32 } : Room) s m args below meth c H locs 0 0 (MQ below (va_Qv (fun (u : HI × HL) => Q u.1 u.2) (gB D cy ad s.heap.size) (gA ad s.heap.size)) args s 0 0 (gA ad s.heap.size)) (F0 m 131 ls []) := by
    intro x2 x5 h g H locs ls HW hG hl
    unfold j_X9_look_131 at HW
    refine lv_aload_n hx hb dX9_look_131 rfl (lv_at hl 0 rfl) ?_
    refine lv_iload hx hb dX9_look_132 (lv_at hl 2 rfl) ?_
    refine lv_ldc (v := 32768) hx hb hown cn65 dX9_look_134 ?_
    refine lv_idiv hx hb dX9_look_136 (by decide) ?_
    refine g_put hx hb hw inG9 tyX9 tyX9_ok nmX9 hown hK hG gl_89 rfl gk_89 (by decide) 5 (by decide) (by rw [gm_89]; decide) gr_89_5 rfl (ty := .int) (by decide +kernel) rfl rfl lk33 dX9_look_137 (fun H locs hG => ?_)
    obtain ⟨h_137, eh_137⟩ : ∃ y : HI, y = hu h 89 5 (x5 / (32768 : Int32)) := ⟨_, rfl⟩
    rw [← eh_137] at hG
    replace HW := HW h_137 eh_137
    refine lv_aload_n hx hb dX9_look_140 rfl (lv_at hl 0 rfl) ?_
    refine lv_iload hx hb dX9_look_141 (lv_at hl 2 rfl) ?_
    refine lv_ldc (v := 32768) hx hb hown cn65 dX9_look_143 ?_
    refine lv_irem hx hb dX9_look_145 (by decide) ?_
    refine g_put hx hb hw inG9 tyX9 tyX9_ok nmX9 hown hK hG gl_89 rfl gk_89 (by decide) 4 (by decide) (by rw [gm_89]; decide) gr_89_4 rfl (ty := .int) (by decide +kernel) rfl rfl lk66 dX9_look_146 (fun H locs hG => ?_)
    obtain ⟨h_146, eh_146⟩ : ∃ y : HI, y = hu h_137 89 4 (x5 - x5 / (32768 : Int32) * (32768 : Int32)) := ⟨_, rfl⟩
    rw [← eh_146] at hG
    replace HW := HW h_146 eh_146
    refine lv_aload_n hx hb dX9_look_149 rfl (lv_at hl 0 rfl) ?_
    refine lv_iload_n hx hb dX9_look_150 rfl (lv_at hl 1 rfl) ?_
    refine g_put hx hb hw inG9 tyX9 tyX9_ok nmX9 hown hK hG gl_89 rfl gk_89 (by decide) 6 (by decide) (by rw [gm_89]; decide) gr_89_6 rfl (ty := .int) (by decide +kernel) rfl rfl lk69 dX9_look_151 (fun H locs hG => ?_)
    obtain ⟨h_151, eh_151⟩ : ∃ y : HI, y = hu h_146 89 6 x2 := ⟨_, rfl⟩
    rw [← eh_151] at hG
    replace HW := HW h_151 eh_151
    exact W.vret hx hb hr (fun t ht hW => ⟨⟨(h_151, g), rfl, HW, g_B ht hG⟩, hG.2.2.F ht⟩) hG.2.2.2.2 dX9_look_154
  have B104 : ∀ (x2 : Int32) (x5 : Int32) (h : HI) (g : HL) (H : Heap) (locs : List Loc) (ls : Array Slot), j_X9_look_104 Q x2 x5 h g → gG D cy ad (gA ad s.heap.size) s.heap h g H locs → lv_has ls 9 [(0, .ref (ad 89)), (2, .int x2), (5, .int x5)] → W p l e ({ frames := 1, cells := 0, slots := 0, locals := 32 } : Room) s m args below meth c H locs 0 0 (MQ below (va_Qv (fun (u : HI × HL) => Q u.1 u.2) (gB D cy ad s.heap.size) (gA ad s.heap.size)) args s 0 0 (gA ad s.heap.size)) (F0 m 104 ls []) := by
    intro x2 x5 h g H locs ls HW hG hl
    unfold j_X9_look_104 at HW
    refine lv_iload hx hb dX9_look_104 (lv_at hl 2 rfl) ?_
    refine lv_iconst (v := (-1)) hx hb dX9_look_106 (by decide) ?_
    refine lv_icmp_eq (tgt := 130) hx hb dX9_look_107 (by decide) (fun c_107 => ?_) (fun c_107 => ?_)
    · replace HW := HW.1 c_107
      exact W.vret hx hb hr (fun t ht hW => ⟨⟨(h, g), rfl, HW, g_B ht hG⟩, hG.2.2.F ht⟩) hG.2.2.2.2 dX9_look_130
    · replace HW := HW.2 c_107
      refine lv_aload_n hx hb dX9_look_110 rfl (lv_at hl 0 rfl) ?_
      refine g_geti hx hb hw inG9 hown hK hG gl_89 rfl gk_89 (by decide) 5 (by decide) (by rw [gm_89]; decide) gr_89_5 lk33 dX9_look_111 ?_
      refine lv_iconst (v := (-1)) hx hb dX9_look_114 (by decide) ?_
      refine lv_icmp_eq (tgt := 131) hx hb dX9_look_115 (by decide) (fun c_115 => ?_) (fun c_115 => ?_)
      · replace HW := HW.1 c_115
        exact B131 x2 x5 h g _ _ _ HW hG (lv_sub hl [0, 1, 2] rfl)
      · replace HW := HW.2 c_115
        refine lv_aload_n hx hb dX9_look_118 rfl (lv_at hl 0 rfl) ?_
        refine g_geti hx hb hw inG9 hown hK hG gl_89 rfl gk_89 (by decide) 5 (by decide) (by rw [gm_89]; decide) gr_89_5 lk33 dX9_look_119 ?_
        refine lv_iload hx hb dX9_look_122 (lv_at hl 2 rfl) ?_
        refine lv_ldc (v := 32768) hx hb hown cn65 dX9_look_124 ?_
        refine lv_idiv hx hb dX9_look_126 (by decide) ?_
        refine lv_icmp_gt (tgt := 131) hx hb dX9_look_127 (by decide) (fun c_127 => ?_) (fun c_127 => ?_)
        · replace HW := HW.1 c_127
          exact B131 x2 x5 h g _ _ _ HW hG (lv_sub hl [0, 1, 2] rfl)
        · replace HW := HW.2 c_127
          exact W.vret hx hb hr (fun t ht hW => ⟨⟨(h, g), rfl, HW, g_B ht hG⟩, hG.2.2.F ht⟩) hG.2.2.2.2 dX9_look_130
  have B98 : ∀ (K16 : Int32 → Int32 → Int32 → Int32 → Int32 → Int32 → HI → HL → Prop) (hK16 : ∀ (x1 : Int32) (x2 : Int32) (x3 : Int32) (x4 : Int32) (x5 : Int32) (x6 : Int32) (h : HI) (g : HL) (H : Heap) (locs : List Loc) (ls : Array Slot), K16 x1 x2 x3 x4 x5 x6 h g → gG D cy ad (gA ad s.heap.size) s.heap h g H locs → lv_has ls 9 [(0, .ref (ad 89)), (1, .int x1), (2, .int x2), (3, .int x3), (4, .int x4), (5, .int x5), (6, .int x6)] → W p l e ({ frames := 1, cells := 0, slots := 0, locals := 32 } : Room) s m args below meth c H locs 0 0 (MQ below (va_Qv (fun (u : HI × HL) => Q u.1 u.2) (gB D cy ad s.heap.size) (gA ad s.heap.size)) args s 0 0 (gA ad s.heap.size)) (F0 m 16 ls [])) (x1 : Int32) (x2 : Int32) (x3 : Int32) (x4 : Int32) (x5 : Int32) (x6 : Int32) (h : HI) (g : HL) (H : Heap) (locs : List Loc) (ls : Array Slot), j_X9_look_98 Q K16 x1 x2 x3 x4 x5 x6 h g → gG D cy ad (gA ad s.heap.size) s.heap h g H locs → lv_has ls 9 [(0, .ref (ad 89)), (1, .int x1), (2, .int x2), (3, .int x3), (4, .int x4), (5, .int x5), (6, .int x6)] → W p l e ({ frames := 1, cells := 0, slots := 0, locals := 32 } : Room) s m args below meth c H locs 0 0 (MQ below (va_Qv (fun (u : HI × HL) => Q u.1 u.2) (gB D cy ad s.heap.size) (gA ad s.heap.size)) args s 0 0 (gA ad s.heap.size)) (F0 m 98 ls []) := by
    intro K16 hK16 x1 x2 x3 x4 x5 x6 h g H locs ls HW hG hl
    unfold j_X9_look_98 at HW
    obtain ⟨x6_98, ex6_98⟩ : ∃ y : Int32, y = (x6 + 1) := ⟨_, rfl⟩
    replace HW := HW x6_98 ex6_98
    refine lv_iinc (v := x6_98) (lv' := [(6, .int x6_98), (0, .ref (ad 89)), (1, .int x1), (2, .int x2), (3, .int x3), (4, .int x4), (5, .int x5)]) hx hb dX9_look_98 hl (k := 6) rfl (by rw [ex6_98]; rfl) (by decide) rfl (fun ls hl => ?_)
    refine lv_goto (tgt := 16) hx hb dX9_look_101 (by decide) ?_
    exact hK16 x1 x2 x3 x4 x5 x6_98 h g _ _ _ HW hG (lv_sub hl [1, 2, 3, 4, 5, 6, 0] rfl)
  have B94 : ∀ (K16 : Int32 → Int32 → Int32 → Int32 → Int32 → Int32 → HI → HL → Prop) (hK16 : ∀ (x1 : Int32) (x2 : Int32) (x3 : Int32) (x4 : Int32) (x5 : Int32) (x6 : Int32) (h : HI) (g : HL) (H : Heap) (locs : List Loc) (ls : Array Slot), K16 x1 x2 x3 x4 x5 x6 h g → gG D cy ad (gA ad s.heap.size) s.heap h g H locs → lv_has ls 9 [(0, .ref (ad 89)), (1, .int x1), (2, .int x2), (3, .int x3), (4, .int x4), (5, .int x5), (6, .int x6)] → W p l e ({ frames := 1, cells := 0, slots := 0, locals := 32 } : Room) s m args below meth c H locs 0 0 (MQ below (va_Qv (fun (u : HI × HL) => Q u.1 u.2) (gB D cy ad s.heap.size) (gA ad s.heap.size)) args s 0 0 (gA ad s.heap.size)) (F0 m 16 ls [])) (x1 : Int32) (x2 : Int32) (x3 : Int32) (x4 : Int32) (x6 : Int32) (x8 : Int32) (h : HI) (g : HL) (H : Heap) (locs : List Loc) (ls : Array Slot), j_X9_look_94 Q K16 x1 x2 x3 x4 x6 x8 h g → gG D cy ad (gA ad s.heap.size) s.heap h g H locs → lv_has ls 9 [(0, .ref (ad 89)), (1, .int x1), (2, .int x2), (3, .int x3), (4, .int x4), (6, .int x6), (8, .int x8)] → W p l e ({ frames := 1, cells := 0, slots := 0, locals := 32 } : Room) s m args below meth c H locs 0 0 (MQ below (va_Qv (fun (u : HI × HL) => Q u.1 u.2) (gB D cy ad s.heap.size) (gA ad s.heap.size)) args s 0 0 (gA ad s.heap.size)) (F0 m 94 ls []) := by
    intro K16 hK16 x1 x2 x3 x4 x6 x8 h g H locs ls HW hG hl
    unfold j_X9_look_94 at HW
    refine lv_iload hx hb dX9_look_94 (lv_at hl 6 rfl) ?_
    refine lv_istore (lv' := [(5, .int x8), (0, .ref (ad 89)), (1, .int x1), (2, .int x2), (3, .int x3), (4, .int x4), (6, .int x6), (8, .int x8)]) hx hb dX9_look_96 hl (by decide) rfl (fun ls hl => ?_)
    exact B98 K16 hK16 x1 x2 x3 x4 x8 x6 h g _ _ _ HW hG (lv_sub hl [1, 2, 3, 4, 5, 0, 6] rfl)
  have L16 : ∀ (n : Nat) (x1 : Int32) (x2 : Int32) (x3 : Int32) (x4 : Int32) (x5 : Int32) (x6 : Int32) (h : HI) (g : HL) (H : Heap) (locs : List Loc) (ls : Array Slot), lpN (F_X9_look_16 Q) n (x1, x2, x3, x4, x5, x6, h, g) → gG D cy ad (gA ad s.heap.size) s.heap h g H locs → lv_has ls 9 [(0, .ref (ad 89)), (1, .int x1), (2, .int x2), (3, .int x3), (4, .int x4), (5, .int x5), (6, .int x6)] → W p l e ({ frames := 1, cells := 0, slots := 0, locals := 32 } : Room) s m args below meth c H locs 0 0 (MQ below (va_Qv (fun (u : HI × HL) => Q u.1 u.2) (gB D cy ad s.heap.size) (gA ad s.heap.size)) args s 0 0 (gA ad s.heap.size)) (F0 m 16 ls []) := by
    intro n
    induction n with
    | zero => intro x1 x2 x3 x4 x5 x6 h g H locs ls HW; exact HW.elim
    | succ n ih =>
      intro x1 x2 x3 x4 x5 x6 h g H locs ls HW hG hl
      have HW : b_X9_look_16 Q (fun x1 x2 x3 x4 x5 x6 h g => lpN (F_X9_look_16 Q) n (x1, x2, x3, x4, x5, x6, h, g)) x1 x2 x3 x4 x5 x6 h g := HW
      generalize hKe : (fun (x1 : Int32) (x2 : Int32) (x3 : Int32) (x4 : Int32) (x5 : Int32) (x6 : Int32) (h : HI) (g : HL) => lpN (F_X9_look_16 Q) n (x1, x2, x3, x4, x5, x6, h, g)) = K16 at HW
      have hK16 : ∀ (x1 : Int32) (x2 : Int32) (x3 : Int32) (x4 : Int32) (x5 : Int32) (x6 : Int32) (h : HI) (g : HL) (H : Heap) (locs : List Loc) (ls : Array Slot), K16 x1 x2 x3 x4 x5 x6 h g → gG D cy ad (gA ad s.heap.size) s.heap h g H locs → lv_has ls 9 [(0, .ref (ad 89)), (1, .int x1), (2, .int x2), (3, .int x3), (4, .int x4), (5, .int x5), (6, .int x6)] → W p l e ({ frames := 1, cells := 0, slots := 0, locals := 32 } : Room) s m args below meth c H locs 0 0 (MQ below (va_Qv (fun (u : HI × HL) => Q u.1 u.2) (gB D cy ad s.heap.size) (gA ad s.heap.size)) args s 0 0 (gA ad s.heap.size)) (F0 m 16 ls []) := by subst hKe; exact ih
      clear ih
      clear hKe
      unfold b_X9_look_16 at HW
      refine lv_iload hx hb dX9_look_16 (lv_at hl 6 rfl) ?_
      refine lv_aload_n hx hb dX9_look_18 rfl (lv_at hl 0 rfl) ?_
      refine g_getr hx hb hw inG9 hown hK hG gl_89 rfl gk_89 (by decide) 3 (by decide) (by rw [gm_89]; decide) (r := 96) gr_89_3 lk19 dX9_look_19 ?_
      refine lv_iload_n hx hb dX9_look_22 rfl (lv_at hl 1 rfl) ?_
      refine g_iald hx hb hK hG gl_96 gk_96 gn_96 HW.1 dX9_look_23 ?_
      replace HW := HW.2
      refine lv_icmp_ge (tgt := 104) hx hb dX9_look_24 (by decide) (fun c_24 => ?_) (fun c_24 => ?_)
      · replace HW := HW.1 c_24
        exact B104 x2 x5 h g _ _ _ HW hG (lv_sub hl [0, 2, 5] rfl)
      · replace HW := HW.2 c_24
        refine lv_iload hx hb dX9_look_27 (lv_at hl 6 rfl) ?_
        refine lv_sipush (v := 3000) hx hb dX9_look_29 (by decide) ?_
        refine lv_icmp_ge (tgt := 104) hx hb dX9_look_32 (by decide) (fun c_32 => ?_) (fun c_32 => ?_)
        · replace HW := HW.1 c_32
          exact B104 x2 x5 h g _ _ _ HW hG (lv_sub hl [0, 2, 5] rfl)
        · replace HW := HW.2 c_32
          refine lv_aload_n hx hb dX9_look_35 rfl (lv_at hl 0 rfl) ?_
          refine g_getr hx hb hw inG9 hown hK hG gl_89 rfl gk_89 (by decide) 2 (by decide) (by rw [gm_89]; decide) (r := 93) gr_89_2 lk16 dX9_look_36 ?_
          refine lv_iload_n hx hb dX9_look_39 rfl (lv_at hl 1 rfl) ?_
          have hi_40 := vp_lt HW.1
          refine g_aald hx hb hK hG gl_93 gk_93 gn_93 HW.1 (go_93 _ hi_40).1 dX9_look_40 ?_
          replace HW := HW.2
          refine lv_iload hx hb dX9_look_41 (lv_at hl 6 rfl) ?_
          refine g_iald hx hb hK hG ((go_93 _ hi_40).2.2.1) ((go_93 _ hi_40).2.1) ((go_93 _ hi_40).2.2.2) HW.1 dX9_look_43 ?_
          replace HW := HW.2
          refine lv_topi (fun x7_44 ex7_44 => ?_)
          replace HW := HW x7_44 ex7_44
          refine lv_istore (lv' := [(7, .int x7_44), (0, .ref (ad 89)), (1, .int x1), (2, .int x2), (3, .int x3), (4, .int x4), (5, .int x5), (6, .int x6)]) hx hb dX9_look_44 hl (by decide) rfl (fun ls hl => ?_)
          refine lv_iload hx hb dX9_look_46 (lv_at hl 0 rfl) ?_
          refine lv_iload_n hx hb dX9_look_48 rfl (lv_at hl 4 rfl) ?_
          refine lv_iconst (v := 1) hx hb dX9_look_49 (by decide) ?_
          refine va_mmax hx hb (hml.trans hl.1.symm) hown ml56 ms56 mi56 mc56 (by decide) (Nat.le_of_ble_eq_true rfl) (Nat.zero_le _) (Nat.zero_le _) dX9_look_50 ?_
          refine lv_iload hx hb dX9_look_53 (lv_at hl 5 rfl) ?_
          refine lv_sipush (v := 3000) hx hb dX9_look_55 (by decide) ?_
          refine va_mmin hx hb (hml.trans hl.1.symm) hown ml62 ms62 mi62 mc62 (by decide) (Nat.le_of_ble_eq_true rfl) (Nat.zero_le _) (Nat.zero_le _) dX9_look_58 ?_
          obtain ⟨P_61, HC_61, HW⟩ := HW
          refine g_callz (g_runSN (As := [.int x7_44, .int (if x3 < (1 : Int32) then (1 : Int32) else x3), .int (if (3000 : Int32) < x4 then (3000 : Int32) else x4)]) (rest := []) ⟨hx, hb, hml, hown, hts⟩ (m_X10_within l D cy ad h g H.size x7_44 (if x3 < (1 : Int32) then (1 : Int32) else x3) (if (3000 : Int32) < x4 then (3000 : Int32) else x4) P_61 HC_61) ⟨va_cnB 3 hts (gd_w (wm2 195 rfl rfl)) rfl rfl rfl (hNw _ (List.mem_of_getElem? (i := 5) rfl)) (hw (.initialized RX10) (wm1 1 rfl rfl)) (by decide +kernel) ⟨Nat.le_of_ble_eq_true rfl, Nat.le_of_ble_eq_true rfl⟩, hw (.static yX10_within) (wm2 194 rfl rfl), trivial⟩ hK hNw hG rfl rfl hl.1 rfl (lv_room (Nat.le_of_ble_eq_true rfl)) dX9_look_61 ⟨Nat.zero_le _, Nat.zero_le _⟩) hG (fun r_61 h_61 g_61 H locs hz hq hG => ?_)
          replace HW := HW r_61 h_61 g_61 hz hq
          refine lv_if_ne (tgt := 70) hx hb dX9_look_64 (by decide) (fun c_64 => ?_) (fun c_64 => ?_)
          · replace HW := HW.1 c_64
            refine lv_aload_n hx hb dX9_look_70 rfl (lv_at hl 1 rfl) ?_
            refine g_getr hx hb hw inG9 hown hK hG gl_89 rfl gk_89 (by decide) 1 (by decide) (by rw [gm_89]; decide) (r := 90) gr_89_1 lk11 dX9_look_71 ?_
            refine lv_iload_n hx hb dX9_look_74 rfl (lv_at hl 2 rfl) ?_
            have hi_75 := vp_lt HW.1
            refine g_aald hx hb hK hG gl_90 gk_90 gn_90 HW.1 (go_90 _ hi_75).1 dX9_look_75 ?_
            replace HW := HW.2
            refine lv_iload hx hb dX9_look_76 (lv_at hl 0 rfl) ?_
            refine g_iald hx hb hK hG ((go_90 _ hi_75).2.2.1) ((go_90 _ hi_75).2.1) ((go_90 _ hi_75).2.2.2) HW.1 dX9_look_78 ?_
            replace HW := HW.2
            refine lv_topi (fun x8_79 ex8_79 => ?_)
            replace HW := HW x8_79 ex8_79
            refine lv_istore (lv' := [(8, .int x8_79), (7, .int x7_44), (0, .ref (ad 89)), (1, .int x1), (2, .int x2), (3, .int x3), (4, .int x4), (5, .int x5), (6, .int x6)]) hx hb dX9_look_79 hl (by decide) rfl (fun ls hl => ?_)
            refine lv_iload hx hb dX9_look_81 (lv_at hl 7 rfl) ?_
            refine lv_iconst (v := (-1)) hx hb dX9_look_83 (by decide) ?_
            refine lv_icmp_eq (tgt := 94) hx hb dX9_look_84 (by decide) (fun c_84 => ?_) (fun c_84 => ?_)
            · replace HW := HW.1 c_84
              exact B94 K16 hK16 x1 x2 x3 x4 x6 x8_79 h_61 g_61 _ _ _ HW hG (lv_sub hl [2, 3, 4, 5, 6, 8, 0] rfl)
            · replace HW := HW.2 c_84
              refine lv_iload hx hb dX9_look_87 (lv_at hl 0 rfl) ?_
              refine lv_iload hx hb dX9_look_89 (lv_at hl 7 rfl) ?_
              refine lv_icmp_ge (tgt := 98) hx hb dX9_look_91 (by decide) (fun c_91 => ?_) (fun c_91 => ?_)
              · replace HW := HW.1 c_91
                exact B98 K16 hK16 x1 x2 x3 x4 x5 x6 h_61 g_61 _ _ _ HW hG (lv_sub hl [2, 3, 4, 5, 6, 7, 8] rfl)
              · replace HW := HW.2 c_91
                exact B94 K16 hK16 x1 x2 x3 x4 x6 x8_79 h_61 g_61 _ _ _ HW hG (lv_sub hl [2, 3, 4, 5, 6, 8, 0] rfl)
          · replace HW := HW.2 c_64
            refine lv_goto (tgt := 98) hx hb dX9_look_67 (by decide) ?_
            exact B98 K16 hK16 x1 x2 x3 x4 x5 x6 h_61 g_61 _ _ _ HW hG (lv_sub hl [1, 2, 3, 4, 5, 6, 7] rfl)
  have E0 : ∀ (H : Heap) (locs : List Loc) (ls : Array Slot), gG D cy ad (gA ad s.heap.size) s.heap h g H locs → lv_has ls 9 [(0, .ref (ad 89)), (1, .int x1), (2, .int x2), (3, .int x3), (4, .int x4)] → W p l e ({ frames := 1, cells := 0, slots := 0, locals := 32 } : Room) s m args below meth c H locs 0 0 (MQ below (va_Qv (fun (u : HI × HL) => Q u.1 u.2) (gB D cy ad s.heap.size) (gA ad s.heap.size)) args s 0 0 (gA ad s.heap.size)) (F0 m 0 ls []) := by
    intro H locs ls hG hl
    unfold w_X9_look at HW
    refine lv_iload_n hx hb dX9_look_0 rfl (lv_at hl 1 rfl) ?_
    refine lv_iconst (v := 0) hx hb dX9_look_1 (by decide) ?_
    refine lv_iconst (v := 1) hx hb dX9_look_2 (by decide) ?_
    obtain ⟨P_3, HC_3, HW⟩ := HW
    refine g_callz (g_runSN (As := [.int x1, .int (0 : Int32), .int (1 : Int32)]) (rest := []) ⟨hx, hb, hml, hown, hts⟩ (m_X10_within l D cy ad h g H.size x1 (0 : Int32) (1 : Int32) P_3 HC_3) ⟨va_cnB 3 hts (gd_w (wm2 195 rfl rfl)) rfl rfl rfl (hNw _ (List.mem_of_getElem? (i := 5) rfl)) (hw (.initialized RX10) (wm1 1 rfl rfl)) (by decide +kernel) ⟨Nat.le_of_ble_eq_true rfl, Nat.le_of_ble_eq_true rfl⟩, hw (.static yX10_within) (wm2 194 rfl rfl), trivial⟩ hK hNw hG rfl rfl hl.1 rfl (lv_room (Nat.le_of_ble_eq_true rfl)) dX9_look_3 ⟨Nat.zero_le _, Nat.zero_le _⟩) hG (fun r_3 h_3 g_3 H locs hz hq hG => ?_)
    replace HW := HW r_3 h_3 g_3 hz hq
    refine lv_if_ne (tgt := 10) hx hb dX9_look_6 (by decide) (fun c_6 => ?_) (fun c_6 => ?_)
    · replace HW := HW.1 c_6
      refine lv_iconst (v := (-1)) hx hb dX9_look_10 (by decide) ?_
      refine lv_istore (lv' := [(5, .int (-1 : Int32)), (0, .ref (ad 89)), (1, .int x1), (2, .int x2), (3, .int x3), (4, .int x4)]) hx hb dX9_look_11 hl (by decide) rfl (fun ls hl => ?_)
      refine lv_iconst (v := 0) hx hb dX9_look_13 (by decide) ?_
      refine lv_istore (lv' := [(6, .int (0 : Int32)), (5, .int (-1 : Int32)), (0, .ref (ad 89)), (1, .int x1), (2, .int x2), (3, .int x3), (4, .int x4)]) hx hb dX9_look_14 hl (by decide) rfl (fun ls hl => ?_)
      obtain ⟨n_16, HW⟩ := HW
      exact L16 n_16 x1 x2 x3 x4 (-1 : Int32) (0 : Int32) h_3 g_3 _ _ _ HW hG (lv_sub hl [2, 3, 4, 5, 6, 1, 0] rfl)
    · replace HW := HW.2 c_6
      exact W.vret hx hb hr (fun t ht hW => ⟨⟨(h_3, g_3), rfl, HW, g_B ht hG⟩, hG.2.2.F ht⟩) hG.2.2.2.2 dX9_look_9
  exact E0 _ _ _ hG hl

def j_X9_spread_194 (Q : HI → HL → Prop) (K12 : Int32 → Int32 → HI → HL → Prop) (x1 : Int32) (x2 : Int32) (h : HI) (g : HL) : Prop :=
  (∀ x2_194 : Int32, x2_194 = (x2 + 1) → K12 x1 x2_194 h g)
def j_X9_spread_188 (Q : HI → HL → Prop) (K12 : Int32 → Int32 → HI → HL → Prop) (K79 : Int32 → Int32 → Int32 → Int32 → Int32 → Int32 → HI → HL → Prop) (x1 : Int32) (x2 : Int32) (x3 : Int32) (x5 : Int32) (x6 : Int32) (x7 : Int32) (h : HI) (g : HL) : Prop :=
  (∀ x7_188 : Int32, x7_188 = (x7 + 1) → K79 x1 x2 x3 x5 x6 x7_188 h g)
def b_X9_spread_79 (Q : HI → HL → Prop) (K12 : Int32 → Int32 → HI → HL → Prop) (K79 : Int32 → Int32 → Int32 → Int32 → Int32 → Int32 → HI → HL → Prop) (x1 : Int32) (x2 : Int32) (x3 : Int32) (x5 : Int32) (x6 : Int32) (x7 : Int32) (h : HI) (g : HL) : Prop :=
  (∃ P_88 : Int32 → HI → HL → Prop, w_X8_rows 10 h g P_88 ∧ ∀ (r_88 : Int32) (h_88 : HI) (g_88 : HL), P_88 r_88 h_88 g_88 → ((r_88 ≤ x7 → j_X9_spread_194 Q K12 x1 x2 h_88 g_88) ∧ (¬ r_88 ≤ x7 → (∃ P_105 : Int32 → HI → HL → Prop, w_X8_at 10 x7 (2 : Int32) h_88 g_88 P_105 ∧ ∀ (r_105 : Int32) (h_105 : HI) (g_105 : HL), P_105 r_105 h_105 g_105 → ((r_105 ≤ x3 → (∃ P_125 : Int32 → HI → HL → Prop, w_X8_at 10 x7 (3 : Int32) h_105 g_105 P_125 ∧ ∀ (r_125 : Int32) (h_125 : HI) (g_125 : HL), P_125 r_125 h_125 g_125 → ((x3 ≤ r_125 → (∃ P_146 : Int32 → HI → HL → Prop, w_X8_at 10 x7 (1 : Int32) h_125 g_125 P_146 ∧ ∀ (r_146 : Int32) (h_146 : HI) (g_146 : HL), P_146 r_146 h_146 g_146 → (∀ x8_150 : Int32, x8_150 = (x5 + r_146) → (∃ P_167 : Int32 → HI → HL → Prop, w_X8_at 10 x7 (0 : Int32) h_146 g_146 P_167 ∧ ∀ (r_167 : Int32) (h_167 : HI) (g_167 : HL), P_167 r_167 h_167 g_167 → (∃ P_185 : HI → HL → Prop, w_X9_reach ((1 : Int32) - x1) (x3 + r_167) (((x8_150 * (32768 : Int32)) + (x6 * (8 : Int32))) + x7) h_167 g_167 P_185 ∧ ∀ (h_185 : HI) (g_185 : HL), P_185 h_185 g_185 → j_X9_spread_188 Q K12 K79 x1 x2 x3 x5 x6 x7 h_185 g_185))))) ∧ (¬ x3 ≤ r_125 → j_X9_spread_188 Q K12 K79 x1 x2 x3 x5 x6 x7 h_125 g_125)))) ∧ (¬ r_105 ≤ x3 → j_X9_spread_188 Q K12 K79 x1 x2 x3 x5 x6 x7 h_105 g_105))))))
def F_X9_spread_79 (Q : HI → HL → Prop) (K12 : Int32 → Int32 → HI → HL → Prop) (K : Int32 × Int32 × Int32 × Int32 × Int32 × Int32 × HI × HL → Prop) (q : Int32 × Int32 × Int32 × Int32 × Int32 × Int32 × HI × HL) : Prop := b_X9_spread_79 Q K12 (fun x1 x2 x3 x5 x6 x7 h g => K (x1, x2, x3, x5, x6, x7, h, g)) q.1 q.2.1 q.2.2.1 q.2.2.2.1 q.2.2.2.2.1 q.2.2.2.2.2.1 q.2.2.2.2.2.2.1 q.2.2.2.2.2.2.2
def b_X9_spread_12 (Q : HI → HL → Prop) (K12 : Int32 → Int32 → HI → HL → Prop) (x1 : Int32) (x2 : Int32) (h : HI) (g : HL) : Prop :=
  (vp_in x1 2 ∧ (((h 96 x1.toNatClampNeg) ≤ x2 → Q h g) ∧ (¬ (h 96 x1.toNatClampNeg) ≤ x2 → (((3000 : Int32) ≤ x2 → Q h g) ∧ (¬ (3000 : Int32) ≤ x2 → (vp_in x1 2 ∧ (vp_in x2 3000 ∧ (∀ x3_37 : Int32, x3_37 = (h (94 + x1.toNatClampNeg) x2.toNatClampNeg) → (∃ P_43 : Int32 → HI → HL → Prop, w_X10_within x3_37 (1 : Int32) (3000 : Int32) h g P_43 ∧ ∀ (r_43 : Int32) (h_43 : HI) (g_43 : HL), zb r_43 → P_43 r_43 h_43 g_43 → ((¬ r_43 = 0 → (vp_in x1 2 ∧ (vp_in x3_37 3001 ∧ (∀ x4_60 : Int32, x4_60 = (h_43 (91 + x1.toNatClampNeg) x3_37.toNatClampNeg) → (∀ x5_67 : Int32, x5_67 = (x4_60 / (32768 : Int32)) → (∀ x6_74 : Int32, x6_74 = (x4_60 - x4_60 / (32768 : Int32) * (32768 : Int32)) → lpE (F_X9_spread_79 Q K12) (x1, x2, x3_37, x5_67, x6_74, (0 : Int32), h_43, g_43))))))) ∧ (r_43 = 0 → j_X9_spread_194 Q K12 x1 x2 h_43 g_43)))))))))))
def F_X9_spread_12 (Q : HI → HL → Prop) (K : Int32 × Int32 × HI × HL → Prop) (q : Int32 × Int32 × HI × HL) : Prop := b_X9_spread_12 Q (fun x1 x2 h g => K (x1, x2, h, g)) q.1 q.2.1 q.2.2.1 q.2.2.2
def w_X9_spread (x1 : Int32) (h : HI) (g : HL) (Q : HI → HL → Prop) : Prop :=
  (∃ P_3 : Int32 → HI → HL → Prop, w_X10_within x1 (0 : Int32) (1 : Int32) h g P_3 ∧ ∀ (r_3 : Int32) (h_3 : HI) (g_3 : HL), zb r_3 → P_3 r_3 h_3 g_3 → ((¬ r_3 = 0 → lpE (F_X9_spread_12 Q) (x1, (0 : Int32), h_3, g_3)) ∧ (r_3 = 0 → Q h_3 g_3)))
set_option maxHeartbeats 8000000 in
set_option maxRecDepth 100000 in
theorem m_X9_spread (l : Launch) (D : va_G) (cy : Nat → ClassId) (ad : Nat → Nat) (h : HI) (g : HL) (sz : Nat) (x1 : Int32) (Q : HI → HL → Prop) (HW : w_X9_spread x1 h g Q) : Met l yX9_spread (wa yX9_spread cX9_spread 9 none) ({ frames := 2, cells := 0, slots := 0, locals := 45 }) (va_Pc [.ref (ad 89), .int x1] (gI D cy ad h g sz)) (va_Qv (fun (u : HI × HL) => Q u.1 u.2) (gB D cy ad sz) (gA ad sz)) 0 0 (gA ad sz) := by
  refine Met.ofW (cc := cX9_spread) (maxL := 9) (ret := none) (by decide) rfl ?_
  intro p e s m args below meth c s₁ B hml hv
  obtain ⟨hav, hsz, hP, hK, hD0, hNw⟩ := hv
  have hx := B.exec
  have hb := B.bytes
  have hr := B.returns
  have hts := atoms_spec (ws := (wa yX9_spread cX9_spread 9 none)) B.pre
  have hw := wa_hw hts
  have hown : s.vm.findClass RX9 = some m.cls := findClass_of_methodNamed B.named
  have hlocks := B.notSynchronized
  subst hsz
  have hG : gG D cy ad (gA ad s.heap.size) s.heap h g s.heap [] := ⟨hP, gA_self hD0, va_S.rf⟩
  clear hP hD0
  have lk19 := hw (.fieldLink RX9 19 "OldWorks$Ways" "many" "[I") (wm2 22 rfl rfl)
  have lk16 := hw (.fieldLink RX9 16 "OldWorks$Ways" "reached" "[[I") (wm2 21 rfl rfl)
  have lk11 := hw (.fieldLink RX9 11 "OldWorks$Ways" "best" "[[I") (wm2 20 rfl rfl)
  have cn65 := hw (.constant RX9 65 (32768)) (wm3 197 rfl rfl)
  have lk23 := hw (.fieldLink RX9 23 "OldWorks$Ways" "shop" "LOldWorks$Shop;") (wm2 19 rfl rfl)
  have lk72 := hw (.fieldLink RX9 72 "OldWorks$Shop" "works" "LOldWorks$Table;") (wm1 75 rfl rfl)
  rw [show (headSpec (wa yX9_spread cX9_spread 9 none) ({ frames := 2, cells := 0, slots := 0, locals := 45 } : Room)).room = ({ frames := 2, cells := 0, slots := 0, locals := 45 } : Room) from rfl]
  have hl := lv_entry ([.ref (ad 89), .int x1]) (n := 9) (Nat.le_of_ble_eq_true rfl)
  rw [show entryFrame m args 9 = entryFrame m ([.ref (ad 89), .int x1] : List Value).toArray 9 from by rw [hav], lg_entry_eq]
  generalize (lg_sl ([.ref (ad 89), .int x1]) ++ List.replicate (9 - (lg_sl ([.ref (ad 89), .int x1])).length) Slot.unset).toArray = ls at hl ⊢
  have hl : lv_has ls 9 [(0, .ref (ad 89)), (1, .int x1)] := hl
  have B194 : ∀ (K12 : Int32 → Int32 → HI → HL → Prop) (hK12 : ∀ (x1 : Int32) (x2 : Int32) (h : HI) (g : HL) (H : Heap) (locs : List Loc) (ls : Array Slot), K12 x1 x2 h g → gG D cy ad (gA ad s.heap.size) s.heap h g H locs → lv_has ls 9 [(0, .ref (ad 89)), (1, .int x1), (2, .int x2)] → W p l e ({ frames := 2, cells := 0, slots := 0, locals := 45 } : Room) s m args below meth c H locs 0 0 (MQ below (va_Qv (fun (u : HI × HL) => Q u.1 u.2) (gB D cy ad s.heap.size) (gA ad s.heap.size)) args s 0 0 (gA ad s.heap.size)) (F0 m 12 ls [])) (x1 : Int32) (x2 : Int32) (h : HI) (g : HL) (H : Heap) (locs : List Loc) (ls : Array Slot), j_X9_spread_194 Q K12 x1 x2 h g → gG D cy ad (gA ad s.heap.size) s.heap h g H locs → lv_has ls 9 [(0, .ref (ad 89)), (1, .int x1), (2, .int x2)] → W p l e ({ frames := 2, cells := 0, slots := 0, locals := 45 } : Room) s m args below meth c H locs 0 0 (MQ below (va_Qv (fun (u : HI × HL) => Q u.1 u.2) (gB D cy ad s.heap.size) (gA ad s.heap.size)) args s 0 0 (gA ad s.heap.size)) (F0 m 194 ls []) := by
    intro K12 hK12 x1 x2 h g H locs ls HW hG hl
    unfold j_X9_spread_194 at HW
    obtain ⟨x2_194, ex2_194⟩ : ∃ y : Int32, y = (x2 + 1) := ⟨_, rfl⟩
    replace HW := HW x2_194 ex2_194
    refine lv_iinc (v := x2_194) (lv' := [(2, .int x2_194), (0, .ref (ad 89)), (1, .int x1)]) hx hb dX9_spread_194 hl (k := 2) rfl (by rw [ex2_194]; rfl) (by decide) rfl (fun ls hl => ?_)
    refine lv_goto (tgt := 12) hx hb dX9_spread_197 (by decide) ?_
    exact hK12 x1 x2_194 h g _ _ _ HW hG (lv_sub hl [1, 2, 0] rfl)
  have B188 : ∀ (K12 : Int32 → Int32 → HI → HL → Prop) (hK12 : ∀ (x1 : Int32) (x2 : Int32) (h : HI) (g : HL) (H : Heap) (locs : List Loc) (ls : Array Slot), K12 x1 x2 h g → gG D cy ad (gA ad s.heap.size) s.heap h g H locs → lv_has ls 9 [(0, .ref (ad 89)), (1, .int x1), (2, .int x2)] → W p l e ({ frames := 2, cells := 0, slots := 0, locals := 45 } : Room) s m args below meth c H locs 0 0 (MQ below (va_Qv (fun (u : HI × HL) => Q u.1 u.2) (gB D cy ad s.heap.size) (gA ad s.heap.size)) args s 0 0 (gA ad s.heap.size)) (F0 m 12 ls [])) (K79 : Int32 → Int32 → Int32 → Int32 → Int32 → Int32 → HI → HL → Prop) (hK79 : ∀ (x1 : Int32) (x2 : Int32) (x3 : Int32) (x5 : Int32) (x6 : Int32) (x7 : Int32) (h : HI) (g : HL) (H : Heap) (locs : List Loc) (ls : Array Slot), K79 x1 x2 x3 x5 x6 x7 h g → gG D cy ad (gA ad s.heap.size) s.heap h g H locs → lv_has ls 9 [(0, .ref (ad 89)), (1, .int x1), (2, .int x2), (3, .int x3), (5, .int x5), (6, .int x6), (7, .int x7)] → W p l e ({ frames := 2, cells := 0, slots := 0, locals := 45 } : Room) s m args below meth c H locs 0 0 (MQ below (va_Qv (fun (u : HI × HL) => Q u.1 u.2) (gB D cy ad s.heap.size) (gA ad s.heap.size)) args s 0 0 (gA ad s.heap.size)) (F0 m 79 ls [])) (x1 : Int32) (x2 : Int32) (x3 : Int32) (x5 : Int32) (x6 : Int32) (x7 : Int32) (h : HI) (g : HL) (H : Heap) (locs : List Loc) (ls : Array Slot), j_X9_spread_188 Q K12 K79 x1 x2 x3 x5 x6 x7 h g → gG D cy ad (gA ad s.heap.size) s.heap h g H locs → lv_has ls 9 [(0, .ref (ad 89)), (1, .int x1), (2, .int x2), (3, .int x3), (5, .int x5), (6, .int x6), (7, .int x7)] → W p l e ({ frames := 2, cells := 0, slots := 0, locals := 45 } : Room) s m args below meth c H locs 0 0 (MQ below (va_Qv (fun (u : HI × HL) => Q u.1 u.2) (gB D cy ad s.heap.size) (gA ad s.heap.size)) args s 0 0 (gA ad s.heap.size)) (F0 m 188 ls []) := by
    intro K12 hK12 K79 hK79 x1 x2 x3 x5 x6 x7 h g H locs ls HW hG hl
    unfold j_X9_spread_188 at HW
    obtain ⟨x7_188, ex7_188⟩ : ∃ y : Int32, y = (x7 + 1) := ⟨_, rfl⟩
    replace HW := HW x7_188 ex7_188
    refine lv_iinc (v := x7_188) (lv' := [(7, .int x7_188), (0, .ref (ad 89)), (1, .int x1), (2, .int x2), (3, .int x3), (5, .int x5), (6, .int x6)]) hx hb dX9_spread_188 hl (k := 6) rfl (by rw [ex7_188]; rfl) (by decide) rfl (fun ls hl => ?_)
    refine lv_goto (tgt := 79) hx hb dX9_spread_191 (by decide) ?_
    exact hK79 x1 x2 x3 x5 x6 x7_188 h g _ _ _ HW hG (lv_sub hl [1, 2, 3, 4, 5, 6, 0] rfl)
  have L79 : ∀ (K12 : Int32 → Int32 → HI → HL → Prop) (hK12 : ∀ (x1 : Int32) (x2 : Int32) (h : HI) (g : HL) (H : Heap) (locs : List Loc) (ls : Array Slot), K12 x1 x2 h g → gG D cy ad (gA ad s.heap.size) s.heap h g H locs → lv_has ls 9 [(0, .ref (ad 89)), (1, .int x1), (2, .int x2)] → W p l e ({ frames := 2, cells := 0, slots := 0, locals := 45 } : Room) s m args below meth c H locs 0 0 (MQ below (va_Qv (fun (u : HI × HL) => Q u.1 u.2) (gB D cy ad s.heap.size) (gA ad s.heap.size)) args s 0 0 (gA ad s.heap.size)) (F0 m 12 ls [])) (n : Nat) (x1 : Int32) (x2 : Int32) (x3 : Int32) (x5 : Int32) (x6 : Int32) (x7 : Int32) (h : HI) (g : HL) (H : Heap) (locs : List Loc) (ls : Array Slot), lpN (F_X9_spread_79 Q K12) n (x1, x2, x3, x5, x6, x7, h, g) → gG D cy ad (gA ad s.heap.size) s.heap h g H locs → lv_has ls 9 [(0, .ref (ad 89)), (1, .int x1), (2, .int x2), (3, .int x3), (5, .int x5), (6, .int x6), (7, .int x7)] → W p l e ({ frames := 2, cells := 0, slots := 0, locals := 45 } : Room) s m args below meth c H locs 0 0 (MQ below (va_Qv (fun (u : HI × HL) => Q u.1 u.2) (gB D cy ad s.heap.size) (gA ad s.heap.size)) args s 0 0 (gA ad s.heap.size)) (F0 m 79 ls []) := by
    intro K12 hK12 n
    induction n with
    | zero => intro x1 x2 x3 x5 x6 x7 h g H locs ls HW; exact HW.elim
    | succ n ih =>
      intro x1 x2 x3 x5 x6 x7 h g H locs ls HW hG hl
      have HW : b_X9_spread_79 Q K12 (fun x1 x2 x3 x5 x6 x7 h g => lpN (F_X9_spread_79 Q K12) n (x1, x2, x3, x5, x6, x7, h, g)) x1 x2 x3 x5 x6 x7 h g := HW
      generalize hKe : (fun (x1 : Int32) (x2 : Int32) (x3 : Int32) (x5 : Int32) (x6 : Int32) (x7 : Int32) (h : HI) (g : HL) => lpN (F_X9_spread_79 Q K12) n (x1, x2, x3, x5, x6, x7, h, g)) = K79 at HW
      have hK79 : ∀ (x1 : Int32) (x2 : Int32) (x3 : Int32) (x5 : Int32) (x6 : Int32) (x7 : Int32) (h : HI) (g : HL) (H : Heap) (locs : List Loc) (ls : Array Slot), K79 x1 x2 x3 x5 x6 x7 h g → gG D cy ad (gA ad s.heap.size) s.heap h g H locs → lv_has ls 9 [(0, .ref (ad 89)), (1, .int x1), (2, .int x2), (3, .int x3), (5, .int x5), (6, .int x6), (7, .int x7)] → W p l e ({ frames := 2, cells := 0, slots := 0, locals := 45 } : Room) s m args below meth c H locs 0 0 (MQ below (va_Qv (fun (u : HI × HL) => Q u.1 u.2) (gB D cy ad s.heap.size) (gA ad s.heap.size)) args s 0 0 (gA ad s.heap.size)) (F0 m 79 ls []) := by subst hKe; exact ih
      clear ih
      clear hKe
      unfold b_X9_spread_79 at HW
      refine lv_iload hx hb dX9_spread_79 (lv_at hl 6 rfl) ?_
      refine lv_aload_n hx hb dX9_spread_81 rfl (lv_at hl 0 rfl) ?_
      refine g_getr hx hb hw inG9 hown hK hG gl_89 rfl gk_89 (by decide) 0 (by decide) (by rw [gm_89]; decide) (r := 1) gr_89_0 lk23 dX9_spread_82 ?_
      refine g_getr hx hb hw inG6 hown hK hG gl_1 rfl gk_1 (by decide) 4 (by decide) (by rw [gm_1]; decide) (r := 10) gr_1_4 lk72 dX9_spread_85 ?_
      obtain ⟨P_88, HC_88, HW⟩ := HW
      refine g_calli (g_runV (As := []) (rest := [.int x7]) ⟨hx, hb, hml, hown, hts⟩ (m_X8_rows l D cy ad h g H.size 10 (gs_10) P_88 HC_88) (cwV 0 hts (gd_V (wm3 202 rfl rfl) (wm2 217 rfl rfl) (wm2 218 rfl rfl) (wm1 3 rfl rfl) (wm2 219 rfl rfl)) rfl rfl rfl (by decide +kernel) ⟨Nat.le_of_ble_eq_true rfl, Nat.le_of_ble_eq_true rfl⟩) hK hNw hG gl_10 rfl gk_10 (by decide) rfl rfl hl.1 rfl (lv_room (Nat.le_of_ble_eq_true rfl)) dX9_spread_88 ⟨Nat.zero_le _, Nat.zero_le _⟩) hG (fun r_88 h_88 g_88 H locs hq hG => ?_)
      replace HW := HW r_88 h_88 g_88 hq
      refine lv_icmp_ge (tgt := 194) hx hb dX9_spread_91 (by decide) (fun c_91 => ?_) (fun c_91 => ?_)
      · replace HW := HW.1 c_91
        exact B194 K12 hK12 x1 x2 h_88 g_88 _ _ _ HW hG (lv_sub hl [0, 1, 2] rfl)
      · replace HW := HW.2 c_91
        refine lv_iload_n hx hb dX9_spread_94 rfl (lv_at hl 3 rfl) ?_
        refine lv_aload_n hx hb dX9_spread_95 rfl (lv_at hl 0 rfl) ?_
        refine g_getr hx hb hw inG9 hown hK hG gl_89 rfl gk_89 (by decide) 0 (by decide) (by rw [gm_89]; decide) (r := 1) gr_89_0 lk23 dX9_spread_96 ?_
        refine g_getr hx hb hw inG6 hown hK hG gl_1 rfl gk_1 (by decide) 4 (by decide) (by rw [gm_1]; decide) (r := 10) gr_1_4 lk72 dX9_spread_99 ?_
        refine lv_iload hx hb dX9_spread_102 (lv_at hl 6 rfl) ?_
        refine lv_iconst (v := 2) hx hb dX9_spread_104 (by decide) ?_
        obtain ⟨P_105, HC_105, HW⟩ := HW
        refine g_calli (g_runV (As := [.int x7, .int (2 : Int32)]) (rest := [.int x3]) ⟨hx, hb, hml, hown, hts⟩ (m_X8_at l D cy ad h_88 g_88 H.size 10 (gs_10) x7 (2 : Int32) P_105 HC_105) (cwV 2 hts (gd_V (wm3 203 rfl rfl) (wm2 221 rfl rfl) (wm2 222 rfl rfl) (wm1 3 rfl rfl) (wm2 223 rfl rfl)) rfl rfl rfl (by decide +kernel) ⟨Nat.le_of_ble_eq_true rfl, Nat.le_of_ble_eq_true rfl⟩) hK hNw hG gl_10 rfl gk_10 (by decide) rfl rfl hl.1 rfl (lv_room (Nat.le_of_ble_eq_true rfl)) dX9_spread_105 ⟨Nat.zero_le _, Nat.zero_le _⟩) hG (fun r_105 h_105 g_105 H locs hq hG => ?_)
        replace HW := HW r_105 h_105 g_105 hq
        refine lv_icmp_ge (tgt := 114) hx hb dX9_spread_108 (by decide) (fun c_108 => ?_) (fun c_108 => ?_)
        · replace HW := HW.1 c_108
          refine lv_iload_n hx hb dX9_spread_114 rfl (lv_at hl 3 rfl) ?_
          refine lv_aload_n hx hb dX9_spread_115 rfl (lv_at hl 0 rfl) ?_
          refine g_getr hx hb hw inG9 hown hK hG gl_89 rfl gk_89 (by decide) 0 (by decide) (by rw [gm_89]; decide) (r := 1) gr_89_0 lk23 dX9_spread_116 ?_
          refine g_getr hx hb hw inG6 hown hK hG gl_1 rfl gk_1 (by decide) 4 (by decide) (by rw [gm_1]; decide) (r := 10) gr_1_4 lk72 dX9_spread_119 ?_
          refine lv_iload hx hb dX9_spread_122 (lv_at hl 6 rfl) ?_
          refine lv_iconst (v := 3) hx hb dX9_spread_124 (by decide) ?_
          obtain ⟨P_125, HC_125, HW⟩ := HW
          refine g_calli (g_runV (As := [.int x7, .int (3 : Int32)]) (rest := [.int x3]) ⟨hx, hb, hml, hown, hts⟩ (m_X8_at l D cy ad h_105 g_105 H.size 10 (gs_10) x7 (3 : Int32) P_125 HC_125) (cwV 2 hts (gd_V (wm3 203 rfl rfl) (wm2 221 rfl rfl) (wm2 222 rfl rfl) (wm1 3 rfl rfl) (wm2 223 rfl rfl)) rfl rfl rfl (by decide +kernel) ⟨Nat.le_of_ble_eq_true rfl, Nat.le_of_ble_eq_true rfl⟩) hK hNw hG gl_10 rfl gk_10 (by decide) rfl rfl hl.1 rfl (lv_room (Nat.le_of_ble_eq_true rfl)) dX9_spread_125 ⟨Nat.zero_le _, Nat.zero_le _⟩) hG (fun r_125 h_125 g_125 H locs hq hG => ?_)
          replace HW := HW r_125 h_125 g_125 hq
          refine lv_icmp_le (tgt := 134) hx hb dX9_spread_128 (by decide) (fun c_128 => ?_) (fun c_128 => ?_)
          · replace HW := HW.1 c_128
            refine lv_iload hx hb dX9_spread_134 (lv_at hl 4 rfl) ?_
            refine lv_aload_n hx hb dX9_spread_136 rfl (lv_at hl 0 rfl) ?_
            refine g_getr hx hb hw inG9 hown hK hG gl_89 rfl gk_89 (by decide) 0 (by decide) (by rw [gm_89]; decide) (r := 1) gr_89_0 lk23 dX9_spread_137 ?_
            refine g_getr hx hb hw inG6 hown hK hG gl_1 rfl gk_1 (by decide) 4 (by decide) (by rw [gm_1]; decide) (r := 10) gr_1_4 lk72 dX9_spread_140 ?_
            refine lv_iload hx hb dX9_spread_143 (lv_at hl 6 rfl) ?_
            refine lv_iconst (v := 1) hx hb dX9_spread_145 (by decide) ?_
            obtain ⟨P_146, HC_146, HW⟩ := HW
            refine g_calli (g_runV (As := [.int x7, .int (1 : Int32)]) (rest := [.int x5]) ⟨hx, hb, hml, hown, hts⟩ (m_X8_at l D cy ad h_125 g_125 H.size 10 (gs_10) x7 (1 : Int32) P_146 HC_146) (cwV 2 hts (gd_V (wm3 203 rfl rfl) (wm2 221 rfl rfl) (wm2 222 rfl rfl) (wm1 3 rfl rfl) (wm2 223 rfl rfl)) rfl rfl rfl (by decide +kernel) ⟨Nat.le_of_ble_eq_true rfl, Nat.le_of_ble_eq_true rfl⟩) hK hNw hG gl_10 rfl gk_10 (by decide) rfl rfl hl.1 rfl (lv_room (Nat.le_of_ble_eq_true rfl)) dX9_spread_146 ⟨Nat.zero_le _, Nat.zero_le _⟩) hG (fun r_146 h_146 g_146 H locs hq hG => ?_)
            replace HW := HW r_146 h_146 g_146 hq
            refine lv_iadd hx hb dX9_spread_149 ?_
            refine lv_topi (fun x8_150 ex8_150 => ?_)
            replace HW := HW x8_150 ex8_150
            refine lv_istore (lv' := [(8, .int x8_150), (0, .ref (ad 89)), (1, .int x1), (2, .int x2), (3, .int x3), (5, .int x5), (6, .int x6), (7, .int x7)]) hx hb dX9_spread_150 hl (by decide) rfl (fun ls hl => ?_)
            refine lv_aload_n hx hb dX9_spread_152 rfl (lv_at hl 1 rfl) ?_
            refine lv_iconst (v := 1) hx hb dX9_spread_153 (by decide) ?_
            refine lv_iload_n hx hb dX9_spread_154 rfl (lv_at hl 2 rfl) ?_
            refine lv_isub hx hb dX9_spread_155 ?_
            refine lv_iload_n hx hb dX9_spread_156 rfl (lv_at hl 4 rfl) ?_
            refine lv_aload_n hx hb dX9_spread_157 rfl (lv_at hl 1 rfl) ?_
            refine g_getr hx hb hw inG9 hown hK hG gl_89 rfl gk_89 (by decide) 0 (by decide) (by rw [gm_89]; decide) (r := 1) gr_89_0 lk23 dX9_spread_158 ?_
            refine g_getr hx hb hw inG6 hown hK hG gl_1 rfl gk_1 (by decide) 4 (by decide) (by rw [gm_1]; decide) (r := 10) gr_1_4 lk72 dX9_spread_161 ?_
            refine lv_iload hx hb dX9_spread_164 (lv_at hl 7 rfl) ?_
            refine lv_iconst (v := 0) hx hb dX9_spread_166 (by decide) ?_
            obtain ⟨P_167, HC_167, HW⟩ := HW
            refine g_calli (g_runV (As := [.int x7, .int (0 : Int32)]) (rest := [.int x3, .int ((1 : Int32) - x1), .ref (ad 89)]) ⟨hx, hb, hml, hown, hts⟩ (m_X8_at l D cy ad h_146 g_146 H.size 10 (gs_10) x7 (0 : Int32) P_167 HC_167) (cwV 2 hts (gd_V (wm3 203 rfl rfl) (wm2 221 rfl rfl) (wm2 222 rfl rfl) (wm1 3 rfl rfl) (wm2 223 rfl rfl)) rfl rfl rfl (by decide +kernel) ⟨Nat.le_of_ble_eq_true rfl, Nat.le_of_ble_eq_true rfl⟩) hK hNw hG gl_10 rfl gk_10 (by decide) rfl rfl hl.1 rfl (lv_room (Nat.le_of_ble_eq_true rfl)) dX9_spread_167 ⟨Nat.zero_le _, Nat.zero_le _⟩) hG (fun r_167 h_167 g_167 H locs hq hG => ?_)
            replace HW := HW r_167 h_167 g_167 hq
            refine lv_iadd hx hb dX9_spread_170 ?_
            refine lv_iload hx hb dX9_spread_171 (lv_at hl 0 rfl) ?_
            refine lv_ldc (v := 32768) hx hb hown cn65 dX9_spread_173 ?_
            refine lv_imul hx hb dX9_spread_175 ?_
            refine lv_iload hx hb dX9_spread_176 (lv_at hl 6 rfl) ?_
            refine lv_bipush (v := 8) hx hb dX9_spread_178 (by decide) ?_
            refine lv_imul hx hb dX9_spread_180 ?_
            refine lv_iadd hx hb dX9_spread_181 ?_
            refine lv_iload hx hb dX9_spread_182 (lv_at hl 7 rfl) ?_
            refine lv_iadd hx hb dX9_spread_184 ?_
            obtain ⟨P_185, HC_185, HW⟩ := HW
            refine g_callv (g_runV (As := [.int ((1 : Int32) - x1), .int (x3 + r_167), .int (((x8_150 * (32768 : Int32)) + (x6 * (8 : Int32))) + x7)]) (rest := []) ⟨hx, hb, hml, hown, hts⟩ (m_X9_reach l D cy ad h_167 g_167 H.size ((1 : Int32) - x1) (x3 + r_167) (((x8_150 * (32768 : Int32)) + (x6 * (8 : Int32))) + x7) P_185 HC_185) (cwV 3 hts (gd_V (wm3 186 rfl rfl) (wm3 188 rfl rfl) (wmp1 (q := (yX9_reach, 7)) 14 rfl) (wm1 7 rfl rfl) (wm3 189 rfl rfl)) rfl rfl rfl (by decide +kernel) ⟨Nat.le_of_ble_eq_true rfl, Nat.le_of_ble_eq_true rfl⟩) hK hNw hG gl_89 rfl gk_89 (by decide) rfl rfl hl.1 rfl (lv_room (Nat.le_of_ble_eq_true rfl)) dX9_spread_185 ⟨Nat.zero_le _, Nat.zero_le _⟩) hG (fun h_185 g_185 H locs hq hG => ?_)
            replace HW := HW h_185 g_185 hq
            exact B188 K12 hK12 K79 hK79 x1 x2 x3 x5 x6 x7 h_185 g_185 _ _ _ HW hG (lv_sub hl [1, 2, 3, 4, 5, 6, 7] rfl)
          · replace HW := HW.2 c_128
            refine lv_goto (tgt := 188) hx hb dX9_spread_131 (by decide) ?_
            exact B188 K12 hK12 K79 hK79 x1 x2 x3 x5 x6 x7 h_125 g_125 _ _ _ HW hG (lv_sub hl [0, 1, 2, 3, 4, 5, 6] rfl)
        · replace HW := HW.2 c_108
          refine lv_goto (tgt := 188) hx hb dX9_spread_111 (by decide) ?_
          exact B188 K12 hK12 K79 hK79 x1 x2 x3 x5 x6 x7 h_105 g_105 _ _ _ HW hG (lv_sub hl [0, 1, 2, 3, 4, 5, 6] rfl)
  have L12 : ∀ (n : Nat) (x1 : Int32) (x2 : Int32) (h : HI) (g : HL) (H : Heap) (locs : List Loc) (ls : Array Slot), lpN (F_X9_spread_12 Q) n (x1, x2, h, g) → gG D cy ad (gA ad s.heap.size) s.heap h g H locs → lv_has ls 9 [(0, .ref (ad 89)), (1, .int x1), (2, .int x2)] → W p l e ({ frames := 2, cells := 0, slots := 0, locals := 45 } : Room) s m args below meth c H locs 0 0 (MQ below (va_Qv (fun (u : HI × HL) => Q u.1 u.2) (gB D cy ad s.heap.size) (gA ad s.heap.size)) args s 0 0 (gA ad s.heap.size)) (F0 m 12 ls []) := by
    intro n
    induction n with
    | zero => intro x1 x2 h g H locs ls HW; exact HW.elim
    | succ n ih =>
      intro x1 x2 h g H locs ls HW hG hl
      have HW : b_X9_spread_12 Q (fun x1 x2 h g => lpN (F_X9_spread_12 Q) n (x1, x2, h, g)) x1 x2 h g := HW
      generalize hKe : (fun (x1 : Int32) (x2 : Int32) (h : HI) (g : HL) => lpN (F_X9_spread_12 Q) n (x1, x2, h, g)) = K12 at HW
      have hK12 : ∀ (x1 : Int32) (x2 : Int32) (h : HI) (g : HL) (H : Heap) (locs : List Loc) (ls : Array Slot), K12 x1 x2 h g → gG D cy ad (gA ad s.heap.size) s.heap h g H locs → lv_has ls 9 [(0, .ref (ad 89)), (1, .int x1), (2, .int x2)] → W p l e ({ frames := 2, cells := 0, slots := 0, locals := 45 } : Room) s m args below meth c H locs 0 0 (MQ below (va_Qv (fun (u : HI × HL) => Q u.1 u.2) (gB D cy ad s.heap.size) (gA ad s.heap.size)) args s 0 0 (gA ad s.heap.size)) (F0 m 12 ls []) := by subst hKe; exact ih
      clear ih
      clear hKe
      unfold b_X9_spread_12 at HW
      refine lv_iload_n hx hb dX9_spread_12 rfl (lv_at hl 2 rfl) ?_
      refine lv_aload_n hx hb dX9_spread_13 rfl (lv_at hl 0 rfl) ?_
      refine g_getr hx hb hw inG9 hown hK hG gl_89 rfl gk_89 (by decide) 3 (by decide) (by rw [gm_89]; decide) (r := 96) gr_89_3 lk19 dX9_spread_14 ?_
      refine lv_iload_n hx hb dX9_spread_17 rfl (lv_at hl 1 rfl) ?_
      refine g_iald hx hb hK hG gl_96 gk_96 gn_96 HW.1 dX9_spread_18 ?_
      replace HW := HW.2
      refine lv_icmp_ge (tgt := 200) hx hb dX9_spread_19 (by decide) (fun c_19 => ?_) (fun c_19 => ?_)
      · replace HW := HW.1 c_19
        exact W.vret hx hb hr (fun t ht hW => ⟨⟨(h, g), rfl, HW, g_B ht hG⟩, hG.2.2.F ht⟩) hG.2.2.2.2 dX9_spread_200
      · replace HW := HW.2 c_19
        refine lv_iload_n hx hb dX9_spread_22 rfl (lv_at hl 2 rfl) ?_
        refine lv_sipush (v := 3000) hx hb dX9_spread_23 (by decide) ?_
        refine lv_icmp_ge (tgt := 200) hx hb dX9_spread_26 (by decide) (fun c_26 => ?_) (fun c_26 => ?_)
        · replace HW := HW.1 c_26
          exact W.vret hx hb hr (fun t ht hW => ⟨⟨(h, g), rfl, HW, g_B ht hG⟩, hG.2.2.F ht⟩) hG.2.2.2.2 dX9_spread_200
        · replace HW := HW.2 c_26
          refine lv_aload_n hx hb dX9_spread_29 rfl (lv_at hl 0 rfl) ?_
          refine g_getr hx hb hw inG9 hown hK hG gl_89 rfl gk_89 (by decide) 2 (by decide) (by rw [gm_89]; decide) (r := 93) gr_89_2 lk16 dX9_spread_30 ?_
          refine lv_iload_n hx hb dX9_spread_33 rfl (lv_at hl 1 rfl) ?_
          have hi_34 := vp_lt HW.1
          refine g_aald hx hb hK hG gl_93 gk_93 gn_93 HW.1 (go_93 _ hi_34).1 dX9_spread_34 ?_
          replace HW := HW.2
          refine lv_iload_n hx hb dX9_spread_35 rfl (lv_at hl 2 rfl) ?_
          refine g_iald hx hb hK hG ((go_93 _ hi_34).2.2.1) ((go_93 _ hi_34).2.1) ((go_93 _ hi_34).2.2.2) HW.1 dX9_spread_36 ?_
          replace HW := HW.2
          refine lv_topi (fun x3_37 ex3_37 => ?_)
          replace HW := HW x3_37 ex3_37
          refine lv_istore_n (lv' := [(3, .int x3_37), (0, .ref (ad 89)), (1, .int x1), (2, .int x2)]) hx hb dX9_spread_37 rfl hl (by decide) rfl (fun ls hl => ?_)
          refine lv_iload_n hx hb dX9_spread_38 rfl (lv_at hl 0 rfl) ?_
          refine lv_iconst (v := 1) hx hb dX9_spread_39 (by decide) ?_
          refine lv_sipush (v := 3000) hx hb dX9_spread_40 (by decide) ?_
          obtain ⟨P_43, HC_43, HW⟩ := HW
          refine g_callz (g_runSN (As := [.int x3_37, .int (1 : Int32), .int (3000 : Int32)]) (rest := []) ⟨hx, hb, hml, hown, hts⟩ (m_X10_within l D cy ad h g H.size x3_37 (1 : Int32) (3000 : Int32) P_43 HC_43) ⟨va_cnB 3 hts (gd_w (wm2 195 rfl rfl)) rfl rfl rfl (hNw _ (List.mem_of_getElem? (i := 5) rfl)) (hw (.initialized RX10) (wm1 1 rfl rfl)) (by decide +kernel) ⟨Nat.le_of_ble_eq_true rfl, Nat.le_of_ble_eq_true rfl⟩, hw (.static yX10_within) (wm2 194 rfl rfl), trivial⟩ hK hNw hG rfl rfl hl.1 rfl (lv_room (Nat.le_of_ble_eq_true rfl)) dX9_spread_43 ⟨Nat.zero_le _, Nat.zero_le _⟩) hG (fun r_43 h_43 g_43 H locs hz hq hG => ?_)
          replace HW := HW r_43 h_43 g_43 hz hq
          refine lv_if_ne (tgt := 52) hx hb dX9_spread_46 (by decide) (fun c_46 => ?_) (fun c_46 => ?_)
          · replace HW := HW.1 c_46
            refine lv_aload_n hx hb dX9_spread_52 rfl (lv_at hl 1 rfl) ?_
            refine g_getr hx hb hw inG9 hown hK hG gl_89 rfl gk_89 (by decide) 1 (by decide) (by rw [gm_89]; decide) (r := 90) gr_89_1 lk11 dX9_spread_53 ?_
            refine lv_iload_n hx hb dX9_spread_56 rfl (lv_at hl 2 rfl) ?_
            have hi_57 := vp_lt HW.1
            refine g_aald hx hb hK hG gl_90 gk_90 gn_90 HW.1 (go_90 _ hi_57).1 dX9_spread_57 ?_
            replace HW := HW.2
            refine lv_iload_n hx hb dX9_spread_58 rfl (lv_at hl 0 rfl) ?_
            refine g_iald hx hb hK hG ((go_90 _ hi_57).2.2.1) ((go_90 _ hi_57).2.1) ((go_90 _ hi_57).2.2.2) HW.1 dX9_spread_59 ?_
            replace HW := HW.2
            refine lv_topi (fun x4_60 ex4_60 => ?_)
            replace HW := HW x4_60 ex4_60
            refine lv_istore (lv' := [(4, .int x4_60), (3, .int x3_37), (0, .ref (ad 89)), (1, .int x1), (2, .int x2)]) hx hb dX9_spread_60 hl (by decide) rfl (fun ls hl => ?_)
            refine lv_iload hx hb dX9_spread_62 (lv_at hl 0 rfl) ?_
            refine lv_ldc (v := 32768) hx hb hown cn65 dX9_spread_64 ?_
            refine lv_idiv hx hb dX9_spread_66 (by decide) ?_
            refine lv_topi (fun x5_67 ex5_67 => ?_)
            replace HW := HW x5_67 ex5_67
            refine lv_istore (lv' := [(5, .int x5_67), (4, .int x4_60), (3, .int x3_37), (0, .ref (ad 89)), (1, .int x1), (2, .int x2)]) hx hb dX9_spread_67 hl (by decide) rfl (fun ls hl => ?_)
            refine lv_iload hx hb dX9_spread_69 (lv_at hl 1 rfl) ?_
            refine lv_ldc (v := 32768) hx hb hown cn65 dX9_spread_71 ?_
            refine lv_irem hx hb dX9_spread_73 (by decide) ?_
            refine lv_topi (fun x6_74 ex6_74 => ?_)
            replace HW := HW x6_74 ex6_74
            refine lv_istore (lv' := [(6, .int x6_74), (5, .int x5_67), (4, .int x4_60), (3, .int x3_37), (0, .ref (ad 89)), (1, .int x1), (2, .int x2)]) hx hb dX9_spread_74 hl (by decide) rfl (fun ls hl => ?_)
            refine lv_iconst (v := 0) hx hb dX9_spread_76 (by decide) ?_
            refine lv_istore (lv' := [(7, .int (0 : Int32)), (6, .int x6_74), (5, .int x5_67), (4, .int x4_60), (3, .int x3_37), (0, .ref (ad 89)), (1, .int x1), (2, .int x2)]) hx hb dX9_spread_77 hl (by decide) rfl (fun ls hl => ?_)
            obtain ⟨n_79, HW⟩ := HW
            exact L79 K12 hK12 n_79 x1 x2 x3_37 x5_67 x6_74 (0 : Int32) h_43 g_43 _ _ _ HW hG (lv_sub hl [5, 6, 7, 4, 2, 1, 0] rfl)
          · replace HW := HW.2 c_46
            refine lv_goto (tgt := 194) hx hb dX9_spread_49 (by decide) ?_
            exact B194 K12 hK12 x1 x2 h_43 g_43 _ _ _ HW hG (lv_sub hl [1, 2, 3] rfl)
  have E0 : ∀ (H : Heap) (locs : List Loc) (ls : Array Slot), gG D cy ad (gA ad s.heap.size) s.heap h g H locs → lv_has ls 9 [(0, .ref (ad 89)), (1, .int x1)] → W p l e ({ frames := 2, cells := 0, slots := 0, locals := 45 } : Room) s m args below meth c H locs 0 0 (MQ below (va_Qv (fun (u : HI × HL) => Q u.1 u.2) (gB D cy ad s.heap.size) (gA ad s.heap.size)) args s 0 0 (gA ad s.heap.size)) (F0 m 0 ls []) := by
    intro H locs ls hG hl
    unfold w_X9_spread at HW
    refine lv_iload_n hx hb dX9_spread_0 rfl (lv_at hl 1 rfl) ?_
    refine lv_iconst (v := 0) hx hb dX9_spread_1 (by decide) ?_
    refine lv_iconst (v := 1) hx hb dX9_spread_2 (by decide) ?_
    obtain ⟨P_3, HC_3, HW⟩ := HW
    refine g_callz (g_runSN (As := [.int x1, .int (0 : Int32), .int (1 : Int32)]) (rest := []) ⟨hx, hb, hml, hown, hts⟩ (m_X10_within l D cy ad h g H.size x1 (0 : Int32) (1 : Int32) P_3 HC_3) ⟨va_cnB 3 hts (gd_w (wm2 195 rfl rfl)) rfl rfl rfl (hNw _ (List.mem_of_getElem? (i := 5) rfl)) (hw (.initialized RX10) (wm1 1 rfl rfl)) (by decide +kernel) ⟨Nat.le_of_ble_eq_true rfl, Nat.le_of_ble_eq_true rfl⟩, hw (.static yX10_within) (wm2 194 rfl rfl), trivial⟩ hK hNw hG rfl rfl hl.1 rfl (lv_room (Nat.le_of_ble_eq_true rfl)) dX9_spread_3 ⟨Nat.zero_le _, Nat.zero_le _⟩) hG (fun r_3 h_3 g_3 H locs hz hq hG => ?_)
    replace HW := HW r_3 h_3 g_3 hz hq
    refine lv_if_ne (tgt := 10) hx hb dX9_spread_6 (by decide) (fun c_6 => ?_) (fun c_6 => ?_)
    · replace HW := HW.1 c_6
      refine lv_iconst (v := 0) hx hb dX9_spread_10 (by decide) ?_
      refine lv_istore_n (lv' := [(2, .int (0 : Int32)), (0, .ref (ad 89)), (1, .int x1)]) hx hb dX9_spread_11 rfl hl (by decide) rfl (fun ls hl => ?_)
      obtain ⟨n_12, HW⟩ := HW
      exact L12 n_12 x1 (0 : Int32) h_3 g_3 _ _ _ HW hG (lv_sub hl [1, 2, 0] rfl)
    · replace HW := HW.2 c_6
      exact W.vret hx hb hr (fun t ht hW => ⟨⟨(h_3, g_3), rfl, HW, g_B ht hG⟩, hG.2.2.F ht⟩) hG.2.2.2.2 dX9_spread_9
  exact E0 _ _ _ hG hl

def j_X9_forget_64 (Q : HI → HL → Prop) (x1 : Int32) (h : HI) (g : HL) : Prop :=
  (vp_in x1 2 ∧ ∀ h_70 : HI, h_70 = hu h 96 x1.toNatClampNeg (0 : Int32) → Q h_70 g)
def j_X9_forget_58 (Q : HI → HL → Prop) (K12 : Int32 → Int32 → HI → HL → Prop) (x1 : Int32) (x2 : Int32) (h : HI) (g : HL) : Prop :=
  (∀ x2_58 : Int32, x2_58 = (x2 + 1) → K12 x1 x2_58 h g)
def b_X9_forget_12 (Q : HI → HL → Prop) (K12 : Int32 → Int32 → HI → HL → Prop) (x1 : Int32) (x2 : Int32) (h : HI) (g : HL) : Prop :=
  (vp_in x1 2 ∧ (((h 96 x1.toNatClampNeg) ≤ x2 → j_X9_forget_64 Q x1 h g) ∧ (¬ (h 96 x1.toNatClampNeg) ≤ x2 → (((3000 : Int32) ≤ x2 → j_X9_forget_64 Q x1 h g) ∧ (¬ (3000 : Int32) ≤ x2 → (vp_in x1 2 ∧ (vp_in x2 3000 ∧ (∀ x3_37 : Int32, x3_37 = (h (94 + x1.toNatClampNeg) x2.toNatClampNeg) → (∃ P_43 : Int32 → HI → HL → Prop, w_X10_within x3_37 (1 : Int32) (3000 : Int32) h g P_43 ∧ ∀ (r_43 : Int32) (h_43 : HI) (g_43 : HL), zb r_43 → P_43 r_43 h_43 g_43 → ((r_43 = 0 → j_X9_forget_58 Q K12 x1 x2 h_43 g_43) ∧ (¬ r_43 = 0 → (vp_in x1 2 ∧ (vp_in x3_37 3001 ∧ ∀ h_57 : HI, h_57 = hu h_43 (91 + x1.toNatClampNeg) x3_37.toNatClampNeg (-1 : Int32) → j_X9_forget_58 Q K12 x1 x2 h_57 g_43)))))))))))))
def F_X9_forget_12 (Q : HI → HL → Prop) (K : Int32 × Int32 × HI × HL → Prop) (q : Int32 × Int32 × HI × HL) : Prop := b_X9_forget_12 Q (fun x1 x2 h g => K (x1, x2, h, g)) q.1 q.2.1 q.2.2.1 q.2.2.2
def w_X9_forget (x1 : Int32) (h : HI) (g : HL) (Q : HI → HL → Prop) : Prop :=
  (∃ P_3 : Int32 → HI → HL → Prop, w_X10_within x1 (0 : Int32) (1 : Int32) h g P_3 ∧ ∀ (r_3 : Int32) (h_3 : HI) (g_3 : HL), zb r_3 → P_3 r_3 h_3 g_3 → ((¬ r_3 = 0 → lpE (F_X9_forget_12 Q) (x1, (0 : Int32), h_3, g_3)) ∧ (r_3 = 0 → Q h_3 g_3)))
set_option maxHeartbeats 8000000 in
set_option maxRecDepth 100000 in
theorem m_X9_forget (l : Launch) (D : va_G) (cy : Nat → ClassId) (ad : Nat → Nat) (h : HI) (g : HL) (sz : Nat) (x1 : Int32) (Q : HI → HL → Prop) (HW : w_X9_forget x1 h g Q) : Met l yX9_forget (wa yX9_forget cX9_forget 4 none) ({ frames := 1, cells := 0, slots := 0, locals := 22 }) (va_Pc [.ref (ad 89), .int x1] (gI D cy ad h g sz)) (va_Qv (fun (u : HI × HL) => Q u.1 u.2) (gB D cy ad sz) (gA ad sz)) 0 0 (gA ad sz) := by
  refine Met.ofW (cc := cX9_forget) (maxL := 4) (ret := none) (by decide) rfl ?_
  intro p e s m args below meth c s₁ B hml hv
  obtain ⟨hav, hsz, hP, hK, hD0, hNw⟩ := hv
  have hx := B.exec
  have hb := B.bytes
  have hr := B.returns
  have hts := atoms_spec (ws := (wa yX9_forget cX9_forget 4 none)) B.pre
  have hw := wa_hw hts
  have hown : s.vm.findClass RX9 = some m.cls := findClass_of_methodNamed B.named
  have hlocks := B.notSynchronized
  subst hsz
  have hG : gG D cy ad (gA ad s.heap.size) s.heap h g s.heap [] := ⟨hP, gA_self hD0, va_S.rf⟩
  clear hP hD0
  have lk19 := hw (.fieldLink RX9 19 "OldWorks$Ways" "many" "[I") (wm2 22 rfl rfl)
  have lk16 := hw (.fieldLink RX9 16 "OldWorks$Ways" "reached" "[[I") (wm2 21 rfl rfl)
  have lk11 := hw (.fieldLink RX9 11 "OldWorks$Ways" "best" "[[I") (wm2 20 rfl rfl)
  rw [show (headSpec (wa yX9_forget cX9_forget 4 none) ({ frames := 1, cells := 0, slots := 0, locals := 22 } : Room)).room = ({ frames := 1, cells := 0, slots := 0, locals := 22 } : Room) from rfl]
  have hl := lv_entry ([.ref (ad 89), .int x1]) (n := 4) (Nat.le_of_ble_eq_true rfl)
  rw [show entryFrame m args 4 = entryFrame m ([.ref (ad 89), .int x1] : List Value).toArray 4 from by rw [hav], lg_entry_eq]
  generalize (lg_sl ([.ref (ad 89), .int x1]) ++ List.replicate (4 - (lg_sl ([.ref (ad 89), .int x1])).length) Slot.unset).toArray = ls at hl ⊢
  have hl : lv_has ls 4 [(0, .ref (ad 89)), (1, .int x1)] := hl
  have B64 : ∀ (x1 : Int32) (h : HI) (g : HL) (H : Heap) (locs : List Loc) (ls : Array Slot), j_X9_forget_64 Q x1 h g → gG D cy ad (gA ad s.heap.size) s.heap h g H locs → lv_has ls 4 [(0, .ref (ad 89)), (1, .int x1)] → W p l e ({ frames := 1, cells := 0, slots := 0, locals := 22 } : Room) s m args below meth c H locs 0 0 (MQ below (va_Qv (fun (u : HI × HL) => Q u.1 u.2) (gB D cy ad s.heap.size) (gA ad s.heap.size)) args s 0 0 (gA ad s.heap.size)) (F0 m 64 ls []) := by
    intro x1 h g H locs ls HW hG hl
    unfold j_X9_forget_64 at HW
    refine lv_aload_n hx hb dX9_forget_64 rfl (lv_at hl 0 rfl) ?_
    refine g_getr hx hb hw inG9 hown hK hG gl_89 rfl gk_89 (by decide) 3 (by decide) (by rw [gm_89]; decide) (r := 96) gr_89_3 lk19 dX9_forget_65 ?_
    refine lv_iload_n hx hb dX9_forget_68 rfl (lv_at hl 1 rfl) ?_
    refine lv_iconst (v := 0) hx hb dX9_forget_69 (by decide) ?_
    refine g_iast hx hb hK hG gl_96 gk_96 gn_96 HW.1 dX9_forget_70 (fun H locs hG => ?_)
    replace HW := HW.2
    obtain ⟨h_70, eh_70⟩ : ∃ y : HI, y = hu h 96 x1.toNatClampNeg (0 : Int32) := ⟨_, rfl⟩
    rw [← eh_70] at hG
    replace HW := HW h_70 eh_70
    exact W.vret hx hb hr (fun t ht hW => ⟨⟨(h_70, g), rfl, HW, g_B ht hG⟩, hG.2.2.F ht⟩) hG.2.2.2.2 dX9_forget_71
  have B58 : ∀ (K12 : Int32 → Int32 → HI → HL → Prop) (hK12 : ∀ (x1 : Int32) (x2 : Int32) (h : HI) (g : HL) (H : Heap) (locs : List Loc) (ls : Array Slot), K12 x1 x2 h g → gG D cy ad (gA ad s.heap.size) s.heap h g H locs → lv_has ls 4 [(0, .ref (ad 89)), (1, .int x1), (2, .int x2)] → W p l e ({ frames := 1, cells := 0, slots := 0, locals := 22 } : Room) s m args below meth c H locs 0 0 (MQ below (va_Qv (fun (u : HI × HL) => Q u.1 u.2) (gB D cy ad s.heap.size) (gA ad s.heap.size)) args s 0 0 (gA ad s.heap.size)) (F0 m 12 ls [])) (x1 : Int32) (x2 : Int32) (h : HI) (g : HL) (H : Heap) (locs : List Loc) (ls : Array Slot), j_X9_forget_58 Q K12 x1 x2 h g → gG D cy ad (gA ad s.heap.size) s.heap h g H locs → lv_has ls 4 [(0, .ref (ad 89)), (1, .int x1), (2, .int x2)] → W p l e ({ frames := 1, cells := 0, slots := 0, locals := 22 } : Room) s m args below meth c H locs 0 0 (MQ below (va_Qv (fun (u : HI × HL) => Q u.1 u.2) (gB D cy ad s.heap.size) (gA ad s.heap.size)) args s 0 0 (gA ad s.heap.size)) (F0 m 58 ls []) := by
    intro K12 hK12 x1 x2 h g H locs ls HW hG hl
    unfold j_X9_forget_58 at HW
    obtain ⟨x2_58, ex2_58⟩ : ∃ y : Int32, y = (x2 + 1) := ⟨_, rfl⟩
    replace HW := HW x2_58 ex2_58
    refine lv_iinc (v := x2_58) (lv' := [(2, .int x2_58), (0, .ref (ad 89)), (1, .int x1)]) hx hb dX9_forget_58 hl (k := 2) rfl (by rw [ex2_58]; rfl) (by decide) rfl (fun ls hl => ?_)
    refine lv_goto (tgt := 12) hx hb dX9_forget_61 (by decide) ?_
    exact hK12 x1 x2_58 h g _ _ _ HW hG (lv_sub hl [1, 2, 0] rfl)
  have L12 : ∀ (n : Nat) (x1 : Int32) (x2 : Int32) (h : HI) (g : HL) (H : Heap) (locs : List Loc) (ls : Array Slot), lpN (F_X9_forget_12 Q) n (x1, x2, h, g) → gG D cy ad (gA ad s.heap.size) s.heap h g H locs → lv_has ls 4 [(0, .ref (ad 89)), (1, .int x1), (2, .int x2)] → W p l e ({ frames := 1, cells := 0, slots := 0, locals := 22 } : Room) s m args below meth c H locs 0 0 (MQ below (va_Qv (fun (u : HI × HL) => Q u.1 u.2) (gB D cy ad s.heap.size) (gA ad s.heap.size)) args s 0 0 (gA ad s.heap.size)) (F0 m 12 ls []) := by
    intro n
    induction n with
    | zero => intro x1 x2 h g H locs ls HW; exact HW.elim
    | succ n ih =>
      intro x1 x2 h g H locs ls HW hG hl
      have HW : b_X9_forget_12 Q (fun x1 x2 h g => lpN (F_X9_forget_12 Q) n (x1, x2, h, g)) x1 x2 h g := HW
      generalize hKe : (fun (x1 : Int32) (x2 : Int32) (h : HI) (g : HL) => lpN (F_X9_forget_12 Q) n (x1, x2, h, g)) = K12 at HW
      have hK12 : ∀ (x1 : Int32) (x2 : Int32) (h : HI) (g : HL) (H : Heap) (locs : List Loc) (ls : Array Slot), K12 x1 x2 h g → gG D cy ad (gA ad s.heap.size) s.heap h g H locs → lv_has ls 4 [(0, .ref (ad 89)), (1, .int x1), (2, .int x2)] → W p l e ({ frames := 1, cells := 0, slots := 0, locals := 22 } : Room) s m args below meth c H locs 0 0 (MQ below (va_Qv (fun (u : HI × HL) => Q u.1 u.2) (gB D cy ad s.heap.size) (gA ad s.heap.size)) args s 0 0 (gA ad s.heap.size)) (F0 m 12 ls []) := by subst hKe; exact ih
      clear ih
      clear hKe
      unfold b_X9_forget_12 at HW
      refine lv_iload_n hx hb dX9_forget_12 rfl (lv_at hl 2 rfl) ?_
      refine lv_aload_n hx hb dX9_forget_13 rfl (lv_at hl 0 rfl) ?_
      refine g_getr hx hb hw inG9 hown hK hG gl_89 rfl gk_89 (by decide) 3 (by decide) (by rw [gm_89]; decide) (r := 96) gr_89_3 lk19 dX9_forget_14 ?_
      refine lv_iload_n hx hb dX9_forget_17 rfl (lv_at hl 1 rfl) ?_
      refine g_iald hx hb hK hG gl_96 gk_96 gn_96 HW.1 dX9_forget_18 ?_
      replace HW := HW.2
      refine lv_icmp_ge (tgt := 64) hx hb dX9_forget_19 (by decide) (fun c_19 => ?_) (fun c_19 => ?_)
      · replace HW := HW.1 c_19
        exact B64 x1 h g _ _ _ HW hG (lv_sub hl [0, 1] rfl)
      · replace HW := HW.2 c_19
        refine lv_iload_n hx hb dX9_forget_22 rfl (lv_at hl 2 rfl) ?_
        refine lv_sipush (v := 3000) hx hb dX9_forget_23 (by decide) ?_
        refine lv_icmp_ge (tgt := 64) hx hb dX9_forget_26 (by decide) (fun c_26 => ?_) (fun c_26 => ?_)
        · replace HW := HW.1 c_26
          exact B64 x1 h g _ _ _ HW hG (lv_sub hl [0, 1] rfl)
        · replace HW := HW.2 c_26
          refine lv_aload_n hx hb dX9_forget_29 rfl (lv_at hl 0 rfl) ?_
          refine g_getr hx hb hw inG9 hown hK hG gl_89 rfl gk_89 (by decide) 2 (by decide) (by rw [gm_89]; decide) (r := 93) gr_89_2 lk16 dX9_forget_30 ?_
          refine lv_iload_n hx hb dX9_forget_33 rfl (lv_at hl 1 rfl) ?_
          have hi_34 := vp_lt HW.1
          refine g_aald hx hb hK hG gl_93 gk_93 gn_93 HW.1 (go_93 _ hi_34).1 dX9_forget_34 ?_
          replace HW := HW.2
          refine lv_iload_n hx hb dX9_forget_35 rfl (lv_at hl 2 rfl) ?_
          refine g_iald hx hb hK hG ((go_93 _ hi_34).2.2.1) ((go_93 _ hi_34).2.1) ((go_93 _ hi_34).2.2.2) HW.1 dX9_forget_36 ?_
          replace HW := HW.2
          refine lv_topi (fun x3_37 ex3_37 => ?_)
          replace HW := HW x3_37 ex3_37
          refine lv_istore_n (lv' := [(3, .int x3_37), (0, .ref (ad 89)), (1, .int x1), (2, .int x2)]) hx hb dX9_forget_37 rfl hl (by decide) rfl (fun ls hl => ?_)
          refine lv_iload_n hx hb dX9_forget_38 rfl (lv_at hl 0 rfl) ?_
          refine lv_iconst (v := 1) hx hb dX9_forget_39 (by decide) ?_
          refine lv_sipush (v := 3000) hx hb dX9_forget_40 (by decide) ?_
          obtain ⟨P_43, HC_43, HW⟩ := HW
          refine g_callz (g_runSN (As := [.int x3_37, .int (1 : Int32), .int (3000 : Int32)]) (rest := []) ⟨hx, hb, hml, hown, hts⟩ (m_X10_within l D cy ad h g H.size x3_37 (1 : Int32) (3000 : Int32) P_43 HC_43) ⟨va_cnB 3 hts (gd_w (wm2 195 rfl rfl)) rfl rfl rfl (hNw _ (List.mem_of_getElem? (i := 5) rfl)) (hw (.initialized RX10) (wm1 1 rfl rfl)) (by decide +kernel) ⟨Nat.le_of_ble_eq_true rfl, Nat.le_of_ble_eq_true rfl⟩, hw (.static yX10_within) (wm2 194 rfl rfl), trivial⟩ hK hNw hG rfl rfl hl.1 rfl (lv_room (Nat.le_of_ble_eq_true rfl)) dX9_forget_43 ⟨Nat.zero_le _, Nat.zero_le _⟩) hG (fun r_43 h_43 g_43 H locs hz hq hG => ?_)
          replace HW := HW r_43 h_43 g_43 hz hq
          refine lv_if_eq (tgt := 58) hx hb dX9_forget_46 (by decide) (fun c_46 => ?_) (fun c_46 => ?_)
          · replace HW := HW.1 c_46
            exact B58 K12 hK12 x1 x2 h_43 g_43 _ _ _ HW hG (lv_sub hl [1, 2, 3] rfl)
          · replace HW := HW.2 c_46
            refine lv_aload_n hx hb dX9_forget_49 rfl (lv_at hl 1 rfl) ?_
            refine g_getr hx hb hw inG9 hown hK hG gl_89 rfl gk_89 (by decide) 1 (by decide) (by rw [gm_89]; decide) (r := 90) gr_89_1 lk11 dX9_forget_50 ?_
            refine lv_iload_n hx hb dX9_forget_53 rfl (lv_at hl 2 rfl) ?_
            have hi_54 := vp_lt HW.1
            refine g_aald hx hb hK hG gl_90 gk_90 gn_90 HW.1 (go_90 _ hi_54).1 dX9_forget_54 ?_
            replace HW := HW.2
            refine lv_iload_n hx hb dX9_forget_55 rfl (lv_at hl 0 rfl) ?_
            refine lv_iconst (v := (-1)) hx hb dX9_forget_56 (by decide) ?_
            refine g_iast hx hb hK hG ((go_90 _ hi_54).2.2.1) ((go_90 _ hi_54).2.1) ((go_90 _ hi_54).2.2.2) HW.1 dX9_forget_57 (fun H locs hG => ?_)
            replace HW := HW.2
            obtain ⟨h_57, eh_57⟩ : ∃ y : HI, y = hu h_43 (91 + x1.toNatClampNeg) x3_37.toNatClampNeg (-1 : Int32) := ⟨_, rfl⟩
            rw [← eh_57] at hG
            replace HW := HW h_57 eh_57
            exact B58 K12 hK12 x1 x2 h_57 g_43 _ _ _ HW hG (lv_sub hl [1, 2, 3] rfl)
  have E0 : ∀ (H : Heap) (locs : List Loc) (ls : Array Slot), gG D cy ad (gA ad s.heap.size) s.heap h g H locs → lv_has ls 4 [(0, .ref (ad 89)), (1, .int x1)] → W p l e ({ frames := 1, cells := 0, slots := 0, locals := 22 } : Room) s m args below meth c H locs 0 0 (MQ below (va_Qv (fun (u : HI × HL) => Q u.1 u.2) (gB D cy ad s.heap.size) (gA ad s.heap.size)) args s 0 0 (gA ad s.heap.size)) (F0 m 0 ls []) := by
    intro H locs ls hG hl
    unfold w_X9_forget at HW
    refine lv_iload_n hx hb dX9_forget_0 rfl (lv_at hl 1 rfl) ?_
    refine lv_iconst (v := 0) hx hb dX9_forget_1 (by decide) ?_
    refine lv_iconst (v := 1) hx hb dX9_forget_2 (by decide) ?_
    obtain ⟨P_3, HC_3, HW⟩ := HW
    refine g_callz (g_runSN (As := [.int x1, .int (0 : Int32), .int (1 : Int32)]) (rest := []) ⟨hx, hb, hml, hown, hts⟩ (m_X10_within l D cy ad h g H.size x1 (0 : Int32) (1 : Int32) P_3 HC_3) ⟨va_cnB 3 hts (gd_w (wm2 195 rfl rfl)) rfl rfl rfl (hNw _ (List.mem_of_getElem? (i := 5) rfl)) (hw (.initialized RX10) (wm1 1 rfl rfl)) (by decide +kernel) ⟨Nat.le_of_ble_eq_true rfl, Nat.le_of_ble_eq_true rfl⟩, hw (.static yX10_within) (wm2 194 rfl rfl), trivial⟩ hK hNw hG rfl rfl hl.1 rfl (lv_room (Nat.le_of_ble_eq_true rfl)) dX9_forget_3 ⟨Nat.zero_le _, Nat.zero_le _⟩) hG (fun r_3 h_3 g_3 H locs hz hq hG => ?_)
    replace HW := HW r_3 h_3 g_3 hz hq
    refine lv_if_ne (tgt := 10) hx hb dX9_forget_6 (by decide) (fun c_6 => ?_) (fun c_6 => ?_)
    · replace HW := HW.1 c_6
      refine lv_iconst (v := 0) hx hb dX9_forget_10 (by decide) ?_
      refine lv_istore_n (lv' := [(2, .int (0 : Int32)), (0, .ref (ad 89)), (1, .int x1)]) hx hb dX9_forget_11 rfl hl (by decide) rfl (fun ls hl => ?_)
      obtain ⟨n_12, HW⟩ := HW
      exact L12 n_12 x1 (0 : Int32) h_3 g_3 _ _ _ HW hG (lv_sub hl [1, 2, 0] rfl)
    · replace HW := HW.2 c_6
      exact W.vret hx hb hr (fun t ht hW => ⟨⟨(h_3, g_3), rfl, HW, g_B ht hG⟩, hG.2.2.F ht⟩) hG.2.2.2.2 dX9_forget_9
  exact E0 _ _ _ hG hl

def j_X9_find_49 (Q : HI → HL → Prop) (K15 : Int32 → Int32 → Int32 → HI → HL → Prop) (x2 : Int32) (x3 : Int32) (x4 : Int32) (x5 : Int32) (h : HI) (g : HL) : Prop :=
  (∃ P_52 : HI → HL → Prop, w_X9_forget x5 h g P_52 ∧ ∀ (h_52 : HI) (g_52 : HL), P_52 h_52 g_52 → (∀ x4_55 : Int32, x4_55 = (x4 + 1) → K15 x2 x3 x4_55 h_52 g_52))
def b_X9_find_15 (Q : HI → HL → Prop) (K15 : Int32 → Int32 → Int32 → HI → HL → Prop) (x2 : Int32) (x3 : Int32) (x4 : Int32) (h : HI) (g : HL) : Prop :=
  (((5 : Int32) < x4 → Q h g) ∧ (¬ (5 : Int32) < x4 → (∀ x5_25 : Int32, x5_25 = (x4 &&& (1 : Int32)) → (∃ P_34 : HI → HL → Prop, w_X9_look x5_25 x4 x2 x3 h g P_34 ∧ ∀ (h_34 : HI) (g_34 : HL), P_34 h_34 g_34 → (((5 : Int32) ≤ x4 → j_X9_find_49 Q K15 x2 x3 x4 x5_25 h_34 g_34) ∧ (¬ (5 : Int32) ≤ x4 → (∃ P_46 : HI → HL → Prop, w_X9_spread x5_25 h_34 g_34 P_46 ∧ ∀ (h_46 : HI) (g_46 : HL), P_46 h_46 g_46 → j_X9_find_49 Q K15 x2 x3 x4 x5_25 h_46 g_46)))))))
def F_X9_find_15 (Q : HI → HL → Prop) (K : Int32 × Int32 × Int32 × HI × HL → Prop) (q : Int32 × Int32 × Int32 × HI × HL) : Prop := b_X9_find_15 Q (fun x2 x3 x4 h g => K (x2, x3, x4, h, g)) q.1 q.2.1 q.2.2.1 q.2.2.2.1 q.2.2.2.2
def w_X9_find (x1 : Int32) (x2 : Int32) (x3 : Int32) (h : HI) (g : HL) (Q : HI → HL → Prop) : Prop :=
  (∀ h_2 : HI, h_2 = hu h 89 5 (-1 : Int32) → (∃ P_9 : HI → HL → Prop, w_X9_reach (0 : Int32) x1 (0 : Int32) h_2 g P_9 ∧ ∀ (h_9 : HI) (g_9 : HL), P_9 h_9 g_9 → lpE (F_X9_find_15 Q) (x2, x3, (0 : Int32), h_9, g_9)))
set_option maxHeartbeats 8000000 in
set_option maxRecDepth 100000 in
theorem m_X9_find (l : Launch) (D : va_G) (cy : Nat → ClassId) (ad : Nat → Nat) (h : HI) (g : HL) (sz : Nat) (x1 : Int32) (x2 : Int32) (x3 : Int32) (Q : HI → HL → Prop) (HW : w_X9_find x1 x2 x3 h g Q) : Met l yX9_find (wa yX9_find cX9_find 6 none) ({ frames := 3, cells := 0, slots := 0, locals := 73 }) (va_Pc [.ref (ad 89), .int x1, .int x2, .int x3] (gI D cy ad h g sz)) (va_Qv (fun (u : HI × HL) => Q u.1 u.2) (gB D cy ad sz) (gA ad sz)) 0 0 (gA ad sz) := by
  refine Met.ofW (cc := cX9_find) (maxL := 6) (ret := none) (by decide) rfl ?_
  intro p e s m args below meth c s₁ B hml hv
  obtain ⟨hav, hsz, hP, hK, hD0, hNw⟩ := hv
  have hx := B.exec
  have hb := B.bytes
  have hr := B.returns
  have hts := atoms_spec (ws := (wa yX9_find cX9_find 6 none)) B.pre
  have hw := wa_hw hts
  have hown : s.vm.findClass RX9 = some m.cls := findClass_of_methodNamed B.named
  have hlocks := B.notSynchronized
  subst hsz
  have hG : gG D cy ad (gA ad s.heap.size) s.heap h g s.heap [] := ⟨hP, gA_self hD0, va_S.rf⟩
  clear hP hD0
  have lk33 := hw (.fieldLink RX9 33 "OldWorks$Ways" "price" "I") (wm2 24 rfl rfl)
  rw [show (headSpec (wa yX9_find cX9_find 6 none) ({ frames := 3, cells := 0, slots := 0, locals := 73 } : Room)).room = ({ frames := 3, cells := 0, slots := 0, locals := 73 } : Room) from rfl]
  have hl := lv_entry ([.ref (ad 89), .int x1, .int x2, .int x3]) (n := 6) (Nat.le_of_ble_eq_true rfl)
  rw [show entryFrame m args 6 = entryFrame m ([.ref (ad 89), .int x1, .int x2, .int x3] : List Value).toArray 6 from by rw [hav], lg_entry_eq]
  generalize (lg_sl ([.ref (ad 89), .int x1, .int x2, .int x3]) ++ List.replicate (6 - (lg_sl ([.ref (ad 89), .int x1, .int x2, .int x3])).length) Slot.unset).toArray = ls at hl ⊢
  have hl : lv_has ls 6 [(0, .ref (ad 89)), (1, .int x1), (2, .int x2), (3, .int x3)] := hl
  have B49 : ∀ (K15 : Int32 → Int32 → Int32 → HI → HL → Prop) (hK15 : ∀ (x2 : Int32) (x3 : Int32) (x4 : Int32) (h : HI) (g : HL) (H : Heap) (locs : List Loc) (ls : Array Slot), K15 x2 x3 x4 h g → gG D cy ad (gA ad s.heap.size) s.heap h g H locs → lv_has ls 6 [(0, .ref (ad 89)), (2, .int x2), (3, .int x3), (4, .int x4)] → W p l e ({ frames := 3, cells := 0, slots := 0, locals := 73 } : Room) s m args below meth c H locs 0 0 (MQ below (va_Qv (fun (u : HI × HL) => Q u.1 u.2) (gB D cy ad s.heap.size) (gA ad s.heap.size)) args s 0 0 (gA ad s.heap.size)) (F0 m 15 ls [])) (x2 : Int32) (x3 : Int32) (x4 : Int32) (x5 : Int32) (h : HI) (g : HL) (H : Heap) (locs : List Loc) (ls : Array Slot), j_X9_find_49 Q K15 x2 x3 x4 x5 h g → gG D cy ad (gA ad s.heap.size) s.heap h g H locs → lv_has ls 6 [(0, .ref (ad 89)), (2, .int x2), (3, .int x3), (4, .int x4), (5, .int x5)] → W p l e ({ frames := 3, cells := 0, slots := 0, locals := 73 } : Room) s m args below meth c H locs 0 0 (MQ below (va_Qv (fun (u : HI × HL) => Q u.1 u.2) (gB D cy ad s.heap.size) (gA ad s.heap.size)) args s 0 0 (gA ad s.heap.size)) (F0 m 49 ls []) := by
    intro K15 hK15 x2 x3 x4 x5 h g H locs ls HW hG hl
    unfold j_X9_find_49 at HW
    refine lv_aload_n hx hb dX9_find_49 rfl (lv_at hl 0 rfl) ?_
    refine lv_iload hx hb dX9_find_50 (lv_at hl 4 rfl) ?_
    obtain ⟨P_52, HC_52, HW⟩ := HW
    refine g_callv (g_runV (As := [.int x5]) (rest := []) ⟨hx, hb, hml, hown, hts⟩ (m_X9_forget l D cy ad h g H.size x5 P_52 HC_52) (cwV 1 hts (gd_V (wm3 204 rfl rfl) (wm3 206 rfl rfl) (wmp2 (q := (yX9_forget, 7)) 1 rfl) (wm1 7 rfl rfl) (wm3 207 rfl rfl)) rfl rfl rfl (by decide +kernel) ⟨Nat.le_of_ble_eq_true rfl, Nat.le_of_ble_eq_true rfl⟩) hK hNw hG gl_89 rfl gk_89 (by decide) rfl rfl hl.1 rfl (lv_room (Nat.le_of_ble_eq_true rfl)) dX9_find_52 ⟨Nat.zero_le _, Nat.zero_le _⟩) hG (fun h_52 g_52 H locs hq hG => ?_)
    replace HW := HW h_52 g_52 hq
    obtain ⟨x4_55, ex4_55⟩ : ∃ y : Int32, y = (x4 + 1) := ⟨_, rfl⟩
    replace HW := HW x4_55 ex4_55
    refine lv_iinc (v := x4_55) (lv' := [(4, .int x4_55), (0, .ref (ad 89)), (2, .int x2), (3, .int x3), (5, .int x5)]) hx hb dX9_find_55 hl (k := 3) rfl (by rw [ex4_55]; rfl) (by decide) rfl (fun ls hl => ?_)
    refine lv_goto (tgt := 15) hx hb dX9_find_58 (by decide) ?_
    exact hK15 x2 x3 x4_55 h_52 g_52 _ _ _ HW hG (lv_sub hl [1, 2, 3, 0] rfl)
  have L15 : ∀ (n : Nat) (x2 : Int32) (x3 : Int32) (x4 : Int32) (h : HI) (g : HL) (H : Heap) (locs : List Loc) (ls : Array Slot), lpN (F_X9_find_15 Q) n (x2, x3, x4, h, g) → gG D cy ad (gA ad s.heap.size) s.heap h g H locs → lv_has ls 6 [(0, .ref (ad 89)), (2, .int x2), (3, .int x3), (4, .int x4)] → W p l e ({ frames := 3, cells := 0, slots := 0, locals := 73 } : Room) s m args below meth c H locs 0 0 (MQ below (va_Qv (fun (u : HI × HL) => Q u.1 u.2) (gB D cy ad s.heap.size) (gA ad s.heap.size)) args s 0 0 (gA ad s.heap.size)) (F0 m 15 ls []) := by
    intro n
    induction n with
    | zero => intro x2 x3 x4 h g H locs ls HW; exact HW.elim
    | succ n ih =>
      intro x2 x3 x4 h g H locs ls HW hG hl
      have HW : b_X9_find_15 Q (fun x2 x3 x4 h g => lpN (F_X9_find_15 Q) n (x2, x3, x4, h, g)) x2 x3 x4 h g := HW
      generalize hKe : (fun (x2 : Int32) (x3 : Int32) (x4 : Int32) (h : HI) (g : HL) => lpN (F_X9_find_15 Q) n (x2, x3, x4, h, g)) = K15 at HW
      have hK15 : ∀ (x2 : Int32) (x3 : Int32) (x4 : Int32) (h : HI) (g : HL) (H : Heap) (locs : List Loc) (ls : Array Slot), K15 x2 x3 x4 h g → gG D cy ad (gA ad s.heap.size) s.heap h g H locs → lv_has ls 6 [(0, .ref (ad 89)), (2, .int x2), (3, .int x3), (4, .int x4)] → W p l e ({ frames := 3, cells := 0, slots := 0, locals := 73 } : Room) s m args below meth c H locs 0 0 (MQ below (va_Qv (fun (u : HI × HL) => Q u.1 u.2) (gB D cy ad s.heap.size) (gA ad s.heap.size)) args s 0 0 (gA ad s.heap.size)) (F0 m 15 ls []) := by subst hKe; exact ih
      clear ih
      clear hKe
      unfold b_X9_find_15 at HW
      refine lv_iload hx hb dX9_find_15 (lv_at hl 3 rfl) ?_
      refine lv_iconst (v := 5) hx hb dX9_find_17 (by decide) ?_
      refine lv_icmp_gt (tgt := 61) hx hb dX9_find_18 (by decide) (fun c_18 => ?_) (fun c_18 => ?_)
      · replace HW := HW.1 c_18
        exact W.vret hx hb hr (fun t ht hW => ⟨⟨(h, g), rfl, HW, g_B ht hG⟩, hG.2.2.F ht⟩) hG.2.2.2.2 dX9_find_61
      · replace HW := HW.2 c_18
        refine lv_iload hx hb dX9_find_21 (lv_at hl 3 rfl) ?_
        refine lv_iconst (v := 1) hx hb dX9_find_23 (by decide) ?_
        refine lv_iand hx hb dX9_find_24 ?_
        refine lv_topi (fun x5_25 ex5_25 => ?_)
        replace HW := HW x5_25 ex5_25
        refine lv_istore (lv' := [(5, .int x5_25), (0, .ref (ad 89)), (2, .int x2), (3, .int x3), (4, .int x4)]) hx hb dX9_find_25 hl (by decide) rfl (fun ls hl => ?_)
        refine lv_aload_n hx hb dX9_find_27 rfl (lv_at hl 1 rfl) ?_
        refine lv_iload hx hb dX9_find_28 (lv_at hl 0 rfl) ?_
        refine lv_iload hx hb dX9_find_30 (lv_at hl 4 rfl) ?_
        refine lv_iload_n hx hb dX9_find_32 rfl (lv_at hl 2 rfl) ?_
        refine lv_iload_n hx hb dX9_find_33 rfl (lv_at hl 3 rfl) ?_
        obtain ⟨P_34, HC_34, HW⟩ := HW
        refine g_callv (g_runV (As := [.int x5_25, .int x4, .int x2, .int x3]) (rest := []) ⟨hx, hb, hml, hown, hts⟩ (m_X9_look l D cy ad h g H.size x5_25 x4 x2 x3 P_34 HC_34) (cwV 4 hts (gd_V (wm3 191 rfl rfl) (wm3 193 rfl rfl) (wmp1 (q := (yX9_look, 7)) 15 rfl) (wm1 7 rfl rfl) (wm3 194 rfl rfl)) rfl rfl rfl (by decide +kernel) ⟨Nat.le_of_ble_eq_true rfl, Nat.le_of_ble_eq_true rfl⟩) hK hNw hG gl_89 rfl gk_89 (by decide) rfl rfl hl.1 rfl (lv_room (Nat.le_of_ble_eq_true rfl)) dX9_find_34 ⟨Nat.zero_le _, Nat.zero_le _⟩) hG (fun h_34 g_34 H locs hq hG => ?_)
        replace HW := HW h_34 g_34 hq
        refine lv_iload hx hb dX9_find_37 (lv_at hl 4 rfl) ?_
        refine lv_iconst (v := 5) hx hb dX9_find_39 (by decide) ?_
        refine lv_icmp_ge (tgt := 49) hx hb dX9_find_40 (by decide) (fun c_40 => ?_) (fun c_40 => ?_)
        · replace HW := HW.1 c_40
          exact B49 K15 hK15 x2 x3 x4 x5_25 h_34 g_34 _ _ _ HW hG (lv_sub hl [1, 2, 3, 4, 0] rfl)
        · replace HW := HW.2 c_40
          refine lv_aload_n hx hb dX9_find_43 rfl (lv_at hl 1 rfl) ?_
          refine lv_iload hx hb dX9_find_44 (lv_at hl 0 rfl) ?_
          obtain ⟨P_46, HC_46, HW⟩ := HW
          refine g_callv (g_runV (As := [.int x5_25]) (rest := []) ⟨hx, hb, hml, hown, hts⟩ (m_X9_spread l D cy ad h_34 g_34 H.size x5_25 P_46 HC_46) (cwV 1 hts (gd_V (wm3 198 rfl rfl) (wm3 200 rfl rfl) (wmp2 (q := (yX9_spread, 7)) 0 rfl) (wm1 7 rfl rfl) (wm3 201 rfl rfl)) rfl rfl rfl (by decide +kernel) ⟨Nat.le_of_ble_eq_true rfl, Nat.le_of_ble_eq_true rfl⟩) hK hNw hG gl_89 rfl gk_89 (by decide) rfl rfl hl.1 rfl (lv_room (Nat.le_of_ble_eq_true rfl)) dX9_find_46 ⟨Nat.zero_le _, Nat.zero_le _⟩) hG (fun h_46 g_46 H locs hq hG => ?_)
          replace HW := HW h_46 g_46 hq
          exact B49 K15 hK15 x2 x3 x4 x5_25 h_46 g_46 _ _ _ HW hG (lv_sub hl [1, 2, 3, 4, 0] rfl)
  have E0 : ∀ (H : Heap) (locs : List Loc) (ls : Array Slot), gG D cy ad (gA ad s.heap.size) s.heap h g H locs → lv_has ls 6 [(0, .ref (ad 89)), (1, .int x1), (2, .int x2), (3, .int x3)] → W p l e ({ frames := 3, cells := 0, slots := 0, locals := 73 } : Room) s m args below meth c H locs 0 0 (MQ below (va_Qv (fun (u : HI × HL) => Q u.1 u.2) (gB D cy ad s.heap.size) (gA ad s.heap.size)) args s 0 0 (gA ad s.heap.size)) (F0 m 0 ls []) := by
    intro H locs ls hG hl
    unfold w_X9_find at HW
    refine lv_aload_n hx hb dX9_find_0 rfl (lv_at hl 0 rfl) ?_
    refine lv_iconst (v := (-1)) hx hb dX9_find_1 (by decide) ?_
    refine g_put hx hb hw inG9 tyX9 tyX9_ok nmX9 hown hK hG gl_89 rfl gk_89 (by decide) 5 (by decide) (by rw [gm_89]; decide) gr_89_5 rfl (ty := .int) (by decide +kernel) rfl rfl lk33 dX9_find_2 (fun H locs hG => ?_)
    obtain ⟨h_2, eh_2⟩ : ∃ y : HI, y = hu h 89 5 (-1 : Int32) := ⟨_, rfl⟩
    rw [← eh_2] at hG
    replace HW := HW h_2 eh_2
    refine lv_aload_n hx hb dX9_find_5 rfl (lv_at hl 0 rfl) ?_
    refine lv_iconst (v := 0) hx hb dX9_find_6 (by decide) ?_
    refine lv_iload_n hx hb dX9_find_7 rfl (lv_at hl 1 rfl) ?_
    refine lv_iconst (v := 0) hx hb dX9_find_8 (by decide) ?_
    obtain ⟨P_9, HC_9, HW⟩ := HW
    refine g_callv (g_runV (As := [.int (0 : Int32), .int x1, .int (0 : Int32)]) (rest := []) ⟨hx, hb, hml, hown, hts⟩ (m_X9_reach l D cy ad h_2 g H.size (0 : Int32) x1 (0 : Int32) P_9 HC_9) (cwV 3 hts (gd_V (wm3 186 rfl rfl) (wm3 188 rfl rfl) (wmp1 (q := (yX9_reach, 7)) 14 rfl) (wm1 7 rfl rfl) (wm3 189 rfl rfl)) rfl rfl rfl (by decide +kernel) ⟨Nat.le_of_ble_eq_true rfl, Nat.le_of_ble_eq_true rfl⟩) hK hNw hG gl_89 rfl gk_89 (by decide) rfl rfl hl.1 rfl (lv_room (Nat.le_of_ble_eq_true rfl)) dX9_find_9 ⟨Nat.zero_le _, Nat.zero_le _⟩) hG (fun h_9 g_9 H locs hq hG => ?_)
    replace HW := HW h_9 g_9 hq
    refine lv_iconst (v := 0) hx hb dX9_find_12 (by decide) ?_
    refine lv_istore (lv' := [(4, .int (0 : Int32)), (0, .ref (ad 89)), (1, .int x1), (2, .int x2), (3, .int x3)]) hx hb dX9_find_13 hl (by decide) rfl (fun ls hl => ?_)
    obtain ⟨n_15, HW⟩ := HW
    exact L15 n_15 x2 x3 (0 : Int32) h_9 g_9 _ _ _ HW hG (lv_sub hl [1, 3, 4, 0] rfl)
  exact E0 _ _ _ hG hl

def w_X9_stepAt (x1 : Int32) (h : HI) (g : HL) (Q : Int32 → HI → HL → Prop) : Prop :=
  (∃ P_8 : Int32 → HI → HL → Prop, w_X10_within x1 (0 : Int32) ((h 89 6) - (1 : Int32)) h g P_8 ∧ ∀ (r_8 : Int32) (h_8 : HI) (g_8 : HL), zb r_8 → P_8 r_8 h_8 g_8 → ((r_8 = 0 → Q (-1 : Int32) h_8 g_8) ∧ (¬ r_8 = 0 → Q (((h_8 89 4) >>> (((3 : Int32) * (((h_8 89 6) - (1 : Int32)) - x1)) &&& 31)) &&& (7 : Int32)) h_8 g_8)))
set_option maxHeartbeats 8000000 in
set_option maxRecDepth 100000 in
theorem m_X9_stepAt (l : Launch) (D : va_G) (cy : Nat → ClassId) (ad : Nat → Nat) (h : HI) (g : HL) (sz : Nat) (x1 : Int32) (Q : Int32 → HI → HL → Prop) (HW : w_X9_stepAt x1 h g Q) : Met l yX9_stepAt (wa yX9_stepAt cX9_stepAt 2 (some .int)) ({ frames := 1, cells := 0, slots := 0, locals := 22 }) (va_Pc [.ref (ad 89), .int x1] (gI D cy ad h g sz)) (va_Qi (fun (r : Int32) (u : HI × HL) => Q r u.1 u.2) (gB D cy ad sz) (gA ad sz)) 0 0 (gA ad sz) := by
  refine Met.ofW (cc := cX9_stepAt) (maxL := 2) (ret := (some .int)) (by decide) rfl ?_
  intro p e s m args below meth c s₁ B hml hv
  obtain ⟨hav, hsz, hP, hK, hD0, hNw⟩ := hv
  have hx := B.exec
  have hb := B.bytes
  have hr := B.returns
  have hts := atoms_spec (ws := (wa yX9_stepAt cX9_stepAt 2 (some .int))) B.pre
  have hw := wa_hw hts
  have hown : s.vm.findClass RX9 = some m.cls := findClass_of_methodNamed B.named
  have hlocks := B.notSynchronized
  subst hsz
  have hG : gG D cy ad (gA ad s.heap.size) s.heap h g s.heap [] := ⟨hP, gA_self hD0, va_S.rf⟩
  clear hP hD0
  have lk69 := hw (.fieldLink RX9 69 "OldWorks$Ways" "steps" "I") (wm2 26 rfl rfl)
  have lk66 := hw (.fieldLink RX9 66 "OldWorks$Ways" "row" "I") (wm2 23 rfl rfl)
  rw [show (headSpec (wa yX9_stepAt cX9_stepAt 2 (some .int)) ({ frames := 1, cells := 0, slots := 0, locals := 22 } : Room)).room = ({ frames := 1, cells := 0, slots := 0, locals := 22 } : Room) from rfl]
  have hl := lv_entry ([.ref (ad 89), .int x1]) (n := 2) (Nat.le_of_ble_eq_true rfl)
  rw [show entryFrame m args 2 = entryFrame m ([.ref (ad 89), .int x1] : List Value).toArray 2 from by rw [hav], lg_entry_eq]
  generalize (lg_sl ([.ref (ad 89), .int x1]) ++ List.replicate (2 - (lg_sl ([.ref (ad 89), .int x1])).length) Slot.unset).toArray = ls at hl ⊢
  have hl : lv_has ls 2 [(0, .ref (ad 89)), (1, .int x1)] := hl
  have E0 : ∀ (H : Heap) (locs : List Loc) (ls : Array Slot), gG D cy ad (gA ad s.heap.size) s.heap h g H locs → lv_has ls 2 [(0, .ref (ad 89)), (1, .int x1)] → W p l e ({ frames := 1, cells := 0, slots := 0, locals := 22 } : Room) s m args below meth c H locs 0 0 (MQ below (va_Qi (fun (r : Int32) (u : HI × HL) => Q r u.1 u.2) (gB D cy ad s.heap.size) (gA ad s.heap.size)) args s 0 0 (gA ad s.heap.size)) (F0 m 0 ls []) := by
    intro H locs ls hG hl
    unfold w_X9_stepAt at HW
    refine lv_iload_n hx hb dX9_stepAt_0 rfl (lv_at hl 1 rfl) ?_
    refine lv_iconst (v := 0) hx hb dX9_stepAt_1 (by decide) ?_
    refine lv_aload_n hx hb dX9_stepAt_2 rfl (lv_at hl 0 rfl) ?_
    refine g_geti hx hb hw inG9 hown hK hG gl_89 rfl gk_89 (by decide) 6 (by decide) (by rw [gm_89]; decide) gr_89_6 lk69 dX9_stepAt_3 ?_
    refine lv_iconst (v := 1) hx hb dX9_stepAt_6 (by decide) ?_
    refine lv_isub hx hb dX9_stepAt_7 ?_
    obtain ⟨P_8, HC_8, HW⟩ := HW
    refine g_callz (g_runSN (As := [.int x1, .int (0 : Int32), .int ((h 89 6) - (1 : Int32))]) (rest := []) ⟨hx, hb, hml, hown, hts⟩ (m_X10_within l D cy ad h g H.size x1 (0 : Int32) ((h 89 6) - (1 : Int32)) P_8 HC_8) ⟨va_cnB 3 hts (gd_w (wm2 195 rfl rfl)) rfl rfl rfl (hNw _ (List.mem_of_getElem? (i := 5) rfl)) (hw (.initialized RX10) (wm1 1 rfl rfl)) (by decide +kernel) ⟨Nat.le_of_ble_eq_true rfl, Nat.le_of_ble_eq_true rfl⟩, hw (.static yX10_within) (wm2 194 rfl rfl), trivial⟩ hK hNw hG rfl rfl hl.1 rfl (lv_room (Nat.le_of_ble_eq_true rfl)) dX9_stepAt_8 ⟨Nat.zero_le _, Nat.zero_le _⟩) hG (fun r_8 h_8 g_8 H locs hz hq hG => ?_)
    replace HW := HW r_8 h_8 g_8 hz hq
    refine lv_if_eq (tgt := 35) hx hb dX9_stepAt_11 (by decide) (fun c_11 => ?_) (fun c_11 => ?_)
    · replace HW := HW.1 c_11
      refine lv_iconst (v := (-1)) hx hb dX9_stepAt_35 (by decide) ?_
      exact W.iret (v := (-1 : Int32)) hx hb hr (fun t ht hW => ⟨⟨(-1 : Int32), (h_8, g_8), rfl, HW, g_B ht hG⟩, hG.2.2.F ht⟩) hG.2.2.2.2 dX9_stepAt_36
    · replace HW := HW.2 c_11
      refine lv_aload_n hx hb dX9_stepAt_14 rfl (lv_at hl 0 rfl) ?_
      refine g_geti hx hb hw inG9 hown hK hG gl_89 rfl gk_89 (by decide) 4 (by decide) (by rw [gm_89]; decide) gr_89_4 lk66 dX9_stepAt_15 ?_
      refine lv_iconst (v := 3) hx hb dX9_stepAt_18 (by decide) ?_
      refine lv_aload_n hx hb dX9_stepAt_19 rfl (lv_at hl 0 rfl) ?_
      refine g_geti hx hb hw inG9 hown hK hG gl_89 rfl gk_89 (by decide) 6 (by decide) (by rw [gm_89]; decide) gr_89_6 lk69 dX9_stepAt_20 ?_
      refine lv_iconst (v := 1) hx hb dX9_stepAt_23 (by decide) ?_
      refine lv_isub hx hb dX9_stepAt_24 ?_
      refine lv_iload_n hx hb dX9_stepAt_25 rfl (lv_at hl 1 rfl) ?_
      refine lv_isub hx hb dX9_stepAt_26 ?_
      refine lv_imul hx hb dX9_stepAt_27 ?_
      refine lv_ishr hx hb dX9_stepAt_28 ?_
      refine lv_bipush (v := 7) hx hb dX9_stepAt_29 (by decide) ?_
      refine lv_iand hx hb dX9_stepAt_31 ?_
      refine lv_goto (tgt := 36) hx hb dX9_stepAt_32 (by decide) ?_
      exact W.iret (v := (((h_8 89 4) >>> (((3 : Int32) * (((h_8 89 6) - (1 : Int32)) - x1)) &&& 31)) &&& (7 : Int32))) hx hb hr (fun t ht hW => ⟨⟨(((h_8 89 4) >>> (((3 : Int32) * (((h_8 89 6) - (1 : Int32)) - x1)) &&& 31)) &&& (7 : Int32)), (h_8, g_8), rfl, HW, g_B ht hG⟩, hG.2.2.F ht⟩) hG.2.2.2.2 dX9_stepAt_36
  exact E0 _ _ _ hG hl

def w_X10_part (x1 : Int32) (x2 : Int32) (x3 : Int32) (x4 : Int32) (h : HI) (g : HL) (Q : Int32 → HI → HL → Prop) : Prop :=
  (∃ P_4 : Int32 → HI → HL → Prop, w_X10_within x1 (0 : Int32) (100 : Int32) h g P_4 ∧ ∀ (r_4 : Int32) (h_4 : HI) (g_4 : HL), zb r_4 → P_4 r_4 h_4 g_4 → ((r_4 = 0 → Q (-2 : Int32) h_4 g_4) ∧ (¬ r_4 = 0 → (∃ P_14 : Int32 → HI → HL → Prop, w_X10_within x2 (1 : Int32) (100 : Int32) h_4 g_4 P_14 ∧ ∀ (r_14 : Int32) (h_14 : HI) (g_14 : HL), zb r_14 → P_14 r_14 h_14 g_14 → ((¬ r_14 = 0 → (∃ P_27 : Int32 → HI → HL → Prop, w_X10_within x3 (0 : Int32) (99 : Int32) h_14 g_14 P_27 ∧ ∀ (r_27 : Int32) (h_27 : HI) (g_27 : HL), zb r_27 → P_27 r_27 h_27 g_27 → ((r_27 = 0 → Q (-2 : Int32) h_27 g_27) ∧ (¬ r_27 = 0 → (∃ P_37 : Int32 → HI → HL → Prop, w_X10_within x4 (-1 : Int32) (3 : Int32) h_27 g_27 P_37 ∧ ∀ (r_37 : Int32) (h_37 : HI) (g_37 : HL), zb r_37 → P_37 r_37 h_37 g_37 → ((¬ r_37 = 0 → (∃ P_58 : Int32 → HI → HL → Prop, w_X8_add 2 x1 x2 x3 x4 h_37 g_37 P_58 ∧ ∀ (r_58 : Int32) (h_58 : HI) (g_58 : HL), P_58 r_58 h_58 g_58 → Q r_58 h_58 g_58)) ∧ (r_37 = 0 → Q (-2 : Int32) h_37 g_37))))))) ∧ (r_14 = 0 → Q (-2 : Int32) h_14 g_14))))))
set_option maxHeartbeats 8000000 in
set_option maxRecDepth 100000 in
theorem m_X10_part (l : Launch) (D : va_G) (cy : Nat → ClassId) (ad : Nat → Nat) (h : HI) (g : HL) (sz : Nat) (x1 : Int32) (x2 : Int32) (x3 : Int32) (x4 : Int32) (Q : Int32 → HI → HL → Prop) (HW : w_X10_part x1 x2 x3 x4 h g Q) : Met l yX10_part (wa yX10_part cX10_part 5 (some .int)) ({ frames := 2, cells := 0, slots := 0, locals := 50 }) (va_Pc [.ref (ad 0), .int x1, .int x2, .int x3, .int x4] (gI D cy ad h g sz)) (va_Qi (fun (r : Int32) (u : HI × HL) => Q r u.1 u.2) (gB D cy ad sz) (gA ad sz)) 0 0 (gA ad sz) := by
  refine Met.ofW (cc := cX10_part) (maxL := 5) (ret := (some .int)) (by decide) rfl ?_
  intro p e s m args below meth c s₁ B hml hv
  obtain ⟨hav, hsz, hP, hK, hD0, hNw⟩ := hv
  have hx := B.exec
  have hb := B.bytes
  have hr := B.returns
  have hts := atoms_spec (ws := (wa yX10_part cX10_part 5 (some .int))) B.pre
  have hw := wa_hw hts
  have hown : s.vm.findClass RX10 = some m.cls := findClass_of_methodNamed B.named
  have hlocks := B.notSynchronized
  subst hsz
  have hG : gG D cy ad (gA ad s.heap.size) s.heap h g s.heap [] := ⟨hP, gA_self hD0, va_S.rf⟩
  clear hP hD0
  have lk10 := hw (.fieldLink RX10 10 "OldWorks" "shop" "LOldWorks$Shop;") (wm2 155 rfl rfl)
  have lk85 := hw (.fieldLink RX10 85 "OldWorks$Shop" "parts" "LOldWorks$Table;") (wm1 62 rfl rfl)
  rw [show (headSpec (wa yX10_part cX10_part 5 (some .int)) ({ frames := 2, cells := 0, slots := 0, locals := 50 } : Room)).room = ({ frames := 2, cells := 0, slots := 0, locals := 50 } : Room) from rfl]
  have hl := lv_entry ([.ref (ad 0), .int x1, .int x2, .int x3, .int x4]) (n := 5) (Nat.le_of_ble_eq_true rfl)
  rw [show entryFrame m args 5 = entryFrame m ([.ref (ad 0), .int x1, .int x2, .int x3, .int x4] : List Value).toArray 5 from by rw [hav], lg_entry_eq]
  generalize (lg_sl ([.ref (ad 0), .int x1, .int x2, .int x3, .int x4]) ++ List.replicate (5 - (lg_sl ([.ref (ad 0), .int x1, .int x2, .int x3, .int x4])).length) Slot.unset).toArray = ls at hl ⊢
  have hl : lv_has ls 5 [(0, .ref (ad 0)), (1, .int x1), (2, .int x2), (3, .int x3), (4, .int x4)] := hl
  have E0 : ∀ (H : Heap) (locs : List Loc) (ls : Array Slot), gG D cy ad (gA ad s.heap.size) s.heap h g H locs → lv_has ls 5 [(0, .ref (ad 0)), (1, .int x1), (2, .int x2), (3, .int x3), (4, .int x4)] → W p l e ({ frames := 2, cells := 0, slots := 0, locals := 50 } : Room) s m args below meth c H locs 0 0 (MQ below (va_Qi (fun (r : Int32) (u : HI × HL) => Q r u.1 u.2) (gB D cy ad s.heap.size) (gA ad s.heap.size)) args s 0 0 (gA ad s.heap.size)) (F0 m 0 ls []) := by
    intro H locs ls hG hl
    unfold w_X10_part at HW
    refine lv_iload_n hx hb dX10_part_0 rfl (lv_at hl 1 rfl) ?_
    refine lv_iconst (v := 0) hx hb dX10_part_1 (by decide) ?_
    refine lv_bipush (v := 100) hx hb dX10_part_2 (by decide) ?_
    obtain ⟨P_4, HC_4, HW⟩ := HW
    refine g_callz (g_runS (As := [.int x1, .int (0 : Int32), .int (100 : Int32)]) (rest := []) ⟨hx, hb, hml, hown, hts⟩ (m_X10_within l D cy ad h g H.size x1 (0 : Int32) (100 : Int32) P_4 HC_4) (va_cwS 3 hts (gd_S (wm2 193 rfl rfl) (wm2 194 rfl rfl) (wm1 1 rfl rfl) (wm2 195 rfl rfl)) rfl rfl rfl (by decide +kernel) ⟨Nat.le_of_ble_eq_true rfl, Nat.le_of_ble_eq_true rfl⟩) hK hNw hG rfl rfl hl.1 rfl (lv_room (Nat.le_of_ble_eq_true rfl)) dX10_part_4 ⟨Nat.zero_le _, Nat.zero_le _⟩) hG (fun r_4 h_4 g_4 H locs hz hq hG => ?_)
    replace HW := HW r_4 h_4 g_4 hz hq
    refine lv_if_eq (tgt := 20) hx hb dX10_part_7 (by decide) (fun c_7 => ?_) (fun c_7 => ?_)
    · replace HW := HW.1 c_7
      refine lv_bipush (v := (-2)) hx hb dX10_part_20 (by decide) ?_
      exact W.iret (v := (-2 : Int32)) hx hb hr (fun t ht hW => ⟨⟨(-2 : Int32), (h_4, g_4), rfl, HW, g_B ht hG⟩, hG.2.2.F ht⟩) hG.2.2.2.2 dX10_part_22
    · replace HW := HW.2 c_7
      refine lv_iload_n hx hb dX10_part_10 rfl (lv_at hl 2 rfl) ?_
      refine lv_iconst (v := 1) hx hb dX10_part_11 (by decide) ?_
      refine lv_bipush (v := 100) hx hb dX10_part_12 (by decide) ?_
      obtain ⟨P_14, HC_14, HW⟩ := HW
      refine g_callz (g_runS (As := [.int x2, .int (1 : Int32), .int (100 : Int32)]) (rest := []) ⟨hx, hb, hml, hown, hts⟩ (m_X10_within l D cy ad h_4 g_4 H.size x2 (1 : Int32) (100 : Int32) P_14 HC_14) (va_cwS 3 hts (gd_S (wm2 193 rfl rfl) (wm2 194 rfl rfl) (wm1 1 rfl rfl) (wm2 195 rfl rfl)) rfl rfl rfl (by decide +kernel) ⟨Nat.le_of_ble_eq_true rfl, Nat.le_of_ble_eq_true rfl⟩) hK hNw hG rfl rfl hl.1 rfl (lv_room (Nat.le_of_ble_eq_true rfl)) dX10_part_14 ⟨Nat.zero_le _, Nat.zero_le _⟩) hG (fun r_14 h_14 g_14 H locs hz hq hG => ?_)
      replace HW := HW r_14 h_14 g_14 hz hq
      refine lv_if_ne (tgt := 23) hx hb dX10_part_17 (by decide) (fun c_17 => ?_) (fun c_17 => ?_)
      · replace HW := HW.1 c_17
        refine lv_iload_n hx hb dX10_part_23 rfl (lv_at hl 3 rfl) ?_
        refine lv_iconst (v := 0) hx hb dX10_part_24 (by decide) ?_
        refine lv_bipush (v := 99) hx hb dX10_part_25 (by decide) ?_
        obtain ⟨P_27, HC_27, HW⟩ := HW
        refine g_callz (g_runS (As := [.int x3, .int (0 : Int32), .int (99 : Int32)]) (rest := []) ⟨hx, hb, hml, hown, hts⟩ (m_X10_within l D cy ad h_14 g_14 H.size x3 (0 : Int32) (99 : Int32) P_27 HC_27) (va_cwS 3 hts (gd_S (wm2 193 rfl rfl) (wm2 194 rfl rfl) (wm1 1 rfl rfl) (wm2 195 rfl rfl)) rfl rfl rfl (by decide +kernel) ⟨Nat.le_of_ble_eq_true rfl, Nat.le_of_ble_eq_true rfl⟩) hK hNw hG rfl rfl hl.1 rfl (lv_room (Nat.le_of_ble_eq_true rfl)) dX10_part_27 ⟨Nat.zero_le _, Nat.zero_le _⟩) hG (fun r_27 h_27 g_27 H locs hz hq hG => ?_)
        replace HW := HW r_27 h_27 g_27 hz hq
        refine lv_if_eq (tgt := 43) hx hb dX10_part_30 (by decide) (fun c_30 => ?_) (fun c_30 => ?_)
        · replace HW := HW.1 c_30
          refine lv_bipush (v := (-2)) hx hb dX10_part_43 (by decide) ?_
          exact W.iret (v := (-2 : Int32)) hx hb hr (fun t ht hW => ⟨⟨(-2 : Int32), (h_27, g_27), rfl, HW, g_B ht hG⟩, hG.2.2.F ht⟩) hG.2.2.2.2 dX10_part_45
        · replace HW := HW.2 c_30
          refine lv_iload hx hb dX10_part_33 (lv_at hl 4 rfl) ?_
          refine lv_iconst (v := (-1)) hx hb dX10_part_35 (by decide) ?_
          refine lv_iconst (v := 3) hx hb dX10_part_36 (by decide) ?_
          obtain ⟨P_37, HC_37, HW⟩ := HW
          refine g_callz (g_runS (As := [.int x4, .int (-1 : Int32), .int (3 : Int32)]) (rest := []) ⟨hx, hb, hml, hown, hts⟩ (m_X10_within l D cy ad h_27 g_27 H.size x4 (-1 : Int32) (3 : Int32) P_37 HC_37) (va_cwS 3 hts (gd_S (wm2 193 rfl rfl) (wm2 194 rfl rfl) (wm1 1 rfl rfl) (wm2 195 rfl rfl)) rfl rfl rfl (by decide +kernel) ⟨Nat.le_of_ble_eq_true rfl, Nat.le_of_ble_eq_true rfl⟩) hK hNw hG rfl rfl hl.1 rfl (lv_room (Nat.le_of_ble_eq_true rfl)) dX10_part_37 ⟨Nat.zero_le _, Nat.zero_le _⟩) hG (fun r_37 h_37 g_37 H locs hz hq hG => ?_)
          replace HW := HW r_37 h_37 g_37 hz hq
          refine lv_if_ne (tgt := 46) hx hb dX10_part_40 (by decide) (fun c_40 => ?_) (fun c_40 => ?_)
          · replace HW := HW.1 c_40
            refine lv_aload_n hx hb dX10_part_46 rfl (lv_at hl 0 rfl) ?_
            refine g_getr hx hb hw inG10 hown hK hG gl_0 rfl gk_0 (by decide) 0 (by decide) (by rw [gm_0]; decide) (r := 1) gr_0_0 lk10 dX10_part_47 ?_
            refine g_getr hx hb hw inG6 hown hK hG gl_1 rfl gk_1 (by decide) 0 (by decide) (by rw [gm_1]; decide) (r := 2) gr_1_0 lk85 dX10_part_50 ?_
            refine lv_iload_n hx hb dX10_part_53 rfl (lv_at hl 1 rfl) ?_
            refine lv_iload_n hx hb dX10_part_54 rfl (lv_at hl 2 rfl) ?_
            refine lv_iload_n hx hb dX10_part_55 rfl (lv_at hl 3 rfl) ?_
            refine lv_iload hx hb dX10_part_56 (lv_at hl 4 rfl) ?_
            obtain ⟨P_58, HC_58, HW⟩ := HW
            refine g_calli (g_runV (As := [.int x1, .int x2, .int x3, .int x4]) (rest := []) ⟨hx, hb, hml, hown, hts⟩ (m_X8_add l D cy ad h_37 g_37 H.size 2 (gs_2) x1 x2 x3 x4 P_58 HC_58) (cwV 4 hts (gd_V (wm2 196 rfl rfl) (wm1 53 rfl rfl) (wm1 54 rfl rfl) (wm1 3 rfl rfl) (wm1 55 rfl rfl)) rfl rfl rfl (by decide +kernel) ⟨Nat.le_of_ble_eq_true rfl, Nat.le_of_ble_eq_true rfl⟩) hK hNw hG gl_2 rfl gk_2 (by decide) rfl rfl hl.1 rfl (lv_room (Nat.le_of_ble_eq_true rfl)) dX10_part_58 ⟨Nat.zero_le _, Nat.zero_le _⟩) hG (fun r_58 h_58 g_58 H locs hq hG => ?_)
            replace HW := HW r_58 h_58 g_58 hq
            exact W.iret (v := r_58) hx hb hr (fun t ht hW => ⟨⟨r_58, (h_58, g_58), rfl, HW, g_B ht hG⟩, hG.2.2.F ht⟩) hG.2.2.2.2 dX10_part_61
          · replace HW := HW.2 c_40
            refine lv_bipush (v := (-2)) hx hb dX10_part_43 (by decide) ?_
            exact W.iret (v := (-2 : Int32)) hx hb hr (fun t ht hW => ⟨⟨(-2 : Int32), (h_37, g_37), rfl, HW, g_B ht hG⟩, hG.2.2.F ht⟩) hG.2.2.2.2 dX10_part_45
      · replace HW := HW.2 c_17
        refine lv_bipush (v := (-2)) hx hb dX10_part_20 (by decide) ?_
        exact W.iret (v := (-2 : Int32)) hx hb hr (fun t ht hW => ⟨⟨(-2 : Int32), (h_14, g_14), rfl, HW, g_B ht hG⟩, hG.2.2.F ht⟩) hG.2.2.2.2 dX10_part_22
  exact E0 _ _ _ hG hl

def w_X10_family (x1 : Int32) (x2 : Int32) (x3 : Int32) (x4 : Int32) (h : HI) (g : HL) (Q : Int32 → HI → HL → Prop) : Prop :=
  (∃ P_8 : Int32 → HI → HL → Prop, w_X8_has 4 x1 h g P_8 ∧ ∀ (r_8 : Int32) (h_8 : HI) (g_8 : HL), zb r_8 → P_8 r_8 h_8 g_8 → ((r_8 = 0 → Q (-2 : Int32) h_8 g_8) ∧ (¬ r_8 = 0 → (∃ P_18 : Int32 → HI → HL → Prop, w_X10_within x2 (1 : Int32) (100000 : Int32) h_8 g_8 P_18 ∧ ∀ (r_18 : Int32) (h_18 : HI) (g_18 : HL), zb r_18 → P_18 r_18 h_18 g_18 → ((¬ r_18 = 0 → (∃ P_31 : Int32 → HI → HL → Prop, w_X10_within x3 (1 : Int32) (100000 : Int32) h_18 g_18 P_31 ∧ ∀ (r_31 : Int32) (h_31 : HI) (g_31 : HL), zb r_31 → P_31 r_31 h_31 g_31 → ((r_31 = 0 → Q (-2 : Int32) h_31 g_31) ∧ (¬ r_31 = 0 → (∃ P_42 : Int32 → HI → HL → Prop, w_X10_within x4 (1 : Int32) (100000 : Int32) h_31 g_31 P_42 ∧ ∀ (r_42 : Int32) (h_42 : HI) (g_42 : HL), zb r_42 → P_42 r_42 h_42 g_42 → ((¬ r_42 = 0 → (((lg_cmp (((x2).toInt64) + ((((x4).toInt64) - (1 : Int64)) * ((x3).toInt64))) (100000 : Int64)) ≤ 0 → (∃ P_82 : HI → HL → Prop, w_X8_put 4 x1 (0 : Int32) x2 h_42 g_42 P_82 ∧ ∀ (h_82 : HI) (g_82 : HL), P_82 h_82 g_82 → (∃ P_95 : HI → HL → Prop, w_X8_put 4 x1 (1 : Int32) x3 h_82 g_82 P_95 ∧ ∀ (h_95 : HI) (g_95 : HL), P_95 h_95 g_95 → (∃ P_109 : HI → HL → Prop, w_X8_put 4 x1 (2 : Int32) x4 h_95 g_95 P_109 ∧ ∀ (h_109 : HI) (g_109 : HL), P_109 h_109 g_109 → Q (1 : Int32) h_109 g_109)))) ∧ (¬ (lg_cmp (((x2).toInt64) + ((((x4).toInt64) - (1 : Int64)) * ((x3).toInt64))) (100000 : Int64)) ≤ 0 → Q (-2 : Int32) h_42 g_42))) ∧ (r_42 = 0 → Q (-2 : Int32) h_42 g_42))))))) ∧ (r_18 = 0 → Q (-2 : Int32) h_18 g_18))))))
set_option maxHeartbeats 8000000 in
set_option maxRecDepth 100000 in
theorem m_X10_family (l : Launch) (D : va_G) (cy : Nat → ClassId) (ad : Nat → Nat) (h : HI) (g : HL) (sz : Nat) (x1 : Int32) (x2 : Int32) (x3 : Int32) (x4 : Int32) (Q : Int32 → HI → HL → Prop) (HW : w_X10_family x1 x2 x3 x4 h g Q) : Met l yX10_family (wa yX10_family cX10_family 5 (some .int)) ({ frames := 1, cells := 0, slots := 0, locals := 24 }) (va_Pc [.ref (ad 0), .int x1, .int x2, .int x3, .int x4] (gI D cy ad h g sz)) (va_Qi (fun (r : Int32) (u : HI × HL) => Q r u.1 u.2) (gB D cy ad sz) (gA ad sz)) 0 0 (gA ad sz) := by
  refine Met.ofW (cc := cX10_family) (maxL := 5) (ret := (some .int)) (by decide) rfl ?_
  intro p e s m args below meth c s₁ B hml hv
  obtain ⟨hav, hsz, hP, hK, hD0, hNw⟩ := hv
  have hx := B.exec
  have hb := B.bytes
  have hr := B.returns
  have hts := atoms_spec (ws := (wa yX10_family cX10_family 5 (some .int))) B.pre
  have hw := wa_hw hts
  have hown : s.vm.findClass RX10 = some m.cls := findClass_of_methodNamed B.named
  have hlocks := B.notSynchronized
  subst hsz
  have hG : gG D cy ad (gA ad s.heap.size) s.heap h g s.heap [] := ⟨hP, gA_self hD0, va_S.rf⟩
  clear hP hD0
  have lk10 := hw (.fieldLink RX10 10 "OldWorks" "shop" "LOldWorks$Shop;") (wm2 155 rfl rfl)
  have lk95 := hw (.fieldLink RX10 95 "OldWorks$Shop" "families" "LOldWorks$Table;") (wm1 66 rfl rfl)
  have cn102 := hw (.constant RX10 102 (100000)) (wm2 205 rfl rfl)
  have cn103 := hw (.constantLong RX10 103 (100000)) (wm2 206 rfl rfl)
  rw [show (headSpec (wa yX10_family cX10_family 5 (some .int)) ({ frames := 1, cells := 0, slots := 0, locals := 24 } : Room)).room = ({ frames := 1, cells := 0, slots := 0, locals := 24 } : Room) from rfl]
  have hl := lv_entry ([.ref (ad 0), .int x1, .int x2, .int x3, .int x4]) (n := 5) (Nat.le_of_ble_eq_true rfl)
  rw [show entryFrame m args 5 = entryFrame m ([.ref (ad 0), .int x1, .int x2, .int x3, .int x4] : List Value).toArray 5 from by rw [hav], lg_entry_eq]
  generalize (lg_sl ([.ref (ad 0), .int x1, .int x2, .int x3, .int x4]) ++ List.replicate (5 - (lg_sl ([.ref (ad 0), .int x1, .int x2, .int x3, .int x4])).length) Slot.unset).toArray = ls at hl ⊢
  have hl : lv_has ls 5 [(0, .ref (ad 0)), (1, .int x1), (2, .int x2), (3, .int x3), (4, .int x4)] := hl
  have E0 : ∀ (H : Heap) (locs : List Loc) (ls : Array Slot), gG D cy ad (gA ad s.heap.size) s.heap h g H locs → lv_has ls 5 [(0, .ref (ad 0)), (1, .int x1), (2, .int x2), (3, .int x3), (4, .int x4)] → W p l e ({ frames := 1, cells := 0, slots := 0, locals := 24 } : Room) s m args below meth c H locs 0 0 (MQ below (va_Qi (fun (r : Int32) (u : HI × HL) => Q r u.1 u.2) (gB D cy ad s.heap.size) (gA ad s.heap.size)) args s 0 0 (gA ad s.heap.size)) (F0 m 0 ls []) := by
    intro H locs ls hG hl
    unfold w_X10_family at HW
    refine lv_aload_n hx hb dX10_family_0 rfl (lv_at hl 0 rfl) ?_
    refine g_getr hx hb hw inG10 hown hK hG gl_0 rfl gk_0 (by decide) 0 (by decide) (by rw [gm_0]; decide) (r := 1) gr_0_0 lk10 dX10_family_1 ?_
    refine g_getr hx hb hw inG6 hown hK hG gl_1 rfl gk_1 (by decide) 1 (by decide) (by rw [gm_1]; decide) (r := 4) gr_1_1 lk95 dX10_family_4 ?_
    refine lv_iload_n hx hb dX10_family_7 rfl (lv_at hl 1 rfl) ?_
    obtain ⟨P_8, HC_8, HW⟩ := HW
    refine g_callz (g_runV (As := [.int x1]) (rest := []) ⟨hx, hb, hml, hown, hts⟩ (m_X8_has l D cy ad h g H.size 4 (gs_4) x1 P_8 HC_8) (cwV 1 hts (gd_V (wm2 201 rfl rfl) (wm2 202 rfl rfl) (wm2 203 rfl rfl) (wm1 3 rfl rfl) (wm2 204 rfl rfl)) rfl rfl rfl (by decide +kernel) ⟨Nat.le_of_ble_eq_true rfl, Nat.le_of_ble_eq_true rfl⟩) hK hNw hG gl_4 rfl gk_4 (by decide) rfl rfl hl.1 rfl (lv_room (Nat.le_of_ble_eq_true rfl)) dX10_family_8 ⟨Nat.zero_le _, Nat.zero_le _⟩) hG (fun r_8 h_8 g_8 H locs hz hq hG => ?_)
    replace HW := HW r_8 h_8 g_8 hz hq
    refine lv_if_eq (tgt := 24) hx hb dX10_family_11 (by decide) (fun c_11 => ?_) (fun c_11 => ?_)
    · replace HW := HW.1 c_11
      refine lv_bipush (v := (-2)) hx hb dX10_family_24 (by decide) ?_
      exact W.iret (v := (-2 : Int32)) hx hb hr (fun t ht hW => ⟨⟨(-2 : Int32), (h_8, g_8), rfl, HW, g_B ht hG⟩, hG.2.2.F ht⟩) hG.2.2.2.2 dX10_family_26
    · replace HW := HW.2 c_11
      refine lv_iload_n hx hb dX10_family_14 rfl (lv_at hl 2 rfl) ?_
      refine lv_iconst (v := 1) hx hb dX10_family_15 (by decide) ?_
      refine lv_ldc (v := 100000) hx hb hown cn102 dX10_family_16 ?_
      obtain ⟨P_18, HC_18, HW⟩ := HW
      refine g_callz (g_runS (As := [.int x2, .int (1 : Int32), .int (100000 : Int32)]) (rest := []) ⟨hx, hb, hml, hown, hts⟩ (m_X10_within l D cy ad h_8 g_8 H.size x2 (1 : Int32) (100000 : Int32) P_18 HC_18) (va_cwS 3 hts (gd_S (wm2 193 rfl rfl) (wm2 194 rfl rfl) (wm1 1 rfl rfl) (wm2 195 rfl rfl)) rfl rfl rfl (by decide +kernel) ⟨Nat.le_of_ble_eq_true rfl, Nat.le_of_ble_eq_true rfl⟩) hK hNw hG rfl rfl hl.1 rfl (lv_room (Nat.le_of_ble_eq_true rfl)) dX10_family_18 ⟨Nat.zero_le _, Nat.zero_le _⟩) hG (fun r_18 h_18 g_18 H locs hz hq hG => ?_)
      replace HW := HW r_18 h_18 g_18 hz hq
      refine lv_if_ne (tgt := 27) hx hb dX10_family_21 (by decide) (fun c_21 => ?_) (fun c_21 => ?_)
      · replace HW := HW.1 c_21
        refine lv_iload_n hx hb dX10_family_27 rfl (lv_at hl 3 rfl) ?_
        refine lv_iconst (v := 1) hx hb dX10_family_28 (by decide) ?_
        refine lv_ldc (v := 100000) hx hb hown cn102 dX10_family_29 ?_
        obtain ⟨P_31, HC_31, HW⟩ := HW
        refine g_callz (g_runS (As := [.int x3, .int (1 : Int32), .int (100000 : Int32)]) (rest := []) ⟨hx, hb, hml, hown, hts⟩ (m_X10_within l D cy ad h_18 g_18 H.size x3 (1 : Int32) (100000 : Int32) P_31 HC_31) (va_cwS 3 hts (gd_S (wm2 193 rfl rfl) (wm2 194 rfl rfl) (wm1 1 rfl rfl) (wm2 195 rfl rfl)) rfl rfl rfl (by decide +kernel) ⟨Nat.le_of_ble_eq_true rfl, Nat.le_of_ble_eq_true rfl⟩) hK hNw hG rfl rfl hl.1 rfl (lv_room (Nat.le_of_ble_eq_true rfl)) dX10_family_31 ⟨Nat.zero_le _, Nat.zero_le _⟩) hG (fun r_31 h_31 g_31 H locs hz hq hG => ?_)
        replace HW := HW r_31 h_31 g_31 hz hq
        refine lv_if_eq (tgt := 48) hx hb dX10_family_34 (by decide) (fun c_34 => ?_) (fun c_34 => ?_)
        · replace HW := HW.1 c_34
          refine lv_bipush (v := (-2)) hx hb dX10_family_48 (by decide) ?_
          exact W.iret (v := (-2 : Int32)) hx hb hr (fun t ht hW => ⟨⟨(-2 : Int32), (h_31, g_31), rfl, HW, g_B ht hG⟩, hG.2.2.F ht⟩) hG.2.2.2.2 dX10_family_50
        · replace HW := HW.2 c_34
          refine lv_iload hx hb dX10_family_37 (lv_at hl 4 rfl) ?_
          refine lv_iconst (v := 1) hx hb dX10_family_39 (by decide) ?_
          refine lv_ldc (v := 100000) hx hb hown cn102 dX10_family_40 ?_
          obtain ⟨P_42, HC_42, HW⟩ := HW
          refine g_callz (g_runS (As := [.int x4, .int (1 : Int32), .int (100000 : Int32)]) (rest := []) ⟨hx, hb, hml, hown, hts⟩ (m_X10_within l D cy ad h_31 g_31 H.size x4 (1 : Int32) (100000 : Int32) P_42 HC_42) (va_cwS 3 hts (gd_S (wm2 193 rfl rfl) (wm2 194 rfl rfl) (wm1 1 rfl rfl) (wm2 195 rfl rfl)) rfl rfl rfl (by decide +kernel) ⟨Nat.le_of_ble_eq_true rfl, Nat.le_of_ble_eq_true rfl⟩) hK hNw hG rfl rfl hl.1 rfl (lv_room (Nat.le_of_ble_eq_true rfl)) dX10_family_42 ⟨Nat.zero_le _, Nat.zero_le _⟩) hG (fun r_42 h_42 g_42 H locs hz hq hG => ?_)
          replace HW := HW r_42 h_42 g_42 hz hq
          refine lv_if_ne (tgt := 51) hx hb dX10_family_45 (by decide) (fun c_45 => ?_) (fun c_45 => ?_)
          · replace HW := HW.1 c_45
            refine lv_iload_n hx hb dX10_family_51 rfl (lv_at hl 2 rfl) ?_
            refine lv_i2l hx hb dX10_family_52 rfl ?_
            refine lv_iload hx hb dX10_family_53 (lv_at hl 4 rfl) ?_
            refine lv_i2l hx hb dX10_family_55 rfl ?_
            refine lv_lconst (v := 1) hx hb dX10_family_56 (by decide) ?_
            refine lv_lsub hx hb dX10_family_57 ?_
            refine lv_iload_n hx hb dX10_family_58 rfl (lv_at hl 3 rfl) ?_
            refine lv_i2l hx hb dX10_family_59 rfl ?_
            refine lv_lmul hx hb dX10_family_60 ?_
            refine lv_ladd hx hb dX10_family_61 ?_
            refine lv_ldc2 (v := 100000) hx hb hown cn103 dX10_family_62 ?_
            refine W.lcmp hx hb dX10_family_65 ?_
            refine lv_if_le (tgt := 72) hx hb dX10_family_66 (by decide) (fun c_66 => ?_) (fun c_66 => ?_)
            · replace HW := HW.1 c_66
              refine lv_aload_n hx hb dX10_family_72 rfl (lv_at hl 0 rfl) ?_
              refine g_getr hx hb hw inG10 hown hK hG gl_0 rfl gk_0 (by decide) 0 (by decide) (by rw [gm_0]; decide) (r := 1) gr_0_0 lk10 dX10_family_73 ?_
              refine g_getr hx hb hw inG6 hown hK hG gl_1 rfl gk_1 (by decide) 1 (by decide) (by rw [gm_1]; decide) (r := 4) gr_1_1 lk95 dX10_family_76 ?_
              refine lv_iload_n hx hb dX10_family_79 rfl (lv_at hl 1 rfl) ?_
              refine lv_iconst (v := 0) hx hb dX10_family_80 (by decide) ?_
              refine lv_iload_n hx hb dX10_family_81 rfl (lv_at hl 2 rfl) ?_
              obtain ⟨P_82, HC_82, HW⟩ := HW
              refine g_callv (g_runV (As := [.int x1, .int (0 : Int32), .int x2]) (rest := []) ⟨hx, hb, hml, hown, hts⟩ (m_X8_put l D cy ad h_42 g_42 H.size 4 (gs_4) x1 (0 : Int32) x2 P_82 HC_82) (cwV 3 hts (gd_V (wm2 207 rfl rfl) (wm1 57 rfl rfl) (wm1 58 rfl rfl) (wm1 3 rfl rfl) (wm1 59 rfl rfl)) rfl rfl rfl (by decide +kernel) ⟨Nat.le_of_ble_eq_true rfl, Nat.le_of_ble_eq_true rfl⟩) hK hNw hG gl_4 rfl gk_4 (by decide) rfl rfl hl.1 rfl (lv_room (Nat.le_of_ble_eq_true rfl)) dX10_family_82 ⟨Nat.zero_le _, Nat.zero_le _⟩) hG (fun h_82 g_82 H locs hq hG => ?_)
              replace HW := HW h_82 g_82 hq
              refine lv_aload_n hx hb dX10_family_85 rfl (lv_at hl 0 rfl) ?_
              refine g_getr hx hb hw inG10 hown hK hG gl_0 rfl gk_0 (by decide) 0 (by decide) (by rw [gm_0]; decide) (r := 1) gr_0_0 lk10 dX10_family_86 ?_
              refine g_getr hx hb hw inG6 hown hK hG gl_1 rfl gk_1 (by decide) 1 (by decide) (by rw [gm_1]; decide) (r := 4) gr_1_1 lk95 dX10_family_89 ?_
              refine lv_iload_n hx hb dX10_family_92 rfl (lv_at hl 1 rfl) ?_
              refine lv_iconst (v := 1) hx hb dX10_family_93 (by decide) ?_
              refine lv_iload_n hx hb dX10_family_94 rfl (lv_at hl 3 rfl) ?_
              obtain ⟨P_95, HC_95, HW⟩ := HW
              refine g_callv (g_runV (As := [.int x1, .int (1 : Int32), .int x3]) (rest := []) ⟨hx, hb, hml, hown, hts⟩ (m_X8_put l D cy ad h_82 g_82 H.size 4 (gs_4) x1 (1 : Int32) x3 P_95 HC_95) (cwV 3 hts (gd_V (wm2 207 rfl rfl) (wm1 57 rfl rfl) (wm1 58 rfl rfl) (wm1 3 rfl rfl) (wm1 59 rfl rfl)) rfl rfl rfl (by decide +kernel) ⟨Nat.le_of_ble_eq_true rfl, Nat.le_of_ble_eq_true rfl⟩) hK hNw hG gl_4 rfl gk_4 (by decide) rfl rfl hl.1 rfl (lv_room (Nat.le_of_ble_eq_true rfl)) dX10_family_95 ⟨Nat.zero_le _, Nat.zero_le _⟩) hG (fun h_95 g_95 H locs hq hG => ?_)
              replace HW := HW h_95 g_95 hq
              refine lv_aload_n hx hb dX10_family_98 rfl (lv_at hl 0 rfl) ?_
              refine g_getr hx hb hw inG10 hown hK hG gl_0 rfl gk_0 (by decide) 0 (by decide) (by rw [gm_0]; decide) (r := 1) gr_0_0 lk10 dX10_family_99 ?_
              refine g_getr hx hb hw inG6 hown hK hG gl_1 rfl gk_1 (by decide) 1 (by decide) (by rw [gm_1]; decide) (r := 4) gr_1_1 lk95 dX10_family_102 ?_
              refine lv_iload_n hx hb dX10_family_105 rfl (lv_at hl 1 rfl) ?_
              refine lv_iconst (v := 2) hx hb dX10_family_106 (by decide) ?_
              refine lv_iload hx hb dX10_family_107 (lv_at hl 4 rfl) ?_
              obtain ⟨P_109, HC_109, HW⟩ := HW
              refine g_callv (g_runV (As := [.int x1, .int (2 : Int32), .int x4]) (rest := []) ⟨hx, hb, hml, hown, hts⟩ (m_X8_put l D cy ad h_95 g_95 H.size 4 (gs_4) x1 (2 : Int32) x4 P_109 HC_109) (cwV 3 hts (gd_V (wm2 207 rfl rfl) (wm1 57 rfl rfl) (wm1 58 rfl rfl) (wm1 3 rfl rfl) (wm1 59 rfl rfl)) rfl rfl rfl (by decide +kernel) ⟨Nat.le_of_ble_eq_true rfl, Nat.le_of_ble_eq_true rfl⟩) hK hNw hG gl_4 rfl gk_4 (by decide) rfl rfl hl.1 rfl (lv_room (Nat.le_of_ble_eq_true rfl)) dX10_family_109 ⟨Nat.zero_le _, Nat.zero_le _⟩) hG (fun h_109 g_109 H locs hq hG => ?_)
              replace HW := HW h_109 g_109 hq
              refine lv_iconst (v := 1) hx hb dX10_family_112 (by decide) ?_
              exact W.iret (v := (1 : Int32)) hx hb hr (fun t ht hW => ⟨⟨(1 : Int32), (h_109, g_109), rfl, HW, g_B ht hG⟩, hG.2.2.F ht⟩) hG.2.2.2.2 dX10_family_113
            · replace HW := HW.2 c_66
              refine lv_bipush (v := (-2)) hx hb dX10_family_69 (by decide) ?_
              exact W.iret (v := (-2 : Int32)) hx hb hr (fun t ht hW => ⟨⟨(-2 : Int32), (h_42, g_42), rfl, HW, g_B ht hG⟩, hG.2.2.F ht⟩) hG.2.2.2.2 dX10_family_71
          · replace HW := HW.2 c_45
            refine lv_bipush (v := (-2)) hx hb dX10_family_48 (by decide) ?_
            exact W.iret (v := (-2 : Int32)) hx hb hr (fun t ht hW => ⟨⟨(-2 : Int32), (h_42, g_42), rfl, HW, g_B ht hG⟩, hG.2.2.F ht⟩) hG.2.2.2.2 dX10_family_50
      · replace HW := HW.2 c_21
        refine lv_bipush (v := (-2)) hx hb dX10_family_24 (by decide) ?_
        exact W.iret (v := (-2 : Int32)) hx hb hr (fun t ht hW => ⟨⟨(-2 : Int32), (h_18, g_18), rfl, HW, g_B ht hG⟩, hG.2.2.F ht⟩) hG.2.2.2.2 dX10_family_26
  exact E0 _ _ _ hG hl
end
section
-- 03.w10
def w_X10_write (x1 : Int32) (h : HI) (g : HL) (Q : Int32 → HI → HL → Prop) : Prop :=
  (∃ P_4 : Int32 → HI → HL → Prop, w_X10_within x1 (0 : Int32) (127 : Int32) h g P_4 ∧ ∀ (r_4 : Int32) (h_4 : HI) (g_4 : HL), zb r_4 → P_4 r_4 h_4 g_4 → ((¬ r_4 = 0 → (∃ P_24 : Int32 → HI → HL → Prop, w_X8_add 24 x1 (0 : Int32) (0 : Int32) (0 : Int32) h_4 g_4 P_24 ∧ ∀ (r_24 : Int32) (h_24 : HI) (g_24 : HL), P_24 r_24 h_24 g_24 → ((¬ r_24 = (-4 : Int32) → (∃ P_41 : HI → HL → Prop, w_X4_read h_24 g_24 P_41 ∧ ∀ (h_41 : HI) (g_41 : HL), P_41 h_41 g_41 → (∃ P_51 : Int32 → HI → HL → Prop, w_X8_rows 24 h_41 g_41 P_51 ∧ ∀ (r_51 : Int32) (h_51 : HI) (g_51 : HL), P_51 r_51 h_51 g_51 → Q r_51 h_51 g_51))) ∧ (r_24 = (-4 : Int32) → Q (-4 : Int32) h_24 g_24)))) ∧ (r_4 = 0 → Q (-2 : Int32) h_4 g_4)))
set_option maxHeartbeats 8000000 in
set_option maxRecDepth 100000 in
theorem m_X10_write (l : Launch) (D : va_G) (cy : Nat → ClassId) (ad : Nat → Nat) (h : HI) (g : HL) (sz : Nat) (x1 : Int32) (Q : Int32 → HI → HL → Prop) (HW : w_X10_write x1 h g Q) : Met l yX10_write (wa yX10_write cX10_write 3 (some .int)) ({ frames := 5, cells := 0, slots := 0, locals := 110 }) (va_Pc [.ref (ad 0), .int x1] (gI D cy ad h g sz)) (va_Qi (fun (r : Int32) (u : HI × HL) => Q r u.1 u.2) (gB D cy ad sz) (gA ad sz)) 0 0 (gA ad sz) := by
  refine Met.ofW (cc := cX10_write) (maxL := 3) (ret := (some .int)) (by decide) rfl ?_
  intro p e s m args below meth c s₁ B hml hv
  obtain ⟨hav, hsz, hP, hK, hD0, hNw⟩ := hv
  have hx := B.exec
  have hb := B.bytes
  have hr := B.returns
  have hts := atoms_spec (ws := (wa yX10_write cX10_write 3 (some .int))) B.pre
  have hw := wa_hw hts
  have hown : s.vm.findClass RX10 = some m.cls := findClass_of_methodNamed B.named
  have hlocks := B.notSynchronized
  subst hsz
  have hG : gG D cy ad (gA ad s.heap.size) s.heap h g s.heap [] := ⟨hP, gA_self hD0, va_S.rf⟩
  clear hP hD0
  have lk10 := hw (.fieldLink RX10 10 "OldWorks" "shop" "LOldWorks$Shop;") (wm2 155 rfl rfl)
  have lk109 := hw (.fieldLink RX10 109 "OldWorks$Shop" "signs" "LOldWorks$Table;") (wm1 97 rfl rfl)
  have lk31 := hw (.fieldLink RX10 31 "OldWorks" "law" "LOldWorks$Law;") (wm2 159 rfl rfl)
  rw [show (headSpec (wa yX10_write cX10_write 3 (some .int)) ({ frames := 5, cells := 0, slots := 0, locals := 110 } : Room)).room = ({ frames := 5, cells := 0, slots := 0, locals := 110 } : Room) from rfl]
  have hl := lv_entry ([.ref (ad 0), .int x1]) (n := 3) (Nat.le_of_ble_eq_true rfl)
  rw [show entryFrame m args 3 = entryFrame m ([.ref (ad 0), .int x1] : List Value).toArray 3 from by rw [hav], lg_entry_eq]
  generalize (lg_sl ([.ref (ad 0), .int x1]) ++ List.replicate (3 - (lg_sl ([.ref (ad 0), .int x1])).length) Slot.unset).toArray = ls at hl ⊢
  have hl : lv_has ls 3 [(0, .ref (ad 0)), (1, .int x1)] := hl
  have E0 : ∀ (H : Heap) (locs : List Loc) (ls : Array Slot), gG D cy ad (gA ad s.heap.size) s.heap h g H locs → lv_has ls 3 [(0, .ref (ad 0)), (1, .int x1)] → W p l e ({ frames := 5, cells := 0, slots := 0, locals := 110 } : Room) s m args below meth c H locs 0 0 (MQ below (va_Qi (fun (r : Int32) (u : HI × HL) => Q r u.1 u.2) (gB D cy ad s.heap.size) (gA ad s.heap.size)) args s 0 0 (gA ad s.heap.size)) (F0 m 0 ls []) := by
    intro H locs ls hG hl
    unfold w_X10_write at HW
    refine lv_iload_n hx hb dX10_write_0 rfl (lv_at hl 1 rfl) ?_
    refine lv_iconst (v := 0) hx hb dX10_write_1 (by decide) ?_
    refine lv_bipush (v := 127) hx hb dX10_write_2 (by decide) ?_
    obtain ⟨P_4, HC_4, HW⟩ := HW
    refine g_callz (g_runS (As := [.int x1, .int (0 : Int32), .int (127 : Int32)]) (rest := []) ⟨hx, hb, hml, hown, hts⟩ (m_X10_within l D cy ad h g H.size x1 (0 : Int32) (127 : Int32) P_4 HC_4) (va_cwS 3 hts (gd_S (wm2 193 rfl rfl) (wm2 194 rfl rfl) (wm1 1 rfl rfl) (wm2 195 rfl rfl)) rfl rfl rfl (by decide +kernel) ⟨Nat.le_of_ble_eq_true rfl, Nat.le_of_ble_eq_true rfl⟩) hK hNw hG rfl rfl hl.1 rfl (lv_room (Nat.le_of_ble_eq_true rfl)) dX10_write_4 ⟨Nat.zero_le _, Nat.zero_le _⟩) hG (fun r_4 h_4 g_4 H locs hz hq hG => ?_)
    replace HW := HW r_4 h_4 g_4 hz hq
    refine lv_if_ne (tgt := 13) hx hb dX10_write_7 (by decide) (fun c_7 => ?_) (fun c_7 => ?_)
    · replace HW := HW.1 c_7
      refine lv_aload_n hx hb dX10_write_13 rfl (lv_at hl 0 rfl) ?_
      refine g_getr hx hb hw inG10 hown hK hG gl_0 rfl gk_0 (by decide) 0 (by decide) (by rw [gm_0]; decide) (r := 1) gr_0_0 lk10 dX10_write_14 ?_
      refine g_getr hx hb hw inG6 hown hK hG gl_1 rfl gk_1 (by decide) 11 (by decide) (by rw [gm_1]; decide) (r := 24) gr_1_11 lk109 dX10_write_17 ?_
      refine lv_iload_n hx hb dX10_write_20 rfl (lv_at hl 1 rfl) ?_
      refine lv_iconst (v := 0) hx hb dX10_write_21 (by decide) ?_
      refine lv_iconst (v := 0) hx hb dX10_write_22 (by decide) ?_
      refine lv_iconst (v := 0) hx hb dX10_write_23 (by decide) ?_
      obtain ⟨P_24, HC_24, HW⟩ := HW
      refine g_calli (g_runV (As := [.int x1, .int (0 : Int32), .int (0 : Int32), .int (0 : Int32)]) (rest := []) ⟨hx, hb, hml, hown, hts⟩ (m_X8_add l D cy ad h_4 g_4 H.size 24 (gs_24) x1 (0 : Int32) (0 : Int32) (0 : Int32) P_24 HC_24) (cwV 4 hts (gd_V (wm2 196 rfl rfl) (wm1 53 rfl rfl) (wm1 54 rfl rfl) (wm1 3 rfl rfl) (wm1 55 rfl rfl)) rfl rfl rfl (by decide +kernel) ⟨Nat.le_of_ble_eq_true rfl, Nat.le_of_ble_eq_true rfl⟩) hK hNw hG gl_24 rfl gk_24 (by decide) rfl rfl hl.1 rfl (lv_room (Nat.le_of_ble_eq_true rfl)) dX10_write_24 ⟨Nat.zero_le _, Nat.zero_le _⟩) hG (fun r_24 h_24 g_24 H locs hq hG => ?_)
      replace HW := HW r_24 h_24 g_24 hq
      refine lv_istore_n (lv' := [(2, .int r_24), (0, .ref (ad 0)), (1, .int x1)]) hx hb dX10_write_27 rfl hl (by decide) rfl (fun ls hl => ?_)
      refine lv_iload_n hx hb dX10_write_28 rfl (lv_at hl 0 rfl) ?_
      refine lv_bipush (v := (-4)) hx hb dX10_write_29 (by decide) ?_
      refine lv_icmp_ne (tgt := 37) hx hb dX10_write_31 (by decide) (fun c_31 => ?_) (fun c_31 => ?_)
      · replace HW := HW.1 c_31
        refine lv_aload_n hx hb dX10_write_37 rfl (lv_at hl 1 rfl) ?_
        refine g_getr hx hb hw inG10 hown hK hG gl_0 rfl gk_0 (by decide) 4 (by decide) (by rw [gm_0]; decide) (r := 77) gr_0_4 lk31 dX10_write_38 ?_
        obtain ⟨P_41, HC_41, HW⟩ := HW
        refine g_callv (g_runV (As := []) (rest := []) ⟨hx, hb, hml, hown, hts⟩ (m_X4_read l D cy ad h_24 g_24 H.size  P_41 HC_41) (cwV 0 hts (gd_V (wm2 212 rfl rfl) (wm2 213 rfl rfl) (wm2 214 rfl rfl) (wm1 4 rfl rfl) (wm2 215 rfl rfl)) rfl rfl rfl (by decide +kernel) ⟨Nat.le_of_ble_eq_true rfl, Nat.le_of_ble_eq_true rfl⟩) hK hNw hG gl_77 rfl gk_77 (by decide) rfl rfl hl.1 rfl (lv_room (Nat.le_of_ble_eq_true rfl)) dX10_write_41 ⟨Nat.zero_le _, Nat.zero_le _⟩) hG (fun h_41 g_41 H locs hq hG => ?_)
        replace HW := HW h_41 g_41 hq
        refine lv_aload_n hx hb dX10_write_44 rfl (lv_at hl 1 rfl) ?_
        refine g_getr hx hb hw inG10 hown hK hG gl_0 rfl gk_0 (by decide) 0 (by decide) (by rw [gm_0]; decide) (r := 1) gr_0_0 lk10 dX10_write_45 ?_
        refine g_getr hx hb hw inG6 hown hK hG gl_1 rfl gk_1 (by decide) 11 (by decide) (by rw [gm_1]; decide) (r := 24) gr_1_11 lk109 dX10_write_48 ?_
        obtain ⟨P_51, HC_51, HW⟩ := HW
        refine g_calli (g_runV (As := []) (rest := []) ⟨hx, hb, hml, hown, hts⟩ (m_X8_rows l D cy ad h_41 g_41 H.size 24 (gs_24) P_51 HC_51) (cwV 0 hts (gd_V (wm3 19 rfl rfl) (wm2 217 rfl rfl) (wm2 218 rfl rfl) (wm1 3 rfl rfl) (wm2 219 rfl rfl)) rfl rfl rfl (by decide +kernel) ⟨Nat.le_of_ble_eq_true rfl, Nat.le_of_ble_eq_true rfl⟩) hK hNw hG gl_24 rfl gk_24 (by decide) rfl rfl hl.1 rfl (lv_room (Nat.le_of_ble_eq_true rfl)) dX10_write_51 ⟨Nat.zero_le _, Nat.zero_le _⟩) hG (fun r_51 h_51 g_51 H locs hq hG => ?_)
        replace HW := HW r_51 h_51 g_51 hq
        exact W.iret (v := r_51) hx hb hr (fun t ht hW => ⟨⟨r_51, (h_51, g_51), rfl, HW, g_B ht hG⟩, hG.2.2.F ht⟩) hG.2.2.2.2 dX10_write_54
      · replace HW := HW.2 c_31
        refine lv_bipush (v := (-4)) hx hb dX10_write_34 (by decide) ?_
        exact W.iret (v := (-4 : Int32)) hx hb hr (fun t ht hW => ⟨⟨(-4 : Int32), (h_24, g_24), rfl, HW, g_B ht hG⟩, hG.2.2.F ht⟩) hG.2.2.2.2 dX10_write_36
    · replace HW := HW.2 c_7
      refine lv_bipush (v := (-2)) hx hb dX10_write_10 (by decide) ?_
      exact W.iret (v := (-2 : Int32)) hx hb hr (fun t ht hW => ⟨⟨(-2 : Int32), (h_4, g_4), rfl, HW, g_B ht hG⟩, hG.2.2.F ht⟩) hG.2.2.2.2 dX10_write_12
  exact E0 _ _ _ hG hl

def w_X10_erase  (h : HI) (g : HL) (Q : Int32 → HI → HL → Prop) : Prop :=
  (∃ P_7 : Int32 → HI → HL → Prop, w_X8_rows 24 h g P_7 ∧ ∀ (r_7 : Int32) (h_7 : HI) (g_7 : HL), P_7 r_7 h_7 g_7 → (∃ P_18 : HI → HL → Prop, w_X8_empty 24 h_7 g_7 P_18 ∧ ∀ (h_18 : HI) (g_18 : HL), P_18 h_18 g_18 → (∃ P_25 : HI → HL → Prop, w_X4_read h_18 g_18 P_25 ∧ ∀ (h_25 : HI) (g_25 : HL), P_25 h_25 g_25 → Q r_7 h_25 g_25)))
set_option maxHeartbeats 8000000 in
set_option maxRecDepth 100000 in
theorem m_X10_erase (l : Launch) (D : va_G) (cy : Nat → ClassId) (ad : Nat → Nat) (h : HI) (g : HL) (sz : Nat)  (Q : Int32 → HI → HL → Prop) (HW : w_X10_erase h g Q) : Met l yX10_erase (wa yX10_erase cX10_erase 2 (some .int)) ({ frames := 5, cells := 0, slots := 0, locals := 110 }) (va_Pc [.ref (ad 0)] (gI D cy ad h g sz)) (va_Qi (fun (r : Int32) (u : HI × HL) => Q r u.1 u.2) (gB D cy ad sz) (gA ad sz)) 0 0 (gA ad sz) := by
  refine Met.ofW (cc := cX10_erase) (maxL := 2) (ret := (some .int)) (by decide) rfl ?_
  intro p e s m args below meth c s₁ B hml hv
  obtain ⟨hav, hsz, hP, hK, hD0, hNw⟩ := hv
  have hx := B.exec
  have hb := B.bytes
  have hr := B.returns
  have hts := atoms_spec (ws := (wa yX10_erase cX10_erase 2 (some .int))) B.pre
  have hw := wa_hw hts
  have hown : s.vm.findClass RX10 = some m.cls := findClass_of_methodNamed B.named
  have hlocks := B.notSynchronized
  subst hsz
  have hG : gG D cy ad (gA ad s.heap.size) s.heap h g s.heap [] := ⟨hP, gA_self hD0, va_S.rf⟩
  clear hP hD0
  have lk10 := hw (.fieldLink RX10 10 "OldWorks" "shop" "LOldWorks$Shop;") (wm2 155 rfl rfl)
  have lk109 := hw (.fieldLink RX10 109 "OldWorks$Shop" "signs" "LOldWorks$Table;") (wm1 97 rfl rfl)
  have lk31 := hw (.fieldLink RX10 31 "OldWorks" "law" "LOldWorks$Law;") (wm2 159 rfl rfl)
  rw [show (headSpec (wa yX10_erase cX10_erase 2 (some .int)) ({ frames := 5, cells := 0, slots := 0, locals := 110 } : Room)).room = ({ frames := 5, cells := 0, slots := 0, locals := 110 } : Room) from rfl]
  have hl := lv_entry ([.ref (ad 0)]) (n := 2) (Nat.le_of_ble_eq_true rfl)
  rw [show entryFrame m args 2 = entryFrame m ([.ref (ad 0)] : List Value).toArray 2 from by rw [hav], lg_entry_eq]
  generalize (lg_sl ([.ref (ad 0)]) ++ List.replicate (2 - (lg_sl ([.ref (ad 0)])).length) Slot.unset).toArray = ls at hl ⊢
  have hl : lv_has ls 2 [(0, .ref (ad 0))] := hl
  have E0 : ∀ (H : Heap) (locs : List Loc) (ls : Array Slot), gG D cy ad (gA ad s.heap.size) s.heap h g H locs → lv_has ls 2 [(0, .ref (ad 0))] → W p l e ({ frames := 5, cells := 0, slots := 0, locals := 110 } : Room) s m args below meth c H locs 0 0 (MQ below (va_Qi (fun (r : Int32) (u : HI × HL) => Q r u.1 u.2) (gB D cy ad s.heap.size) (gA ad s.heap.size)) args s 0 0 (gA ad s.heap.size)) (F0 m 0 ls []) := by
    intro H locs ls hG hl
    unfold w_X10_erase at HW
    refine lv_aload_n hx hb dX10_erase_0 rfl (lv_at hl 0 rfl) ?_
    refine g_getr hx hb hw inG10 hown hK hG gl_0 rfl gk_0 (by decide) 0 (by decide) (by rw [gm_0]; decide) (r := 1) gr_0_0 lk10 dX10_erase_1 ?_
    refine g_getr hx hb hw inG6 hown hK hG gl_1 rfl gk_1 (by decide) 11 (by decide) (by rw [gm_1]; decide) (r := 24) gr_1_11 lk109 dX10_erase_4 ?_
    obtain ⟨P_7, HC_7, HW⟩ := HW
    refine g_calli (g_runV (As := []) (rest := []) ⟨hx, hb, hml, hown, hts⟩ (m_X8_rows l D cy ad h g H.size 24 (gs_24) P_7 HC_7) (cwV 0 hts (gd_V (wm3 19 rfl rfl) (wm2 217 rfl rfl) (wm2 218 rfl rfl) (wm1 3 rfl rfl) (wm2 219 rfl rfl)) rfl rfl rfl (by decide +kernel) ⟨Nat.le_of_ble_eq_true rfl, Nat.le_of_ble_eq_true rfl⟩) hK hNw hG gl_24 rfl gk_24 (by decide) rfl rfl hl.1 rfl (lv_room (Nat.le_of_ble_eq_true rfl)) dX10_erase_7 ⟨Nat.zero_le _, Nat.zero_le _⟩) hG (fun r_7 h_7 g_7 H locs hq hG => ?_)
    replace HW := HW r_7 h_7 g_7 hq
    refine lv_istore_n (lv' := [(1, .int r_7), (0, .ref (ad 0))]) hx hb dX10_erase_10 rfl hl (by decide) rfl (fun ls hl => ?_)
    refine lv_aload_n hx hb dX10_erase_11 rfl (lv_at hl 1 rfl) ?_
    refine g_getr hx hb hw inG10 hown hK hG gl_0 rfl gk_0 (by decide) 0 (by decide) (by rw [gm_0]; decide) (r := 1) gr_0_0 lk10 dX10_erase_12 ?_
    refine g_getr hx hb hw inG6 hown hK hG gl_1 rfl gk_1 (by decide) 11 (by decide) (by rw [gm_1]; decide) (r := 24) gr_1_11 lk109 dX10_erase_15 ?_
    obtain ⟨P_18, HC_18, HW⟩ := HW
    refine g_callv (g_runV (As := []) (rest := []) ⟨hx, hb, hml, hown, hts⟩ (m_X8_empty l D cy ad h_7 g_7 H.size 24 (gs_24) P_18 HC_18) (cwV 0 hts (gd_V (wm3 24 rfl rfl) (wm3 25 rfl rfl) (wm3 26 rfl rfl) (wm1 3 rfl rfl) (wm3 27 rfl rfl)) rfl rfl rfl (by decide +kernel) ⟨Nat.le_of_ble_eq_true rfl, Nat.le_of_ble_eq_true rfl⟩) hK hNw hG gl_24 rfl gk_24 (by decide) rfl rfl hl.1 rfl (lv_room (Nat.le_of_ble_eq_true rfl)) dX10_erase_18 ⟨Nat.zero_le _, Nat.zero_le _⟩) hG (fun h_18 g_18 H locs hq hG => ?_)
    replace HW := HW h_18 g_18 hq
    refine lv_aload_n hx hb dX10_erase_21 rfl (lv_at hl 1 rfl) ?_
    refine g_getr hx hb hw inG10 hown hK hG gl_0 rfl gk_0 (by decide) 4 (by decide) (by rw [gm_0]; decide) (r := 77) gr_0_4 lk31 dX10_erase_22 ?_
    obtain ⟨P_25, HC_25, HW⟩ := HW
    refine g_callv (g_runV (As := []) (rest := []) ⟨hx, hb, hml, hown, hts⟩ (m_X4_read l D cy ad h_18 g_18 H.size  P_25 HC_25) (cwV 0 hts (gd_V (wm2 212 rfl rfl) (wm2 213 rfl rfl) (wm2 214 rfl rfl) (wm1 4 rfl rfl) (wm2 215 rfl rfl)) rfl rfl rfl (by decide +kernel) ⟨Nat.le_of_ble_eq_true rfl, Nat.le_of_ble_eq_true rfl⟩) hK hNw hG gl_77 rfl gk_77 (by decide) rfl rfl hl.1 rfl (lv_room (Nat.le_of_ble_eq_true rfl)) dX10_erase_25 ⟨Nat.zero_le _, Nat.zero_le _⟩) hG (fun h_25 g_25 H locs hq hG => ?_)
    replace HW := HW h_25 g_25 hq
    refine lv_iload_n hx hb dX10_erase_28 rfl (lv_at hl 0 rfl) ?_
    exact W.iret (v := r_7) hx hb hr (fun t ht hW => ⟨⟨r_7, (h_25, g_25), rfl, HW, g_B ht hG⟩, hG.2.2.F ht⟩) hG.2.2.2.2 dX10_erase_29
  exact E0 _ _ _ hG hl

def w_X10_fault  (h : HI) (g : HL) (Q : Int32 → HI → HL → Prop) : Prop :=
  (∃ P_4 : Int32 → HI → HL → Prop, w_X4_flaw h g P_4 ∧ ∀ (r_4 : Int32) (h_4 : HI) (g_4 : HL), P_4 r_4 h_4 g_4 → Q r_4 h_4 g_4)
set_option maxHeartbeats 8000000 in
set_option maxRecDepth 100000 in
theorem m_X10_fault (l : Launch) (D : va_G) (cy : Nat → ClassId) (ad : Nat → Nat) (h : HI) (g : HL) (sz : Nat)  (Q : Int32 → HI → HL → Prop) (HW : w_X10_fault h g Q) : Met l yX10_fault (wa yX10_fault cX10_fault 1 (some .int)) ({ frames := 1, cells := 0, slots := 0, locals := 20 }) (va_Pc [.ref (ad 0)] (gI D cy ad h g sz)) (va_Qi (fun (r : Int32) (u : HI × HL) => Q r u.1 u.2) (gB D cy ad sz) (gA ad sz)) 0 0 (gA ad sz) := by
  refine Met.ofW (cc := cX10_fault) (maxL := 1) (ret := (some .int)) (by decide) rfl ?_
  intro p e s m args below meth c s₁ B hml hv
  obtain ⟨hav, hsz, hP, hK, hD0, hNw⟩ := hv
  have hx := B.exec
  have hb := B.bytes
  have hr := B.returns
  have hts := atoms_spec (ws := (wa yX10_fault cX10_fault 1 (some .int))) B.pre
  have hw := wa_hw hts
  have hown : s.vm.findClass RX10 = some m.cls := findClass_of_methodNamed B.named
  have hlocks := B.notSynchronized
  subst hsz
  have hG : gG D cy ad (gA ad s.heap.size) s.heap h g s.heap [] := ⟨hP, gA_self hD0, va_S.rf⟩
  clear hP hD0
  have lk31 := hw (.fieldLink RX10 31 "OldWorks" "law" "LOldWorks$Law;") (wm2 159 rfl rfl)
  rw [show (headSpec (wa yX10_fault cX10_fault 1 (some .int)) ({ frames := 1, cells := 0, slots := 0, locals := 20 } : Room)).room = ({ frames := 1, cells := 0, slots := 0, locals := 20 } : Room) from rfl]
  have hl := lv_entry ([.ref (ad 0)]) (n := 1) (Nat.le_of_ble_eq_true rfl)
  rw [show entryFrame m args 1 = entryFrame m ([.ref (ad 0)] : List Value).toArray 1 from by rw [hav], lg_entry_eq]
  generalize (lg_sl ([.ref (ad 0)]) ++ List.replicate (1 - (lg_sl ([.ref (ad 0)])).length) Slot.unset).toArray = ls at hl ⊢
  have hl : lv_has ls 1 [(0, .ref (ad 0))] := hl
  have E0 : ∀ (H : Heap) (locs : List Loc) (ls : Array Slot), gG D cy ad (gA ad s.heap.size) s.heap h g H locs → lv_has ls 1 [(0, .ref (ad 0))] → W p l e ({ frames := 1, cells := 0, slots := 0, locals := 20 } : Room) s m args below meth c H locs 0 0 (MQ below (va_Qi (fun (r : Int32) (u : HI × HL) => Q r u.1 u.2) (gB D cy ad s.heap.size) (gA ad s.heap.size)) args s 0 0 (gA ad s.heap.size)) (F0 m 0 ls []) := by
    intro H locs ls hG hl
    unfold w_X10_fault at HW
    refine lv_aload_n hx hb dX10_fault_0 rfl (lv_at hl 0 rfl) ?_
    refine g_getr hx hb hw inG10 hown hK hG gl_0 rfl gk_0 (by decide) 4 (by decide) (by rw [gm_0]; decide) (r := 77) gr_0_4 lk31 dX10_fault_1 ?_
    obtain ⟨P_4, HC_4, HW⟩ := HW
    refine g_calli (g_runV (As := []) (rest := []) ⟨hx, hb, hml, hown, hts⟩ (m_X4_flaw l D cy ad h g H.size  P_4 HC_4) (cwV 0 hts (gd_V (wm3 32 rfl rfl) (wm3 33 rfl rfl) (wm3 34 rfl rfl) (wm1 4 rfl rfl) (wm3 35 rfl rfl)) rfl rfl rfl (by decide +kernel) ⟨Nat.le_of_ble_eq_true rfl, Nat.le_of_ble_eq_true rfl⟩) hK hNw hG gl_77 rfl gk_77 (by decide) rfl rfl hl.1 rfl (lv_room (Nat.le_of_ble_eq_true rfl)) dX10_fault_4 ⟨Nat.zero_le _, Nat.zero_le _⟩) hG (fun r_4 h_4 g_4 H locs hq hG => ?_)
    replace HW := HW r_4 h_4 g_4 hq
    exact W.iret (v := r_4) hx hb hr (fun t ht hW => ⟨⟨r_4, (h_4, g_4), rfl, HW, g_B ht hG⟩, hG.2.2.F ht⟩) hG.2.2.2.2 dX10_fault_7
  exact E0 _ _ _ hG hl

def w_X10_worn (x1 : Int32) (x2 : Int32) (h : HI) (g : HL) (Q : Int32 → HI → HL → Prop) : Prop :=
  (∃ P_8 : Int32 → HI → HL → Prop, w_X8_has 2 x1 h g P_8 ∧ ∀ (r_8 : Int32) (h_8 : HI) (g_8 : HL), zb r_8 → P_8 r_8 h_8 g_8 → ((r_8 = 0 → Q (-2 : Int32) h_8 g_8) ∧ (¬ r_8 = 0 → (∃ P_18 : Int32 → HI → HL → Prop, w_X10_within x2 (0 : Int32) (99 : Int32) h_8 g_8 P_18 ∧ ∀ (r_18 : Int32) (h_18 : HI) (g_18 : HL), zb r_18 → P_18 r_18 h_18 g_18 → ((¬ r_18 = 0 → (∃ P_33 : Int32 → HI → HL → Prop, w_X4_wornOf x1 x2 h_18 g_18 P_33 ∧ ∀ (r_33 : Int32) (h_33 : HI) (g_33 : HL), P_33 r_33 h_33 g_33 → Q r_33 h_33 g_33)) ∧ (r_18 = 0 → Q (-2 : Int32) h_18 g_18))))))
set_option maxHeartbeats 8000000 in
set_option maxRecDepth 100000 in
theorem m_X10_worn (l : Launch) (D : va_G) (cy : Nat → ClassId) (ad : Nat → Nat) (h : HI) (g : HL) (sz : Nat) (x1 : Int32) (x2 : Int32) (Q : Int32 → HI → HL → Prop) (HW : w_X10_worn x1 x2 h g Q) : Met l yX10_worn (wa yX10_worn cX10_worn 3 (some .int)) ({ frames := 3, cells := 0, slots := 0, locals := 75 }) (va_Pc [.ref (ad 0), .int x1, .int x2] (gI D cy ad h g sz)) (va_Qi (fun (r : Int32) (u : HI × HL) => Q r u.1 u.2) (gB D cy ad sz) (gA ad sz)) 0 0 (gA ad sz) := by
  refine Met.ofW (cc := cX10_worn) (maxL := 3) (ret := (some .int)) (by decide) rfl ?_
  intro p e s m args below meth c s₁ B hml hv
  obtain ⟨hav, hsz, hP, hK, hD0, hNw⟩ := hv
  have hx := B.exec
  have hb := B.bytes
  have hr := B.returns
  have hts := atoms_spec (ws := (wa yX10_worn cX10_worn 3 (some .int))) B.pre
  have hw := wa_hw hts
  have hown : s.vm.findClass RX10 = some m.cls := findClass_of_methodNamed B.named
  have hlocks := B.notSynchronized
  subst hsz
  have hG : gG D cy ad (gA ad s.heap.size) s.heap h g s.heap [] := ⟨hP, gA_self hD0, va_S.rf⟩
  clear hP hD0
  have lk10 := hw (.fieldLink RX10 10 "OldWorks" "shop" "LOldWorks$Shop;") (wm2 155 rfl rfl)
  have lk85 := hw (.fieldLink RX10 85 "OldWorks$Shop" "parts" "LOldWorks$Table;") (wm1 62 rfl rfl)
  have lk31 := hw (.fieldLink RX10 31 "OldWorks" "law" "LOldWorks$Law;") (wm2 159 rfl rfl)
  rw [show (headSpec (wa yX10_worn cX10_worn 3 (some .int)) ({ frames := 3, cells := 0, slots := 0, locals := 75 } : Room)).room = ({ frames := 3, cells := 0, slots := 0, locals := 75 } : Room) from rfl]
  have hl := lv_entry ([.ref (ad 0), .int x1, .int x2]) (n := 3) (Nat.le_of_ble_eq_true rfl)
  rw [show entryFrame m args 3 = entryFrame m ([.ref (ad 0), .int x1, .int x2] : List Value).toArray 3 from by rw [hav], lg_entry_eq]
  generalize (lg_sl ([.ref (ad 0), .int x1, .int x2]) ++ List.replicate (3 - (lg_sl ([.ref (ad 0), .int x1, .int x2])).length) Slot.unset).toArray = ls at hl ⊢
  have hl : lv_has ls 3 [(0, .ref (ad 0)), (1, .int x1), (2, .int x2)] := hl
  have E0 : ∀ (H : Heap) (locs : List Loc) (ls : Array Slot), gG D cy ad (gA ad s.heap.size) s.heap h g H locs → lv_has ls 3 [(0, .ref (ad 0)), (1, .int x1), (2, .int x2)] → W p l e ({ frames := 3, cells := 0, slots := 0, locals := 75 } : Room) s m args below meth c H locs 0 0 (MQ below (va_Qi (fun (r : Int32) (u : HI × HL) => Q r u.1 u.2) (gB D cy ad s.heap.size) (gA ad s.heap.size)) args s 0 0 (gA ad s.heap.size)) (F0 m 0 ls []) := by
    intro H locs ls hG hl
    unfold w_X10_worn at HW
    refine lv_aload_n hx hb dX10_worn_0 rfl (lv_at hl 0 rfl) ?_
    refine g_getr hx hb hw inG10 hown hK hG gl_0 rfl gk_0 (by decide) 0 (by decide) (by rw [gm_0]; decide) (r := 1) gr_0_0 lk10 dX10_worn_1 ?_
    refine g_getr hx hb hw inG6 hown hK hG gl_1 rfl gk_1 (by decide) 0 (by decide) (by rw [gm_1]; decide) (r := 2) gr_1_0 lk85 dX10_worn_4 ?_
    refine lv_iload_n hx hb dX10_worn_7 rfl (lv_at hl 1 rfl) ?_
    obtain ⟨P_8, HC_8, HW⟩ := HW
    refine g_callz (g_runV (As := [.int x1]) (rest := []) ⟨hx, hb, hml, hown, hts⟩ (m_X8_has l D cy ad h g H.size 2 (gs_2) x1 P_8 HC_8) (cwV 1 hts (gd_V (wm2 201 rfl rfl) (wm2 202 rfl rfl) (wm2 203 rfl rfl) (wm1 3 rfl rfl) (wm2 204 rfl rfl)) rfl rfl rfl (by decide +kernel) ⟨Nat.le_of_ble_eq_true rfl, Nat.le_of_ble_eq_true rfl⟩) hK hNw hG gl_2 rfl gk_2 (by decide) rfl rfl hl.1 rfl (lv_room (Nat.le_of_ble_eq_true rfl)) dX10_worn_8 ⟨Nat.zero_le _, Nat.zero_le _⟩) hG (fun r_8 h_8 g_8 H locs hz hq hG => ?_)
    replace HW := HW r_8 h_8 g_8 hz hq
    refine lv_if_eq (tgt := 24) hx hb dX10_worn_11 (by decide) (fun c_11 => ?_) (fun c_11 => ?_)
    · replace HW := HW.1 c_11
      refine lv_bipush (v := (-2)) hx hb dX10_worn_24 (by decide) ?_
      exact W.iret (v := (-2 : Int32)) hx hb hr (fun t ht hW => ⟨⟨(-2 : Int32), (h_8, g_8), rfl, HW, g_B ht hG⟩, hG.2.2.F ht⟩) hG.2.2.2.2 dX10_worn_26
    · replace HW := HW.2 c_11
      refine lv_iload_n hx hb dX10_worn_14 rfl (lv_at hl 2 rfl) ?_
      refine lv_iconst (v := 0) hx hb dX10_worn_15 (by decide) ?_
      refine lv_bipush (v := 99) hx hb dX10_worn_16 (by decide) ?_
      obtain ⟨P_18, HC_18, HW⟩ := HW
      refine g_callz (g_runS (As := [.int x2, .int (0 : Int32), .int (99 : Int32)]) (rest := []) ⟨hx, hb, hml, hown, hts⟩ (m_X10_within l D cy ad h_8 g_8 H.size x2 (0 : Int32) (99 : Int32) P_18 HC_18) (va_cwS 3 hts (gd_S (wm2 193 rfl rfl) (wm2 194 rfl rfl) (wm1 1 rfl rfl) (wm2 195 rfl rfl)) rfl rfl rfl (by decide +kernel) ⟨Nat.le_of_ble_eq_true rfl, Nat.le_of_ble_eq_true rfl⟩) hK hNw hG rfl rfl hl.1 rfl (lv_room (Nat.le_of_ble_eq_true rfl)) dX10_worn_18 ⟨Nat.zero_le _, Nat.zero_le _⟩) hG (fun r_18 h_18 g_18 H locs hz hq hG => ?_)
      replace HW := HW r_18 h_18 g_18 hz hq
      refine lv_if_ne (tgt := 27) hx hb dX10_worn_21 (by decide) (fun c_21 => ?_) (fun c_21 => ?_)
      · replace HW := HW.1 c_21
        refine lv_aload_n hx hb dX10_worn_27 rfl (lv_at hl 0 rfl) ?_
        refine g_getr hx hb hw inG10 hown hK hG gl_0 rfl gk_0 (by decide) 4 (by decide) (by rw [gm_0]; decide) (r := 77) gr_0_4 lk31 dX10_worn_28 ?_
        refine lv_iload_n hx hb dX10_worn_31 rfl (lv_at hl 1 rfl) ?_
        refine lv_iload_n hx hb dX10_worn_32 rfl (lv_at hl 2 rfl) ?_
        obtain ⟨P_33, HC_33, HW⟩ := HW
        refine g_calli (g_runV (As := [.int x1, .int x2]) (rest := []) ⟨hx, hb, hml, hown, hts⟩ (m_X4_wornOf l D cy ad h_18 g_18 H.size x1 x2 P_33 HC_33) (cwV 2 hts (gd_V (wm3 40 rfl rfl) (wm3 41 rfl rfl) (wm3 42 rfl rfl) (wm1 4 rfl rfl) (wm3 43 rfl rfl)) rfl rfl rfl (by decide +kernel) ⟨Nat.le_of_ble_eq_true rfl, Nat.le_of_ble_eq_true rfl⟩) hK hNw hG gl_77 rfl gk_77 (by decide) rfl rfl hl.1 rfl (lv_room (Nat.le_of_ble_eq_true rfl)) dX10_worn_33 ⟨Nat.zero_le _, Nat.zero_le _⟩) hG (fun r_33 h_33 g_33 H locs hq hG => ?_)
        replace HW := HW r_33 h_33 g_33 hq
        exact W.iret (v := r_33) hx hb hr (fun t ht hW => ⟨⟨r_33, (h_33, g_33), rfl, HW, g_B ht hG⟩, hG.2.2.F ht⟩) hG.2.2.2.2 dX10_worn_36
      · replace HW := HW.2 c_21
        refine lv_bipush (v := (-2)) hx hb dX10_worn_24 (by decide) ?_
        exact W.iret (v := (-2 : Int32)) hx hb hr (fun t ht hW => ⟨⟨(-2 : Int32), (h_18, g_18), rfl, HW, g_B ht hG⟩, hG.2.2.F ht⟩) hG.2.2.2.2 dX10_worn_26
  exact E0 _ _ _ hG hl

def j_X10_say_65 (Q : Int32 → HI → HL → Prop) (x1 : Int32) (x2 : Int32) (x3 : Int32) (x6 : Int32) (s0 : Int32) (h : HI) (g : HL) : Prop :=
  (∃ P_73 : Int32 → HI → HL → Prop, w_X10_within x6 (0 : Int32) (10000 : Int32) h g P_73 ∧ ∀ (r_73 : Int32) (h_73 : HI) (g_73 : HL), zb r_73 → P_73 r_73 h_73 g_73 → ((r_73 = 0 → Q (-2 : Int32) h_73 g_73) ∧ (¬ r_73 = 0 → (∃ P_84 : Int32 → HI → HL → Prop, w_X10_within s0 (0 : Int32) (99 : Int32) h_73 g_73 P_84 ∧ ∀ (r_84 : Int32) (h_84 : HI) (g_84 : HL), zb r_84 → P_84 r_84 h_84 g_84 → ((¬ r_84 = 0 → (∃ P_105 : Int32 → HI → HL → Prop, w_X8_add 6 x1 x2 x3 x6 h_84 g_84 P_105 ∧ ∀ (r_105 : Int32) (h_105 : HI) (g_105 : HL), P_105 r_105 h_105 g_105 → (∃ P_122 : HI → HL → Prop, w_X8_put 6 r_105 (4 : Int32) s0 h_105 g_105 P_122 ∧ ∀ (h_122 : HI) (g_122 : HL), P_122 h_122 g_122 → Q r_105 h_122 g_122))) ∧ (r_84 = 0 → Q (-2 : Int32) h_84 g_84))))))
def j_X10_say_53 (Q : Int32 → HI → HL → Prop) (x1 : Int32) (x2 : Int32) (x3 : Int32) (x5 : Int32) (s0 : Int32) (h : HI) (g : HL) : Prop :=
  ((¬ x2 = 0 → j_X10_say_65 Q x1 x2 x3 s0 (0 : Int32) h g) ∧ (x2 = 0 → j_X10_say_65 Q x1 x2 x3 s0 x5 h g))
def j_X10_say_47 (Q : Int32 → HI → HL → Prop) (x1 : Int32) (x2 : Int32) (x3 : Int32) (x4 : Int32) (x5 : Int32) (h : HI) (g : HL) : Prop :=
  j_X10_say_53 Q x1 x2 x3 x5 x4 h g
def w_X10_say (x1 : Int32) (x2 : Int32) (x3 : Int32) (x4 : Int32) (x5 : Int32) (h : HI) (g : HL) (Q : Int32 → HI → HL → Prop) : Prop :=
  (∃ P_8 : Int32 → HI → HL → Prop, w_X8_has 2 x1 h g P_8 ∧ ∀ (r_8 : Int32) (h_8 : HI) (g_8 : HL), zb r_8 → P_8 r_8 h_8 g_8 → ((r_8 = 0 → Q (-2 : Int32) h_8 g_8) ∧ (¬ r_8 = 0 → (∃ P_17 : Int32 → HI → HL → Prop, w_X10_within x2 (0 : Int32) (3 : Int32) h_8 g_8 P_17 ∧ ∀ (r_17 : Int32) (h_17 : HI) (g_17 : HL), zb r_17 → P_17 r_17 h_17 g_17 → ((r_17 = 0 → Q (-2 : Int32) h_17 g_17) ∧ (¬ r_17 = 0 → (∃ P_29 : Int32 → HI → HL → Prop, w_X10_within x3 (-10000 : Int32) (100000 : Int32) h_17 g_17 P_29 ∧ ∀ (r_29 : Int32) (h_29 : HI) (g_29 : HL), zb r_29 → P_29 r_29 h_29 g_29 → ((¬ r_29 = 0 → ((x2 = 0 → j_X10_say_47 Q x1 x2 x3 x4 x5 h_29 g_29) ∧ (¬ x2 = 0 → ((¬ x2 = (1 : Int32) → j_X10_say_53 Q x1 x2 x3 x5 (0 : Int32) h_29 g_29) ∧ (x2 = (1 : Int32) → j_X10_say_47 Q x1 x2 x3 x4 x5 h_29 g_29))))) ∧ (r_29 = 0 → Q (-2 : Int32) h_29 g_29)))))))))
set_option maxHeartbeats 8000000 in
set_option maxRecDepth 100000 in
theorem m_X10_say (l : Launch) (D : va_G) (cy : Nat → ClassId) (ad : Nat → Nat) (h : HI) (g : HL) (sz : Nat) (x1 : Int32) (x2 : Int32) (x3 : Int32) (x4 : Int32) (x5 : Int32) (Q : Int32 → HI → HL → Prop) (HW : w_X10_say x1 x2 x3 x4 x5 h g Q) : Met l yX10_say (wa yX10_say cX10_say 9 (some .int)) ({ frames := 2, cells := 0, slots := 0, locals := 50 }) (va_Pc [.ref (ad 0), .int x1, .int x2, .int x3, .int x4, .int x5] (gI D cy ad h g sz)) (va_Qi (fun (r : Int32) (u : HI × HL) => Q r u.1 u.2) (gB D cy ad sz) (gA ad sz)) 0 0 (gA ad sz) := by
  refine Met.ofW (cc := cX10_say) (maxL := 9) (ret := (some .int)) (by decide) rfl ?_
  intro p e s m args below meth c s₁ B hml hv
  obtain ⟨hav, hsz, hP, hK, hD0, hNw⟩ := hv
  have hx := B.exec
  have hb := B.bytes
  have hr := B.returns
  have hts := atoms_spec (ws := (wa yX10_say cX10_say 9 (some .int))) B.pre
  have hw := wa_hw hts
  have hown : s.vm.findClass RX10 = some m.cls := findClass_of_methodNamed B.named
  have hlocks := B.notSynchronized
  subst hsz
  have hG : gG D cy ad (gA ad s.heap.size) s.heap h g s.heap [] := ⟨hP, gA_self hD0, va_S.rf⟩
  clear hP hD0
  have lk10 := hw (.fieldLink RX10 10 "OldWorks" "shop" "LOldWorks$Shop;") (wm2 155 rfl rfl)
  have lk85 := hw (.fieldLink RX10 85 "OldWorks$Shop" "parts" "LOldWorks$Table;") (wm1 62 rfl rfl)
  have cn102 := hw (.constant RX10 102 (100000)) (wm2 205 rfl rfl)
  have lk129 := hw (.fieldLink RX10 129 "OldWorks$Shop" "sayings" "LOldWorks$Table;") (wm1 70 rfl rfl)
  rw [show (headSpec (wa yX10_say cX10_say 9 (some .int)) ({ frames := 2, cells := 0, slots := 0, locals := 50 } : Room)).room = ({ frames := 2, cells := 0, slots := 0, locals := 50 } : Room) from rfl]
  have hl := lv_entry ([.ref (ad 0), .int x1, .int x2, .int x3, .int x4, .int x5]) (n := 9) (Nat.le_of_ble_eq_true rfl)
  rw [show entryFrame m args 9 = entryFrame m ([.ref (ad 0), .int x1, .int x2, .int x3, .int x4, .int x5] : List Value).toArray 9 from by rw [hav], lg_entry_eq]
  generalize (lg_sl ([.ref (ad 0), .int x1, .int x2, .int x3, .int x4, .int x5]) ++ List.replicate (9 - (lg_sl ([.ref (ad 0), .int x1, .int x2, .int x3, .int x4, .int x5])).length) Slot.unset).toArray = ls at hl ⊢
  have hl : lv_has ls 9 [(0, .ref (ad 0)), (1, .int x1), (2, .int x2), (3, .int x3), (4, .int x4), (5, .int x5)] := hl
  have B65 : ∀ (x1 : Int32) (x2 : Int32) (x3 : Int32) (x6 : Int32) (s0 : Int32) (h : HI) (g : HL) (H : Heap) (locs : List Loc) (ls : Array Slot), j_X10_say_65 Q x1 x2 x3 x6 s0 h g → gG D cy ad (gA ad s.heap.size) s.heap h g H locs → lv_has ls 9 [(0, .ref (ad 0)), (1, .int x1), (2, .int x2), (3, .int x3), (6, .int x6)] → W p l e ({ frames := 2, cells := 0, slots := 0, locals := 50 } : Room) s m args below meth c H locs 0 0 (MQ below (va_Qi (fun (r : Int32) (u : HI × HL) => Q r u.1 u.2) (gB D cy ad s.heap.size) (gA ad s.heap.size)) args s 0 0 (gA ad s.heap.size)) (F0 m 65 ls [.int s0]) := by
    intro x1 x2 x3 x6 s0 h g H locs ls HW hG hl
    unfold j_X10_say_65 at HW
    refine lv_istore (lv' := [(7, .int s0), (0, .ref (ad 0)), (1, .int x1), (2, .int x2), (3, .int x3), (6, .int x6)]) hx hb dX10_say_65 hl (by decide) rfl (fun ls hl => ?_)
    refine lv_iload hx hb dX10_say_67 (lv_at hl 5 rfl) ?_
    refine lv_iconst (v := 0) hx hb dX10_say_69 (by decide) ?_
    refine lv_sipush (v := 10000) hx hb dX10_say_70 (by decide) ?_
    obtain ⟨P_73, HC_73, HW⟩ := HW
    refine g_callz (g_runS (As := [.int x6, .int (0 : Int32), .int (10000 : Int32)]) (rest := []) ⟨hx, hb, hml, hown, hts⟩ (m_X10_within l D cy ad h g H.size x6 (0 : Int32) (10000 : Int32) P_73 HC_73) (va_cwS 3 hts (gd_S (wm2 193 rfl rfl) (wm2 194 rfl rfl) (wm1 1 rfl rfl) (wm2 195 rfl rfl)) rfl rfl rfl (by decide +kernel) ⟨Nat.le_of_ble_eq_true rfl, Nat.le_of_ble_eq_true rfl⟩) hK hNw hG rfl rfl hl.1 rfl (lv_room (Nat.le_of_ble_eq_true rfl)) dX10_say_73 ⟨Nat.zero_le _, Nat.zero_le _⟩) hG (fun r_73 h_73 g_73 H locs hz hq hG => ?_)
    replace HW := HW r_73 h_73 g_73 hz hq
    refine lv_if_eq (tgt := 90) hx hb dX10_say_76 (by decide) (fun c_76 => ?_) (fun c_76 => ?_)
    · replace HW := HW.1 c_76
      refine lv_bipush (v := (-2)) hx hb dX10_say_90 (by decide) ?_
      exact W.iret (v := (-2 : Int32)) hx hb hr (fun t ht hW => ⟨⟨(-2 : Int32), (h_73, g_73), rfl, HW, g_B ht hG⟩, hG.2.2.F ht⟩) hG.2.2.2.2 dX10_say_92
    · replace HW := HW.2 c_76
      refine lv_iload hx hb dX10_say_79 (lv_at hl 0 rfl) ?_
      refine lv_iconst (v := 0) hx hb dX10_say_81 (by decide) ?_
      refine lv_bipush (v := 99) hx hb dX10_say_82 (by decide) ?_
      obtain ⟨P_84, HC_84, HW⟩ := HW
      refine g_callz (g_runS (As := [.int s0, .int (0 : Int32), .int (99 : Int32)]) (rest := []) ⟨hx, hb, hml, hown, hts⟩ (m_X10_within l D cy ad h_73 g_73 H.size s0 (0 : Int32) (99 : Int32) P_84 HC_84) (va_cwS 3 hts (gd_S (wm2 193 rfl rfl) (wm2 194 rfl rfl) (wm1 1 rfl rfl) (wm2 195 rfl rfl)) rfl rfl rfl (by decide +kernel) ⟨Nat.le_of_ble_eq_true rfl, Nat.le_of_ble_eq_true rfl⟩) hK hNw hG rfl rfl hl.1 rfl (lv_room (Nat.le_of_ble_eq_true rfl)) dX10_say_84 ⟨Nat.zero_le _, Nat.zero_le _⟩) hG (fun r_84 h_84 g_84 H locs hz hq hG => ?_)
      replace HW := HW r_84 h_84 g_84 hz hq
      refine lv_if_ne (tgt := 93) hx hb dX10_say_87 (by decide) (fun c_87 => ?_) (fun c_87 => ?_)
      · replace HW := HW.1 c_87
        refine lv_aload_n hx hb dX10_say_93 rfl (lv_at hl 1 rfl) ?_
        refine g_getr hx hb hw inG10 hown hK hG gl_0 rfl gk_0 (by decide) 0 (by decide) (by rw [gm_0]; decide) (r := 1) gr_0_0 lk10 dX10_say_94 ?_
        refine g_getr hx hb hw inG6 hown hK hG gl_1 rfl gk_1 (by decide) 2 (by decide) (by rw [gm_1]; decide) (r := 6) gr_1_2 lk129 dX10_say_97 ?_
        refine lv_iload_n hx hb dX10_say_100 rfl (lv_at hl 2 rfl) ?_
        refine lv_iload_n hx hb dX10_say_101 rfl (lv_at hl 3 rfl) ?_
        refine lv_iload_n hx hb dX10_say_102 rfl (lv_at hl 4 rfl) ?_
        refine lv_iload hx hb dX10_say_103 (lv_at hl 5 rfl) ?_
        obtain ⟨P_105, HC_105, HW⟩ := HW
        refine g_calli (g_runV (As := [.int x1, .int x2, .int x3, .int x6]) (rest := []) ⟨hx, hb, hml, hown, hts⟩ (m_X8_add l D cy ad h_84 g_84 H.size 6 (gs_6) x1 x2 x3 x6 P_105 HC_105) (cwV 4 hts (gd_V (wm2 196 rfl rfl) (wm1 53 rfl rfl) (wm1 54 rfl rfl) (wm1 3 rfl rfl) (wm1 55 rfl rfl)) rfl rfl rfl (by decide +kernel) ⟨Nat.le_of_ble_eq_true rfl, Nat.le_of_ble_eq_true rfl⟩) hK hNw hG gl_6 rfl gk_6 (by decide) rfl rfl hl.1 rfl (lv_room (Nat.le_of_ble_eq_true rfl)) dX10_say_105 ⟨Nat.zero_le _, Nat.zero_le _⟩) hG (fun r_105 h_105 g_105 H locs hq hG => ?_)
        replace HW := HW r_105 h_105 g_105 hq
        refine lv_istore (lv' := [(8, .int r_105), (7, .int s0), (0, .ref (ad 0)), (1, .int x1), (2, .int x2), (3, .int x3), (6, .int x6)]) hx hb dX10_say_108 hl (by decide) rfl (fun ls hl => ?_)
        refine lv_aload_n hx hb dX10_say_110 rfl (lv_at hl 2 rfl) ?_
        refine g_getr hx hb hw inG10 hown hK hG gl_0 rfl gk_0 (by decide) 0 (by decide) (by rw [gm_0]; decide) (r := 1) gr_0_0 lk10 dX10_say_111 ?_
        refine g_getr hx hb hw inG6 hown hK hG gl_1 rfl gk_1 (by decide) 2 (by decide) (by rw [gm_1]; decide) (r := 6) gr_1_2 lk129 dX10_say_114 ?_
        refine lv_iload hx hb dX10_say_117 (lv_at hl 0 rfl) ?_
        refine lv_iconst (v := 4) hx hb dX10_say_119 (by decide) ?_
        refine lv_iload hx hb dX10_say_120 (lv_at hl 1 rfl) ?_
        obtain ⟨P_122, HC_122, HW⟩ := HW
        refine g_callv (g_runV (As := [.int r_105, .int (4 : Int32), .int s0]) (rest := []) ⟨hx, hb, hml, hown, hts⟩ (m_X8_put l D cy ad h_105 g_105 H.size 6 (gs_6) r_105 (4 : Int32) s0 P_122 HC_122) (cwV 3 hts (gd_V (wm2 207 rfl rfl) (wm1 57 rfl rfl) (wm1 58 rfl rfl) (wm1 3 rfl rfl) (wm1 59 rfl rfl)) rfl rfl rfl (by decide +kernel) ⟨Nat.le_of_ble_eq_true rfl, Nat.le_of_ble_eq_true rfl⟩) hK hNw hG gl_6 rfl gk_6 (by decide) rfl rfl hl.1 rfl (lv_room (Nat.le_of_ble_eq_true rfl)) dX10_say_122 ⟨Nat.zero_le _, Nat.zero_le _⟩) hG (fun h_122 g_122 H locs hq hG => ?_)
        replace HW := HW h_122 g_122 hq
        refine lv_iload hx hb dX10_say_125 (lv_at hl 0 rfl) ?_
        exact W.iret (v := r_105) hx hb hr (fun t ht hW => ⟨⟨r_105, (h_122, g_122), rfl, HW, g_B ht hG⟩, hG.2.2.F ht⟩) hG.2.2.2.2 dX10_say_127
      · replace HW := HW.2 c_87
        refine lv_bipush (v := (-2)) hx hb dX10_say_90 (by decide) ?_
        exact W.iret (v := (-2 : Int32)) hx hb hr (fun t ht hW => ⟨⟨(-2 : Int32), (h_84, g_84), rfl, HW, g_B ht hG⟩, hG.2.2.F ht⟩) hG.2.2.2.2 dX10_say_92
  have B53 : ∀ (x1 : Int32) (x2 : Int32) (x3 : Int32) (x5 : Int32) (s0 : Int32) (h : HI) (g : HL) (H : Heap) (locs : List Loc) (ls : Array Slot), j_X10_say_53 Q x1 x2 x3 x5 s0 h g → gG D cy ad (gA ad s.heap.size) s.heap h g H locs → lv_has ls 9 [(0, .ref (ad 0)), (1, .int x1), (2, .int x2), (3, .int x3), (5, .int x5)] → W p l e ({ frames := 2, cells := 0, slots := 0, locals := 50 } : Room) s m args below meth c H locs 0 0 (MQ below (va_Qi (fun (r : Int32) (u : HI × HL) => Q r u.1 u.2) (gB D cy ad s.heap.size) (gA ad s.heap.size)) args s 0 0 (gA ad s.heap.size)) (F0 m 53 ls [.int s0]) := by
    intro x1 x2 x3 x5 s0 h g H locs ls HW hG hl
    unfold j_X10_say_53 at HW
    refine lv_istore (lv' := [(6, .int s0), (0, .ref (ad 0)), (1, .int x1), (2, .int x2), (3, .int x3), (5, .int x5)]) hx hb dX10_say_53 hl (by decide) rfl (fun ls hl => ?_)
    refine lv_iload_n hx hb dX10_say_55 rfl (lv_at hl 3 rfl) ?_
    refine lv_if_ne (tgt := 64) hx hb dX10_say_56 (by decide) (fun c_56 => ?_) (fun c_56 => ?_)
    · replace HW := HW.1 c_56
      refine lv_iconst (v := 0) hx hb dX10_say_64 (by decide) ?_
      exact B65 x1 x2 x3 s0 (0 : Int32) h g _ _ _ HW hG (lv_sub hl [1, 2, 3, 4, 0] rfl)
    · replace HW := HW.2 c_56
      refine lv_iload hx hb dX10_say_59 (lv_at hl 5 rfl) ?_
      refine lv_goto (tgt := 65) hx hb dX10_say_61 (by decide) ?_
      exact B65 x1 x2 x3 s0 x5 h g _ _ _ HW hG (lv_sub hl [1, 2, 3, 4, 0] rfl)
  have B47 : ∀ (x1 : Int32) (x2 : Int32) (x3 : Int32) (x4 : Int32) (x5 : Int32) (h : HI) (g : HL) (H : Heap) (locs : List Loc) (ls : Array Slot), j_X10_say_47 Q x1 x2 x3 x4 x5 h g → gG D cy ad (gA ad s.heap.size) s.heap h g H locs → lv_has ls 9 [(0, .ref (ad 0)), (1, .int x1), (2, .int x2), (3, .int x3), (4, .int x4), (5, .int x5)] → W p l e ({ frames := 2, cells := 0, slots := 0, locals := 50 } : Room) s m args below meth c H locs 0 0 (MQ below (va_Qi (fun (r : Int32) (u : HI × HL) => Q r u.1 u.2) (gB D cy ad s.heap.size) (gA ad s.heap.size)) args s 0 0 (gA ad s.heap.size)) (F0 m 47 ls []) := by
    intro x1 x2 x3 x4 x5 h g H locs ls HW hG hl
    unfold j_X10_say_47 at HW
    refine lv_iload hx hb dX10_say_47 (lv_at hl 4 rfl) ?_
    refine lv_goto (tgt := 53) hx hb dX10_say_49 (by decide) ?_
    exact B53 x1 x2 x3 x5 x4 h g _ _ _ HW hG (lv_sub hl [0, 1, 2, 3, 5] rfl)
  have E0 : ∀ (H : Heap) (locs : List Loc) (ls : Array Slot), gG D cy ad (gA ad s.heap.size) s.heap h g H locs → lv_has ls 9 [(0, .ref (ad 0)), (1, .int x1), (2, .int x2), (3, .int x3), (4, .int x4), (5, .int x5)] → W p l e ({ frames := 2, cells := 0, slots := 0, locals := 50 } : Room) s m args below meth c H locs 0 0 (MQ below (va_Qi (fun (r : Int32) (u : HI × HL) => Q r u.1 u.2) (gB D cy ad s.heap.size) (gA ad s.heap.size)) args s 0 0 (gA ad s.heap.size)) (F0 m 0 ls []) := by
    intro H locs ls hG hl
    unfold w_X10_say at HW
    refine lv_aload_n hx hb dX10_say_0 rfl (lv_at hl 0 rfl) ?_
    refine g_getr hx hb hw inG10 hown hK hG gl_0 rfl gk_0 (by decide) 0 (by decide) (by rw [gm_0]; decide) (r := 1) gr_0_0 lk10 dX10_say_1 ?_
    refine g_getr hx hb hw inG6 hown hK hG gl_1 rfl gk_1 (by decide) 0 (by decide) (by rw [gm_1]; decide) (r := 2) gr_1_0 lk85 dX10_say_4 ?_
    refine lv_iload_n hx hb dX10_say_7 rfl (lv_at hl 1 rfl) ?_
    obtain ⟨P_8, HC_8, HW⟩ := HW
    refine g_callz (g_runV (As := [.int x1]) (rest := []) ⟨hx, hb, hml, hown, hts⟩ (m_X8_has l D cy ad h g H.size 2 (gs_2) x1 P_8 HC_8) (cwV 1 hts (gd_V (wm2 201 rfl rfl) (wm2 202 rfl rfl) (wm2 203 rfl rfl) (wm1 3 rfl rfl) (wm2 204 rfl rfl)) rfl rfl rfl (by decide +kernel) ⟨Nat.le_of_ble_eq_true rfl, Nat.le_of_ble_eq_true rfl⟩) hK hNw hG gl_2 rfl gk_2 (by decide) rfl rfl hl.1 rfl (lv_room (Nat.le_of_ble_eq_true rfl)) dX10_say_8 ⟨Nat.zero_le _, Nat.zero_le _⟩) hG (fun r_8 h_8 g_8 H locs hz hq hG => ?_)
    replace HW := HW r_8 h_8 g_8 hz hq
    refine lv_if_eq (tgt := 35) hx hb dX10_say_11 (by decide) (fun c_11 => ?_) (fun c_11 => ?_)
    · replace HW := HW.1 c_11
      refine lv_bipush (v := (-2)) hx hb dX10_say_35 (by decide) ?_
      exact W.iret (v := (-2 : Int32)) hx hb hr (fun t ht hW => ⟨⟨(-2 : Int32), (h_8, g_8), rfl, HW, g_B ht hG⟩, hG.2.2.F ht⟩) hG.2.2.2.2 dX10_say_37
    · replace HW := HW.2 c_11
      refine lv_iload_n hx hb dX10_say_14 rfl (lv_at hl 2 rfl) ?_
      refine lv_iconst (v := 0) hx hb dX10_say_15 (by decide) ?_
      refine lv_iconst (v := 3) hx hb dX10_say_16 (by decide) ?_
      obtain ⟨P_17, HC_17, HW⟩ := HW
      refine g_callz (g_runS (As := [.int x2, .int (0 : Int32), .int (3 : Int32)]) (rest := []) ⟨hx, hb, hml, hown, hts⟩ (m_X10_within l D cy ad h_8 g_8 H.size x2 (0 : Int32) (3 : Int32) P_17 HC_17) (va_cwS 3 hts (gd_S (wm2 193 rfl rfl) (wm2 194 rfl rfl) (wm1 1 rfl rfl) (wm2 195 rfl rfl)) rfl rfl rfl (by decide +kernel) ⟨Nat.le_of_ble_eq_true rfl, Nat.le_of_ble_eq_true rfl⟩) hK hNw hG rfl rfl hl.1 rfl (lv_room (Nat.le_of_ble_eq_true rfl)) dX10_say_17 ⟨Nat.zero_le _, Nat.zero_le _⟩) hG (fun r_17 h_17 g_17 H locs hz hq hG => ?_)
      replace HW := HW r_17 h_17 g_17 hz hq
      refine lv_if_eq (tgt := 35) hx hb dX10_say_20 (by decide) (fun c_20 => ?_) (fun c_20 => ?_)
      · replace HW := HW.1 c_20
        refine lv_bipush (v := (-2)) hx hb dX10_say_35 (by decide) ?_
        exact W.iret (v := (-2 : Int32)) hx hb hr (fun t ht hW => ⟨⟨(-2 : Int32), (h_17, g_17), rfl, HW, g_B ht hG⟩, hG.2.2.F ht⟩) hG.2.2.2.2 dX10_say_37
      · replace HW := HW.2 c_20
        refine lv_iload_n hx hb dX10_say_23 rfl (lv_at hl 3 rfl) ?_
        refine lv_sipush (v := (-10000)) hx hb dX10_say_24 (by decide) ?_
        refine lv_ldc (v := 100000) hx hb hown cn102 dX10_say_27 ?_
        obtain ⟨P_29, HC_29, HW⟩ := HW
        refine g_callz (g_runS (As := [.int x3, .int (-10000 : Int32), .int (100000 : Int32)]) (rest := []) ⟨hx, hb, hml, hown, hts⟩ (m_X10_within l D cy ad h_17 g_17 H.size x3 (-10000 : Int32) (100000 : Int32) P_29 HC_29) (va_cwS 3 hts (gd_S (wm2 193 rfl rfl) (wm2 194 rfl rfl) (wm1 1 rfl rfl) (wm2 195 rfl rfl)) rfl rfl rfl (by decide +kernel) ⟨Nat.le_of_ble_eq_true rfl, Nat.le_of_ble_eq_true rfl⟩) hK hNw hG rfl rfl hl.1 rfl (lv_room (Nat.le_of_ble_eq_true rfl)) dX10_say_29 ⟨Nat.zero_le _, Nat.zero_le _⟩) hG (fun r_29 h_29 g_29 H locs hz hq hG => ?_)
        replace HW := HW r_29 h_29 g_29 hz hq
        refine lv_if_ne (tgt := 38) hx hb dX10_say_32 (by decide) (fun c_32 => ?_) (fun c_32 => ?_)
        · replace HW := HW.1 c_32
          refine lv_iload_n hx hb dX10_say_38 rfl (lv_at hl 2 rfl) ?_
          refine lv_if_eq (tgt := 47) hx hb dX10_say_39 (by decide) (fun c_39 => ?_) (fun c_39 => ?_)
          · replace HW := HW.1 c_39
            exact B47 x1 x2 x3 x4 x5 h_29 g_29 _ _ _ HW hG (lv_sub hl [0, 1, 2, 3, 4, 5] rfl)
          · replace HW := HW.2 c_39
            refine lv_iload_n hx hb dX10_say_42 rfl (lv_at hl 2 rfl) ?_
            refine lv_iconst (v := 1) hx hb dX10_say_43 (by decide) ?_
            refine lv_icmp_ne (tgt := 52) hx hb dX10_say_44 (by decide) (fun c_44 => ?_) (fun c_44 => ?_)
            · replace HW := HW.1 c_44
              refine lv_iconst (v := 0) hx hb dX10_say_52 (by decide) ?_
              exact B53 x1 x2 x3 x5 (0 : Int32) h_29 g_29 _ _ _ HW hG (lv_sub hl [0, 1, 2, 3, 5] rfl)
            · replace HW := HW.2 c_44
              exact B47 x1 x2 x3 x4 x5 h_29 g_29 _ _ _ HW hG (lv_sub hl [0, 1, 2, 3, 4, 5] rfl)
        · replace HW := HW.2 c_32
          refine lv_bipush (v := (-2)) hx hb dX10_say_35 (by decide) ?_
          exact W.iret (v := (-2 : Int32)) hx hb hr (fun t ht hW => ⟨⟨(-2 : Int32), (h_29, g_29), rfl, HW, g_B ht hG⟩, hG.2.2.F ht⟩) hG.2.2.2.2 dX10_say_37
  exact E0 _ _ _ hG hl

def j_X10_deny_26 (Q : Int32 → HI → HL → Prop) (x1 : Int32) (s0 : Int32) (h : HI) (g : HL) : Prop :=
  (∃ P_36 : Int32 → HI → HL → Prop, w_X8_at 6 x1 (5 : Int32) h g P_36 ∧ ∀ (r_36 : Int32) (h_36 : HI) (g_36 : HL), P_36 r_36 h_36 g_36 → ((¬ r_36 = s0 → (∃ P_56 : HI → HL → Prop, w_X8_put 6 x1 (5 : Int32) s0 h_36 g_36 P_56 ∧ ∀ (h_56 : HI) (g_56 : HL), P_56 h_56 g_56 → Q (1 : Int32) h_56 g_56)) ∧ (r_36 = s0 → Q (-3 : Int32) h_36 g_36)))
def w_X10_deny (x1 : Int32) (x2 : Int32) (h : HI) (g : HL) (Q : Int32 → HI → HL → Prop) : Prop :=
  (∃ P_8 : Int32 → HI → HL → Prop, w_X8_has 6 x1 h g P_8 ∧ ∀ (r_8 : Int32) (h_8 : HI) (g_8 : HL), zb r_8 → P_8 r_8 h_8 g_8 → ((¬ r_8 = 0 → ((x2 = 0 → j_X10_deny_26 Q x1 (0 : Int32) h_8 g_8) ∧ (¬ x2 = 0 → j_X10_deny_26 Q x1 (1 : Int32) h_8 g_8))) ∧ (r_8 = 0 → Q (-2 : Int32) h_8 g_8)))
set_option maxHeartbeats 8000000 in
set_option maxRecDepth 100000 in
theorem m_X10_deny (l : Launch) (D : va_G) (cy : Nat → ClassId) (ad : Nat → Nat) (h : HI) (g : HL) (sz : Nat) (x1 : Int32) (x2 : Int32) (Q : Int32 → HI → HL → Prop) (HW : w_X10_deny x1 x2 h g Q) : Met l yX10_deny (wa yX10_deny cX10_deny 4 (some .int)) ({ frames := 1, cells := 0, slots := 0, locals := 24 }) (va_Pc [.ref (ad 0), .int x1, .int x2] (gI D cy ad h g sz)) (va_Qi (fun (r : Int32) (u : HI × HL) => Q r u.1 u.2) (gB D cy ad sz) (gA ad sz)) 0 0 (gA ad sz) := by
  refine Met.ofW (cc := cX10_deny) (maxL := 4) (ret := (some .int)) (by decide) rfl ?_
  intro p e s m args below meth c s₁ B hml hv
  obtain ⟨hav, hsz, hP, hK, hD0, hNw⟩ := hv
  have hx := B.exec
  have hb := B.bytes
  have hr := B.returns
  have hts := atoms_spec (ws := (wa yX10_deny cX10_deny 4 (some .int))) B.pre
  have hw := wa_hw hts
  have hown : s.vm.findClass RX10 = some m.cls := findClass_of_methodNamed B.named
  have hlocks := B.notSynchronized
  subst hsz
  have hG : gG D cy ad (gA ad s.heap.size) s.heap h g s.heap [] := ⟨hP, gA_self hD0, va_S.rf⟩
  clear hP hD0
  have lk10 := hw (.fieldLink RX10 10 "OldWorks" "shop" "LOldWorks$Shop;") (wm2 155 rfl rfl)
  have lk129 := hw (.fieldLink RX10 129 "OldWorks$Shop" "sayings" "LOldWorks$Table;") (wm1 70 rfl rfl)
  rw [show (headSpec (wa yX10_deny cX10_deny 4 (some .int)) ({ frames := 1, cells := 0, slots := 0, locals := 24 } : Room)).room = ({ frames := 1, cells := 0, slots := 0, locals := 24 } : Room) from rfl]
  have hl := lv_entry ([.ref (ad 0), .int x1, .int x2]) (n := 4) (Nat.le_of_ble_eq_true rfl)
  rw [show entryFrame m args 4 = entryFrame m ([.ref (ad 0), .int x1, .int x2] : List Value).toArray 4 from by rw [hav], lg_entry_eq]
  generalize (lg_sl ([.ref (ad 0), .int x1, .int x2]) ++ List.replicate (4 - (lg_sl ([.ref (ad 0), .int x1, .int x2])).length) Slot.unset).toArray = ls at hl ⊢
  have hl : lv_has ls 4 [(0, .ref (ad 0)), (1, .int x1), (2, .int x2)] := hl
  have B26 : ∀ (x1 : Int32) (s0 : Int32) (h : HI) (g : HL) (H : Heap) (locs : List Loc) (ls : Array Slot), j_X10_deny_26 Q x1 s0 h g → gG D cy ad (gA ad s.heap.size) s.heap h g H locs → lv_has ls 4 [(0, .ref (ad 0)), (1, .int x1)] → W p l e ({ frames := 1, cells := 0, slots := 0, locals := 24 } : Room) s m args below meth c H locs 0 0 (MQ below (va_Qi (fun (r : Int32) (u : HI × HL) => Q r u.1 u.2) (gB D cy ad s.heap.size) (gA ad s.heap.size)) args s 0 0 (gA ad s.heap.size)) (F0 m 26 ls [.int s0]) := by
    intro x1 s0 h g H locs ls HW hG hl
    unfold j_X10_deny_26 at HW
    refine lv_istore_n (lv' := [(3, .int s0), (0, .ref (ad 0)), (1, .int x1)]) hx hb dX10_deny_26 rfl hl (by decide) rfl (fun ls hl => ?_)
    refine lv_aload_n hx hb dX10_deny_27 rfl (lv_at hl 1 rfl) ?_
    refine g_getr hx hb hw inG10 hown hK hG gl_0 rfl gk_0 (by decide) 0 (by decide) (by rw [gm_0]; decide) (r := 1) gr_0_0 lk10 dX10_deny_28 ?_
    refine g_getr hx hb hw inG6 hown hK hG gl_1 rfl gk_1 (by decide) 2 (by decide) (by rw [gm_1]; decide) (r := 6) gr_1_2 lk129 dX10_deny_31 ?_
    refine lv_iload_n hx hb dX10_deny_34 rfl (lv_at hl 2 rfl) ?_
    refine lv_iconst (v := 5) hx hb dX10_deny_35 (by decide) ?_
    obtain ⟨P_36, HC_36, HW⟩ := HW
    refine g_calli (g_runV (As := [.int x1, .int (5 : Int32)]) (rest := []) ⟨hx, hb, hml, hown, hts⟩ (m_X8_at l D cy ad h g H.size 6 (gs_6) x1 (5 : Int32) P_36 HC_36) (cwV 2 hts (gd_V (wm3 69 rfl rfl) (wm2 221 rfl rfl) (wm2 222 rfl rfl) (wm1 3 rfl rfl) (wm2 223 rfl rfl)) rfl rfl rfl (by decide +kernel) ⟨Nat.le_of_ble_eq_true rfl, Nat.le_of_ble_eq_true rfl⟩) hK hNw hG gl_6 rfl gk_6 (by decide) rfl rfl hl.1 rfl (lv_room (Nat.le_of_ble_eq_true rfl)) dX10_deny_36 ⟨Nat.zero_le _, Nat.zero_le _⟩) hG (fun r_36 h_36 g_36 H locs hq hG => ?_)
    replace HW := HW r_36 h_36 g_36 hq
    refine lv_iload_n hx hb dX10_deny_39 rfl (lv_at hl 0 rfl) ?_
    refine lv_icmp_ne (tgt := 46) hx hb dX10_deny_40 (by decide) (fun c_40 => ?_) (fun c_40 => ?_)
    · replace HW := HW.1 c_40
      refine lv_aload_n hx hb dX10_deny_46 rfl (lv_at hl 1 rfl) ?_
      refine g_getr hx hb hw inG10 hown hK hG gl_0 rfl gk_0 (by decide) 0 (by decide) (by rw [gm_0]; decide) (r := 1) gr_0_0 lk10 dX10_deny_47 ?_
      refine g_getr hx hb hw inG6 hown hK hG gl_1 rfl gk_1 (by decide) 2 (by decide) (by rw [gm_1]; decide) (r := 6) gr_1_2 lk129 dX10_deny_50 ?_
      refine lv_iload_n hx hb dX10_deny_53 rfl (lv_at hl 2 rfl) ?_
      refine lv_iconst (v := 5) hx hb dX10_deny_54 (by decide) ?_
      refine lv_iload_n hx hb dX10_deny_55 rfl (lv_at hl 0 rfl) ?_
      obtain ⟨P_56, HC_56, HW⟩ := HW
      refine g_callv (g_runV (As := [.int x1, .int (5 : Int32), .int s0]) (rest := []) ⟨hx, hb, hml, hown, hts⟩ (m_X8_put l D cy ad h_36 g_36 H.size 6 (gs_6) x1 (5 : Int32) s0 P_56 HC_56) (cwV 3 hts (gd_V (wm2 207 rfl rfl) (wm1 57 rfl rfl) (wm1 58 rfl rfl) (wm1 3 rfl rfl) (wm1 59 rfl rfl)) rfl rfl rfl (by decide +kernel) ⟨Nat.le_of_ble_eq_true rfl, Nat.le_of_ble_eq_true rfl⟩) hK hNw hG gl_6 rfl gk_6 (by decide) rfl rfl hl.1 rfl (lv_room (Nat.le_of_ble_eq_true rfl)) dX10_deny_56 ⟨Nat.zero_le _, Nat.zero_le _⟩) hG (fun h_56 g_56 H locs hq hG => ?_)
      replace HW := HW h_56 g_56 hq
      refine lv_iconst (v := 1) hx hb dX10_deny_59 (by decide) ?_
      exact W.iret (v := (1 : Int32)) hx hb hr (fun t ht hW => ⟨⟨(1 : Int32), (h_56, g_56), rfl, HW, g_B ht hG⟩, hG.2.2.F ht⟩) hG.2.2.2.2 dX10_deny_60
    · replace HW := HW.2 c_40
      refine lv_bipush (v := (-3)) hx hb dX10_deny_43 (by decide) ?_
      exact W.iret (v := (-3 : Int32)) hx hb hr (fun t ht hW => ⟨⟨(-3 : Int32), (h_36, g_36), rfl, HW, g_B ht hG⟩, hG.2.2.F ht⟩) hG.2.2.2.2 dX10_deny_45
  have E0 : ∀ (H : Heap) (locs : List Loc) (ls : Array Slot), gG D cy ad (gA ad s.heap.size) s.heap h g H locs → lv_has ls 4 [(0, .ref (ad 0)), (1, .int x1), (2, .int x2)] → W p l e ({ frames := 1, cells := 0, slots := 0, locals := 24 } : Room) s m args below meth c H locs 0 0 (MQ below (va_Qi (fun (r : Int32) (u : HI × HL) => Q r u.1 u.2) (gB D cy ad s.heap.size) (gA ad s.heap.size)) args s 0 0 (gA ad s.heap.size)) (F0 m 0 ls []) := by
    intro H locs ls hG hl
    unfold w_X10_deny at HW
    refine lv_aload_n hx hb dX10_deny_0 rfl (lv_at hl 0 rfl) ?_
    refine g_getr hx hb hw inG10 hown hK hG gl_0 rfl gk_0 (by decide) 0 (by decide) (by rw [gm_0]; decide) (r := 1) gr_0_0 lk10 dX10_deny_1 ?_
    refine g_getr hx hb hw inG6 hown hK hG gl_1 rfl gk_1 (by decide) 2 (by decide) (by rw [gm_1]; decide) (r := 6) gr_1_2 lk129 dX10_deny_4 ?_
    refine lv_iload_n hx hb dX10_deny_7 rfl (lv_at hl 1 rfl) ?_
    obtain ⟨P_8, HC_8, HW⟩ := HW
    refine g_callz (g_runV (As := [.int x1]) (rest := []) ⟨hx, hb, hml, hown, hts⟩ (m_X8_has l D cy ad h g H.size 6 (gs_6) x1 P_8 HC_8) (cwV 1 hts (gd_V (wm2 201 rfl rfl) (wm2 202 rfl rfl) (wm2 203 rfl rfl) (wm1 3 rfl rfl) (wm2 204 rfl rfl)) rfl rfl rfl (by decide +kernel) ⟨Nat.le_of_ble_eq_true rfl, Nat.le_of_ble_eq_true rfl⟩) hK hNw hG gl_6 rfl gk_6 (by decide) rfl rfl hl.1 rfl (lv_room (Nat.le_of_ble_eq_true rfl)) dX10_deny_8 ⟨Nat.zero_le _, Nat.zero_le _⟩) hG (fun r_8 h_8 g_8 H locs hz hq hG => ?_)
    replace HW := HW r_8 h_8 g_8 hz hq
    refine lv_if_ne (tgt := 17) hx hb dX10_deny_11 (by decide) (fun c_11 => ?_) (fun c_11 => ?_)
    · replace HW := HW.1 c_11
      refine lv_iload_n hx hb dX10_deny_17 rfl (lv_at hl 2 rfl) ?_
      refine lv_if_eq (tgt := 25) hx hb dX10_deny_18 (by decide) (fun c_18 => ?_) (fun c_18 => ?_)
      · replace HW := HW.1 c_18
        refine lv_iconst (v := 0) hx hb dX10_deny_25 (by decide) ?_
        exact B26 x1 (0 : Int32) h_8 g_8 _ _ _ HW hG (lv_sub hl [0, 1] rfl)
      · replace HW := HW.2 c_18
        refine lv_iconst (v := 1) hx hb dX10_deny_21 (by decide) ?_
        refine lv_goto (tgt := 26) hx hb dX10_deny_22 (by decide) ?_
        exact B26 x1 (1 : Int32) h_8 g_8 _ _ _ HW hG (lv_sub hl [0, 1] rfl)
    · replace HW := HW.2 c_11
      refine lv_bipush (v := (-2)) hx hb dX10_deny_14 (by decide) ?_
      exact W.iret (v := (-2 : Int32)) hx hb hr (fun t ht hW => ⟨⟨(-2 : Int32), (h_8, g_8), rfl, HW, g_B ht hG⟩, hG.2.2.F ht⟩) hG.2.2.2.2 dX10_deny_16
  exact E0 _ _ _ hG hl

def w_X10_first (x1 : Int32) (x2 : Int32) (h : HI) (g : HL) (Q : Int32 → HI → HL → Prop) : Prop :=
  (∃ P_8 : Int32 → HI → HL → Prop, w_X8_has 2 x1 h g P_8 ∧ ∀ (r_8 : Int32) (h_8 : HI) (g_8 : HL), zb r_8 → P_8 r_8 h_8 g_8 → ((r_8 = 0 → Q (-2 : Int32) h_8 g_8) ∧ (¬ r_8 = 0 → (∃ P_17 : Int32 → HI → HL → Prop, w_X10_within x2 (0 : Int32) (2 : Int32) h_8 g_8 P_17 ∧ ∀ (r_17 : Int32) (h_17 : HI) (g_17 : HL), zb r_17 → P_17 r_17 h_17 g_17 → ((¬ r_17 = 0 → (∃ P_31 : HI → HL → Prop, w_X7_find x1 h_17 g_17 P_31 ∧ ∀ (h_31 : HI) (g_31 : HL), P_31 h_31 g_31 → (∃ P_39 : Int32 → HI → HL → Prop, w_X7_answer x2 h_31 g_31 P_39 ∧ ∀ (r_39 : Int32) (h_39 : HI) (g_39 : HL), P_39 r_39 h_39 g_39 → Q r_39 h_39 g_39))) ∧ (r_17 = 0 → Q (-2 : Int32) h_17 g_17))))))
set_option maxHeartbeats 8000000 in
set_option maxRecDepth 100000 in
theorem m_X10_first (l : Launch) (D : va_G) (cy : Nat → ClassId) (ad : Nat → Nat) (h : HI) (g : HL) (sz : Nat) (x1 : Int32) (x2 : Int32) (Q : Int32 → HI → HL → Prop) (HW : w_X10_first x1 x2 h g Q) : Met l yX10_first (wa yX10_first cX10_first 3 (some .int)) ({ frames := 5, cells := 0, slots := 0, locals := 124 }) (va_Pc [.ref (ad 0), .int x1, .int x2] (gI D cy ad h g sz)) (va_Qi (fun (r : Int32) (u : HI × HL) => Q r u.1 u.2) (gB D cy ad sz) (gA ad sz)) 0 0 (gA ad sz) := by
  refine Met.ofW (cc := cX10_first) (maxL := 3) (ret := (some .int)) (by decide) rfl ?_
  intro p e s m args below meth c s₁ B hml hv
  obtain ⟨hav, hsz, hP, hK, hD0, hNw⟩ := hv
  have hx := B.exec
  have hb := B.bytes
  have hr := B.returns
  have hts := atoms_spec (ws := (wa yX10_first cX10_first 3 (some .int))) B.pre
  have hw := wa_hw hts
  have hown : s.vm.findClass RX10 = some m.cls := findClass_of_methodNamed B.named
  have hlocks := B.notSynchronized
  subst hsz
  have hG : gG D cy ad (gA ad s.heap.size) s.heap h g s.heap [] := ⟨hP, gA_self hD0, va_S.rf⟩
  clear hP hD0
  have lk10 := hw (.fieldLink RX10 10 "OldWorks" "shop" "LOldWorks$Shop;") (wm2 155 rfl rfl)
  have lk85 := hw (.fieldLink RX10 85 "OldWorks$Shop" "parts" "LOldWorks$Table;") (wm1 62 rfl rfl)
  have lk40 := hw (.fieldLink RX10 40 "OldWorks" "sizes" "LOldWorks$Sizes;") (wm2 160 rfl rfl)
  rw [show (headSpec (wa yX10_first cX10_first 3 (some .int)) ({ frames := 5, cells := 0, slots := 0, locals := 124 } : Room)).room = ({ frames := 5, cells := 0, slots := 0, locals := 124 } : Room) from rfl]
  have hl := lv_entry ([.ref (ad 0), .int x1, .int x2]) (n := 3) (Nat.le_of_ble_eq_true rfl)
  rw [show entryFrame m args 3 = entryFrame m ([.ref (ad 0), .int x1, .int x2] : List Value).toArray 3 from by rw [hav], lg_entry_eq]
  generalize (lg_sl ([.ref (ad 0), .int x1, .int x2]) ++ List.replicate (3 - (lg_sl ([.ref (ad 0), .int x1, .int x2])).length) Slot.unset).toArray = ls at hl ⊢
  have hl : lv_has ls 3 [(0, .ref (ad 0)), (1, .int x1), (2, .int x2)] := hl
  have E0 : ∀ (H : Heap) (locs : List Loc) (ls : Array Slot), gG D cy ad (gA ad s.heap.size) s.heap h g H locs → lv_has ls 3 [(0, .ref (ad 0)), (1, .int x1), (2, .int x2)] → W p l e ({ frames := 5, cells := 0, slots := 0, locals := 124 } : Room) s m args below meth c H locs 0 0 (MQ below (va_Qi (fun (r : Int32) (u : HI × HL) => Q r u.1 u.2) (gB D cy ad s.heap.size) (gA ad s.heap.size)) args s 0 0 (gA ad s.heap.size)) (F0 m 0 ls []) := by
    intro H locs ls hG hl
    unfold w_X10_first at HW
    refine lv_aload_n hx hb dX10_first_0 rfl (lv_at hl 0 rfl) ?_
    refine g_getr hx hb hw inG10 hown hK hG gl_0 rfl gk_0 (by decide) 0 (by decide) (by rw [gm_0]; decide) (r := 1) gr_0_0 lk10 dX10_first_1 ?_
    refine g_getr hx hb hw inG6 hown hK hG gl_1 rfl gk_1 (by decide) 0 (by decide) (by rw [gm_1]; decide) (r := 2) gr_1_0 lk85 dX10_first_4 ?_
    refine lv_iload_n hx hb dX10_first_7 rfl (lv_at hl 1 rfl) ?_
    obtain ⟨P_8, HC_8, HW⟩ := HW
    refine g_callz (g_runV (As := [.int x1]) (rest := []) ⟨hx, hb, hml, hown, hts⟩ (m_X8_has l D cy ad h g H.size 2 (gs_2) x1 P_8 HC_8) (cwV 1 hts (gd_V (wm2 201 rfl rfl) (wm2 202 rfl rfl) (wm2 203 rfl rfl) (wm1 3 rfl rfl) (wm2 204 rfl rfl)) rfl rfl rfl (by decide +kernel) ⟨Nat.le_of_ble_eq_true rfl, Nat.le_of_ble_eq_true rfl⟩) hK hNw hG gl_2 rfl gk_2 (by decide) rfl rfl hl.1 rfl (lv_room (Nat.le_of_ble_eq_true rfl)) dX10_first_8 ⟨Nat.zero_le _, Nat.zero_le _⟩) hG (fun r_8 h_8 g_8 H locs hz hq hG => ?_)
    replace HW := HW r_8 h_8 g_8 hz hq
    refine lv_if_eq (tgt := 23) hx hb dX10_first_11 (by decide) (fun c_11 => ?_) (fun c_11 => ?_)
    · replace HW := HW.1 c_11
      refine lv_bipush (v := (-2)) hx hb dX10_first_23 (by decide) ?_
      exact W.iret (v := (-2 : Int32)) hx hb hr (fun t ht hW => ⟨⟨(-2 : Int32), (h_8, g_8), rfl, HW, g_B ht hG⟩, hG.2.2.F ht⟩) hG.2.2.2.2 dX10_first_25
    · replace HW := HW.2 c_11
      refine lv_iload_n hx hb dX10_first_14 rfl (lv_at hl 2 rfl) ?_
      refine lv_iconst (v := 0) hx hb dX10_first_15 (by decide) ?_
      refine lv_iconst (v := 2) hx hb dX10_first_16 (by decide) ?_
      obtain ⟨P_17, HC_17, HW⟩ := HW
      refine g_callz (g_runS (As := [.int x2, .int (0 : Int32), .int (2 : Int32)]) (rest := []) ⟨hx, hb, hml, hown, hts⟩ (m_X10_within l D cy ad h_8 g_8 H.size x2 (0 : Int32) (2 : Int32) P_17 HC_17) (va_cwS 3 hts (gd_S (wm2 193 rfl rfl) (wm2 194 rfl rfl) (wm1 1 rfl rfl) (wm2 195 rfl rfl)) rfl rfl rfl (by decide +kernel) ⟨Nat.le_of_ble_eq_true rfl, Nat.le_of_ble_eq_true rfl⟩) hK hNw hG rfl rfl hl.1 rfl (lv_room (Nat.le_of_ble_eq_true rfl)) dX10_first_17 ⟨Nat.zero_le _, Nat.zero_le _⟩) hG (fun r_17 h_17 g_17 H locs hz hq hG => ?_)
      replace HW := HW r_17 h_17 g_17 hz hq
      refine lv_if_ne (tgt := 26) hx hb dX10_first_20 (by decide) (fun c_20 => ?_) (fun c_20 => ?_)
      · replace HW := HW.1 c_20
        refine lv_aload_n hx hb dX10_first_26 rfl (lv_at hl 0 rfl) ?_
        refine g_getr hx hb hw inG10 hown hK hG gl_0 rfl gk_0 (by decide) 5 (by decide) (by rw [gm_0]; decide) (r := 81) gr_0_5 lk40 dX10_first_27 ?_
        refine lv_iload_n hx hb dX10_first_30 rfl (lv_at hl 1 rfl) ?_
        obtain ⟨P_31, HC_31, HW⟩ := HW
        refine g_callv (g_runV (As := [.int x1]) (rest := []) ⟨hx, hb, hml, hown, hts⟩ (m_X7_find l D cy ad h_17 g_17 H.size x1 P_31 HC_31) (cwV 1 hts (gd_V (wm3 74 rfl rfl) (wm3 75 rfl rfl) (wm3 76 rfl rfl) (wm1 5 rfl rfl) (wm3 77 rfl rfl)) rfl rfl rfl (by decide +kernel) ⟨Nat.le_of_ble_eq_true rfl, Nat.le_of_ble_eq_true rfl⟩) hK hNw hG gl_81 rfl gk_81 (by decide) rfl rfl hl.1 rfl (lv_room (Nat.le_of_ble_eq_true rfl)) dX10_first_31 ⟨Nat.zero_le _, Nat.zero_le _⟩) hG (fun h_31 g_31 H locs hq hG => ?_)
        replace HW := HW h_31 g_31 hq
        refine lv_aload_n hx hb dX10_first_34 rfl (lv_at hl 0 rfl) ?_
        refine g_getr hx hb hw inG10 hown hK hG gl_0 rfl gk_0 (by decide) 5 (by decide) (by rw [gm_0]; decide) (r := 81) gr_0_5 lk40 dX10_first_35 ?_
        refine lv_iload_n hx hb dX10_first_38 rfl (lv_at hl 2 rfl) ?_
        obtain ⟨P_39, HC_39, HW⟩ := HW
        refine g_calli (g_runV (As := [.int x2]) (rest := []) ⟨hx, hb, hml, hown, hts⟩ (m_X7_answer l D cy ad h_31 g_31 H.size x2 P_39 HC_39) (cwV 1 hts (gd_V (wm3 105 rfl rfl) (wm3 106 rfl rfl) (wm3 107 rfl rfl) (wm1 5 rfl rfl) (wm3 108 rfl rfl)) rfl rfl rfl (by decide +kernel) ⟨Nat.le_of_ble_eq_true rfl, Nat.le_of_ble_eq_true rfl⟩) hK hNw hG gl_81 rfl gk_81 (by decide) rfl rfl hl.1 rfl (lv_room (Nat.le_of_ble_eq_true rfl)) dX10_first_39 ⟨Nat.zero_le _, Nat.zero_le _⟩) hG (fun r_39 h_39 g_39 H locs hq hG => ?_)
        replace HW := HW r_39 h_39 g_39 hq
        exact W.iret (v := r_39) hx hb hr (fun t ht hW => ⟨⟨r_39, (h_39, g_39), rfl, HW, g_B ht hG⟩, hG.2.2.F ht⟩) hG.2.2.2.2 dX10_first_42
      · replace HW := HW.2 c_20
        refine lv_bipush (v := (-2)) hx hb dX10_first_23 (by decide) ?_
        exact W.iret (v := (-2 : Int32)) hx hb hr (fun t ht hW => ⟨⟨(-2 : Int32), (h_17, g_17), rfl, HW, g_B ht hG⟩, hG.2.2.F ht⟩) hG.2.2.2.2 dX10_first_25
  exact E0 _ _ _ hG hl

def w_X10_quarrel (x1 : Int32) (x2 : Int32) (h : HI) (g : HL) (Q : Int32 → HI → HL → Prop) : Prop :=
  (∃ P_8 : Int32 → HI → HL → Prop, w_X8_has 2 x1 h g P_8 ∧ ∀ (r_8 : Int32) (h_8 : HI) (g_8 : HL), zb r_8 → P_8 r_8 h_8 g_8 → ((r_8 = 0 → Q (-10 : Int32) h_8 g_8) ∧ (¬ r_8 = 0 → ((x2 < (-3 : Int32) → Q (-10 : Int32) h_8 g_8) ∧ (¬ x2 < (-3 : Int32) → ((¬ x2 = (-2 : Int32) → (∃ P_34 : HI → HL → Prop, w_X7_find x1 h_8 g_8 P_34 ∧ ∀ (h_34 : HI) (g_34 : HL), P_34 h_34 g_34 → (∃ P_41 : Int32 → HI → HL → Prop, w_X7_leastDisputed h_34 g_34 P_41 ∧ ∀ (r_41 : Int32) (h_41 : HI) (g_41 : HL), P_41 r_41 h_41 g_41 → ((¬ x2 = (-3 : Int32) → ((¬ x2 = (-1 : Int32) → (∃ P_73 : Int32 → HI → HL → Prop, w_X7_objector r_41 x2 h_41 g_41 P_73 ∧ ∀ (r_73 : Int32) (h_73 : HI) (g_73 : HL), P_73 r_73 h_73 g_73 → Q r_73 h_73 g_73)) ∧ (x2 = (-1 : Int32) → (∃ P_63 : Int32 → HI → HL → Prop, w_X7_against r_41 h_41 g_41 P_63 ∧ ∀ (r_63 : Int32) (h_63 : HI) (g_63 : HL), P_63 r_63 h_63 g_63 → Q r_63 h_63 g_63)))) ∧ (x2 = (-3 : Int32) → Q r_41 h_41 g_41))))) ∧ (x2 = (-2 : Int32) → Q (-10 : Int32) h_8 g_8)))))))
set_option maxHeartbeats 8000000 in
set_option maxRecDepth 100000 in
theorem m_X10_quarrel (l : Launch) (D : va_G) (cy : Nat → ClassId) (ad : Nat → Nat) (h : HI) (g : HL) (sz : Nat) (x1 : Int32) (x2 : Int32) (Q : Int32 → HI → HL → Prop) (HW : w_X10_quarrel x1 x2 h g Q) : Met l yX10_quarrel (wa yX10_quarrel cX10_quarrel 4 (some .int)) ({ frames := 5, cells := 0, slots := 0, locals := 124 }) (va_Pc [.ref (ad 0), .int x1, .int x2] (gI D cy ad h g sz)) (va_Qi (fun (r : Int32) (u : HI × HL) => Q r u.1 u.2) (gB D cy ad sz) (gA ad sz)) 0 0 (gA ad sz) := by
  refine Met.ofW (cc := cX10_quarrel) (maxL := 4) (ret := (some .int)) (by decide) rfl ?_
  intro p e s m args below meth c s₁ B hml hv
  obtain ⟨hav, hsz, hP, hK, hD0, hNw⟩ := hv
  have hx := B.exec
  have hb := B.bytes
  have hr := B.returns
  have hts := atoms_spec (ws := (wa yX10_quarrel cX10_quarrel 4 (some .int))) B.pre
  have hw := wa_hw hts
  have hown : s.vm.findClass RX10 = some m.cls := findClass_of_methodNamed B.named
  have hlocks := B.notSynchronized
  subst hsz
  have hG : gG D cy ad (gA ad s.heap.size) s.heap h g s.heap [] := ⟨hP, gA_self hD0, va_S.rf⟩
  clear hP hD0
  have lk10 := hw (.fieldLink RX10 10 "OldWorks" "shop" "LOldWorks$Shop;") (wm2 155 rfl rfl)
  have lk85 := hw (.fieldLink RX10 85 "OldWorks$Shop" "parts" "LOldWorks$Table;") (wm1 62 rfl rfl)
  have lk40 := hw (.fieldLink RX10 40 "OldWorks" "sizes" "LOldWorks$Sizes;") (wm2 160 rfl rfl)
  rw [show (headSpec (wa yX10_quarrel cX10_quarrel 4 (some .int)) ({ frames := 5, cells := 0, slots := 0, locals := 124 } : Room)).room = ({ frames := 5, cells := 0, slots := 0, locals := 124 } : Room) from rfl]
  have hl := lv_entry ([.ref (ad 0), .int x1, .int x2]) (n := 4) (Nat.le_of_ble_eq_true rfl)
  rw [show entryFrame m args 4 = entryFrame m ([.ref (ad 0), .int x1, .int x2] : List Value).toArray 4 from by rw [hav], lg_entry_eq]
  generalize (lg_sl ([.ref (ad 0), .int x1, .int x2]) ++ List.replicate (4 - (lg_sl ([.ref (ad 0), .int x1, .int x2])).length) Slot.unset).toArray = ls at hl ⊢
  have hl : lv_has ls 4 [(0, .ref (ad 0)), (1, .int x1), (2, .int x2)] := hl
  have E0 : ∀ (H : Heap) (locs : List Loc) (ls : Array Slot), gG D cy ad (gA ad s.heap.size) s.heap h g H locs → lv_has ls 4 [(0, .ref (ad 0)), (1, .int x1), (2, .int x2)] → W p l e ({ frames := 5, cells := 0, slots := 0, locals := 124 } : Room) s m args below meth c H locs 0 0 (MQ below (va_Qi (fun (r : Int32) (u : HI × HL) => Q r u.1 u.2) (gB D cy ad s.heap.size) (gA ad s.heap.size)) args s 0 0 (gA ad s.heap.size)) (F0 m 0 ls []) := by
    intro H locs ls hG hl
    unfold w_X10_quarrel at HW
    refine lv_aload_n hx hb dX10_quarrel_0 rfl (lv_at hl 0 rfl) ?_
    refine g_getr hx hb hw inG10 hown hK hG gl_0 rfl gk_0 (by decide) 0 (by decide) (by rw [gm_0]; decide) (r := 1) gr_0_0 lk10 dX10_quarrel_1 ?_
    refine g_getr hx hb hw inG6 hown hK hG gl_1 rfl gk_1 (by decide) 0 (by decide) (by rw [gm_1]; decide) (r := 2) gr_1_0 lk85 dX10_quarrel_4 ?_
    refine lv_iload_n hx hb dX10_quarrel_7 rfl (lv_at hl 1 rfl) ?_
    obtain ⟨P_8, HC_8, HW⟩ := HW
    refine g_callz (g_runV (As := [.int x1]) (rest := []) ⟨hx, hb, hml, hown, hts⟩ (m_X8_has l D cy ad h g H.size 2 (gs_2) x1 P_8 HC_8) (cwV 1 hts (gd_V (wm2 201 rfl rfl) (wm2 202 rfl rfl) (wm2 203 rfl rfl) (wm1 3 rfl rfl) (wm2 204 rfl rfl)) rfl rfl rfl (by decide +kernel) ⟨Nat.le_of_ble_eq_true rfl, Nat.le_of_ble_eq_true rfl⟩) hK hNw hG gl_2 rfl gk_2 (by decide) rfl rfl hl.1 rfl (lv_room (Nat.le_of_ble_eq_true rfl)) dX10_quarrel_8 ⟨Nat.zero_le _, Nat.zero_le _⟩) hG (fun r_8 h_8 g_8 H locs hz hq hG => ?_)
    replace HW := HW r_8 h_8 g_8 hz hq
    refine lv_if_eq (tgt := 26) hx hb dX10_quarrel_11 (by decide) (fun c_11 => ?_) (fun c_11 => ?_)
    · replace HW := HW.1 c_11
      refine lv_bipush (v := (-10)) hx hb dX10_quarrel_26 (by decide) ?_
      exact W.iret (v := (-10 : Int32)) hx hb hr (fun t ht hW => ⟨⟨(-10 : Int32), (h_8, g_8), rfl, HW, g_B ht hG⟩, hG.2.2.F ht⟩) hG.2.2.2.2 dX10_quarrel_28
    · replace HW := HW.2 c_11
      refine lv_iload_n hx hb dX10_quarrel_14 rfl (lv_at hl 2 rfl) ?_
      refine lv_bipush (v := (-3)) hx hb dX10_quarrel_15 (by decide) ?_
      refine lv_icmp_lt (tgt := 26) hx hb dX10_quarrel_17 (by decide) (fun c_17 => ?_) (fun c_17 => ?_)
      · replace HW := HW.1 c_17
        refine lv_bipush (v := (-10)) hx hb dX10_quarrel_26 (by decide) ?_
        exact W.iret (v := (-10 : Int32)) hx hb hr (fun t ht hW => ⟨⟨(-10 : Int32), (h_8, g_8), rfl, HW, g_B ht hG⟩, hG.2.2.F ht⟩) hG.2.2.2.2 dX10_quarrel_28
      · replace HW := HW.2 c_17
        refine lv_iload_n hx hb dX10_quarrel_20 rfl (lv_at hl 2 rfl) ?_
        refine lv_bipush (v := (-2)) hx hb dX10_quarrel_21 (by decide) ?_
        refine lv_icmp_ne (tgt := 29) hx hb dX10_quarrel_23 (by decide) (fun c_23 => ?_) (fun c_23 => ?_)
        · replace HW := HW.1 c_23
          refine lv_aload_n hx hb dX10_quarrel_29 rfl (lv_at hl 0 rfl) ?_
          refine g_getr hx hb hw inG10 hown hK hG gl_0 rfl gk_0 (by decide) 5 (by decide) (by rw [gm_0]; decide) (r := 81) gr_0_5 lk40 dX10_quarrel_30 ?_
          refine lv_iload_n hx hb dX10_quarrel_33 rfl (lv_at hl 1 rfl) ?_
          obtain ⟨P_34, HC_34, HW⟩ := HW
          refine g_callv (g_runV (As := [.int x1]) (rest := []) ⟨hx, hb, hml, hown, hts⟩ (m_X7_find l D cy ad h_8 g_8 H.size x1 P_34 HC_34) (cwV 1 hts (gd_V (wm3 74 rfl rfl) (wm3 75 rfl rfl) (wm3 76 rfl rfl) (wm1 5 rfl rfl) (wm3 77 rfl rfl)) rfl rfl rfl (by decide +kernel) ⟨Nat.le_of_ble_eq_true rfl, Nat.le_of_ble_eq_true rfl⟩) hK hNw hG gl_81 rfl gk_81 (by decide) rfl rfl hl.1 rfl (lv_room (Nat.le_of_ble_eq_true rfl)) dX10_quarrel_34 ⟨Nat.zero_le _, Nat.zero_le _⟩) hG (fun h_34 g_34 H locs hq hG => ?_)
          replace HW := HW h_34 g_34 hq
          refine lv_aload_n hx hb dX10_quarrel_37 rfl (lv_at hl 0 rfl) ?_
          refine g_getr hx hb hw inG10 hown hK hG gl_0 rfl gk_0 (by decide) 5 (by decide) (by rw [gm_0]; decide) (r := 81) gr_0_5 lk40 dX10_quarrel_38 ?_
          obtain ⟨P_41, HC_41, HW⟩ := HW
          refine g_calli (g_runV (As := []) (rest := []) ⟨hx, hb, hml, hown, hts⟩ (m_X7_leastDisputed l D cy ad h_34 g_34 H.size  P_41 HC_41) (cwV 0 hts (gd_V (wm3 113 rfl rfl) (wm3 114 rfl rfl) (wm3 115 rfl rfl) (wm1 5 rfl rfl) (wm3 116 rfl rfl)) rfl rfl rfl (by decide +kernel) ⟨Nat.le_of_ble_eq_true rfl, Nat.le_of_ble_eq_true rfl⟩) hK hNw hG gl_81 rfl gk_81 (by decide) rfl rfl hl.1 rfl (lv_room (Nat.le_of_ble_eq_true rfl)) dX10_quarrel_41 ⟨Nat.zero_le _, Nat.zero_le _⟩) hG (fun r_41 h_41 g_41 H locs hq hG => ?_)
          replace HW := HW r_41 h_41 g_41 hq
          refine lv_istore_n (lv' := [(3, .int r_41), (0, .ref (ad 0)), (1, .int x1), (2, .int x2)]) hx hb dX10_quarrel_44 rfl hl (by decide) rfl (fun ls hl => ?_)
          refine lv_iload_n hx hb dX10_quarrel_45 rfl (lv_at hl 3 rfl) ?_
          refine lv_bipush (v := (-3)) hx hb dX10_quarrel_46 (by decide) ?_
          refine lv_icmp_ne (tgt := 53) hx hb dX10_quarrel_48 (by decide) (fun c_48 => ?_) (fun c_48 => ?_)
          · replace HW := HW.1 c_48
            refine lv_iload_n hx hb dX10_quarrel_53 rfl (lv_at hl 3 rfl) ?_
            refine lv_iconst (v := (-1)) hx hb dX10_quarrel_54 (by decide) ?_
            refine lv_icmp_ne (tgt := 67) hx hb dX10_quarrel_55 (by decide) (fun c_55 => ?_) (fun c_55 => ?_)
            · replace HW := HW.1 c_55
              refine lv_aload_n hx hb dX10_quarrel_67 rfl (lv_at hl 1 rfl) ?_
              refine g_getr hx hb hw inG10 hown hK hG gl_0 rfl gk_0 (by decide) 5 (by decide) (by rw [gm_0]; decide) (r := 81) gr_0_5 lk40 dX10_quarrel_68 ?_
              refine lv_iload_n hx hb dX10_quarrel_71 rfl (lv_at hl 0 rfl) ?_
              refine lv_iload_n hx hb dX10_quarrel_72 rfl (lv_at hl 3 rfl) ?_
              obtain ⟨P_73, HC_73, HW⟩ := HW
              refine g_calli (g_runV (As := [.int r_41, .int x2]) (rest := []) ⟨hx, hb, hml, hown, hts⟩ (m_X7_objector l D cy ad h_41 g_41 H.size r_41 x2 P_73 HC_73) (cwV 2 hts (gd_V (wm3 126 rfl rfl) (wm3 127 rfl rfl) (wm3 128 rfl rfl) (wm1 5 rfl rfl) (wm3 129 rfl rfl)) rfl rfl rfl (by decide +kernel) ⟨Nat.le_of_ble_eq_true rfl, Nat.le_of_ble_eq_true rfl⟩) hK hNw hG gl_81 rfl gk_81 (by decide) rfl rfl hl.1 rfl (lv_room (Nat.le_of_ble_eq_true rfl)) dX10_quarrel_73 ⟨Nat.zero_le _, Nat.zero_le _⟩) hG (fun r_73 h_73 g_73 H locs hq hG => ?_)
              replace HW := HW r_73 h_73 g_73 hq
              exact W.iret (v := r_73) hx hb hr (fun t ht hW => ⟨⟨r_73, (h_73, g_73), rfl, HW, g_B ht hG⟩, hG.2.2.F ht⟩) hG.2.2.2.2 dX10_quarrel_76
            · replace HW := HW.2 c_55
              refine lv_aload_n hx hb dX10_quarrel_58 rfl (lv_at hl 1 rfl) ?_
              refine g_getr hx hb hw inG10 hown hK hG gl_0 rfl gk_0 (by decide) 5 (by decide) (by rw [gm_0]; decide) (r := 81) gr_0_5 lk40 dX10_quarrel_59 ?_
              refine lv_iload_n hx hb dX10_quarrel_62 rfl (lv_at hl 0 rfl) ?_
              obtain ⟨P_63, HC_63, HW⟩ := HW
              refine g_calli (g_runV (As := [.int r_41]) (rest := []) ⟨hx, hb, hml, hown, hts⟩ (m_X7_against l D cy ad h_41 g_41 H.size r_41 P_63 HC_63) (cwV 1 hts (gd_V (wm3 125 rfl rfl) (wm3 118 rfl rfl) (wm3 119 rfl rfl) (wm1 5 rfl rfl) (wm3 120 rfl rfl)) rfl rfl rfl (by decide +kernel) ⟨Nat.le_of_ble_eq_true rfl, Nat.le_of_ble_eq_true rfl⟩) hK hNw hG gl_81 rfl gk_81 (by decide) rfl rfl hl.1 rfl (lv_room (Nat.le_of_ble_eq_true rfl)) dX10_quarrel_63 ⟨Nat.zero_le _, Nat.zero_le _⟩) hG (fun r_63 h_63 g_63 H locs hq hG => ?_)
              replace HW := HW r_63 h_63 g_63 hq
              exact W.iret (v := r_63) hx hb hr (fun t ht hW => ⟨⟨r_63, (h_63, g_63), rfl, HW, g_B ht hG⟩, hG.2.2.F ht⟩) hG.2.2.2.2 dX10_quarrel_66
          · replace HW := HW.2 c_48
            refine lv_iload_n hx hb dX10_quarrel_51 rfl (lv_at hl 0 rfl) ?_
            exact W.iret (v := r_41) hx hb hr (fun t ht hW => ⟨⟨r_41, (h_41, g_41), rfl, HW, g_B ht hG⟩, hG.2.2.F ht⟩) hG.2.2.2.2 dX10_quarrel_52
        · replace HW := HW.2 c_23
          refine lv_bipush (v := (-10)) hx hb dX10_quarrel_26 (by decide) ?_
          exact W.iret (v := (-10 : Int32)) hx hb hr (fun t ht hW => ⟨⟨(-10 : Int32), (h_8, g_8), rfl, HW, g_B ht hG⟩, hG.2.2.F ht⟩) hG.2.2.2.2 dX10_quarrel_28
  exact E0 _ _ _ hG hl

def w_X10_chain (x1 : Int32) (x2 : Int32) (h : HI) (g : HL) (Q : Int32 → HI → HL → Prop) : Prop :=
  (∃ P_5 : Int32 → HI → HL → Prop, w_X10_within x1 (-100000 : Int32) (100000 : Int32) h g P_5 ∧ ∀ (r_5 : Int32) (h_5 : HI) (g_5 : HL), zb r_5 → P_5 r_5 h_5 g_5 → ((r_5 = 0 → Q (-2 : Int32) h_5 g_5) ∧ (¬ r_5 = 0 → (∃ P_15 : Int32 → HI → HL → Prop, w_X10_within x2 x1 (100000 : Int32) h_5 g_5 P_15 ∧ ∀ (r_15 : Int32) (h_15 : HI) (g_15 : HL), zb r_15 → P_15 r_15 h_15 g_15 → ((¬ r_15 = 0 → (∃ P_35 : Int32 → HI → HL → Prop, w_X8_add 8 x1 x2 (0 : Int32) (0 : Int32) h_15 g_15 P_35 ∧ ∀ (r_35 : Int32) (h_35 : HI) (g_35 : HL), P_35 r_35 h_35 g_35 → Q r_35 h_35 g_35)) ∧ (r_15 = 0 → Q (-2 : Int32) h_15 g_15))))))
set_option maxHeartbeats 8000000 in
set_option maxRecDepth 100000 in
theorem m_X10_chain (l : Launch) (D : va_G) (cy : Nat → ClassId) (ad : Nat → Nat) (h : HI) (g : HL) (sz : Nat) (x1 : Int32) (x2 : Int32) (Q : Int32 → HI → HL → Prop) (HW : w_X10_chain x1 x2 h g Q) : Met l yX10_chain (wa yX10_chain cX10_chain 3 (some .int)) ({ frames := 2, cells := 0, slots := 0, locals := 50 }) (va_Pc [.ref (ad 0), .int x1, .int x2] (gI D cy ad h g sz)) (va_Qi (fun (r : Int32) (u : HI × HL) => Q r u.1 u.2) (gB D cy ad sz) (gA ad sz)) 0 0 (gA ad sz) := by
  refine Met.ofW (cc := cX10_chain) (maxL := 3) (ret := (some .int)) (by decide) rfl ?_
  intro p e s m args below meth c s₁ B hml hv
  obtain ⟨hav, hsz, hP, hK, hD0, hNw⟩ := hv
  have hx := B.exec
  have hb := B.bytes
  have hr := B.returns
  have hts := atoms_spec (ws := (wa yX10_chain cX10_chain 3 (some .int))) B.pre
  have hw := wa_hw hts
  have hown : s.vm.findClass RX10 = some m.cls := findClass_of_methodNamed B.named
  have hlocks := B.notSynchronized
  subst hsz
  have hG : gG D cy ad (gA ad s.heap.size) s.heap h g s.heap [] := ⟨hP, gA_self hD0, va_S.rf⟩
  clear hP hD0
  have cn152 := hw (.constant RX10 152 (-100000)) (wm3 134 rfl rfl)
  have cn102 := hw (.constant RX10 102 (100000)) (wm2 205 rfl rfl)
  have lk10 := hw (.fieldLink RX10 10 "OldWorks" "shop" "LOldWorks$Shop;") (wm2 155 rfl rfl)
  have lk153 := hw (.fieldLink RX10 153 "OldWorks$Shop" "chains" "LOldWorks$Table;") (wm1 73 rfl rfl)
  rw [show (headSpec (wa yX10_chain cX10_chain 3 (some .int)) ({ frames := 2, cells := 0, slots := 0, locals := 50 } : Room)).room = ({ frames := 2, cells := 0, slots := 0, locals := 50 } : Room) from rfl]
  have hl := lv_entry ([.ref (ad 0), .int x1, .int x2]) (n := 3) (Nat.le_of_ble_eq_true rfl)
  rw [show entryFrame m args 3 = entryFrame m ([.ref (ad 0), .int x1, .int x2] : List Value).toArray 3 from by rw [hav], lg_entry_eq]
  generalize (lg_sl ([.ref (ad 0), .int x1, .int x2]) ++ List.replicate (3 - (lg_sl ([.ref (ad 0), .int x1, .int x2])).length) Slot.unset).toArray = ls at hl ⊢
  have hl : lv_has ls 3 [(0, .ref (ad 0)), (1, .int x1), (2, .int x2)] := hl
  have E0 : ∀ (H : Heap) (locs : List Loc) (ls : Array Slot), gG D cy ad (gA ad s.heap.size) s.heap h g H locs → lv_has ls 3 [(0, .ref (ad 0)), (1, .int x1), (2, .int x2)] → W p l e ({ frames := 2, cells := 0, slots := 0, locals := 50 } : Room) s m args below meth c H locs 0 0 (MQ below (va_Qi (fun (r : Int32) (u : HI × HL) => Q r u.1 u.2) (gB D cy ad s.heap.size) (gA ad s.heap.size)) args s 0 0 (gA ad s.heap.size)) (F0 m 0 ls []) := by
    intro H locs ls hG hl
    unfold w_X10_chain at HW
    refine lv_iload_n hx hb dX10_chain_0 rfl (lv_at hl 1 rfl) ?_
    refine lv_ldc (v := (-100000)) hx hb hown cn152 dX10_chain_1 ?_
    refine lv_ldc (v := 100000) hx hb hown cn102 dX10_chain_3 ?_
    obtain ⟨P_5, HC_5, HW⟩ := HW
    refine g_callz (g_runS (As := [.int x1, .int (-100000 : Int32), .int (100000 : Int32)]) (rest := []) ⟨hx, hb, hml, hown, hts⟩ (m_X10_within l D cy ad h g H.size x1 (-100000 : Int32) (100000 : Int32) P_5 HC_5) (va_cwS 3 hts (gd_S (wm2 193 rfl rfl) (wm2 194 rfl rfl) (wm1 1 rfl rfl) (wm2 195 rfl rfl)) rfl rfl rfl (by decide +kernel) ⟨Nat.le_of_ble_eq_true rfl, Nat.le_of_ble_eq_true rfl⟩) hK hNw hG rfl rfl hl.1 rfl (lv_room (Nat.le_of_ble_eq_true rfl)) dX10_chain_5 ⟨Nat.zero_le _, Nat.zero_le _⟩) hG (fun r_5 h_5 g_5 H locs hz hq hG => ?_)
    replace HW := HW r_5 h_5 g_5 hz hq
    refine lv_if_eq (tgt := 21) hx hb dX10_chain_8 (by decide) (fun c_8 => ?_) (fun c_8 => ?_)
    · replace HW := HW.1 c_8
      refine lv_bipush (v := (-2)) hx hb dX10_chain_21 (by decide) ?_
      exact W.iret (v := (-2 : Int32)) hx hb hr (fun t ht hW => ⟨⟨(-2 : Int32), (h_5, g_5), rfl, HW, g_B ht hG⟩, hG.2.2.F ht⟩) hG.2.2.2.2 dX10_chain_23
    · replace HW := HW.2 c_8
      refine lv_iload_n hx hb dX10_chain_11 rfl (lv_at hl 2 rfl) ?_
      refine lv_iload_n hx hb dX10_chain_12 rfl (lv_at hl 1 rfl) ?_
      refine lv_ldc (v := 100000) hx hb hown cn102 dX10_chain_13 ?_
      obtain ⟨P_15, HC_15, HW⟩ := HW
      refine g_callz (g_runS (As := [.int x2, .int x1, .int (100000 : Int32)]) (rest := []) ⟨hx, hb, hml, hown, hts⟩ (m_X10_within l D cy ad h_5 g_5 H.size x2 x1 (100000 : Int32) P_15 HC_15) (va_cwS 3 hts (gd_S (wm2 193 rfl rfl) (wm2 194 rfl rfl) (wm1 1 rfl rfl) (wm2 195 rfl rfl)) rfl rfl rfl (by decide +kernel) ⟨Nat.le_of_ble_eq_true rfl, Nat.le_of_ble_eq_true rfl⟩) hK hNw hG rfl rfl hl.1 rfl (lv_room (Nat.le_of_ble_eq_true rfl)) dX10_chain_15 ⟨Nat.zero_le _, Nat.zero_le _⟩) hG (fun r_15 h_15 g_15 H locs hz hq hG => ?_)
      replace HW := HW r_15 h_15 g_15 hz hq
      refine lv_if_ne (tgt := 24) hx hb dX10_chain_18 (by decide) (fun c_18 => ?_) (fun c_18 => ?_)
      · replace HW := HW.1 c_18
        refine lv_aload_n hx hb dX10_chain_24 rfl (lv_at hl 0 rfl) ?_
        refine g_getr hx hb hw inG10 hown hK hG gl_0 rfl gk_0 (by decide) 0 (by decide) (by rw [gm_0]; decide) (r := 1) gr_0_0 lk10 dX10_chain_25 ?_
        refine g_getr hx hb hw inG6 hown hK hG gl_1 rfl gk_1 (by decide) 3 (by decide) (by rw [gm_1]; decide) (r := 8) gr_1_3 lk153 dX10_chain_28 ?_
        refine lv_iload_n hx hb dX10_chain_31 rfl (lv_at hl 1 rfl) ?_
        refine lv_iload_n hx hb dX10_chain_32 rfl (lv_at hl 2 rfl) ?_
        refine lv_iconst (v := 0) hx hb dX10_chain_33 (by decide) ?_
        refine lv_iconst (v := 0) hx hb dX10_chain_34 (by decide) ?_
        obtain ⟨P_35, HC_35, HW⟩ := HW
        refine g_calli (g_runV (As := [.int x1, .int x2, .int (0 : Int32), .int (0 : Int32)]) (rest := []) ⟨hx, hb, hml, hown, hts⟩ (m_X8_add l D cy ad h_15 g_15 H.size 8 (gs_8) x1 x2 (0 : Int32) (0 : Int32) P_35 HC_35) (cwV 4 hts (gd_V (wm2 196 rfl rfl) (wm1 53 rfl rfl) (wm1 54 rfl rfl) (wm1 3 rfl rfl) (wm1 55 rfl rfl)) rfl rfl rfl (by decide +kernel) ⟨Nat.le_of_ble_eq_true rfl, Nat.le_of_ble_eq_true rfl⟩) hK hNw hG gl_8 rfl gk_8 (by decide) rfl rfl hl.1 rfl (lv_room (Nat.le_of_ble_eq_true rfl)) dX10_chain_35 ⟨Nat.zero_le _, Nat.zero_le _⟩) hG (fun r_35 h_35 g_35 H locs hq hG => ?_)
        replace HW := HW r_35 h_35 g_35 hq
        exact W.iret (v := r_35) hx hb hr (fun t ht hW => ⟨⟨r_35, (h_35, g_35), rfl, HW, g_B ht hG⟩, hG.2.2.F ht⟩) hG.2.2.2.2 dX10_chain_38
      · replace HW := HW.2 c_18
        refine lv_bipush (v := (-2)) hx hb dX10_chain_21 (by decide) ?_
        exact W.iret (v := (-2 : Int32)) hx hb hr (fun t ht hW => ⟨⟨(-2 : Int32), (h_15, g_15), rfl, HW, g_B ht hG⟩, hG.2.2.F ht⟩) hG.2.2.2.2 dX10_chain_23
  exact E0 _ _ _ hG hl

def j_X10_link_110 (Q : Int32 → HI → HL → Prop) (x1 : Int32) (x4 : Int32) (s1 : Int32) (s2 : Int32) (s3 : Int32) (h : HI) (g : HL) : Prop :=
  (∃ P_110 : HI → HL → Prop, w_X8_put 8 s1 s2 s3 h g P_110 ∧ ∀ (h_110 : HI) (g_110 : HL), P_110 h_110 g_110 → (∃ P_126 : HI → HL → Prop, w_X8_put 8 x1 (2 : Int32) (x4 + (1 : Int32)) h_110 g_110 P_126 ∧ ∀ (h_126 : HI) (g_126 : HL), P_126 h_126 g_126 → Q (x4 + (1 : Int32)) h_126 g_126))
def w_X10_link (x1 : Int32) (x2 : Int32) (x3 : Int32) (h : HI) (g : HL) (Q : Int32 → HI → HL → Prop) : Prop :=
  (∃ P_8 : Int32 → HI → HL → Prop, w_X8_has 8 x1 h g P_8 ∧ ∀ (r_8 : Int32) (h_8 : HI) (g_8 : HL), zb r_8 → P_8 r_8 h_8 g_8 → ((r_8 = 0 → Q (-2 : Int32) h_8 g_8) ∧ (¬ r_8 = 0 → (∃ P_22 : Int32 → HI → HL → Prop, w_X8_has 2 x2 h_8 g_8 P_22 ∧ ∀ (r_22 : Int32) (h_22 : HI) (g_22 : HL), zb r_22 → P_22 r_22 h_22 g_22 → ((r_22 = 0 → Q (-2 : Int32) h_22 g_22) ∧ (¬ r_22 = 0 → (∃ P_34 : Int32 → HI → HL → Prop, w_X6_isIn 1 x1 x2 h_22 g_22 P_34 ∧ ∀ (r_34 : Int32) (h_34 : HI) (g_34 : HL), zb r_34 → P_34 r_34 h_34 g_34 → ((r_34 = 0 → (∃ P_52 : Int32 → HI → HL → Prop, w_X8_at 8 x1 (2 : Int32) h_34 g_34 P_52 ∧ ∀ (r_52 : Int32) (h_52 : HI) (g_52 : HL), P_52 r_52 h_52 g_52 → ((r_52 < (6 : Int32) → (∃ P_82 : HI → HL → Prop, w_X8_put 8 x1 ((3 : Int32) + ((2 : Int32) * r_52)) x2 h_52 g_52 P_82 ∧ ∀ (h_82 : HI) (g_82 : HL), P_82 h_82 g_82 → ((x3 = 0 → j_X10_link_110 Q x1 r_52 x1 (((3 : Int32) + ((2 : Int32) * r_52)) + (1 : Int32)) (0 : Int32) h_82 g_82) ∧ (¬ x3 = 0 → j_X10_link_110 Q x1 r_52 x1 (((3 : Int32) + ((2 : Int32) * r_52)) + (1 : Int32)) (1 : Int32) h_82 g_82)))) ∧ (¬ r_52 < (6 : Int32) → Q (-4 : Int32) h_52 g_52)))) ∧ (¬ r_34 = 0 → Q (-2 : Int32) h_34 g_34)))))))))
set_option maxHeartbeats 8000000 in
set_option maxRecDepth 100000 in
theorem m_X10_link (l : Launch) (D : va_G) (cy : Nat → ClassId) (ad : Nat → Nat) (h : HI) (g : HL) (sz : Nat) (x1 : Int32) (x2 : Int32) (x3 : Int32) (Q : Int32 → HI → HL → Prop) (HW : w_X10_link x1 x2 x3 h g Q) : Met l yX10_link (wa yX10_link cX10_link 5 (some .int)) ({ frames := 2, cells := 0, slots := 0, locals := 47 }) (va_Pc [.ref (ad 0), .int x1, .int x2, .int x3] (gI D cy ad h g sz)) (va_Qi (fun (r : Int32) (u : HI × HL) => Q r u.1 u.2) (gB D cy ad sz) (gA ad sz)) 0 0 (gA ad sz) := by
  refine Met.ofW (cc := cX10_link) (maxL := 5) (ret := (some .int)) (by decide) rfl ?_
  intro p e s m args below meth c s₁ B hml hv
  obtain ⟨hav, hsz, hP, hK, hD0, hNw⟩ := hv
  have hx := B.exec
  have hb := B.bytes
  have hr := B.returns
  have hts := atoms_spec (ws := (wa yX10_link cX10_link 5 (some .int))) B.pre
  have hw := wa_hw hts
  have hown : s.vm.findClass RX10 = some m.cls := findClass_of_methodNamed B.named
  have hlocks := B.notSynchronized
  subst hsz
  have hG : gG D cy ad (gA ad s.heap.size) s.heap h g s.heap [] := ⟨hP, gA_self hD0, va_S.rf⟩
  clear hP hD0
  have lk10 := hw (.fieldLink RX10 10 "OldWorks" "shop" "LOldWorks$Shop;") (wm2 155 rfl rfl)
  have lk153 := hw (.fieldLink RX10 153 "OldWorks$Shop" "chains" "LOldWorks$Table;") (wm1 73 rfl rfl)
  have lk85 := hw (.fieldLink RX10 85 "OldWorks$Shop" "parts" "LOldWorks$Table;") (wm1 62 rfl rfl)
  rw [show (headSpec (wa yX10_link cX10_link 5 (some .int)) ({ frames := 2, cells := 0, slots := 0, locals := 47 } : Room)).room = ({ frames := 2, cells := 0, slots := 0, locals := 47 } : Room) from rfl]
  have hl := lv_entry ([.ref (ad 0), .int x1, .int x2, .int x3]) (n := 5) (Nat.le_of_ble_eq_true rfl)
  rw [show entryFrame m args 5 = entryFrame m ([.ref (ad 0), .int x1, .int x2, .int x3] : List Value).toArray 5 from by rw [hav], lg_entry_eq]
  generalize (lg_sl ([.ref (ad 0), .int x1, .int x2, .int x3]) ++ List.replicate (5 - (lg_sl ([.ref (ad 0), .int x1, .int x2, .int x3])).length) Slot.unset).toArray = ls at hl ⊢
  have hl : lv_has ls 5 [(0, .ref (ad 0)), (1, .int x1), (2, .int x2), (3, .int x3)] := hl
  have B110 : ∀ (x1 : Int32) (x4 : Int32) (s1 : Int32) (s2 : Int32) (s3 : Int32) (h : HI) (g : HL) (H : Heap) (locs : List Loc) (ls : Array Slot), j_X10_link_110 Q x1 x4 s1 s2 s3 h g → gG D cy ad (gA ad s.heap.size) s.heap h g H locs → lv_has ls 5 [(0, .ref (ad 0)), (1, .int x1), (4, .int x4)] → W p l e ({ frames := 2, cells := 0, slots := 0, locals := 47 } : Room) s m args below meth c H locs 0 0 (MQ below (va_Qi (fun (r : Int32) (u : HI × HL) => Q r u.1 u.2) (gB D cy ad s.heap.size) (gA ad s.heap.size)) args s 0 0 (gA ad s.heap.size)) (F0 m 110 ls [.int s3, .int s2, .int s1, .ref (ad 8)]) := by
    intro x1 x4 s1 s2 s3 h g H locs ls HW hG hl
    unfold j_X10_link_110 at HW
    obtain ⟨P_110, HC_110, HW⟩ := HW
    refine g_callv (g_runV (As := [.int s1, .int s2, .int s3]) (rest := []) ⟨hx, hb, hml, hown, hts⟩ (m_X8_put l D cy ad h g H.size 8 (gs_8) s1 s2 s3 P_110 HC_110) (cwV 3 hts (gd_V (wm2 207 rfl rfl) (wm1 57 rfl rfl) (wm1 58 rfl rfl) (wm1 3 rfl rfl) (wm1 59 rfl rfl)) rfl rfl rfl (by decide +kernel) ⟨Nat.le_of_ble_eq_true rfl, Nat.le_of_ble_eq_true rfl⟩) hK hNw hG gl_8 rfl gk_8 (by decide) rfl rfl hl.1 rfl (lv_room (Nat.le_of_ble_eq_true rfl)) dX10_link_110 ⟨Nat.zero_le _, Nat.zero_le _⟩) hG (fun h_110 g_110 H locs hq hG => ?_)
    replace HW := HW h_110 g_110 hq
    refine lv_aload_n hx hb dX10_link_113 rfl (lv_at hl 0 rfl) ?_
    refine g_getr hx hb hw inG10 hown hK hG gl_0 rfl gk_0 (by decide) 0 (by decide) (by rw [gm_0]; decide) (r := 1) gr_0_0 lk10 dX10_link_114 ?_
    refine g_getr hx hb hw inG6 hown hK hG gl_1 rfl gk_1 (by decide) 3 (by decide) (by rw [gm_1]; decide) (r := 8) gr_1_3 lk153 dX10_link_117 ?_
    refine lv_iload_n hx hb dX10_link_120 rfl (lv_at hl 1 rfl) ?_
    refine lv_iconst (v := 2) hx hb dX10_link_121 (by decide) ?_
    refine lv_iload hx hb dX10_link_122 (lv_at hl 2 rfl) ?_
    refine lv_iconst (v := 1) hx hb dX10_link_124 (by decide) ?_
    refine lv_iadd hx hb dX10_link_125 ?_
    obtain ⟨P_126, HC_126, HW⟩ := HW
    refine g_callv (g_runV (As := [.int x1, .int (2 : Int32), .int (x4 + (1 : Int32))]) (rest := []) ⟨hx, hb, hml, hown, hts⟩ (m_X8_put l D cy ad h_110 g_110 H.size 8 (gs_8) x1 (2 : Int32) (x4 + (1 : Int32)) P_126 HC_126) (cwV 3 hts (gd_V (wm2 207 rfl rfl) (wm1 57 rfl rfl) (wm1 58 rfl rfl) (wm1 3 rfl rfl) (wm1 59 rfl rfl)) rfl rfl rfl (by decide +kernel) ⟨Nat.le_of_ble_eq_true rfl, Nat.le_of_ble_eq_true rfl⟩) hK hNw hG gl_8 rfl gk_8 (by decide) rfl rfl hl.1 rfl (lv_room (Nat.le_of_ble_eq_true rfl)) dX10_link_126 ⟨Nat.zero_le _, Nat.zero_le _⟩) hG (fun h_126 g_126 H locs hq hG => ?_)
    replace HW := HW h_126 g_126 hq
    refine lv_iload hx hb dX10_link_129 (lv_at hl 2 rfl) ?_
    refine lv_iconst (v := 1) hx hb dX10_link_131 (by decide) ?_
    refine lv_iadd hx hb dX10_link_132 ?_
    exact W.iret (v := (x4 + (1 : Int32))) hx hb hr (fun t ht hW => ⟨⟨(x4 + (1 : Int32)), (h_126, g_126), rfl, HW, g_B ht hG⟩, hG.2.2.F ht⟩) hG.2.2.2.2 dX10_link_133
  have E0 : ∀ (H : Heap) (locs : List Loc) (ls : Array Slot), gG D cy ad (gA ad s.heap.size) s.heap h g H locs → lv_has ls 5 [(0, .ref (ad 0)), (1, .int x1), (2, .int x2), (3, .int x3)] → W p l e ({ frames := 2, cells := 0, slots := 0, locals := 47 } : Room) s m args below meth c H locs 0 0 (MQ below (va_Qi (fun (r : Int32) (u : HI × HL) => Q r u.1 u.2) (gB D cy ad s.heap.size) (gA ad s.heap.size)) args s 0 0 (gA ad s.heap.size)) (F0 m 0 ls []) := by
    intro H locs ls hG hl
    unfold w_X10_link at HW
    refine lv_aload_n hx hb dX10_link_0 rfl (lv_at hl 0 rfl) ?_
    refine g_getr hx hb hw inG10 hown hK hG gl_0 rfl gk_0 (by decide) 0 (by decide) (by rw [gm_0]; decide) (r := 1) gr_0_0 lk10 dX10_link_1 ?_
    refine g_getr hx hb hw inG6 hown hK hG gl_1 rfl gk_1 (by decide) 3 (by decide) (by rw [gm_1]; decide) (r := 8) gr_1_3 lk153 dX10_link_4 ?_
    refine lv_iload_n hx hb dX10_link_7 rfl (lv_at hl 1 rfl) ?_
    obtain ⟨P_8, HC_8, HW⟩ := HW
    refine g_callz (g_runV (As := [.int x1]) (rest := []) ⟨hx, hb, hml, hown, hts⟩ (m_X8_has l D cy ad h g H.size 8 (gs_8) x1 P_8 HC_8) (cwV 1 hts (gd_V (wm2 201 rfl rfl) (wm2 202 rfl rfl) (wm2 203 rfl rfl) (wm1 3 rfl rfl) (wm2 204 rfl rfl)) rfl rfl rfl (by decide +kernel) ⟨Nat.le_of_ble_eq_true rfl, Nat.le_of_ble_eq_true rfl⟩) hK hNw hG gl_8 rfl gk_8 (by decide) rfl rfl hl.1 rfl (lv_room (Nat.le_of_ble_eq_true rfl)) dX10_link_8 ⟨Nat.zero_le _, Nat.zero_le _⟩) hG (fun r_8 h_8 g_8 H locs hz hq hG => ?_)
    replace HW := HW r_8 h_8 g_8 hz hq
    refine lv_if_eq (tgt := 40) hx hb dX10_link_11 (by decide) (fun c_11 => ?_) (fun c_11 => ?_)
    · replace HW := HW.1 c_11
      refine lv_bipush (v := (-2)) hx hb dX10_link_40 (by decide) ?_
      exact W.iret (v := (-2 : Int32)) hx hb hr (fun t ht hW => ⟨⟨(-2 : Int32), (h_8, g_8), rfl, HW, g_B ht hG⟩, hG.2.2.F ht⟩) hG.2.2.2.2 dX10_link_42
    · replace HW := HW.2 c_11
      refine lv_aload_n hx hb dX10_link_14 rfl (lv_at hl 0 rfl) ?_
      refine g_getr hx hb hw inG10 hown hK hG gl_0 rfl gk_0 (by decide) 0 (by decide) (by rw [gm_0]; decide) (r := 1) gr_0_0 lk10 dX10_link_15 ?_
      refine g_getr hx hb hw inG6 hown hK hG gl_1 rfl gk_1 (by decide) 0 (by decide) (by rw [gm_1]; decide) (r := 2) gr_1_0 lk85 dX10_link_18 ?_
      refine lv_iload_n hx hb dX10_link_21 rfl (lv_at hl 2 rfl) ?_
      obtain ⟨P_22, HC_22, HW⟩ := HW
      refine g_callz (g_runV (As := [.int x2]) (rest := []) ⟨hx, hb, hml, hown, hts⟩ (m_X8_has l D cy ad h_8 g_8 H.size 2 (gs_2) x2 P_22 HC_22) (cwV 1 hts (gd_V (wm2 201 rfl rfl) (wm2 202 rfl rfl) (wm2 203 rfl rfl) (wm1 3 rfl rfl) (wm2 204 rfl rfl)) rfl rfl rfl (by decide +kernel) ⟨Nat.le_of_ble_eq_true rfl, Nat.le_of_ble_eq_true rfl⟩) hK hNw hG gl_2 rfl gk_2 (by decide) rfl rfl hl.1 rfl (lv_room (Nat.le_of_ble_eq_true rfl)) dX10_link_22 ⟨Nat.zero_le _, Nat.zero_le _⟩) hG (fun r_22 h_22 g_22 H locs hz hq hG => ?_)
      replace HW := HW r_22 h_22 g_22 hz hq
      refine lv_if_eq (tgt := 40) hx hb dX10_link_25 (by decide) (fun c_25 => ?_) (fun c_25 => ?_)
      · replace HW := HW.1 c_25
        refine lv_bipush (v := (-2)) hx hb dX10_link_40 (by decide) ?_
        exact W.iret (v := (-2 : Int32)) hx hb hr (fun t ht hW => ⟨⟨(-2 : Int32), (h_22, g_22), rfl, HW, g_B ht hG⟩, hG.2.2.F ht⟩) hG.2.2.2.2 dX10_link_42
      · replace HW := HW.2 c_25
        refine lv_aload_n hx hb dX10_link_28 rfl (lv_at hl 0 rfl) ?_
        refine g_getr hx hb hw inG10 hown hK hG gl_0 rfl gk_0 (by decide) 0 (by decide) (by rw [gm_0]; decide) (r := 1) gr_0_0 lk10 dX10_link_29 ?_
        refine lv_iload_n hx hb dX10_link_32 rfl (lv_at hl 1 rfl) ?_
        refine lv_iload_n hx hb dX10_link_33 rfl (lv_at hl 2 rfl) ?_
        obtain ⟨P_34, HC_34, HW⟩ := HW
        refine g_callz (g_runV (As := [.int x1, .int x2]) (rest := []) ⟨hx, hb, hml, hown, hts⟩ (m_X6_isIn l D cy ad h_22 g_22 H.size 1 (gs_1) x1 x2 P_34 HC_34) (cwV 2 hts (gd_V (wm3 139 rfl rfl) (wm3 140 rfl rfl) (wm3 141 rfl rfl) (wm1 2 rfl rfl) (wm3 142 rfl rfl)) rfl rfl rfl (by decide +kernel) ⟨Nat.le_of_ble_eq_true rfl, Nat.le_of_ble_eq_true rfl⟩) hK hNw hG gl_1 rfl gk_1 (by decide) rfl rfl hl.1 rfl (lv_room (Nat.le_of_ble_eq_true rfl)) dX10_link_34 ⟨Nat.zero_le _, Nat.zero_le _⟩) hG (fun r_34 h_34 g_34 H locs hz hq hG => ?_)
        replace HW := HW r_34 h_34 g_34 hz hq
        refine lv_if_eq (tgt := 43) hx hb dX10_link_37 (by decide) (fun c_37 => ?_) (fun c_37 => ?_)
        · replace HW := HW.1 c_37
          refine lv_aload_n hx hb dX10_link_43 rfl (lv_at hl 0 rfl) ?_
          refine g_getr hx hb hw inG10 hown hK hG gl_0 rfl gk_0 (by decide) 0 (by decide) (by rw [gm_0]; decide) (r := 1) gr_0_0 lk10 dX10_link_44 ?_
          refine g_getr hx hb hw inG6 hown hK hG gl_1 rfl gk_1 (by decide) 3 (by decide) (by rw [gm_1]; decide) (r := 8) gr_1_3 lk153 dX10_link_47 ?_
          refine lv_iload_n hx hb dX10_link_50 rfl (lv_at hl 1 rfl) ?_
          refine lv_iconst (v := 2) hx hb dX10_link_51 (by decide) ?_
          obtain ⟨P_52, HC_52, HW⟩ := HW
          refine g_calli (g_runV (As := [.int x1, .int (2 : Int32)]) (rest := []) ⟨hx, hb, hml, hown, hts⟩ (m_X8_at l D cy ad h_34 g_34 H.size 8 (gs_8) x1 (2 : Int32) P_52 HC_52) (cwV 2 hts (gd_V (wm3 69 rfl rfl) (wm2 221 rfl rfl) (wm2 222 rfl rfl) (wm1 3 rfl rfl) (wm2 223 rfl rfl)) rfl rfl rfl (by decide +kernel) ⟨Nat.le_of_ble_eq_true rfl, Nat.le_of_ble_eq_true rfl⟩) hK hNw hG gl_8 rfl gk_8 (by decide) rfl rfl hl.1 rfl (lv_room (Nat.le_of_ble_eq_true rfl)) dX10_link_52 ⟨Nat.zero_le _, Nat.zero_le _⟩) hG (fun r_52 h_52 g_52 H locs hq hG => ?_)
          replace HW := HW r_52 h_52 g_52 hq
          refine lv_istore (lv' := [(4, .int r_52), (0, .ref (ad 0)), (1, .int x1), (2, .int x2), (3, .int x3)]) hx hb dX10_link_55 hl (by decide) rfl (fun ls hl => ?_)
          refine lv_iload hx hb dX10_link_57 (lv_at hl 0 rfl) ?_
          refine lv_bipush (v := 6) hx hb dX10_link_59 (by decide) ?_
          refine lv_icmp_lt (tgt := 67) hx hb dX10_link_61 (by decide) (fun c_61 => ?_) (fun c_61 => ?_)
          · replace HW := HW.1 c_61
            refine lv_aload_n hx hb dX10_link_67 rfl (lv_at hl 1 rfl) ?_
            refine g_getr hx hb hw inG10 hown hK hG gl_0 rfl gk_0 (by decide) 0 (by decide) (by rw [gm_0]; decide) (r := 1) gr_0_0 lk10 dX10_link_68 ?_
            refine g_getr hx hb hw inG6 hown hK hG gl_1 rfl gk_1 (by decide) 3 (by decide) (by rw [gm_1]; decide) (r := 8) gr_1_3 lk153 dX10_link_71 ?_
            refine lv_iload_n hx hb dX10_link_74 rfl (lv_at hl 2 rfl) ?_
            refine lv_iconst (v := 3) hx hb dX10_link_75 (by decide) ?_
            refine lv_iconst (v := 2) hx hb dX10_link_76 (by decide) ?_
            refine lv_iload hx hb dX10_link_77 (lv_at hl 0 rfl) ?_
            refine lv_imul hx hb dX10_link_79 ?_
            refine lv_iadd hx hb dX10_link_80 ?_
            refine lv_iload_n hx hb dX10_link_81 rfl (lv_at hl 3 rfl) ?_
            obtain ⟨P_82, HC_82, HW⟩ := HW
            refine g_callv (g_runV (As := [.int x1, .int ((3 : Int32) + ((2 : Int32) * r_52)), .int x2]) (rest := []) ⟨hx, hb, hml, hown, hts⟩ (m_X8_put l D cy ad h_52 g_52 H.size 8 (gs_8) x1 ((3 : Int32) + ((2 : Int32) * r_52)) x2 P_82 HC_82) (cwV 3 hts (gd_V (wm2 207 rfl rfl) (wm1 57 rfl rfl) (wm1 58 rfl rfl) (wm1 3 rfl rfl) (wm1 59 rfl rfl)) rfl rfl rfl (by decide +kernel) ⟨Nat.le_of_ble_eq_true rfl, Nat.le_of_ble_eq_true rfl⟩) hK hNw hG gl_8 rfl gk_8 (by decide) rfl rfl hl.1 rfl (lv_room (Nat.le_of_ble_eq_true rfl)) dX10_link_82 ⟨Nat.zero_le _, Nat.zero_le _⟩) hG (fun h_82 g_82 H locs hq hG => ?_)
            replace HW := HW h_82 g_82 hq
            refine lv_aload_n hx hb dX10_link_85 rfl (lv_at hl 1 rfl) ?_
            refine g_getr hx hb hw inG10 hown hK hG gl_0 rfl gk_0 (by decide) 0 (by decide) (by rw [gm_0]; decide) (r := 1) gr_0_0 lk10 dX10_link_86 ?_
            refine g_getr hx hb hw inG6 hown hK hG gl_1 rfl gk_1 (by decide) 3 (by decide) (by rw [gm_1]; decide) (r := 8) gr_1_3 lk153 dX10_link_89 ?_
            refine lv_iload_n hx hb dX10_link_92 rfl (lv_at hl 2 rfl) ?_
            refine lv_iconst (v := 3) hx hb dX10_link_93 (by decide) ?_
            refine lv_iconst (v := 2) hx hb dX10_link_94 (by decide) ?_
            refine lv_iload hx hb dX10_link_95 (lv_at hl 0 rfl) ?_
            refine lv_imul hx hb dX10_link_97 ?_
            refine lv_iadd hx hb dX10_link_98 ?_
            refine lv_iconst (v := 1) hx hb dX10_link_99 (by decide) ?_
            refine lv_iadd hx hb dX10_link_100 ?_
            refine lv_iload_n hx hb dX10_link_101 rfl (lv_at hl 4 rfl) ?_
            refine lv_if_eq (tgt := 109) hx hb dX10_link_102 (by decide) (fun c_102 => ?_) (fun c_102 => ?_)
            · replace HW := HW.1 c_102
              refine lv_iconst (v := 0) hx hb dX10_link_109 (by decide) ?_
              exact B110 x1 r_52 x1 (((3 : Int32) + ((2 : Int32) * r_52)) + (1 : Int32)) (0 : Int32) h_82 g_82 _ _ _ HW hG (lv_sub hl [1, 2, 0] rfl)
            · replace HW := HW.2 c_102
              refine lv_iconst (v := 1) hx hb dX10_link_105 (by decide) ?_
              refine lv_goto (tgt := 110) hx hb dX10_link_106 (by decide) ?_
              exact B110 x1 r_52 x1 (((3 : Int32) + ((2 : Int32) * r_52)) + (1 : Int32)) (1 : Int32) h_82 g_82 _ _ _ HW hG (lv_sub hl [1, 2, 0] rfl)
          · replace HW := HW.2 c_61
            refine lv_bipush (v := (-4)) hx hb dX10_link_64 (by decide) ?_
            exact W.iret (v := (-4 : Int32)) hx hb hr (fun t ht hW => ⟨⟨(-4 : Int32), (h_52, g_52), rfl, HW, g_B ht hG⟩, hG.2.2.F ht⟩) hG.2.2.2.2 dX10_link_66
        · replace HW := HW.2 c_37
          refine lv_bipush (v := (-2)) hx hb dX10_link_40 (by decide) ?_
          exact W.iret (v := (-2 : Int32)) hx hb hr (fun t ht hW => ⟨⟨(-2 : Int32), (h_34, g_34), rfl, HW, g_B ht hG⟩, hG.2.2.F ht⟩) hG.2.2.2.2 dX10_link_42
  exact E0 _ _ _ hG hl

def w_X10_sum (x1 : Int32) (x2 : Int32) (x3 : Int32) (h : HI) (g : HL) (Q : Int32 → HI → HL → Prop) : Prop :=
  (∃ P_8 : Int32 → HI → HL → Prop, w_X8_has 8 x1 h g P_8 ∧ ∀ (r_8 : Int32) (h_8 : HI) (g_8 : HL), zb r_8 → P_8 r_8 h_8 g_8 → ((r_8 = 0 → Q (-2100000000 : Int32) h_8 g_8) ∧ (¬ r_8 = 0 → (∃ P_18 : Int32 → HI → HL → Prop, w_X10_within x2 (0 : Int32) (99 : Int32) h_8 g_8 P_18 ∧ ∀ (r_18 : Int32) (h_18 : HI) (g_18 : HL), zb r_18 → P_18 r_18 h_18 g_18 → ((r_18 = 0 → Q (-2100000000 : Int32) h_18 g_18) ∧ (¬ r_18 = 0 → (∃ P_27 : Int32 → HI → HL → Prop, w_X10_within x3 (0 : Int32) (2 : Int32) h_18 g_18 P_27 ∧ ∀ (r_27 : Int32) (h_27 : HI) (g_27 : HL), zb r_27 → P_27 r_27 h_27 g_27 → ((¬ r_27 = 0 → (∃ P_43 : HI → HL → Prop, w_X2_take x1 (-1 : Int32) (-1 : Int32) h_27 g_27 P_43 ∧ ∀ (h_43 : HI) (g_43 : HL), P_43 h_43 g_43 → ((¬ x3 = (2 : Int32) → ((¬ (h_43 85 7) = 0 → (∃ P_86 : HI → HL → Prop, w_X2_addUp x2 h_43 g_43 P_86 ∧ ∀ (h_86 : HI) (g_86 : HL), P_86 h_86 g_86 → ((¬ x3 = 0 → Q (h_86 85 9) h_86 g_86) ∧ (x3 = 0 → Q (h_86 85 8) h_86 g_86)))) ∧ ((h_43 85 7) = 0 → Q (-2000000000 : Int32) h_43 g_43))) ∧ (x3 = (2 : Int32) → (∃ P_56 : Int32 → HI → HL → Prop, w_X2_holdIn x2 h_43 g_43 P_56 ∧ ∀ (r_56 : Int32) (h_56 : HI) (g_56 : HL), zb r_56 → P_56 r_56 h_56 g_56 → ((r_56 = 0 → Q (0 : Int32) h_56 g_56) ∧ (¬ r_56 = 0 → Q (1 : Int32) h_56 g_56))))))) ∧ (r_27 = 0 → Q (-2100000000 : Int32) h_27 g_27)))))))))
set_option maxHeartbeats 8000000 in
set_option maxRecDepth 100000 in
theorem m_X10_sum (l : Launch) (D : va_G) (cy : Nat → ClassId) (ad : Nat → Nat) (h : HI) (g : HL) (sz : Nat) (x1 : Int32) (x2 : Int32) (x3 : Int32) (Q : Int32 → HI → HL → Prop) (HW : w_X10_sum x1 x2 x3 h g Q) : Met l yX10_sum (wa yX10_sum cX10_sum 4 (some .int)) ({ frames := 6, cells := 0, slots := 0, locals := 150 }) (va_Pc [.ref (ad 0), .int x1, .int x2, .int x3] (gI D cy ad h g sz)) (va_Qi (fun (r : Int32) (u : HI × HL) => Q r u.1 u.2) (gB D cy ad sz) (gA ad sz)) 0 0 (gA ad sz) := by
  refine Met.ofW (cc := cX10_sum) (maxL := 4) (ret := (some .int)) (by decide) rfl ?_
  intro p e s m args below meth c s₁ B hml hv
  obtain ⟨hav, hsz, hP, hK, hD0, hNw⟩ := hv
  have hx := B.exec
  have hb := B.bytes
  have hr := B.returns
  have hts := atoms_spec (ws := (wa yX10_sum cX10_sum 4 (some .int))) B.pre
  have hw := wa_hw hts
  have hown : s.vm.findClass RX10 = some m.cls := findClass_of_methodNamed B.named
  have hlocks := B.notSynchronized
  subst hsz
  have hG : gG D cy ad (gA ad s.heap.size) s.heap h g s.heap [] := ⟨hP, gA_self hD0, va_S.rf⟩
  clear hP hD0
  have lk10 := hw (.fieldLink RX10 10 "OldWorks" "shop" "LOldWorks$Shop;") (wm2 155 rfl rfl)
  have lk153 := hw (.fieldLink RX10 153 "OldWorks$Shop" "chains" "LOldWorks$Table;") (wm1 73 rfl rfl)
  have cn160 := hw (.constant RX10 160 (-2100000000)) (wm3 148 rfl rfl)
  have lk49 := hw (.fieldLink RX10 49 "OldWorks" "fits" "LOldWorks$Fits;") (wm2 161 rfl rfl)
  have lk167 := hw (.fieldLink RX10 167 "OldWorks$Fits" "sized" "Z") (wm1 222 rfl rfl)
  have lk179 := hw (.fieldLink RX10 179 "OldWorks$Fits" "greatest" "I") (wm1 226 rfl rfl)
  have lk175 := hw (.fieldLink RX10 175 "OldWorks$Fits" "least" "I") (wm1 224 rfl rfl)
  have cn171 := hw (.constant RX10 171 (-2000000000)) (wm3 164 rfl rfl)
  rw [show (headSpec (wa yX10_sum cX10_sum 4 (some .int)) ({ frames := 6, cells := 0, slots := 0, locals := 150 } : Room)).room = ({ frames := 6, cells := 0, slots := 0, locals := 150 } : Room) from rfl]
  have hl := lv_entry ([.ref (ad 0), .int x1, .int x2, .int x3]) (n := 4) (Nat.le_of_ble_eq_true rfl)
  rw [show entryFrame m args 4 = entryFrame m ([.ref (ad 0), .int x1, .int x2, .int x3] : List Value).toArray 4 from by rw [hav], lg_entry_eq]
  generalize (lg_sl ([.ref (ad 0), .int x1, .int x2, .int x3]) ++ List.replicate (4 - (lg_sl ([.ref (ad 0), .int x1, .int x2, .int x3])).length) Slot.unset).toArray = ls at hl ⊢
  have hl : lv_has ls 4 [(0, .ref (ad 0)), (1, .int x1), (2, .int x2), (3, .int x3)] := hl
  have E0 : ∀ (H : Heap) (locs : List Loc) (ls : Array Slot), gG D cy ad (gA ad s.heap.size) s.heap h g H locs → lv_has ls 4 [(0, .ref (ad 0)), (1, .int x1), (2, .int x2), (3, .int x3)] → W p l e ({ frames := 6, cells := 0, slots := 0, locals := 150 } : Room) s m args below meth c H locs 0 0 (MQ below (va_Qi (fun (r : Int32) (u : HI × HL) => Q r u.1 u.2) (gB D cy ad s.heap.size) (gA ad s.heap.size)) args s 0 0 (gA ad s.heap.size)) (F0 m 0 ls []) := by
    intro H locs ls hG hl
    unfold w_X10_sum at HW
    refine lv_aload_n hx hb dX10_sum_0 rfl (lv_at hl 0 rfl) ?_
    refine g_getr hx hb hw inG10 hown hK hG gl_0 rfl gk_0 (by decide) 0 (by decide) (by rw [gm_0]; decide) (r := 1) gr_0_0 lk10 dX10_sum_1 ?_
    refine g_getr hx hb hw inG6 hown hK hG gl_1 rfl gk_1 (by decide) 3 (by decide) (by rw [gm_1]; decide) (r := 8) gr_1_3 lk153 dX10_sum_4 ?_
    refine lv_iload_n hx hb dX10_sum_7 rfl (lv_at hl 1 rfl) ?_
    obtain ⟨P_8, HC_8, HW⟩ := HW
    refine g_callz (g_runV (As := [.int x1]) (rest := []) ⟨hx, hb, hml, hown, hts⟩ (m_X8_has l D cy ad h g H.size 8 (gs_8) x1 P_8 HC_8) (cwV 1 hts (gd_V (wm2 201 rfl rfl) (wm2 202 rfl rfl) (wm2 203 rfl rfl) (wm1 3 rfl rfl) (wm2 204 rfl rfl)) rfl rfl rfl (by decide +kernel) ⟨Nat.le_of_ble_eq_true rfl, Nat.le_of_ble_eq_true rfl⟩) hK hNw hG gl_8 rfl gk_8 (by decide) rfl rfl hl.1 rfl (lv_room (Nat.le_of_ble_eq_true rfl)) dX10_sum_8 ⟨Nat.zero_le _, Nat.zero_le _⟩) hG (fun r_8 h_8 g_8 H locs hz hq hG => ?_)
    replace HW := HW r_8 h_8 g_8 hz hq
    refine lv_if_eq (tgt := 33) hx hb dX10_sum_11 (by decide) (fun c_11 => ?_) (fun c_11 => ?_)
    · replace HW := HW.1 c_11
      refine lv_ldc (v := (-2100000000)) hx hb hown cn160 dX10_sum_33 ?_
      exact W.iret (v := (-2100000000 : Int32)) hx hb hr (fun t ht hW => ⟨⟨(-2100000000 : Int32), (h_8, g_8), rfl, HW, g_B ht hG⟩, hG.2.2.F ht⟩) hG.2.2.2.2 dX10_sum_35
    · replace HW := HW.2 c_11
      refine lv_iload_n hx hb dX10_sum_14 rfl (lv_at hl 2 rfl) ?_
      refine lv_iconst (v := 0) hx hb dX10_sum_15 (by decide) ?_
      refine lv_bipush (v := 99) hx hb dX10_sum_16 (by decide) ?_
      obtain ⟨P_18, HC_18, HW⟩ := HW
      refine g_callz (g_runS (As := [.int x2, .int (0 : Int32), .int (99 : Int32)]) (rest := []) ⟨hx, hb, hml, hown, hts⟩ (m_X10_within l D cy ad h_8 g_8 H.size x2 (0 : Int32) (99 : Int32) P_18 HC_18) (va_cwS 3 hts (gd_S (wm2 193 rfl rfl) (wm2 194 rfl rfl) (wm1 1 rfl rfl) (wm2 195 rfl rfl)) rfl rfl rfl (by decide +kernel) ⟨Nat.le_of_ble_eq_true rfl, Nat.le_of_ble_eq_true rfl⟩) hK hNw hG rfl rfl hl.1 rfl (lv_room (Nat.le_of_ble_eq_true rfl)) dX10_sum_18 ⟨Nat.zero_le _, Nat.zero_le _⟩) hG (fun r_18 h_18 g_18 H locs hz hq hG => ?_)
      replace HW := HW r_18 h_18 g_18 hz hq
      refine lv_if_eq (tgt := 33) hx hb dX10_sum_21 (by decide) (fun c_21 => ?_) (fun c_21 => ?_)
      · replace HW := HW.1 c_21
        refine lv_ldc (v := (-2100000000)) hx hb hown cn160 dX10_sum_33 ?_
        exact W.iret (v := (-2100000000 : Int32)) hx hb hr (fun t ht hW => ⟨⟨(-2100000000 : Int32), (h_18, g_18), rfl, HW, g_B ht hG⟩, hG.2.2.F ht⟩) hG.2.2.2.2 dX10_sum_35
      · replace HW := HW.2 c_21
        refine lv_iload_n hx hb dX10_sum_24 rfl (lv_at hl 3 rfl) ?_
        refine lv_iconst (v := 0) hx hb dX10_sum_25 (by decide) ?_
        refine lv_iconst (v := 2) hx hb dX10_sum_26 (by decide) ?_
        obtain ⟨P_27, HC_27, HW⟩ := HW
        refine g_callz (g_runS (As := [.int x3, .int (0 : Int32), .int (2 : Int32)]) (rest := []) ⟨hx, hb, hml, hown, hts⟩ (m_X10_within l D cy ad h_18 g_18 H.size x3 (0 : Int32) (2 : Int32) P_27 HC_27) (va_cwS 3 hts (gd_S (wm2 193 rfl rfl) (wm2 194 rfl rfl) (wm1 1 rfl rfl) (wm2 195 rfl rfl)) rfl rfl rfl (by decide +kernel) ⟨Nat.le_of_ble_eq_true rfl, Nat.le_of_ble_eq_true rfl⟩) hK hNw hG rfl rfl hl.1 rfl (lv_room (Nat.le_of_ble_eq_true rfl)) dX10_sum_27 ⟨Nat.zero_le _, Nat.zero_le _⟩) hG (fun r_27 h_27 g_27 H locs hz hq hG => ?_)
        replace HW := HW r_27 h_27 g_27 hz hq
        refine lv_if_ne (tgt := 36) hx hb dX10_sum_30 (by decide) (fun c_30 => ?_) (fun c_30 => ?_)
        · replace HW := HW.1 c_30
          refine lv_aload_n hx hb dX10_sum_36 rfl (lv_at hl 0 rfl) ?_
          refine g_getr hx hb hw inG10 hown hK hG gl_0 rfl gk_0 (by decide) 6 (by decide) (by rw [gm_0]; decide) (r := 85) gr_0_6 lk49 dX10_sum_37 ?_
          refine lv_iload_n hx hb dX10_sum_40 rfl (lv_at hl 1 rfl) ?_
          refine lv_iconst (v := (-1)) hx hb dX10_sum_41 (by decide) ?_
          refine lv_iconst (v := (-1)) hx hb dX10_sum_42 (by decide) ?_
          obtain ⟨P_43, HC_43, HW⟩ := HW
          refine g_callv (g_runV (As := [.int x1, .int (-1 : Int32), .int (-1 : Int32)]) (rest := []) ⟨hx, hb, hml, hown, hts⟩ (m_X2_take l D cy ad h_27 g_27 H.size x1 (-1 : Int32) (-1 : Int32) P_43 HC_43) (cwV 3 hts (gd_V (wm3 149 rfl rfl) (wm3 150 rfl rfl) (wm3 151 rfl rfl) (wm1 6 rfl rfl) (wm3 152 rfl rfl)) rfl rfl rfl (by decide +kernel) ⟨Nat.le_of_ble_eq_true rfl, Nat.le_of_ble_eq_true rfl⟩) hK hNw hG gl_85 rfl gk_85 (by decide) rfl rfl hl.1 rfl (lv_room (Nat.le_of_ble_eq_true rfl)) dX10_sum_43 ⟨Nat.zero_le _, Nat.zero_le _⟩) hG (fun h_43 g_43 H locs hq hG => ?_)
          replace HW := HW h_43 g_43 hq
          refine lv_iload_n hx hb dX10_sum_46 rfl (lv_at hl 3 rfl) ?_
          refine lv_iconst (v := 2) hx hb dX10_sum_47 (by decide) ?_
          refine lv_icmp_ne (tgt := 68) hx hb dX10_sum_48 (by decide) (fun c_48 => ?_) (fun c_48 => ?_)
          · replace HW := HW.1 c_48
            refine lv_aload_n hx hb dX10_sum_68 rfl (lv_at hl 0 rfl) ?_
            refine g_getr hx hb hw inG10 hown hK hG gl_0 rfl gk_0 (by decide) 6 (by decide) (by rw [gm_0]; decide) (r := 85) gr_0_6 lk49 dX10_sum_69 ?_
            refine g_geti hx hb hw inG2 hown hK hG gl_85 rfl gk_85 (by decide) 7 (by decide) (by rw [gm_85]; decide) gr_85_7 lk167 dX10_sum_72 ?_
            refine lv_if_ne (tgt := 81) hx hb dX10_sum_75 (by decide) (fun c_75 => ?_) (fun c_75 => ?_)
            · replace HW := HW.1 c_75
              refine lv_aload_n hx hb dX10_sum_81 rfl (lv_at hl 0 rfl) ?_
              refine g_getr hx hb hw inG10 hown hK hG gl_0 rfl gk_0 (by decide) 6 (by decide) (by rw [gm_0]; decide) (r := 85) gr_0_6 lk49 dX10_sum_82 ?_
              refine lv_iload_n hx hb dX10_sum_85 rfl (lv_at hl 2 rfl) ?_
              obtain ⟨P_86, HC_86, HW⟩ := HW
              refine g_callv (g_runV (As := [.int x2]) (rest := []) ⟨hx, hb, hml, hown, hts⟩ (m_X2_addUp l D cy ad h_43 g_43 H.size x2 P_86 HC_86) (cwV 1 hts (gd_V (wm3 165 rfl rfl) (wm3 160 rfl rfl) (wm3 161 rfl rfl) (wm1 6 rfl rfl) (wm3 162 rfl rfl)) rfl rfl rfl (by decide +kernel) ⟨Nat.le_of_ble_eq_true rfl, Nat.le_of_ble_eq_true rfl⟩) hK hNw hG gl_85 rfl gk_85 (by decide) rfl rfl hl.1 rfl (lv_room (Nat.le_of_ble_eq_true rfl)) dX10_sum_86 ⟨Nat.zero_le _, Nat.zero_le _⟩) hG (fun h_86 g_86 H locs hq hG => ?_)
              replace HW := HW h_86 g_86 hq
              refine lv_iload_n hx hb dX10_sum_89 rfl (lv_at hl 3 rfl) ?_
              refine lv_if_ne (tgt := 103) hx hb dX10_sum_90 (by decide) (fun c_90 => ?_) (fun c_90 => ?_)
              · replace HW := HW.1 c_90
                refine lv_aload_n hx hb dX10_sum_103 rfl (lv_at hl 0 rfl) ?_
                refine g_getr hx hb hw inG10 hown hK hG gl_0 rfl gk_0 (by decide) 6 (by decide) (by rw [gm_0]; decide) (r := 85) gr_0_6 lk49 dX10_sum_104 ?_
                refine g_geti hx hb hw inG2 hown hK hG gl_85 rfl gk_85 (by decide) 9 (by decide) (by rw [gm_85]; decide) gr_85_9 lk179 dX10_sum_107 ?_
                exact W.iret (v := (h_86 85 9)) hx hb hr (fun t ht hW => ⟨⟨(h_86 85 9), (h_86, g_86), rfl, HW, g_B ht hG⟩, hG.2.2.F ht⟩) hG.2.2.2.2 dX10_sum_110
              · replace HW := HW.2 c_90
                refine lv_aload_n hx hb dX10_sum_93 rfl (lv_at hl 0 rfl) ?_
                refine g_getr hx hb hw inG10 hown hK hG gl_0 rfl gk_0 (by decide) 6 (by decide) (by rw [gm_0]; decide) (r := 85) gr_0_6 lk49 dX10_sum_94 ?_
                refine g_geti hx hb hw inG2 hown hK hG gl_85 rfl gk_85 (by decide) 8 (by decide) (by rw [gm_85]; decide) gr_85_8 lk175 dX10_sum_97 ?_
                refine lv_goto (tgt := 110) hx hb dX10_sum_100 (by decide) ?_
                exact W.iret (v := (h_86 85 8)) hx hb hr (fun t ht hW => ⟨⟨(h_86 85 8), (h_86, g_86), rfl, HW, g_B ht hG⟩, hG.2.2.F ht⟩) hG.2.2.2.2 dX10_sum_110
            · replace HW := HW.2 c_75
              refine lv_ldc (v := (-2000000000)) hx hb hown cn171 dX10_sum_78 ?_
              exact W.iret (v := (-2000000000 : Int32)) hx hb hr (fun t ht hW => ⟨⟨(-2000000000 : Int32), (h_43, g_43), rfl, HW, g_B ht hG⟩, hG.2.2.F ht⟩) hG.2.2.2.2 dX10_sum_80
          · replace HW := HW.2 c_48
            refine lv_aload_n hx hb dX10_sum_51 rfl (lv_at hl 0 rfl) ?_
            refine g_getr hx hb hw inG10 hown hK hG gl_0 rfl gk_0 (by decide) 6 (by decide) (by rw [gm_0]; decide) (r := 85) gr_0_6 lk49 dX10_sum_52 ?_
            refine lv_iload_n hx hb dX10_sum_55 rfl (lv_at hl 2 rfl) ?_
            obtain ⟨P_56, HC_56, HW⟩ := HW
            refine g_callz (g_runV (As := [.int x2]) (rest := []) ⟨hx, hb, hml, hown, hts⟩ (m_X2_holdIn l D cy ad h_43 g_43 H.size x2 P_56 HC_56) (cwV 1 hts (gd_V (wm3 155 rfl rfl) (wm3 156 rfl rfl) (wm3 157 rfl rfl) (wm1 6 rfl rfl) (wm3 158 rfl rfl)) rfl rfl rfl (by decide +kernel) ⟨Nat.le_of_ble_eq_true rfl, Nat.le_of_ble_eq_true rfl⟩) hK hNw hG gl_85 rfl gk_85 (by decide) rfl rfl hl.1 rfl (lv_room (Nat.le_of_ble_eq_true rfl)) dX10_sum_56 ⟨Nat.zero_le _, Nat.zero_le _⟩) hG (fun r_56 h_56 g_56 H locs hz hq hG => ?_)
            replace HW := HW r_56 h_56 g_56 hz hq
            refine lv_if_eq (tgt := 66) hx hb dX10_sum_59 (by decide) (fun c_59 => ?_) (fun c_59 => ?_)
            · replace HW := HW.1 c_59
              refine lv_iconst (v := 0) hx hb dX10_sum_66 (by decide) ?_
              exact W.iret (v := (0 : Int32)) hx hb hr (fun t ht hW => ⟨⟨(0 : Int32), (h_56, g_56), rfl, HW, g_B ht hG⟩, hG.2.2.F ht⟩) hG.2.2.2.2 dX10_sum_67
            · replace HW := HW.2 c_59
              refine lv_iconst (v := 1) hx hb dX10_sum_62 (by decide) ?_
              refine lv_goto (tgt := 67) hx hb dX10_sum_63 (by decide) ?_
              exact W.iret (v := (1 : Int32)) hx hb hr (fun t ht hW => ⟨⟨(1 : Int32), (h_56, g_56), rfl, HW, g_B ht hG⟩, hG.2.2.F ht⟩) hG.2.2.2.2 dX10_sum_67
        · replace HW := HW.2 c_30
          refine lv_ldc (v := (-2100000000)) hx hb hown cn160 dX10_sum_33 ?_
          exact W.iret (v := (-2100000000 : Int32)) hx hb hr (fun t ht hW => ⟨⟨(-2100000000 : Int32), (h_27, g_27), rfl, HW, g_B ht hG⟩, hG.2.2.F ht⟩) hG.2.2.2.2 dX10_sum_35
  exact E0 _ _ _ hG hl
end
section
-- 03.w11
def j_X10_stands_119 (Q : Int32 → HI → HL → Prop) (K49 : Int32 → Int32 → Int32 → Int32 → HI → HL → Prop) (x1 : Int32) (x2 : Int32) (x3 : Int32) (x4 : Int32) (h : HI) (g : HL) : Prop :=
  (∀ x4_119 : Int32, x4_119 = (x4 + 1) → K49 x1 x2 x3 x4_119 h g)
def b_X10_stands_49 (Q : Int32 → HI → HL → Prop) (K49 : Int32 → Int32 → Int32 → Int32 → HI → HL → Prop) (x1 : Int32) (x2 : Int32) (x3 : Int32) (x4 : Int32) (h : HI) (g : HL) : Prop :=
  (∃ P_58 : Int32 → HI → HL → Prop, w_X8_rows 8 h g P_58 ∧ ∀ (r_58 : Int32) (h_58 : HI) (g_58 : HL), P_58 r_58 h_58 g_58 → ((r_58 ≤ x4 → Q (1 : Int32) h_58 g_58) ∧ (¬ r_58 ≤ x4 → (∃ P_71 : Int32 → HI → HL → Prop, w_X6_isIn 1 x4 x2 h_58 g_58 P_71 ∧ ∀ (r_71 : Int32) (h_71 : HI) (g_71 : HL), zb r_71 → P_71 r_71 h_71 g_71 → ((¬ r_71 = 0 → (∃ P_87 : Int32 → HI → HL → Prop, w_X6_isIn 1 x4 x1 h_71 g_71 P_87 ∧ ∀ (r_87 : Int32) (h_87 : HI) (g_87 : HL), zb r_87 → P_87 r_87 h_87 g_87 → ((r_87 = 0 → (∃ P_103 : HI → HL → Prop, w_X2_take x4 x2 x1 h_87 g_87 P_103 ∧ ∀ (h_103 : HI) (g_103 : HL), P_103 h_103 g_103 → (∃ P_111 : Int32 → HI → HL → Prop, w_X2_holdIn x3 h_103 g_103 P_111 ∧ ∀ (r_111 : Int32) (h_111 : HI) (g_111 : HL), zb r_111 → P_111 r_111 h_111 g_111 → ((¬ r_111 = 0 → j_X10_stands_119 Q K49 x1 x2 x3 x4 h_111 g_111) ∧ (r_111 = 0 → Q (0 : Int32) h_111 g_111))))) ∧ (¬ r_87 = 0 → Q (0 : Int32) h_87 g_87)))) ∧ (r_71 = 0 → j_X10_stands_119 Q K49 x1 x2 x3 x4 h_71 g_71))))))
def F_X10_stands_49 (Q : Int32 → HI → HL → Prop) (K : Int32 × Int32 × Int32 × Int32 × HI × HL → Prop) (q : Int32 × Int32 × Int32 × Int32 × HI × HL) : Prop := b_X10_stands_49 Q (fun x1 x2 x3 x4 h g => K (x1, x2, x3, x4, h, g)) q.1 q.2.1 q.2.2.1 q.2.2.2.1 q.2.2.2.2.1 q.2.2.2.2.2
def w_X10_stands (x1 : Int32) (x2 : Int32) (x3 : Int32) (h : HI) (g : HL) (Q : Int32 → HI → HL → Prop) : Prop :=
  (∃ P_8 : Int32 → HI → HL → Prop, w_X8_has 2 x1 h g P_8 ∧ ∀ (r_8 : Int32) (h_8 : HI) (g_8 : HL), zb r_8 → P_8 r_8 h_8 g_8 → ((r_8 = 0 → Q (-2 : Int32) h_8 g_8) ∧ (¬ r_8 = 0 → (∃ P_22 : Int32 → HI → HL → Prop, w_X8_has 2 x2 h_8 g_8 P_22 ∧ ∀ (r_22 : Int32) (h_22 : HI) (g_22 : HL), zb r_22 → P_22 r_22 h_22 g_22 → ((r_22 = 0 → Q (-2 : Int32) h_22 g_22) ∧ (¬ r_22 = 0 → ((x1 = x2 → Q (-2 : Int32) h_22 g_22) ∧ (¬ x1 = x2 → (∃ P_37 : Int32 → HI → HL → Prop, w_X10_within x3 (0 : Int32) (99 : Int32) h_22 g_22 P_37 ∧ ∀ (r_37 : Int32) (h_37 : HI) (g_37 : HL), zb r_37 → P_37 r_37 h_37 g_37 → ((¬ r_37 = 0 → lpE (F_X10_stands_49 Q) (x1, x2, x3, (0 : Int32), h_37, g_37)) ∧ (r_37 = 0 → Q (-2 : Int32) h_37 g_37)))))))))))
set_option maxHeartbeats 8000000 in
set_option maxRecDepth 100000 in
theorem m_X10_stands (l : Launch) (D : va_G) (cy : Nat → ClassId) (ad : Nat → Nat) (h : HI) (g : HL) (sz : Nat) (x1 : Int32) (x2 : Int32) (x3 : Int32) (Q : Int32 → HI → HL → Prop) (HW : w_X10_stands x1 x2 x3 h g Q) : Met l yX10_stands (wa yX10_stands cX10_stands 5 (some .int)) ({ frames := 6, cells := 0, slots := 0, locals := 150 }) (va_Pc [.ref (ad 0), .int x1, .int x2, .int x3] (gI D cy ad h g sz)) (va_Qi (fun (r : Int32) (u : HI × HL) => Q r u.1 u.2) (gB D cy ad sz) (gA ad sz)) 0 0 (gA ad sz) := by
  refine Met.ofW (cc := cX10_stands) (maxL := 5) (ret := (some .int)) (by decide) rfl ?_
  intro p e s m args below meth c s₁ B hml hv
  obtain ⟨hav, hsz, hP, hK, hD0, hNw⟩ := hv
  have hx := B.exec
  have hb := B.bytes
  have hr := B.returns
  have hts := atoms_spec (ws := (wa yX10_stands cX10_stands 5 (some .int))) B.pre
  have hw := wa_hw hts
  have hown : s.vm.findClass RX10 = some m.cls := findClass_of_methodNamed B.named
  have hlocks := B.notSynchronized
  subst hsz
  have hG : gG D cy ad (gA ad s.heap.size) s.heap h g s.heap [] := ⟨hP, gA_self hD0, va_S.rf⟩
  clear hP hD0
  have lk10 := hw (.fieldLink RX10 10 "OldWorks" "shop" "LOldWorks$Shop;") (wm2 155 rfl rfl)
  have lk85 := hw (.fieldLink RX10 85 "OldWorks$Shop" "parts" "LOldWorks$Table;") (wm1 62 rfl rfl)
  have lk153 := hw (.fieldLink RX10 153 "OldWorks$Shop" "chains" "LOldWorks$Table;") (wm1 73 rfl rfl)
  have lk49 := hw (.fieldLink RX10 49 "OldWorks" "fits" "LOldWorks$Fits;") (wm2 161 rfl rfl)
  rw [show (headSpec (wa yX10_stands cX10_stands 5 (some .int)) ({ frames := 6, cells := 0, slots := 0, locals := 150 } : Room)).room = ({ frames := 6, cells := 0, slots := 0, locals := 150 } : Room) from rfl]
  have hl := lv_entry ([.ref (ad 0), .int x1, .int x2, .int x3]) (n := 5) (Nat.le_of_ble_eq_true rfl)
  rw [show entryFrame m args 5 = entryFrame m ([.ref (ad 0), .int x1, .int x2, .int x3] : List Value).toArray 5 from by rw [hav], lg_entry_eq]
  generalize (lg_sl ([.ref (ad 0), .int x1, .int x2, .int x3]) ++ List.replicate (5 - (lg_sl ([.ref (ad 0), .int x1, .int x2, .int x3])).length) Slot.unset).toArray = ls at hl ⊢
  have hl : lv_has ls 5 [(0, .ref (ad 0)), (1, .int x1), (2, .int x2), (3, .int x3)] := hl
  have B119 : ∀ (K49 : Int32 → Int32 → Int32 → Int32 → HI → HL → Prop) (hK49 : ∀ (x1 : Int32) (x2 : Int32) (x3 : Int32) (x4 : Int32) (h : HI) (g : HL) (H : Heap) (locs : List Loc) (ls : Array Slot), K49 x1 x2 x3 x4 h g → gG D cy ad (gA ad s.heap.size) s.heap h g H locs → lv_has ls 5 [(0, .ref (ad 0)), (1, .int x1), (2, .int x2), (3, .int x3), (4, .int x4)] → W p l e ({ frames := 6, cells := 0, slots := 0, locals := 150 } : Room) s m args below meth c H locs 0 0 (MQ below (va_Qi (fun (r : Int32) (u : HI × HL) => Q r u.1 u.2) (gB D cy ad s.heap.size) (gA ad s.heap.size)) args s 0 0 (gA ad s.heap.size)) (F0 m 49 ls [])) (x1 : Int32) (x2 : Int32) (x3 : Int32) (x4 : Int32) (h : HI) (g : HL) (H : Heap) (locs : List Loc) (ls : Array Slot), j_X10_stands_119 Q K49 x1 x2 x3 x4 h g → gG D cy ad (gA ad s.heap.size) s.heap h g H locs → lv_has ls 5 [(0, .ref (ad 0)), (1, .int x1), (2, .int x2), (3, .int x3), (4, .int x4)] → W p l e ({ frames := 6, cells := 0, slots := 0, locals := 150 } : Room) s m args below meth c H locs 0 0 (MQ below (va_Qi (fun (r : Int32) (u : HI × HL) => Q r u.1 u.2) (gB D cy ad s.heap.size) (gA ad s.heap.size)) args s 0 0 (gA ad s.heap.size)) (F0 m 119 ls []) := by
    intro K49 hK49 x1 x2 x3 x4 h g H locs ls HW hG hl
    unfold j_X10_stands_119 at HW
    obtain ⟨x4_119, ex4_119⟩ : ∃ y : Int32, y = (x4 + 1) := ⟨_, rfl⟩
    replace HW := HW x4_119 ex4_119
    refine lv_iinc (v := x4_119) (lv' := [(4, .int x4_119), (0, .ref (ad 0)), (1, .int x1), (2, .int x2), (3, .int x3)]) hx hb dX10_stands_119 hl (k := 4) rfl (by rw [ex4_119]; rfl) (by decide) rfl (fun ls hl => ?_)
    refine lv_goto (tgt := 49) hx hb dX10_stands_122 (by decide) ?_
    exact hK49 x1 x2 x3 x4_119 h g _ _ _ HW hG (lv_sub hl [1, 2, 3, 4, 0] rfl)
  have L49 : ∀ (n : Nat) (x1 : Int32) (x2 : Int32) (x3 : Int32) (x4 : Int32) (h : HI) (g : HL) (H : Heap) (locs : List Loc) (ls : Array Slot), lpN (F_X10_stands_49 Q) n (x1, x2, x3, x4, h, g) → gG D cy ad (gA ad s.heap.size) s.heap h g H locs → lv_has ls 5 [(0, .ref (ad 0)), (1, .int x1), (2, .int x2), (3, .int x3), (4, .int x4)] → W p l e ({ frames := 6, cells := 0, slots := 0, locals := 150 } : Room) s m args below meth c H locs 0 0 (MQ below (va_Qi (fun (r : Int32) (u : HI × HL) => Q r u.1 u.2) (gB D cy ad s.heap.size) (gA ad s.heap.size)) args s 0 0 (gA ad s.heap.size)) (F0 m 49 ls []) := by
    intro n
    induction n with
    | zero => intro x1 x2 x3 x4 h g H locs ls HW; exact HW.elim
    | succ n ih =>
      intro x1 x2 x3 x4 h g H locs ls HW hG hl
      have HW : b_X10_stands_49 Q (fun x1 x2 x3 x4 h g => lpN (F_X10_stands_49 Q) n (x1, x2, x3, x4, h, g)) x1 x2 x3 x4 h g := HW
      generalize hKe : (fun (x1 : Int32) (x2 : Int32) (x3 : Int32) (x4 : Int32) (h : HI) (g : HL) => lpN (F_X10_stands_49 Q) n (x1, x2, x3, x4, h, g)) = K49 at HW
      have hK49 : ∀ (x1 : Int32) (x2 : Int32) (x3 : Int32) (x4 : Int32) (h : HI) (g : HL) (H : Heap) (locs : List Loc) (ls : Array Slot), K49 x1 x2 x3 x4 h g → gG D cy ad (gA ad s.heap.size) s.heap h g H locs → lv_has ls 5 [(0, .ref (ad 0)), (1, .int x1), (2, .int x2), (3, .int x3), (4, .int x4)] → W p l e ({ frames := 6, cells := 0, slots := 0, locals := 150 } : Room) s m args below meth c H locs 0 0 (MQ below (va_Qi (fun (r : Int32) (u : HI × HL) => Q r u.1 u.2) (gB D cy ad s.heap.size) (gA ad s.heap.size)) args s 0 0 (gA ad s.heap.size)) (F0 m 49 ls []) := by subst hKe; exact ih
      clear ih
      clear hKe
      unfold b_X10_stands_49 at HW
      refine lv_iload hx hb dX10_stands_49 (lv_at hl 4 rfl) ?_
      refine lv_aload_n hx hb dX10_stands_51 rfl (lv_at hl 0 rfl) ?_
      refine g_getr hx hb hw inG10 hown hK hG gl_0 rfl gk_0 (by decide) 0 (by decide) (by rw [gm_0]; decide) (r := 1) gr_0_0 lk10 dX10_stands_52 ?_
      refine g_getr hx hb hw inG6 hown hK hG gl_1 rfl gk_1 (by decide) 3 (by decide) (by rw [gm_1]; decide) (r := 8) gr_1_3 lk153 dX10_stands_55 ?_
      obtain ⟨P_58, HC_58, HW⟩ := HW
      refine g_calli (g_runV (As := []) (rest := [.int x4]) ⟨hx, hb, hml, hown, hts⟩ (m_X8_rows l D cy ad h g H.size 8 (gs_8) P_58 HC_58) (cwV 0 hts (gd_V (wm3 19 rfl rfl) (wm2 217 rfl rfl) (wm2 218 rfl rfl) (wm1 3 rfl rfl) (wm2 219 rfl rfl)) rfl rfl rfl (by decide +kernel) ⟨Nat.le_of_ble_eq_true rfl, Nat.le_of_ble_eq_true rfl⟩) hK hNw hG gl_8 rfl gk_8 (by decide) rfl rfl hl.1 rfl (lv_room (Nat.le_of_ble_eq_true rfl)) dX10_stands_58 ⟨Nat.zero_le _, Nat.zero_le _⟩) hG (fun r_58 h_58 g_58 H locs hq hG => ?_)
      replace HW := HW r_58 h_58 g_58 hq
      refine lv_icmp_ge (tgt := 125) hx hb dX10_stands_61 (by decide) (fun c_61 => ?_) (fun c_61 => ?_)
      · replace HW := HW.1 c_61
        refine lv_iconst (v := 1) hx hb dX10_stands_125 (by decide) ?_
        exact W.iret (v := (1 : Int32)) hx hb hr (fun t ht hW => ⟨⟨(1 : Int32), (h_58, g_58), rfl, HW, g_B ht hG⟩, hG.2.2.F ht⟩) hG.2.2.2.2 dX10_stands_126
      · replace HW := HW.2 c_61
        refine lv_aload_n hx hb dX10_stands_64 rfl (lv_at hl 0 rfl) ?_
        refine g_getr hx hb hw inG10 hown hK hG gl_0 rfl gk_0 (by decide) 0 (by decide) (by rw [gm_0]; decide) (r := 1) gr_0_0 lk10 dX10_stands_65 ?_
        refine lv_iload hx hb dX10_stands_68 (lv_at hl 4 rfl) ?_
        refine lv_iload_n hx hb dX10_stands_70 rfl (lv_at hl 2 rfl) ?_
        obtain ⟨P_71, HC_71, HW⟩ := HW
        refine g_callz (g_runV (As := [.int x4, .int x2]) (rest := []) ⟨hx, hb, hml, hown, hts⟩ (m_X6_isIn l D cy ad h_58 g_58 H.size 1 (gs_1) x4 x2 P_71 HC_71) (cwV 2 hts (gd_V (wm3 139 rfl rfl) (wm3 140 rfl rfl) (wm3 141 rfl rfl) (wm1 2 rfl rfl) (wm3 142 rfl rfl)) rfl rfl rfl (by decide +kernel) ⟨Nat.le_of_ble_eq_true rfl, Nat.le_of_ble_eq_true rfl⟩) hK hNw hG gl_1 rfl gk_1 (by decide) rfl rfl hl.1 rfl (lv_room (Nat.le_of_ble_eq_true rfl)) dX10_stands_71 ⟨Nat.zero_le _, Nat.zero_le _⟩) hG (fun r_71 h_71 g_71 H locs hz hq hG => ?_)
        replace HW := HW r_71 h_71 g_71 hz hq
        refine lv_if_ne (tgt := 80) hx hb dX10_stands_74 (by decide) (fun c_74 => ?_) (fun c_74 => ?_)
        · replace HW := HW.1 c_74
          refine lv_aload_n hx hb dX10_stands_80 rfl (lv_at hl 0 rfl) ?_
          refine g_getr hx hb hw inG10 hown hK hG gl_0 rfl gk_0 (by decide) 0 (by decide) (by rw [gm_0]; decide) (r := 1) gr_0_0 lk10 dX10_stands_81 ?_
          refine lv_iload hx hb dX10_stands_84 (lv_at hl 4 rfl) ?_
          refine lv_iload_n hx hb dX10_stands_86 rfl (lv_at hl 1 rfl) ?_
          obtain ⟨P_87, HC_87, HW⟩ := HW
          refine g_callz (g_runV (As := [.int x4, .int x1]) (rest := []) ⟨hx, hb, hml, hown, hts⟩ (m_X6_isIn l D cy ad h_71 g_71 H.size 1 (gs_1) x4 x1 P_87 HC_87) (cwV 2 hts (gd_V (wm3 139 rfl rfl) (wm3 140 rfl rfl) (wm3 141 rfl rfl) (wm1 2 rfl rfl) (wm3 142 rfl rfl)) rfl rfl rfl (by decide +kernel) ⟨Nat.le_of_ble_eq_true rfl, Nat.le_of_ble_eq_true rfl⟩) hK hNw hG gl_1 rfl gk_1 (by decide) rfl rfl hl.1 rfl (lv_room (Nat.le_of_ble_eq_true rfl)) dX10_stands_87 ⟨Nat.zero_le _, Nat.zero_le _⟩) hG (fun r_87 h_87 g_87 H locs hz hq hG => ?_)
          replace HW := HW r_87 h_87 g_87 hz hq
          refine lv_if_eq (tgt := 95) hx hb dX10_stands_90 (by decide) (fun c_90 => ?_) (fun c_90 => ?_)
          · replace HW := HW.1 c_90
            refine lv_aload_n hx hb dX10_stands_95 rfl (lv_at hl 0 rfl) ?_
            refine g_getr hx hb hw inG10 hown hK hG gl_0 rfl gk_0 (by decide) 6 (by decide) (by rw [gm_0]; decide) (r := 85) gr_0_6 lk49 dX10_stands_96 ?_
            refine lv_iload hx hb dX10_stands_99 (lv_at hl 4 rfl) ?_
            refine lv_iload_n hx hb dX10_stands_101 rfl (lv_at hl 2 rfl) ?_
            refine lv_iload_n hx hb dX10_stands_102 rfl (lv_at hl 1 rfl) ?_
            obtain ⟨P_103, HC_103, HW⟩ := HW
            refine g_callv (g_runV (As := [.int x4, .int x2, .int x1]) (rest := []) ⟨hx, hb, hml, hown, hts⟩ (m_X2_take l D cy ad h_87 g_87 H.size x4 x2 x1 P_103 HC_103) (cwV 3 hts (gd_V (wm3 149 rfl rfl) (wm3 150 rfl rfl) (wm3 151 rfl rfl) (wm1 6 rfl rfl) (wm3 152 rfl rfl)) rfl rfl rfl (by decide +kernel) ⟨Nat.le_of_ble_eq_true rfl, Nat.le_of_ble_eq_true rfl⟩) hK hNw hG gl_85 rfl gk_85 (by decide) rfl rfl hl.1 rfl (lv_room (Nat.le_of_ble_eq_true rfl)) dX10_stands_103 ⟨Nat.zero_le _, Nat.zero_le _⟩) hG (fun h_103 g_103 H locs hq hG => ?_)
            replace HW := HW h_103 g_103 hq
            refine lv_aload_n hx hb dX10_stands_106 rfl (lv_at hl 0 rfl) ?_
            refine g_getr hx hb hw inG10 hown hK hG gl_0 rfl gk_0 (by decide) 6 (by decide) (by rw [gm_0]; decide) (r := 85) gr_0_6 lk49 dX10_stands_107 ?_
            refine lv_iload_n hx hb dX10_stands_110 rfl (lv_at hl 3 rfl) ?_
            obtain ⟨P_111, HC_111, HW⟩ := HW
            refine g_callz (g_runV (As := [.int x3]) (rest := []) ⟨hx, hb, hml, hown, hts⟩ (m_X2_holdIn l D cy ad h_103 g_103 H.size x3 P_111 HC_111) (cwV 1 hts (gd_V (wm3 155 rfl rfl) (wm3 156 rfl rfl) (wm3 157 rfl rfl) (wm1 6 rfl rfl) (wm3 158 rfl rfl)) rfl rfl rfl (by decide +kernel) ⟨Nat.le_of_ble_eq_true rfl, Nat.le_of_ble_eq_true rfl⟩) hK hNw hG gl_85 rfl gk_85 (by decide) rfl rfl hl.1 rfl (lv_room (Nat.le_of_ble_eq_true rfl)) dX10_stands_111 ⟨Nat.zero_le _, Nat.zero_le _⟩) hG (fun r_111 h_111 g_111 H locs hz hq hG => ?_)
            replace HW := HW r_111 h_111 g_111 hz hq
            refine lv_if_ne (tgt := 119) hx hb dX10_stands_114 (by decide) (fun c_114 => ?_) (fun c_114 => ?_)
            · replace HW := HW.1 c_114
              exact B119 K49 hK49 x1 x2 x3 x4 h_111 g_111 _ _ _ HW hG (lv_sub hl [0, 1, 2, 3, 4] rfl)
            · replace HW := HW.2 c_114
              refine lv_iconst (v := 0) hx hb dX10_stands_117 (by decide) ?_
              exact W.iret (v := (0 : Int32)) hx hb hr (fun t ht hW => ⟨⟨(0 : Int32), (h_111, g_111), rfl, HW, g_B ht hG⟩, hG.2.2.F ht⟩) hG.2.2.2.2 dX10_stands_118
          · replace HW := HW.2 c_90
            refine lv_iconst (v := 0) hx hb dX10_stands_93 (by decide) ?_
            exact W.iret (v := (0 : Int32)) hx hb hr (fun t ht hW => ⟨⟨(0 : Int32), (h_87, g_87), rfl, HW, g_B ht hG⟩, hG.2.2.F ht⟩) hG.2.2.2.2 dX10_stands_94
        · replace HW := HW.2 c_74
          refine lv_goto (tgt := 119) hx hb dX10_stands_77 (by decide) ?_
          exact B119 K49 hK49 x1 x2 x3 x4 h_71 g_71 _ _ _ HW hG (lv_sub hl [0, 1, 2, 3, 4] rfl)
  have E0 : ∀ (H : Heap) (locs : List Loc) (ls : Array Slot), gG D cy ad (gA ad s.heap.size) s.heap h g H locs → lv_has ls 5 [(0, .ref (ad 0)), (1, .int x1), (2, .int x2), (3, .int x3)] → W p l e ({ frames := 6, cells := 0, slots := 0, locals := 150 } : Room) s m args below meth c H locs 0 0 (MQ below (va_Qi (fun (r : Int32) (u : HI × HL) => Q r u.1 u.2) (gB D cy ad s.heap.size) (gA ad s.heap.size)) args s 0 0 (gA ad s.heap.size)) (F0 m 0 ls []) := by
    intro H locs ls hG hl
    unfold w_X10_stands at HW
    refine lv_aload_n hx hb dX10_stands_0 rfl (lv_at hl 0 rfl) ?_
    refine g_getr hx hb hw inG10 hown hK hG gl_0 rfl gk_0 (by decide) 0 (by decide) (by rw [gm_0]; decide) (r := 1) gr_0_0 lk10 dX10_stands_1 ?_
    refine g_getr hx hb hw inG6 hown hK hG gl_1 rfl gk_1 (by decide) 0 (by decide) (by rw [gm_1]; decide) (r := 2) gr_1_0 lk85 dX10_stands_4 ?_
    refine lv_iload_n hx hb dX10_stands_7 rfl (lv_at hl 1 rfl) ?_
    obtain ⟨P_8, HC_8, HW⟩ := HW
    refine g_callz (g_runV (As := [.int x1]) (rest := []) ⟨hx, hb, hml, hown, hts⟩ (m_X8_has l D cy ad h g H.size 2 (gs_2) x1 P_8 HC_8) (cwV 1 hts (gd_V (wm2 201 rfl rfl) (wm2 202 rfl rfl) (wm2 203 rfl rfl) (wm1 3 rfl rfl) (wm2 204 rfl rfl)) rfl rfl rfl (by decide +kernel) ⟨Nat.le_of_ble_eq_true rfl, Nat.le_of_ble_eq_true rfl⟩) hK hNw hG gl_2 rfl gk_2 (by decide) rfl rfl hl.1 rfl (lv_room (Nat.le_of_ble_eq_true rfl)) dX10_stands_8 ⟨Nat.zero_le _, Nat.zero_le _⟩) hG (fun r_8 h_8 g_8 H locs hz hq hG => ?_)
    replace HW := HW r_8 h_8 g_8 hz hq
    refine lv_if_eq (tgt := 43) hx hb dX10_stands_11 (by decide) (fun c_11 => ?_) (fun c_11 => ?_)
    · replace HW := HW.1 c_11
      refine lv_bipush (v := (-2)) hx hb dX10_stands_43 (by decide) ?_
      exact W.iret (v := (-2 : Int32)) hx hb hr (fun t ht hW => ⟨⟨(-2 : Int32), (h_8, g_8), rfl, HW, g_B ht hG⟩, hG.2.2.F ht⟩) hG.2.2.2.2 dX10_stands_45
    · replace HW := HW.2 c_11
      refine lv_aload_n hx hb dX10_stands_14 rfl (lv_at hl 0 rfl) ?_
      refine g_getr hx hb hw inG10 hown hK hG gl_0 rfl gk_0 (by decide) 0 (by decide) (by rw [gm_0]; decide) (r := 1) gr_0_0 lk10 dX10_stands_15 ?_
      refine g_getr hx hb hw inG6 hown hK hG gl_1 rfl gk_1 (by decide) 0 (by decide) (by rw [gm_1]; decide) (r := 2) gr_1_0 lk85 dX10_stands_18 ?_
      refine lv_iload_n hx hb dX10_stands_21 rfl (lv_at hl 2 rfl) ?_
      obtain ⟨P_22, HC_22, HW⟩ := HW
      refine g_callz (g_runV (As := [.int x2]) (rest := []) ⟨hx, hb, hml, hown, hts⟩ (m_X8_has l D cy ad h_8 g_8 H.size 2 (gs_2) x2 P_22 HC_22) (cwV 1 hts (gd_V (wm2 201 rfl rfl) (wm2 202 rfl rfl) (wm2 203 rfl rfl) (wm1 3 rfl rfl) (wm2 204 rfl rfl)) rfl rfl rfl (by decide +kernel) ⟨Nat.le_of_ble_eq_true rfl, Nat.le_of_ble_eq_true rfl⟩) hK hNw hG gl_2 rfl gk_2 (by decide) rfl rfl hl.1 rfl (lv_room (Nat.le_of_ble_eq_true rfl)) dX10_stands_22 ⟨Nat.zero_le _, Nat.zero_le _⟩) hG (fun r_22 h_22 g_22 H locs hz hq hG => ?_)
      replace HW := HW r_22 h_22 g_22 hz hq
      refine lv_if_eq (tgt := 43) hx hb dX10_stands_25 (by decide) (fun c_25 => ?_) (fun c_25 => ?_)
      · replace HW := HW.1 c_25
        refine lv_bipush (v := (-2)) hx hb dX10_stands_43 (by decide) ?_
        exact W.iret (v := (-2 : Int32)) hx hb hr (fun t ht hW => ⟨⟨(-2 : Int32), (h_22, g_22), rfl, HW, g_B ht hG⟩, hG.2.2.F ht⟩) hG.2.2.2.2 dX10_stands_45
      · replace HW := HW.2 c_25
        refine lv_iload_n hx hb dX10_stands_28 rfl (lv_at hl 1 rfl) ?_
        refine lv_iload_n hx hb dX10_stands_29 rfl (lv_at hl 2 rfl) ?_
        refine lv_icmp_eq (tgt := 43) hx hb dX10_stands_30 (by decide) (fun c_30 => ?_) (fun c_30 => ?_)
        · replace HW := HW.1 c_30
          refine lv_bipush (v := (-2)) hx hb dX10_stands_43 (by decide) ?_
          exact W.iret (v := (-2 : Int32)) hx hb hr (fun t ht hW => ⟨⟨(-2 : Int32), (h_22, g_22), rfl, HW, g_B ht hG⟩, hG.2.2.F ht⟩) hG.2.2.2.2 dX10_stands_45
        · replace HW := HW.2 c_30
          refine lv_iload_n hx hb dX10_stands_33 rfl (lv_at hl 3 rfl) ?_
          refine lv_iconst (v := 0) hx hb dX10_stands_34 (by decide) ?_
          refine lv_bipush (v := 99) hx hb dX10_stands_35 (by decide) ?_
          obtain ⟨P_37, HC_37, HW⟩ := HW
          refine g_callz (g_runS (As := [.int x3, .int (0 : Int32), .int (99 : Int32)]) (rest := []) ⟨hx, hb, hml, hown, hts⟩ (m_X10_within l D cy ad h_22 g_22 H.size x3 (0 : Int32) (99 : Int32) P_37 HC_37) (va_cwS 3 hts (gd_S (wm2 193 rfl rfl) (wm2 194 rfl rfl) (wm1 1 rfl rfl) (wm2 195 rfl rfl)) rfl rfl rfl (by decide +kernel) ⟨Nat.le_of_ble_eq_true rfl, Nat.le_of_ble_eq_true rfl⟩) hK hNw hG rfl rfl hl.1 rfl (lv_room (Nat.le_of_ble_eq_true rfl)) dX10_stands_37 ⟨Nat.zero_le _, Nat.zero_le _⟩) hG (fun r_37 h_37 g_37 H locs hz hq hG => ?_)
          replace HW := HW r_37 h_37 g_37 hz hq
          refine lv_if_ne (tgt := 46) hx hb dX10_stands_40 (by decide) (fun c_40 => ?_) (fun c_40 => ?_)
          · replace HW := HW.1 c_40
            refine lv_iconst (v := 0) hx hb dX10_stands_46 (by decide) ?_
            refine lv_istore (lv' := [(4, .int (0 : Int32)), (0, .ref (ad 0)), (1, .int x1), (2, .int x2), (3, .int x3)]) hx hb dX10_stands_47 hl (by decide) rfl (fun ls hl => ?_)
            obtain ⟨n_49, HW⟩ := HW
            exact L49 n_49 x1 x2 x3 (0 : Int32) h_37 g_37 _ _ _ HW hG (lv_sub hl [1, 2, 3, 4, 0] rfl)
          · replace HW := HW.2 c_40
            refine lv_bipush (v := (-2)) hx hb dX10_stands_43 (by decide) ?_
            exact W.iret (v := (-2 : Int32)) hx hb hr (fun t ht hW => ⟨⟨(-2 : Int32), (h_37, g_37), rfl, HW, g_B ht hG⟩, hG.2.2.F ht⟩) hG.2.2.2.2 dX10_stands_45
  exact E0 _ _ _ hG hl

def b_X10_life_42 (Q : Int32 → HI → HL → Prop) (K42 : Int32 → Int32 → HI → HL → Prop) (x3 : Int32) (x4 : Int32) (h : HI) (g : HL) : Prop :=
  (((99 : Int32) < x4 → Q x3 h g) ∧ (¬ (99 : Int32) < x4 → (∃ P_55 : Int32 → HI → HL → Prop, w_X2_holdIn x4 h g P_55 ∧ ∀ (r_55 : Int32) (h_55 : HI) (g_55 : HL), zb r_55 → P_55 r_55 h_55 g_55 → ((r_55 = 0 → Q x3 h_55 g_55) ∧ (¬ r_55 = 0 → (∀ x3_61 : Int32, x3_61 = (x3 + 1) → (∀ x4_64 : Int32, x4_64 = (x4 + 1) → K42 x3_61 x4_64 h_55 g_55)))))))
def F_X10_life_42 (Q : Int32 → HI → HL → Prop) (K : Int32 × Int32 × HI × HL → Prop) (q : Int32 × Int32 × HI × HL) : Prop := b_X10_life_42 Q (fun x3 x4 h g => K (x3, x4, h, g)) q.1 q.2.1 q.2.2.1 q.2.2.2
def w_X10_life (x1 : Int32) (x2 : Int32) (h : HI) (g : HL) (Q : Int32 → HI → HL → Prop) : Prop :=
  (∃ P_8 : Int32 → HI → HL → Prop, w_X8_has 8 x1 h g P_8 ∧ ∀ (r_8 : Int32) (h_8 : HI) (g_8 : HL), zb r_8 → P_8 r_8 h_8 g_8 → ((r_8 = 0 → Q (-2 : Int32) h_8 g_8) ∧ (¬ r_8 = 0 → (∃ P_18 : Int32 → HI → HL → Prop, w_X10_within x2 (0 : Int32) (99 : Int32) h_8 g_8 P_18 ∧ ∀ (r_18 : Int32) (h_18 : HI) (g_18 : HL), zb r_18 → P_18 r_18 h_18 g_18 → ((¬ r_18 = 0 → (∃ P_34 : HI → HL → Prop, w_X2_take x1 (-1 : Int32) (-1 : Int32) h_18 g_18 P_34 ∧ ∀ (h_34 : HI) (g_34 : HL), P_34 h_34 g_34 → lpE (F_X10_life_42 Q) ((0 : Int32), x2, h_34, g_34))) ∧ (r_18 = 0 → Q (-2 : Int32) h_18 g_18))))))
set_option maxHeartbeats 8000000 in
set_option maxRecDepth 100000 in
theorem m_X10_life (l : Launch) (D : va_G) (cy : Nat → ClassId) (ad : Nat → Nat) (h : HI) (g : HL) (sz : Nat) (x1 : Int32) (x2 : Int32) (Q : Int32 → HI → HL → Prop) (HW : w_X10_life x1 x2 h g Q) : Met l yX10_life (wa yX10_life cX10_life 5 (some .int)) ({ frames := 6, cells := 0, slots := 0, locals := 150 }) (va_Pc [.ref (ad 0), .int x1, .int x2] (gI D cy ad h g sz)) (va_Qi (fun (r : Int32) (u : HI × HL) => Q r u.1 u.2) (gB D cy ad sz) (gA ad sz)) 0 0 (gA ad sz) := by
  refine Met.ofW (cc := cX10_life) (maxL := 5) (ret := (some .int)) (by decide) rfl ?_
  intro p e s m args below meth c s₁ B hml hv
  obtain ⟨hav, hsz, hP, hK, hD0, hNw⟩ := hv
  have hx := B.exec
  have hb := B.bytes
  have hr := B.returns
  have hts := atoms_spec (ws := (wa yX10_life cX10_life 5 (some .int))) B.pre
  have hw := wa_hw hts
  have hown : s.vm.findClass RX10 = some m.cls := findClass_of_methodNamed B.named
  have hlocks := B.notSynchronized
  subst hsz
  have hG : gG D cy ad (gA ad s.heap.size) s.heap h g s.heap [] := ⟨hP, gA_self hD0, va_S.rf⟩
  clear hP hD0
  have lk10 := hw (.fieldLink RX10 10 "OldWorks" "shop" "LOldWorks$Shop;") (wm2 155 rfl rfl)
  have lk153 := hw (.fieldLink RX10 153 "OldWorks$Shop" "chains" "LOldWorks$Table;") (wm1 73 rfl rfl)
  have lk49 := hw (.fieldLink RX10 49 "OldWorks" "fits" "LOldWorks$Fits;") (wm2 161 rfl rfl)
  rw [show (headSpec (wa yX10_life cX10_life 5 (some .int)) ({ frames := 6, cells := 0, slots := 0, locals := 150 } : Room)).room = ({ frames := 6, cells := 0, slots := 0, locals := 150 } : Room) from rfl]
  have hl := lv_entry ([.ref (ad 0), .int x1, .int x2]) (n := 5) (Nat.le_of_ble_eq_true rfl)
  rw [show entryFrame m args 5 = entryFrame m ([.ref (ad 0), .int x1, .int x2] : List Value).toArray 5 from by rw [hav], lg_entry_eq]
  generalize (lg_sl ([.ref (ad 0), .int x1, .int x2]) ++ List.replicate (5 - (lg_sl ([.ref (ad 0), .int x1, .int x2])).length) Slot.unset).toArray = ls at hl ⊢
  have hl : lv_has ls 5 [(0, .ref (ad 0)), (1, .int x1), (2, .int x2)] := hl
  have L42 : ∀ (n : Nat) (x3 : Int32) (x4 : Int32) (h : HI) (g : HL) (H : Heap) (locs : List Loc) (ls : Array Slot), lpN (F_X10_life_42 Q) n (x3, x4, h, g) → gG D cy ad (gA ad s.heap.size) s.heap h g H locs → lv_has ls 5 [(0, .ref (ad 0)), (3, .int x3), (4, .int x4)] → W p l e ({ frames := 6, cells := 0, slots := 0, locals := 150 } : Room) s m args below meth c H locs 0 0 (MQ below (va_Qi (fun (r : Int32) (u : HI × HL) => Q r u.1 u.2) (gB D cy ad s.heap.size) (gA ad s.heap.size)) args s 0 0 (gA ad s.heap.size)) (F0 m 42 ls []) := by
    intro n
    induction n with
    | zero => intro x3 x4 h g H locs ls HW; exact HW.elim
    | succ n ih =>
      intro x3 x4 h g H locs ls HW hG hl
      have HW : b_X10_life_42 Q (fun x3 x4 h g => lpN (F_X10_life_42 Q) n (x3, x4, h, g)) x3 x4 h g := HW
      generalize hKe : (fun (x3 : Int32) (x4 : Int32) (h : HI) (g : HL) => lpN (F_X10_life_42 Q) n (x3, x4, h, g)) = K42 at HW
      have hK42 : ∀ (x3 : Int32) (x4 : Int32) (h : HI) (g : HL) (H : Heap) (locs : List Loc) (ls : Array Slot), K42 x3 x4 h g → gG D cy ad (gA ad s.heap.size) s.heap h g H locs → lv_has ls 5 [(0, .ref (ad 0)), (3, .int x3), (4, .int x4)] → W p l e ({ frames := 6, cells := 0, slots := 0, locals := 150 } : Room) s m args below meth c H locs 0 0 (MQ below (va_Qi (fun (r : Int32) (u : HI × HL) => Q r u.1 u.2) (gB D cy ad s.heap.size) (gA ad s.heap.size)) args s 0 0 (gA ad s.heap.size)) (F0 m 42 ls []) := by subst hKe; exact ih
      clear ih
      clear hKe
      unfold b_X10_life_42 at HW
      refine lv_iload hx hb dX10_life_42 (lv_at hl 2 rfl) ?_
      refine lv_bipush (v := 99) hx hb dX10_life_44 (by decide) ?_
      refine lv_icmp_gt (tgt := 70) hx hb dX10_life_46 (by decide) (fun c_46 => ?_) (fun c_46 => ?_)
      · replace HW := HW.1 c_46
        refine lv_iload_n hx hb dX10_life_70 rfl (lv_at hl 1 rfl) ?_
        exact W.iret (v := x3) hx hb hr (fun t ht hW => ⟨⟨x3, (h, g), rfl, HW, g_B ht hG⟩, hG.2.2.F ht⟩) hG.2.2.2.2 dX10_life_71
      · replace HW := HW.2 c_46
        refine lv_aload_n hx hb dX10_life_49 rfl (lv_at hl 0 rfl) ?_
        refine g_getr hx hb hw inG10 hown hK hG gl_0 rfl gk_0 (by decide) 6 (by decide) (by rw [gm_0]; decide) (r := 85) gr_0_6 lk49 dX10_life_50 ?_
        refine lv_iload hx hb dX10_life_53 (lv_at hl 2 rfl) ?_
        obtain ⟨P_55, HC_55, HW⟩ := HW
        refine g_callz (g_runV (As := [.int x4]) (rest := []) ⟨hx, hb, hml, hown, hts⟩ (m_X2_holdIn l D cy ad h g H.size x4 P_55 HC_55) (cwV 1 hts (gd_V (wm3 155 rfl rfl) (wm3 156 rfl rfl) (wm3 157 rfl rfl) (wm1 6 rfl rfl) (wm3 158 rfl rfl)) rfl rfl rfl (by decide +kernel) ⟨Nat.le_of_ble_eq_true rfl, Nat.le_of_ble_eq_true rfl⟩) hK hNw hG gl_85 rfl gk_85 (by decide) rfl rfl hl.1 rfl (lv_room (Nat.le_of_ble_eq_true rfl)) dX10_life_55 ⟨Nat.zero_le _, Nat.zero_le _⟩) hG (fun r_55 h_55 g_55 H locs hz hq hG => ?_)
        replace HW := HW r_55 h_55 g_55 hz hq
        refine lv_if_eq (tgt := 70) hx hb dX10_life_58 (by decide) (fun c_58 => ?_) (fun c_58 => ?_)
        · replace HW := HW.1 c_58
          refine lv_iload_n hx hb dX10_life_70 rfl (lv_at hl 1 rfl) ?_
          exact W.iret (v := x3) hx hb hr (fun t ht hW => ⟨⟨x3, (h_55, g_55), rfl, HW, g_B ht hG⟩, hG.2.2.F ht⟩) hG.2.2.2.2 dX10_life_71
        · replace HW := HW.2 c_58
          obtain ⟨x3_61, ex3_61⟩ : ∃ y : Int32, y = (x3 + 1) := ⟨_, rfl⟩
          replace HW := HW x3_61 ex3_61
          refine lv_iinc (v := x3_61) (lv' := [(3, .int x3_61), (0, .ref (ad 0)), (4, .int x4)]) hx hb dX10_life_61 hl (k := 1) rfl (by rw [ex3_61]; rfl) (by decide) rfl (fun ls hl => ?_)
          obtain ⟨x4_64, ex4_64⟩ : ∃ y : Int32, y = (x4 + 1) := ⟨_, rfl⟩
          replace HW := HW x4_64 ex4_64
          refine lv_iinc (v := x4_64) (lv' := [(4, .int x4_64), (3, .int x3_61), (0, .ref (ad 0))]) hx hb dX10_life_64 hl (k := 2) rfl (by rw [ex4_64]; rfl) (by decide) rfl (fun ls hl => ?_)
          refine lv_goto (tgt := 42) hx hb dX10_life_67 (by decide) ?_
          exact hK42 x3_61 x4_64 h_55 g_55 _ _ _ HW hG (lv_sub hl [2, 1, 0] rfl)
  have E0 : ∀ (H : Heap) (locs : List Loc) (ls : Array Slot), gG D cy ad (gA ad s.heap.size) s.heap h g H locs → lv_has ls 5 [(0, .ref (ad 0)), (1, .int x1), (2, .int x2)] → W p l e ({ frames := 6, cells := 0, slots := 0, locals := 150 } : Room) s m args below meth c H locs 0 0 (MQ below (va_Qi (fun (r : Int32) (u : HI × HL) => Q r u.1 u.2) (gB D cy ad s.heap.size) (gA ad s.heap.size)) args s 0 0 (gA ad s.heap.size)) (F0 m 0 ls []) := by
    intro H locs ls hG hl
    unfold w_X10_life at HW
    refine lv_aload_n hx hb dX10_life_0 rfl (lv_at hl 0 rfl) ?_
    refine g_getr hx hb hw inG10 hown hK hG gl_0 rfl gk_0 (by decide) 0 (by decide) (by rw [gm_0]; decide) (r := 1) gr_0_0 lk10 dX10_life_1 ?_
    refine g_getr hx hb hw inG6 hown hK hG gl_1 rfl gk_1 (by decide) 3 (by decide) (by rw [gm_1]; decide) (r := 8) gr_1_3 lk153 dX10_life_4 ?_
    refine lv_iload_n hx hb dX10_life_7 rfl (lv_at hl 1 rfl) ?_
    obtain ⟨P_8, HC_8, HW⟩ := HW
    refine g_callz (g_runV (As := [.int x1]) (rest := []) ⟨hx, hb, hml, hown, hts⟩ (m_X8_has l D cy ad h g H.size 8 (gs_8) x1 P_8 HC_8) (cwV 1 hts (gd_V (wm2 201 rfl rfl) (wm2 202 rfl rfl) (wm2 203 rfl rfl) (wm1 3 rfl rfl) (wm2 204 rfl rfl)) rfl rfl rfl (by decide +kernel) ⟨Nat.le_of_ble_eq_true rfl, Nat.le_of_ble_eq_true rfl⟩) hK hNw hG gl_8 rfl gk_8 (by decide) rfl rfl hl.1 rfl (lv_room (Nat.le_of_ble_eq_true rfl)) dX10_life_8 ⟨Nat.zero_le _, Nat.zero_le _⟩) hG (fun r_8 h_8 g_8 H locs hz hq hG => ?_)
    replace HW := HW r_8 h_8 g_8 hz hq
    refine lv_if_eq (tgt := 24) hx hb dX10_life_11 (by decide) (fun c_11 => ?_) (fun c_11 => ?_)
    · replace HW := HW.1 c_11
      refine lv_bipush (v := (-2)) hx hb dX10_life_24 (by decide) ?_
      exact W.iret (v := (-2 : Int32)) hx hb hr (fun t ht hW => ⟨⟨(-2 : Int32), (h_8, g_8), rfl, HW, g_B ht hG⟩, hG.2.2.F ht⟩) hG.2.2.2.2 dX10_life_26
    · replace HW := HW.2 c_11
      refine lv_iload_n hx hb dX10_life_14 rfl (lv_at hl 2 rfl) ?_
      refine lv_iconst (v := 0) hx hb dX10_life_15 (by decide) ?_
      refine lv_bipush (v := 99) hx hb dX10_life_16 (by decide) ?_
      obtain ⟨P_18, HC_18, HW⟩ := HW
      refine g_callz (g_runS (As := [.int x2, .int (0 : Int32), .int (99 : Int32)]) (rest := []) ⟨hx, hb, hml, hown, hts⟩ (m_X10_within l D cy ad h_8 g_8 H.size x2 (0 : Int32) (99 : Int32) P_18 HC_18) (va_cwS 3 hts (gd_S (wm2 193 rfl rfl) (wm2 194 rfl rfl) (wm1 1 rfl rfl) (wm2 195 rfl rfl)) rfl rfl rfl (by decide +kernel) ⟨Nat.le_of_ble_eq_true rfl, Nat.le_of_ble_eq_true rfl⟩) hK hNw hG rfl rfl hl.1 rfl (lv_room (Nat.le_of_ble_eq_true rfl)) dX10_life_18 ⟨Nat.zero_le _, Nat.zero_le _⟩) hG (fun r_18 h_18 g_18 H locs hz hq hG => ?_)
      replace HW := HW r_18 h_18 g_18 hz hq
      refine lv_if_ne (tgt := 27) hx hb dX10_life_21 (by decide) (fun c_21 => ?_) (fun c_21 => ?_)
      · replace HW := HW.1 c_21
        refine lv_aload_n hx hb dX10_life_27 rfl (lv_at hl 0 rfl) ?_
        refine g_getr hx hb hw inG10 hown hK hG gl_0 rfl gk_0 (by decide) 6 (by decide) (by rw [gm_0]; decide) (r := 85) gr_0_6 lk49 dX10_life_28 ?_
        refine lv_iload_n hx hb dX10_life_31 rfl (lv_at hl 1 rfl) ?_
        refine lv_iconst (v := (-1)) hx hb dX10_life_32 (by decide) ?_
        refine lv_iconst (v := (-1)) hx hb dX10_life_33 (by decide) ?_
        obtain ⟨P_34, HC_34, HW⟩ := HW
        refine g_callv (g_runV (As := [.int x1, .int (-1 : Int32), .int (-1 : Int32)]) (rest := []) ⟨hx, hb, hml, hown, hts⟩ (m_X2_take l D cy ad h_18 g_18 H.size x1 (-1 : Int32) (-1 : Int32) P_34 HC_34) (cwV 3 hts (gd_V (wm3 149 rfl rfl) (wm3 150 rfl rfl) (wm3 151 rfl rfl) (wm1 6 rfl rfl) (wm3 152 rfl rfl)) rfl rfl rfl (by decide +kernel) ⟨Nat.le_of_ble_eq_true rfl, Nat.le_of_ble_eq_true rfl⟩) hK hNw hG gl_85 rfl gk_85 (by decide) rfl rfl hl.1 rfl (lv_room (Nat.le_of_ble_eq_true rfl)) dX10_life_34 ⟨Nat.zero_le _, Nat.zero_le _⟩) hG (fun h_34 g_34 H locs hq hG => ?_)
        replace HW := HW h_34 g_34 hq
        refine lv_iconst (v := 0) hx hb dX10_life_37 (by decide) ?_
        refine lv_istore_n (lv' := [(3, .int (0 : Int32)), (0, .ref (ad 0)), (1, .int x1), (2, .int x2)]) hx hb dX10_life_38 rfl hl (by decide) rfl (fun ls hl => ?_)
        refine lv_iload_n hx hb dX10_life_39 rfl (lv_at hl 3 rfl) ?_
        refine lv_istore (lv' := [(4, .int x2), (3, .int (0 : Int32)), (0, .ref (ad 0)), (1, .int x1), (2, .int x2)]) hx hb dX10_life_40 hl (by decide) rfl (fun ls hl => ?_)
        obtain ⟨n_42, HW⟩ := HW
        exact L42 n_42 (0 : Int32) x2 h_34 g_34 _ _ _ HW hG (lv_sub hl [2, 1, 0] rfl)
      · replace HW := HW.2 c_21
        refine lv_bipush (v := (-2)) hx hb dX10_life_24 (by decide) ?_
        exact W.iret (v := (-2 : Int32)) hx hb hr (fun t ht hW => ⟨⟨(-2 : Int32), (h_18, g_18), rfl, HW, g_B ht hG⟩, hG.2.2.F ht⟩) hG.2.2.2.2 dX10_life_26
  exact E0 _ _ _ hG hl

def w_X10_work (x1 : Int32) (x2 : Int32) (x3 : Int32) (x4 : Int32) (h : HI) (g : HL) (Q : Int32 → HI → HL → Prop) : Prop :=
  ((x1 = 0 → Q (-2 : Int32) h g) ∧ (¬ x1 = 0 → (∃ P_11 : Int32 → HI → HL → Prop, w_X10_within x1 (-500 : Int32) (500 : Int32) h g P_11 ∧ ∀ (r_11 : Int32) (h_11 : HI) (g_11 : HL), zb r_11 → P_11 r_11 h_11 g_11 → ((r_11 = 0 → Q (-2 : Int32) h_11 g_11) ∧ (¬ r_11 = 0 → (∃ P_22 : Int32 → HI → HL → Prop, w_X10_within x2 (1 : Int32) (1000 : Int32) h_11 g_11 P_22 ∧ ∀ (r_22 : Int32) (h_22 : HI) (g_22 : HL), zb r_22 → P_22 r_22 h_22 g_22 → ((¬ r_22 = 0 → (∃ P_36 : Int32 → HI → HL → Prop, w_X10_within x3 (1 : Int32) (3000 : Int32) h_22 g_22 P_36 ∧ ∀ (r_36 : Int32) (h_36 : HI) (g_36 : HL), zb r_36 → P_36 r_36 h_36 g_36 → ((r_36 = 0 → Q (-2 : Int32) h_36 g_36) ∧ (¬ r_36 = 0 → (∃ P_48 : Int32 → HI → HL → Prop, w_X10_within x4 x3 (3000 : Int32) h_36 g_36 P_48 ∧ ∀ (r_48 : Int32) (h_48 : HI) (g_48 : HL), zb r_48 → P_48 r_48 h_48 g_48 → ((¬ r_48 = 0 → (∃ P_69 : Int32 → HI → HL → Prop, w_X8_add 10 x1 x2 x3 x4 h_48 g_48 P_69 ∧ ∀ (r_69 : Int32) (h_69 : HI) (g_69 : HL), P_69 r_69 h_69 g_69 → Q r_69 h_69 g_69)) ∧ (r_48 = 0 → Q (-2 : Int32) h_48 g_48))))))) ∧ (r_22 = 0 → Q (-2 : Int32) h_22 g_22))))))))
set_option maxHeartbeats 8000000 in
set_option maxRecDepth 100000 in
theorem m_X10_work (l : Launch) (D : va_G) (cy : Nat → ClassId) (ad : Nat → Nat) (h : HI) (g : HL) (sz : Nat) (x1 : Int32) (x2 : Int32) (x3 : Int32) (x4 : Int32) (Q : Int32 → HI → HL → Prop) (HW : w_X10_work x1 x2 x3 x4 h g Q) : Met l yX10_work (wa yX10_work cX10_work 5 (some .int)) ({ frames := 2, cells := 0, slots := 0, locals := 50 }) (va_Pc [.ref (ad 0), .int x1, .int x2, .int x3, .int x4] (gI D cy ad h g sz)) (va_Qi (fun (r : Int32) (u : HI × HL) => Q r u.1 u.2) (gB D cy ad sz) (gA ad sz)) 0 0 (gA ad sz) := by
  refine Met.ofW (cc := cX10_work) (maxL := 5) (ret := (some .int)) (by decide) rfl ?_
  intro p e s m args below meth c s₁ B hml hv
  obtain ⟨hav, hsz, hP, hK, hD0, hNw⟩ := hv
  have hx := B.exec
  have hb := B.bytes
  have hr := B.returns
  have hts := atoms_spec (ws := (wa yX10_work cX10_work 5 (some .int))) B.pre
  have hw := wa_hw hts
  have hown : s.vm.findClass RX10 = some m.cls := findClass_of_methodNamed B.named
  have hlocks := B.notSynchronized
  subst hsz
  have hG : gG D cy ad (gA ad s.heap.size) s.heap h g s.heap [] := ⟨hP, gA_self hD0, va_S.rf⟩
  clear hP hD0
  have lk10 := hw (.fieldLink RX10 10 "OldWorks" "shop" "LOldWorks$Shop;") (wm2 155 rfl rfl)
  have lk182 := hw (.fieldLink RX10 182 "OldWorks$Shop" "works" "LOldWorks$Table;") (wm1 76 rfl rfl)
  rw [show (headSpec (wa yX10_work cX10_work 5 (some .int)) ({ frames := 2, cells := 0, slots := 0, locals := 50 } : Room)).room = ({ frames := 2, cells := 0, slots := 0, locals := 50 } : Room) from rfl]
  have hl := lv_entry ([.ref (ad 0), .int x1, .int x2, .int x3, .int x4]) (n := 5) (Nat.le_of_ble_eq_true rfl)
  rw [show entryFrame m args 5 = entryFrame m ([.ref (ad 0), .int x1, .int x2, .int x3, .int x4] : List Value).toArray 5 from by rw [hav], lg_entry_eq]
  generalize (lg_sl ([.ref (ad 0), .int x1, .int x2, .int x3, .int x4]) ++ List.replicate (5 - (lg_sl ([.ref (ad 0), .int x1, .int x2, .int x3, .int x4])).length) Slot.unset).toArray = ls at hl ⊢
  have hl : lv_has ls 5 [(0, .ref (ad 0)), (1, .int x1), (2, .int x2), (3, .int x3), (4, .int x4)] := hl
  have E0 : ∀ (H : Heap) (locs : List Loc) (ls : Array Slot), gG D cy ad (gA ad s.heap.size) s.heap h g H locs → lv_has ls 5 [(0, .ref (ad 0)), (1, .int x1), (2, .int x2), (3, .int x3), (4, .int x4)] → W p l e ({ frames := 2, cells := 0, slots := 0, locals := 50 } : Room) s m args below meth c H locs 0 0 (MQ below (va_Qi (fun (r : Int32) (u : HI × HL) => Q r u.1 u.2) (gB D cy ad s.heap.size) (gA ad s.heap.size)) args s 0 0 (gA ad s.heap.size)) (F0 m 0 ls []) := by
    intro H locs ls hG hl
    unfold w_X10_work at HW
    refine lv_iload_n hx hb dX10_work_0 rfl (lv_at hl 1 rfl) ?_
    refine lv_if_eq (tgt := 28) hx hb dX10_work_1 (by decide) (fun c_1 => ?_) (fun c_1 => ?_)
    · replace HW := HW.1 c_1
      refine lv_bipush (v := (-2)) hx hb dX10_work_28 (by decide) ?_
      exact W.iret (v := (-2 : Int32)) hx hb hr (fun t ht hW => ⟨⟨(-2 : Int32), (h, g), rfl, HW, g_B ht hG⟩, hG.2.2.F ht⟩) hG.2.2.2.2 dX10_work_30
    · replace HW := HW.2 c_1
      refine lv_iload_n hx hb dX10_work_4 rfl (lv_at hl 1 rfl) ?_
      refine lv_sipush (v := (-500)) hx hb dX10_work_5 (by decide) ?_
      refine lv_sipush (v := 500) hx hb dX10_work_8 (by decide) ?_
      obtain ⟨P_11, HC_11, HW⟩ := HW
      refine g_callz (g_runS (As := [.int x1, .int (-500 : Int32), .int (500 : Int32)]) (rest := []) ⟨hx, hb, hml, hown, hts⟩ (m_X10_within l D cy ad h g H.size x1 (-500 : Int32) (500 : Int32) P_11 HC_11) (va_cwS 3 hts (gd_S (wm2 193 rfl rfl) (wm2 194 rfl rfl) (wm1 1 rfl rfl) (wm2 195 rfl rfl)) rfl rfl rfl (by decide +kernel) ⟨Nat.le_of_ble_eq_true rfl, Nat.le_of_ble_eq_true rfl⟩) hK hNw hG rfl rfl hl.1 rfl (lv_room (Nat.le_of_ble_eq_true rfl)) dX10_work_11 ⟨Nat.zero_le _, Nat.zero_le _⟩) hG (fun r_11 h_11 g_11 H locs hz hq hG => ?_)
      replace HW := HW r_11 h_11 g_11 hz hq
      refine lv_if_eq (tgt := 28) hx hb dX10_work_14 (by decide) (fun c_14 => ?_) (fun c_14 => ?_)
      · replace HW := HW.1 c_14
        refine lv_bipush (v := (-2)) hx hb dX10_work_28 (by decide) ?_
        exact W.iret (v := (-2 : Int32)) hx hb hr (fun t ht hW => ⟨⟨(-2 : Int32), (h_11, g_11), rfl, HW, g_B ht hG⟩, hG.2.2.F ht⟩) hG.2.2.2.2 dX10_work_30
      · replace HW := HW.2 c_14
        refine lv_iload_n hx hb dX10_work_17 rfl (lv_at hl 2 rfl) ?_
        refine lv_iconst (v := 1) hx hb dX10_work_18 (by decide) ?_
        refine lv_sipush (v := 1000) hx hb dX10_work_19 (by decide) ?_
        obtain ⟨P_22, HC_22, HW⟩ := HW
        refine g_callz (g_runS (As := [.int x2, .int (1 : Int32), .int (1000 : Int32)]) (rest := []) ⟨hx, hb, hml, hown, hts⟩ (m_X10_within l D cy ad h_11 g_11 H.size x2 (1 : Int32) (1000 : Int32) P_22 HC_22) (va_cwS 3 hts (gd_S (wm2 193 rfl rfl) (wm2 194 rfl rfl) (wm1 1 rfl rfl) (wm2 195 rfl rfl)) rfl rfl rfl (by decide +kernel) ⟨Nat.le_of_ble_eq_true rfl, Nat.le_of_ble_eq_true rfl⟩) hK hNw hG rfl rfl hl.1 rfl (lv_room (Nat.le_of_ble_eq_true rfl)) dX10_work_22 ⟨Nat.zero_le _, Nat.zero_le _⟩) hG (fun r_22 h_22 g_22 H locs hz hq hG => ?_)
        replace HW := HW r_22 h_22 g_22 hz hq
        refine lv_if_ne (tgt := 31) hx hb dX10_work_25 (by decide) (fun c_25 => ?_) (fun c_25 => ?_)
        · replace HW := HW.1 c_25
          refine lv_iload_n hx hb dX10_work_31 rfl (lv_at hl 3 rfl) ?_
          refine lv_iconst (v := 1) hx hb dX10_work_32 (by decide) ?_
          refine lv_sipush (v := 3000) hx hb dX10_work_33 (by decide) ?_
          obtain ⟨P_36, HC_36, HW⟩ := HW
          refine g_callz (g_runS (As := [.int x3, .int (1 : Int32), .int (3000 : Int32)]) (rest := []) ⟨hx, hb, hml, hown, hts⟩ (m_X10_within l D cy ad h_22 g_22 H.size x3 (1 : Int32) (3000 : Int32) P_36 HC_36) (va_cwS 3 hts (gd_S (wm2 193 rfl rfl) (wm2 194 rfl rfl) (wm1 1 rfl rfl) (wm2 195 rfl rfl)) rfl rfl rfl (by decide +kernel) ⟨Nat.le_of_ble_eq_true rfl, Nat.le_of_ble_eq_true rfl⟩) hK hNw hG rfl rfl hl.1 rfl (lv_room (Nat.le_of_ble_eq_true rfl)) dX10_work_36 ⟨Nat.zero_le _, Nat.zero_le _⟩) hG (fun r_36 h_36 g_36 H locs hz hq hG => ?_)
          replace HW := HW r_36 h_36 g_36 hz hq
          refine lv_if_eq (tgt := 54) hx hb dX10_work_39 (by decide) (fun c_39 => ?_) (fun c_39 => ?_)
          · replace HW := HW.1 c_39
            refine lv_bipush (v := (-2)) hx hb dX10_work_54 (by decide) ?_
            exact W.iret (v := (-2 : Int32)) hx hb hr (fun t ht hW => ⟨⟨(-2 : Int32), (h_36, g_36), rfl, HW, g_B ht hG⟩, hG.2.2.F ht⟩) hG.2.2.2.2 dX10_work_56
          · replace HW := HW.2 c_39
            refine lv_iload hx hb dX10_work_42 (lv_at hl 4 rfl) ?_
            refine lv_iload_n hx hb dX10_work_44 rfl (lv_at hl 3 rfl) ?_
            refine lv_sipush (v := 3000) hx hb dX10_work_45 (by decide) ?_
            obtain ⟨P_48, HC_48, HW⟩ := HW
            refine g_callz (g_runS (As := [.int x4, .int x3, .int (3000 : Int32)]) (rest := []) ⟨hx, hb, hml, hown, hts⟩ (m_X10_within l D cy ad h_36 g_36 H.size x4 x3 (3000 : Int32) P_48 HC_48) (va_cwS 3 hts (gd_S (wm2 193 rfl rfl) (wm2 194 rfl rfl) (wm1 1 rfl rfl) (wm2 195 rfl rfl)) rfl rfl rfl (by decide +kernel) ⟨Nat.le_of_ble_eq_true rfl, Nat.le_of_ble_eq_true rfl⟩) hK hNw hG rfl rfl hl.1 rfl (lv_room (Nat.le_of_ble_eq_true rfl)) dX10_work_48 ⟨Nat.zero_le _, Nat.zero_le _⟩) hG (fun r_48 h_48 g_48 H locs hz hq hG => ?_)
            replace HW := HW r_48 h_48 g_48 hz hq
            refine lv_if_ne (tgt := 57) hx hb dX10_work_51 (by decide) (fun c_51 => ?_) (fun c_51 => ?_)
            · replace HW := HW.1 c_51
              refine lv_aload_n hx hb dX10_work_57 rfl (lv_at hl 0 rfl) ?_
              refine g_getr hx hb hw inG10 hown hK hG gl_0 rfl gk_0 (by decide) 0 (by decide) (by rw [gm_0]; decide) (r := 1) gr_0_0 lk10 dX10_work_58 ?_
              refine g_getr hx hb hw inG6 hown hK hG gl_1 rfl gk_1 (by decide) 4 (by decide) (by rw [gm_1]; decide) (r := 10) gr_1_4 lk182 dX10_work_61 ?_
              refine lv_iload_n hx hb dX10_work_64 rfl (lv_at hl 1 rfl) ?_
              refine lv_iload_n hx hb dX10_work_65 rfl (lv_at hl 2 rfl) ?_
              refine lv_iload_n hx hb dX10_work_66 rfl (lv_at hl 3 rfl) ?_
              refine lv_iload hx hb dX10_work_67 (lv_at hl 4 rfl) ?_
              obtain ⟨P_69, HC_69, HW⟩ := HW
              refine g_calli (g_runV (As := [.int x1, .int x2, .int x3, .int x4]) (rest := []) ⟨hx, hb, hml, hown, hts⟩ (m_X8_add l D cy ad h_48 g_48 H.size 10 (gs_10) x1 x2 x3 x4 P_69 HC_69) (cwV 4 hts (gd_V (wm2 196 rfl rfl) (wm1 53 rfl rfl) (wm1 54 rfl rfl) (wm1 3 rfl rfl) (wm1 55 rfl rfl)) rfl rfl rfl (by decide +kernel) ⟨Nat.le_of_ble_eq_true rfl, Nat.le_of_ble_eq_true rfl⟩) hK hNw hG gl_10 rfl gk_10 (by decide) rfl rfl hl.1 rfl (lv_room (Nat.le_of_ble_eq_true rfl)) dX10_work_69 ⟨Nat.zero_le _, Nat.zero_le _⟩) hG (fun r_69 h_69 g_69 H locs hq hG => ?_)
              replace HW := HW r_69 h_69 g_69 hq
              exact W.iret (v := r_69) hx hb hr (fun t ht hW => ⟨⟨r_69, (h_69, g_69), rfl, HW, g_B ht hG⟩, hG.2.2.F ht⟩) hG.2.2.2.2 dX10_work_72
            · replace HW := HW.2 c_51
              refine lv_bipush (v := (-2)) hx hb dX10_work_54 (by decide) ?_
              exact W.iret (v := (-2 : Int32)) hx hb hr (fun t ht hW => ⟨⟨(-2 : Int32), (h_48, g_48), rfl, HW, g_B ht hG⟩, hG.2.2.F ht⟩) hG.2.2.2.2 dX10_work_56
        · replace HW := HW.2 c_25
          refine lv_bipush (v := (-2)) hx hb dX10_work_28 (by decide) ?_
          exact W.iret (v := (-2 : Int32)) hx hb hr (fun t ht hW => ⟨⟨(-2 : Int32), (h_22, g_22), rfl, HW, g_B ht hG⟩, hG.2.2.F ht⟩) hG.2.2.2.2 dX10_work_30
  exact E0 _ _ _ hG hl

def w_X10_way (x1 : Int32) (x2 : Int32) (x3 : Int32) (x4 : Int32) (h : HI) (g : HL) (Q : Int32 → HI → HL → Prop) : Prop :=
  (∃ P_5 : Int32 → HI → HL → Prop, w_X10_within x1 (1 : Int32) (3000 : Int32) h g P_5 ∧ ∀ (r_5 : Int32) (h_5 : HI) (g_5 : HL), zb r_5 → P_5 r_5 h_5 g_5 → ((r_5 = 0 → Q (-10 : Int32) h_5 g_5) ∧ (¬ r_5 = 0 → (∃ P_16 : Int32 → HI → HL → Prop, w_X10_within x2 (1 : Int32) (3000 : Int32) h_5 g_5 P_16 ∧ ∀ (r_16 : Int32) (h_16 : HI) (g_16 : HL), zb r_16 → P_16 r_16 h_16 g_16 → ((¬ r_16 = 0 → (∃ P_30 : Int32 → HI → HL → Prop, w_X10_within x3 x2 (3000 : Int32) h_16 g_16 P_30 ∧ ∀ (r_30 : Int32) (h_30 : HI) (g_30 : HL), zb r_30 → P_30 r_30 h_30 g_30 → ((r_30 = 0 → Q (-10 : Int32) h_30 g_30) ∧ (¬ r_30 = 0 → (((-2 : Int32) ≤ x4 → (∃ P_53 : HI → HL → Prop, w_X9_find x1 x2 x3 h_30 g_30 P_53 ∧ ∀ (h_53 : HI) (g_53 : HL), P_53 h_53 g_53 → ((¬ (h_53 89 5) = (-1 : Int32) → ((¬ x4 = (-1 : Int32) → ((¬ x4 = (-2 : Int32) → (∃ P_105 : Int32 → HI → HL → Prop, w_X9_stepAt x4 h_53 g_53 P_105 ∧ ∀ (r_105 : Int32) (h_105 : HI) (g_105 : HL), P_105 r_105 h_105 g_105 → Q r_105 h_105 g_105)) ∧ (x4 = (-2 : Int32) → Q (h_53 89 6) h_53 g_53))) ∧ (x4 = (-1 : Int32) → Q (h_53 89 5) h_53 g_53))) ∧ ((h_53 89 5) = (-1 : Int32) → Q (-5 : Int32) h_53 g_53)))) ∧ (¬ (-2 : Int32) ≤ x4 → Q (-10 : Int32) h_30 g_30)))))) ∧ (r_16 = 0 → Q (-10 : Int32) h_16 g_16))))))
set_option maxHeartbeats 8000000 in
set_option maxRecDepth 100000 in
theorem m_X10_way (l : Launch) (D : va_G) (cy : Nat → ClassId) (ad : Nat → Nat) (h : HI) (g : HL) (sz : Nat) (x1 : Int32) (x2 : Int32) (x3 : Int32) (x4 : Int32) (Q : Int32 → HI → HL → Prop) (HW : w_X10_way x1 x2 x3 x4 h g Q) : Met l yX10_way (wa yX10_way cX10_way 5 (some .int)) ({ frames := 4, cells := 0, slots := 0, locals := 98 }) (va_Pc [.ref (ad 0), .int x1, .int x2, .int x3, .int x4] (gI D cy ad h g sz)) (va_Qi (fun (r : Int32) (u : HI × HL) => Q r u.1 u.2) (gB D cy ad sz) (gA ad sz)) 0 0 (gA ad sz) := by
  refine Met.ofW (cc := cX10_way) (maxL := 5) (ret := (some .int)) (by decide) rfl ?_
  intro p e s m args below meth c s₁ B hml hv
  obtain ⟨hav, hsz, hP, hK, hD0, hNw⟩ := hv
  have hx := B.exec
  have hb := B.bytes
  have hr := B.returns
  have hts := atoms_spec (ws := (wa yX10_way cX10_way 5 (some .int))) B.pre
  have hw := wa_hw hts
  have hown : s.vm.findClass RX10 = some m.cls := findClass_of_methodNamed B.named
  have hlocks := B.notSynchronized
  subst hsz
  have hG : gG D cy ad (gA ad s.heap.size) s.heap h g s.heap [] := ⟨hP, gA_self hD0, va_S.rf⟩
  clear hP hD0
  have lk56 := hw (.fieldLink RX10 56 "OldWorks" "ways" "LOldWorks$Ways;") (wm2 162 rfl rfl)
  have lk187 := hw (.fieldLink RX10 187 "OldWorks$Ways" "price" "I") (wm2 25 rfl rfl)
  have lk190 := hw (.fieldLink RX10 190 "OldWorks$Ways" "steps" "I") (wm2 27 rfl rfl)
  rw [show (headSpec (wa yX10_way cX10_way 5 (some .int)) ({ frames := 4, cells := 0, slots := 0, locals := 98 } : Room)).room = ({ frames := 4, cells := 0, slots := 0, locals := 98 } : Room) from rfl]
  have hl := lv_entry ([.ref (ad 0), .int x1, .int x2, .int x3, .int x4]) (n := 5) (Nat.le_of_ble_eq_true rfl)
  rw [show entryFrame m args 5 = entryFrame m ([.ref (ad 0), .int x1, .int x2, .int x3, .int x4] : List Value).toArray 5 from by rw [hav], lg_entry_eq]
  generalize (lg_sl ([.ref (ad 0), .int x1, .int x2, .int x3, .int x4]) ++ List.replicate (5 - (lg_sl ([.ref (ad 0), .int x1, .int x2, .int x3, .int x4])).length) Slot.unset).toArray = ls at hl ⊢
  have hl : lv_has ls 5 [(0, .ref (ad 0)), (1, .int x1), (2, .int x2), (3, .int x3), (4, .int x4)] := hl
  have E0 : ∀ (H : Heap) (locs : List Loc) (ls : Array Slot), gG D cy ad (gA ad s.heap.size) s.heap h g H locs → lv_has ls 5 [(0, .ref (ad 0)), (1, .int x1), (2, .int x2), (3, .int x3), (4, .int x4)] → W p l e ({ frames := 4, cells := 0, slots := 0, locals := 98 } : Room) s m args below meth c H locs 0 0 (MQ below (va_Qi (fun (r : Int32) (u : HI × HL) => Q r u.1 u.2) (gB D cy ad s.heap.size) (gA ad s.heap.size)) args s 0 0 (gA ad s.heap.size)) (F0 m 0 ls []) := by
    intro H locs ls hG hl
    unfold w_X10_way at HW
    refine lv_iload_n hx hb dX10_way_0 rfl (lv_at hl 1 rfl) ?_
    refine lv_iconst (v := 1) hx hb dX10_way_1 (by decide) ?_
    refine lv_sipush (v := 3000) hx hb dX10_way_2 (by decide) ?_
    obtain ⟨P_5, HC_5, HW⟩ := HW
    refine g_callz (g_runS (As := [.int x1, .int (1 : Int32), .int (3000 : Int32)]) (rest := []) ⟨hx, hb, hml, hown, hts⟩ (m_X10_within l D cy ad h g H.size x1 (1 : Int32) (3000 : Int32) P_5 HC_5) (va_cwS 3 hts (gd_S (wm2 193 rfl rfl) (wm2 194 rfl rfl) (wm1 1 rfl rfl) (wm2 195 rfl rfl)) rfl rfl rfl (by decide +kernel) ⟨Nat.le_of_ble_eq_true rfl, Nat.le_of_ble_eq_true rfl⟩) hK hNw hG rfl rfl hl.1 rfl (lv_room (Nat.le_of_ble_eq_true rfl)) dX10_way_5 ⟨Nat.zero_le _, Nat.zero_le _⟩) hG (fun r_5 h_5 g_5 H locs hz hq hG => ?_)
    replace HW := HW r_5 h_5 g_5 hz hq
    refine lv_if_eq (tgt := 22) hx hb dX10_way_8 (by decide) (fun c_8 => ?_) (fun c_8 => ?_)
    · replace HW := HW.1 c_8
      refine lv_bipush (v := (-10)) hx hb dX10_way_22 (by decide) ?_
      exact W.iret (v := (-10 : Int32)) hx hb hr (fun t ht hW => ⟨⟨(-10 : Int32), (h_5, g_5), rfl, HW, g_B ht hG⟩, hG.2.2.F ht⟩) hG.2.2.2.2 dX10_way_24
    · replace HW := HW.2 c_8
      refine lv_iload_n hx hb dX10_way_11 rfl (lv_at hl 2 rfl) ?_
      refine lv_iconst (v := 1) hx hb dX10_way_12 (by decide) ?_
      refine lv_sipush (v := 3000) hx hb dX10_way_13 (by decide) ?_
      obtain ⟨P_16, HC_16, HW⟩ := HW
      refine g_callz (g_runS (As := [.int x2, .int (1 : Int32), .int (3000 : Int32)]) (rest := []) ⟨hx, hb, hml, hown, hts⟩ (m_X10_within l D cy ad h_5 g_5 H.size x2 (1 : Int32) (3000 : Int32) P_16 HC_16) (va_cwS 3 hts (gd_S (wm2 193 rfl rfl) (wm2 194 rfl rfl) (wm1 1 rfl rfl) (wm2 195 rfl rfl)) rfl rfl rfl (by decide +kernel) ⟨Nat.le_of_ble_eq_true rfl, Nat.le_of_ble_eq_true rfl⟩) hK hNw hG rfl rfl hl.1 rfl (lv_room (Nat.le_of_ble_eq_true rfl)) dX10_way_16 ⟨Nat.zero_le _, Nat.zero_le _⟩) hG (fun r_16 h_16 g_16 H locs hz hq hG => ?_)
      replace HW := HW r_16 h_16 g_16 hz hq
      refine lv_if_ne (tgt := 25) hx hb dX10_way_19 (by decide) (fun c_19 => ?_) (fun c_19 => ?_)
      · replace HW := HW.1 c_19
        refine lv_iload_n hx hb dX10_way_25 rfl (lv_at hl 3 rfl) ?_
        refine lv_iload_n hx hb dX10_way_26 rfl (lv_at hl 2 rfl) ?_
        refine lv_sipush (v := 3000) hx hb dX10_way_27 (by decide) ?_
        obtain ⟨P_30, HC_30, HW⟩ := HW
        refine g_callz (g_runS (As := [.int x3, .int x2, .int (3000 : Int32)]) (rest := []) ⟨hx, hb, hml, hown, hts⟩ (m_X10_within l D cy ad h_16 g_16 H.size x3 x2 (3000 : Int32) P_30 HC_30) (va_cwS 3 hts (gd_S (wm2 193 rfl rfl) (wm2 194 rfl rfl) (wm1 1 rfl rfl) (wm2 195 rfl rfl)) rfl rfl rfl (by decide +kernel) ⟨Nat.le_of_ble_eq_true rfl, Nat.le_of_ble_eq_true rfl⟩) hK hNw hG rfl rfl hl.1 rfl (lv_room (Nat.le_of_ble_eq_true rfl)) dX10_way_30 ⟨Nat.zero_le _, Nat.zero_le _⟩) hG (fun r_30 h_30 g_30 H locs hz hq hG => ?_)
        replace HW := HW r_30 h_30 g_30 hz hq
        refine lv_if_eq (tgt := 43) hx hb dX10_way_33 (by decide) (fun c_33 => ?_) (fun c_33 => ?_)
        · replace HW := HW.1 c_33
          refine lv_bipush (v := (-10)) hx hb dX10_way_43 (by decide) ?_
          exact W.iret (v := (-10 : Int32)) hx hb hr (fun t ht hW => ⟨⟨(-10 : Int32), (h_30, g_30), rfl, HW, g_B ht hG⟩, hG.2.2.F ht⟩) hG.2.2.2.2 dX10_way_45
        · replace HW := HW.2 c_33
          refine lv_iload hx hb dX10_way_36 (lv_at hl 4 rfl) ?_
          refine lv_bipush (v := (-2)) hx hb dX10_way_38 (by decide) ?_
          refine lv_icmp_ge (tgt := 46) hx hb dX10_way_40 (by decide) (fun c_40 => ?_) (fun c_40 => ?_)
          · replace HW := HW.1 c_40
            refine lv_aload_n hx hb dX10_way_46 rfl (lv_at hl 0 rfl) ?_
            refine g_getr hx hb hw inG10 hown hK hG gl_0 rfl gk_0 (by decide) 7 (by decide) (by rw [gm_0]; decide) (r := 89) gr_0_7 lk56 dX10_way_47 ?_
            refine lv_iload_n hx hb dX10_way_50 rfl (lv_at hl 1 rfl) ?_
            refine lv_iload_n hx hb dX10_way_51 rfl (lv_at hl 2 rfl) ?_
            refine lv_iload_n hx hb dX10_way_52 rfl (lv_at hl 3 rfl) ?_
            obtain ⟨P_53, HC_53, HW⟩ := HW
            refine g_callv (g_runV (As := [.int x1, .int x2, .int x3]) (rest := []) ⟨hx, hb, hml, hown, hts⟩ (m_X9_find l D cy ad h_30 g_30 H.size x1 x2 x3 P_53 HC_53) (cwV 3 hts (gd_V (wm3 182 rfl rfl) (wm3 183 rfl rfl) (wm3 184 rfl rfl) (wm1 7 rfl rfl) (wm3 185 rfl rfl)) rfl rfl rfl (by decide +kernel) ⟨Nat.le_of_ble_eq_true rfl, Nat.le_of_ble_eq_true rfl⟩) hK hNw hG gl_89 rfl gk_89 (by decide) rfl rfl hl.1 rfl (lv_room (Nat.le_of_ble_eq_true rfl)) dX10_way_53 ⟨Nat.zero_le _, Nat.zero_le _⟩) hG (fun h_53 g_53 H locs hq hG => ?_)
            replace HW := HW h_53 g_53 hq
            refine lv_aload_n hx hb dX10_way_56 rfl (lv_at hl 0 rfl) ?_
            refine g_getr hx hb hw inG10 hown hK hG gl_0 rfl gk_0 (by decide) 7 (by decide) (by rw [gm_0]; decide) (r := 89) gr_0_7 lk56 dX10_way_57 ?_
            refine g_geti hx hb hw inG9 hown hK hG gl_89 rfl gk_89 (by decide) 5 (by decide) (by rw [gm_89]; decide) gr_89_5 lk187 dX10_way_60 ?_
            refine lv_iconst (v := (-1)) hx hb dX10_way_63 (by decide) ?_
            refine lv_icmp_ne (tgt := 70) hx hb dX10_way_64 (by decide) (fun c_64 => ?_) (fun c_64 => ?_)
            · replace HW := HW.1 c_64
              refine lv_iload hx hb dX10_way_70 (lv_at hl 4 rfl) ?_
              refine lv_iconst (v := (-1)) hx hb dX10_way_72 (by decide) ?_
              refine lv_icmp_ne (tgt := 84) hx hb dX10_way_73 (by decide) (fun c_73 => ?_) (fun c_73 => ?_)
              · replace HW := HW.1 c_73
                refine lv_iload hx hb dX10_way_84 (lv_at hl 4 rfl) ?_
                refine lv_bipush (v := (-2)) hx hb dX10_way_86 (by decide) ?_
                refine lv_icmp_ne (tgt := 99) hx hb dX10_way_88 (by decide) (fun c_88 => ?_) (fun c_88 => ?_)
                · replace HW := HW.1 c_88
                  refine lv_aload_n hx hb dX10_way_99 rfl (lv_at hl 0 rfl) ?_
                  refine g_getr hx hb hw inG10 hown hK hG gl_0 rfl gk_0 (by decide) 7 (by decide) (by rw [gm_0]; decide) (r := 89) gr_0_7 lk56 dX10_way_100 ?_
                  refine lv_iload hx hb dX10_way_103 (lv_at hl 4 rfl) ?_
                  obtain ⟨P_105, HC_105, HW⟩ := HW
                  refine g_calli (g_runV (As := [.int x4]) (rest := []) ⟨hx, hb, hml, hown, hts⟩ (m_X9_stepAt l D cy ad h_53 g_53 H.size x4 P_105 HC_105) (cwV 1 hts (gd_V (wm3 208 rfl rfl) (wm3 209 rfl rfl) (wm3 210 rfl rfl) (wm1 7 rfl rfl) (wm3 211 rfl rfl)) rfl rfl rfl (by decide +kernel) ⟨Nat.le_of_ble_eq_true rfl, Nat.le_of_ble_eq_true rfl⟩) hK hNw hG gl_89 rfl gk_89 (by decide) rfl rfl hl.1 rfl (lv_room (Nat.le_of_ble_eq_true rfl)) dX10_way_105 ⟨Nat.zero_le _, Nat.zero_le _⟩) hG (fun r_105 h_105 g_105 H locs hq hG => ?_)
                  replace HW := HW r_105 h_105 g_105 hq
                  exact W.iret (v := r_105) hx hb hr (fun t ht hW => ⟨⟨r_105, (h_105, g_105), rfl, HW, g_B ht hG⟩, hG.2.2.F ht⟩) hG.2.2.2.2 dX10_way_108
                · replace HW := HW.2 c_88
                  refine lv_aload_n hx hb dX10_way_91 rfl (lv_at hl 0 rfl) ?_
                  refine g_getr hx hb hw inG10 hown hK hG gl_0 rfl gk_0 (by decide) 7 (by decide) (by rw [gm_0]; decide) (r := 89) gr_0_7 lk56 dX10_way_92 ?_
                  refine g_geti hx hb hw inG9 hown hK hG gl_89 rfl gk_89 (by decide) 6 (by decide) (by rw [gm_89]; decide) gr_89_6 lk190 dX10_way_95 ?_
                  exact W.iret (v := (h_53 89 6)) hx hb hr (fun t ht hW => ⟨⟨(h_53 89 6), (h_53, g_53), rfl, HW, g_B ht hG⟩, hG.2.2.F ht⟩) hG.2.2.2.2 dX10_way_98
              · replace HW := HW.2 c_73
                refine lv_aload_n hx hb dX10_way_76 rfl (lv_at hl 0 rfl) ?_
                refine g_getr hx hb hw inG10 hown hK hG gl_0 rfl gk_0 (by decide) 7 (by decide) (by rw [gm_0]; decide) (r := 89) gr_0_7 lk56 dX10_way_77 ?_
                refine g_geti hx hb hw inG9 hown hK hG gl_89 rfl gk_89 (by decide) 5 (by decide) (by rw [gm_89]; decide) gr_89_5 lk187 dX10_way_80 ?_
                exact W.iret (v := (h_53 89 5)) hx hb hr (fun t ht hW => ⟨⟨(h_53 89 5), (h_53, g_53), rfl, HW, g_B ht hG⟩, hG.2.2.F ht⟩) hG.2.2.2.2 dX10_way_83
            · replace HW := HW.2 c_64
              refine lv_bipush (v := (-5)) hx hb dX10_way_67 (by decide) ?_
              exact W.iret (v := (-5 : Int32)) hx hb hr (fun t ht hW => ⟨⟨(-5 : Int32), (h_53, g_53), rfl, HW, g_B ht hG⟩, hG.2.2.F ht⟩) hG.2.2.2.2 dX10_way_69
          · replace HW := HW.2 c_40
            refine lv_bipush (v := (-10)) hx hb dX10_way_43 (by decide) ?_
            exact W.iret (v := (-10 : Int32)) hx hb hr (fun t ht hW => ⟨⟨(-10 : Int32), (h_30, g_30), rfl, HW, g_B ht hG⟩, hG.2.2.F ht⟩) hG.2.2.2.2 dX10_way_45
      · replace HW := HW.2 c_19
        refine lv_bipush (v := (-10)) hx hb dX10_way_22 (by decide) ?_
        exact W.iret (v := (-10 : Int32)) hx hb hr (fun t ht hW => ⟨⟨(-10 : Int32), (h_16, g_16), rfl, HW, g_B ht hG⟩, hG.2.2.F ht⟩) hG.2.2.2.2 dX10_way_24
  exact E0 _ _ _ hG hl

def w_X10_machine (x1 : Int32) (h : HI) (g : HL) (Q : Int32 → HI → HL → Prop) : Prop :=
  (∃ P_3 : Int32 → HI → HL → Prop, w_X10_within x1 (0 : Int32) (3 : Int32) h g P_3 ∧ ∀ (r_3 : Int32) (h_3 : HI) (g_3 : HL), zb r_3 → P_3 r_3 h_3 g_3 → ((¬ r_3 = 0 → (∃ P_23 : Int32 → HI → HL → Prop, w_X8_add 12 x1 (0 : Int32) (0 : Int32) (0 : Int32) h_3 g_3 P_23 ∧ ∀ (r_23 : Int32) (h_23 : HI) (g_23 : HL), P_23 r_23 h_23 g_23 → Q r_23 h_23 g_23)) ∧ (r_3 = 0 → Q (-2 : Int32) h_3 g_3)))
set_option maxHeartbeats 8000000 in
set_option maxRecDepth 100000 in
theorem m_X10_machine (l : Launch) (D : va_G) (cy : Nat → ClassId) (ad : Nat → Nat) (h : HI) (g : HL) (sz : Nat) (x1 : Int32) (Q : Int32 → HI → HL → Prop) (HW : w_X10_machine x1 h g Q) : Met l yX10_machine (wa yX10_machine cX10_machine 2 (some .int)) ({ frames := 2, cells := 0, slots := 0, locals := 50 }) (va_Pc [.ref (ad 0), .int x1] (gI D cy ad h g sz)) (va_Qi (fun (r : Int32) (u : HI × HL) => Q r u.1 u.2) (gB D cy ad sz) (gA ad sz)) 0 0 (gA ad sz) := by
  refine Met.ofW (cc := cX10_machine) (maxL := 2) (ret := (some .int)) (by decide) rfl ?_
  intro p e s m args below meth c s₁ B hml hv
  obtain ⟨hav, hsz, hP, hK, hD0, hNw⟩ := hv
  have hx := B.exec
  have hb := B.bytes
  have hr := B.returns
  have hts := atoms_spec (ws := (wa yX10_machine cX10_machine 2 (some .int))) B.pre
  have hw := wa_hw hts
  have hown : s.vm.findClass RX10 = some m.cls := findClass_of_methodNamed B.named
  have hlocks := B.notSynchronized
  subst hsz
  have hG : gG D cy ad (gA ad s.heap.size) s.heap h g s.heap [] := ⟨hP, gA_self hD0, va_S.rf⟩
  clear hP hD0
  have lk10 := hw (.fieldLink RX10 10 "OldWorks" "shop" "LOldWorks$Shop;") (wm2 155 rfl rfl)
  have lk196 := hw (.fieldLink RX10 196 "OldWorks$Shop" "machines" "LOldWorks$Table;") (wm1 79 rfl rfl)
  rw [show (headSpec (wa yX10_machine cX10_machine 2 (some .int)) ({ frames := 2, cells := 0, slots := 0, locals := 50 } : Room)).room = ({ frames := 2, cells := 0, slots := 0, locals := 50 } : Room) from rfl]
  have hl := lv_entry ([.ref (ad 0), .int x1]) (n := 2) (Nat.le_of_ble_eq_true rfl)
  rw [show entryFrame m args 2 = entryFrame m ([.ref (ad 0), .int x1] : List Value).toArray 2 from by rw [hav], lg_entry_eq]
  generalize (lg_sl ([.ref (ad 0), .int x1]) ++ List.replicate (2 - (lg_sl ([.ref (ad 0), .int x1])).length) Slot.unset).toArray = ls at hl ⊢
  have hl : lv_has ls 2 [(0, .ref (ad 0)), (1, .int x1)] := hl
  have E0 : ∀ (H : Heap) (locs : List Loc) (ls : Array Slot), gG D cy ad (gA ad s.heap.size) s.heap h g H locs → lv_has ls 2 [(0, .ref (ad 0)), (1, .int x1)] → W p l e ({ frames := 2, cells := 0, slots := 0, locals := 50 } : Room) s m args below meth c H locs 0 0 (MQ below (va_Qi (fun (r : Int32) (u : HI × HL) => Q r u.1 u.2) (gB D cy ad s.heap.size) (gA ad s.heap.size)) args s 0 0 (gA ad s.heap.size)) (F0 m 0 ls []) := by
    intro H locs ls hG hl
    unfold w_X10_machine at HW
    refine lv_iload_n hx hb dX10_machine_0 rfl (lv_at hl 1 rfl) ?_
    refine lv_iconst (v := 0) hx hb dX10_machine_1 (by decide) ?_
    refine lv_iconst (v := 3) hx hb dX10_machine_2 (by decide) ?_
    obtain ⟨P_3, HC_3, HW⟩ := HW
    refine g_callz (g_runS (As := [.int x1, .int (0 : Int32), .int (3 : Int32)]) (rest := []) ⟨hx, hb, hml, hown, hts⟩ (m_X10_within l D cy ad h g H.size x1 (0 : Int32) (3 : Int32) P_3 HC_3) (va_cwS 3 hts (gd_S (wm2 193 rfl rfl) (wm2 194 rfl rfl) (wm1 1 rfl rfl) (wm2 195 rfl rfl)) rfl rfl rfl (by decide +kernel) ⟨Nat.le_of_ble_eq_true rfl, Nat.le_of_ble_eq_true rfl⟩) hK hNw hG rfl rfl hl.1 rfl (lv_room (Nat.le_of_ble_eq_true rfl)) dX10_machine_3 ⟨Nat.zero_le _, Nat.zero_le _⟩) hG (fun r_3 h_3 g_3 H locs hz hq hG => ?_)
    replace HW := HW r_3 h_3 g_3 hz hq
    refine lv_if_ne (tgt := 12) hx hb dX10_machine_6 (by decide) (fun c_6 => ?_) (fun c_6 => ?_)
    · replace HW := HW.1 c_6
      refine lv_aload_n hx hb dX10_machine_12 rfl (lv_at hl 0 rfl) ?_
      refine g_getr hx hb hw inG10 hown hK hG gl_0 rfl gk_0 (by decide) 0 (by decide) (by rw [gm_0]; decide) (r := 1) gr_0_0 lk10 dX10_machine_13 ?_
      refine g_getr hx hb hw inG6 hown hK hG gl_1 rfl gk_1 (by decide) 5 (by decide) (by rw [gm_1]; decide) (r := 12) gr_1_5 lk196 dX10_machine_16 ?_
      refine lv_iload_n hx hb dX10_machine_19 rfl (lv_at hl 1 rfl) ?_
      refine lv_iconst (v := 0) hx hb dX10_machine_20 (by decide) ?_
      refine lv_iconst (v := 0) hx hb dX10_machine_21 (by decide) ?_
      refine lv_iconst (v := 0) hx hb dX10_machine_22 (by decide) ?_
      obtain ⟨P_23, HC_23, HW⟩ := HW
      refine g_calli (g_runV (As := [.int x1, .int (0 : Int32), .int (0 : Int32), .int (0 : Int32)]) (rest := []) ⟨hx, hb, hml, hown, hts⟩ (m_X8_add l D cy ad h_3 g_3 H.size 12 (gs_12) x1 (0 : Int32) (0 : Int32) (0 : Int32) P_23 HC_23) (cwV 4 hts (gd_V (wm2 196 rfl rfl) (wm1 53 rfl rfl) (wm1 54 rfl rfl) (wm1 3 rfl rfl) (wm1 55 rfl rfl)) rfl rfl rfl (by decide +kernel) ⟨Nat.le_of_ble_eq_true rfl, Nat.le_of_ble_eq_true rfl⟩) hK hNw hG gl_12 rfl gk_12 (by decide) rfl rfl hl.1 rfl (lv_room (Nat.le_of_ble_eq_true rfl)) dX10_machine_23 ⟨Nat.zero_le _, Nat.zero_le _⟩) hG (fun r_23 h_23 g_23 H locs hq hG => ?_)
      replace HW := HW r_23 h_23 g_23 hq
      exact W.iret (v := r_23) hx hb hr (fun t ht hW => ⟨⟨r_23, (h_23, g_23), rfl, HW, g_B ht hG⟩, hG.2.2.F ht⟩) hG.2.2.2.2 dX10_machine_26
    · replace HW := HW.2 c_6
      refine lv_bipush (v := (-2)) hx hb dX10_machine_9 (by decide) ?_
      exact W.iret (v := (-2 : Int32)) hx hb hr (fun t ht hW => ⟨⟨(-2 : Int32), (h_3, g_3), rfl, HW, g_B ht hG⟩, hG.2.2.F ht⟩) hG.2.2.2.2 dX10_machine_11
  exact E0 _ _ _ hG hl

def w_X10_spare (x1 : Int32) (x2 : Int32) (x3 : Int32) (h : HI) (g : HL) (Q : Int32 → HI → HL → Prop) : Prop :=
  (∃ P_3 : Int32 → HI → HL → Prop, w_X10_within x1 (0 : Int32) (3 : Int32) h g P_3 ∧ ∀ (r_3 : Int32) (h_3 : HI) (g_3 : HL), zb r_3 → P_3 r_3 h_3 g_3 → ((r_3 = 0 → Q (-2 : Int32) h_3 g_3) ∧ (¬ r_3 = 0 → (∃ P_13 : Int32 → HI → HL → Prop, w_X10_within x2 (1 : Int32) (50 : Int32) h_3 g_3 P_13 ∧ ∀ (r_13 : Int32) (h_13 : HI) (g_13 : HL), zb r_13 → P_13 r_13 h_13 g_13 → ((r_13 = 0 → Q (-2 : Int32) h_13 g_13) ∧ (¬ r_13 = 0 → (∃ P_22 : Int32 → HI → HL → Prop, w_X10_within x3 (-1 : Int32) (3 : Int32) h_13 g_13 P_22 ∧ ∀ (r_22 : Int32) (h_22 : HI) (g_22 : HL), zb r_22 → P_22 r_22 h_22 g_22 → ((¬ r_22 = 0 → (∃ P_42 : Int32 → HI → HL → Prop, w_X8_add 14 x1 x2 x3 (0 : Int32) h_22 g_22 P_42 ∧ ∀ (r_42 : Int32) (h_42 : HI) (g_42 : HL), P_42 r_42 h_42 g_42 → Q r_42 h_42 g_42)) ∧ (r_22 = 0 → Q (-2 : Int32) h_22 g_22)))))))))
set_option maxHeartbeats 8000000 in
set_option maxRecDepth 100000 in
theorem m_X10_spare (l : Launch) (D : va_G) (cy : Nat → ClassId) (ad : Nat → Nat) (h : HI) (g : HL) (sz : Nat) (x1 : Int32) (x2 : Int32) (x3 : Int32) (Q : Int32 → HI → HL → Prop) (HW : w_X10_spare x1 x2 x3 h g Q) : Met l yX10_spare (wa yX10_spare cX10_spare 4 (some .int)) ({ frames := 2, cells := 0, slots := 0, locals := 50 }) (va_Pc [.ref (ad 0), .int x1, .int x2, .int x3] (gI D cy ad h g sz)) (va_Qi (fun (r : Int32) (u : HI × HL) => Q r u.1 u.2) (gB D cy ad sz) (gA ad sz)) 0 0 (gA ad sz) := by
  refine Met.ofW (cc := cX10_spare) (maxL := 4) (ret := (some .int)) (by decide) rfl ?_
  intro p e s m args below meth c s₁ B hml hv
  obtain ⟨hav, hsz, hP, hK, hD0, hNw⟩ := hv
  have hx := B.exec
  have hb := B.bytes
  have hr := B.returns
  have hts := atoms_spec (ws := (wa yX10_spare cX10_spare 4 (some .int))) B.pre
  have hw := wa_hw hts
  have hown : s.vm.findClass RX10 = some m.cls := findClass_of_methodNamed B.named
  have hlocks := B.notSynchronized
  subst hsz
  have hG : gG D cy ad (gA ad s.heap.size) s.heap h g s.heap [] := ⟨hP, gA_self hD0, va_S.rf⟩
  clear hP hD0
  have lk10 := hw (.fieldLink RX10 10 "OldWorks" "shop" "LOldWorks$Shop;") (wm2 155 rfl rfl)
  have lk199 := hw (.fieldLink RX10 199 "OldWorks$Shop" "spares" "LOldWorks$Table;") (wm1 82 rfl rfl)
  rw [show (headSpec (wa yX10_spare cX10_spare 4 (some .int)) ({ frames := 2, cells := 0, slots := 0, locals := 50 } : Room)).room = ({ frames := 2, cells := 0, slots := 0, locals := 50 } : Room) from rfl]
  have hl := lv_entry ([.ref (ad 0), .int x1, .int x2, .int x3]) (n := 4) (Nat.le_of_ble_eq_true rfl)
  rw [show entryFrame m args 4 = entryFrame m ([.ref (ad 0), .int x1, .int x2, .int x3] : List Value).toArray 4 from by rw [hav], lg_entry_eq]
  generalize (lg_sl ([.ref (ad 0), .int x1, .int x2, .int x3]) ++ List.replicate (4 - (lg_sl ([.ref (ad 0), .int x1, .int x2, .int x3])).length) Slot.unset).toArray = ls at hl ⊢
  have hl : lv_has ls 4 [(0, .ref (ad 0)), (1, .int x1), (2, .int x2), (3, .int x3)] := hl
  have E0 : ∀ (H : Heap) (locs : List Loc) (ls : Array Slot), gG D cy ad (gA ad s.heap.size) s.heap h g H locs → lv_has ls 4 [(0, .ref (ad 0)), (1, .int x1), (2, .int x2), (3, .int x3)] → W p l e ({ frames := 2, cells := 0, slots := 0, locals := 50 } : Room) s m args below meth c H locs 0 0 (MQ below (va_Qi (fun (r : Int32) (u : HI × HL) => Q r u.1 u.2) (gB D cy ad s.heap.size) (gA ad s.heap.size)) args s 0 0 (gA ad s.heap.size)) (F0 m 0 ls []) := by
    intro H locs ls hG hl
    unfold w_X10_spare at HW
    refine lv_iload_n hx hb dX10_spare_0 rfl (lv_at hl 1 rfl) ?_
    refine lv_iconst (v := 0) hx hb dX10_spare_1 (by decide) ?_
    refine lv_iconst (v := 3) hx hb dX10_spare_2 (by decide) ?_
    obtain ⟨P_3, HC_3, HW⟩ := HW
    refine g_callz (g_runS (As := [.int x1, .int (0 : Int32), .int (3 : Int32)]) (rest := []) ⟨hx, hb, hml, hown, hts⟩ (m_X10_within l D cy ad h g H.size x1 (0 : Int32) (3 : Int32) P_3 HC_3) (va_cwS 3 hts (gd_S (wm2 193 rfl rfl) (wm2 194 rfl rfl) (wm1 1 rfl rfl) (wm2 195 rfl rfl)) rfl rfl rfl (by decide +kernel) ⟨Nat.le_of_ble_eq_true rfl, Nat.le_of_ble_eq_true rfl⟩) hK hNw hG rfl rfl hl.1 rfl (lv_room (Nat.le_of_ble_eq_true rfl)) dX10_spare_3 ⟨Nat.zero_le _, Nat.zero_le _⟩) hG (fun r_3 h_3 g_3 H locs hz hq hG => ?_)
    replace HW := HW r_3 h_3 g_3 hz hq
    refine lv_if_eq (tgt := 28) hx hb dX10_spare_6 (by decide) (fun c_6 => ?_) (fun c_6 => ?_)
    · replace HW := HW.1 c_6
      refine lv_bipush (v := (-2)) hx hb dX10_spare_28 (by decide) ?_
      exact W.iret (v := (-2 : Int32)) hx hb hr (fun t ht hW => ⟨⟨(-2 : Int32), (h_3, g_3), rfl, HW, g_B ht hG⟩, hG.2.2.F ht⟩) hG.2.2.2.2 dX10_spare_30
    · replace HW := HW.2 c_6
      refine lv_iload_n hx hb dX10_spare_9 rfl (lv_at hl 2 rfl) ?_
      refine lv_iconst (v := 1) hx hb dX10_spare_10 (by decide) ?_
      refine lv_bipush (v := 50) hx hb dX10_spare_11 (by decide) ?_
      obtain ⟨P_13, HC_13, HW⟩ := HW
      refine g_callz (g_runS (As := [.int x2, .int (1 : Int32), .int (50 : Int32)]) (rest := []) ⟨hx, hb, hml, hown, hts⟩ (m_X10_within l D cy ad h_3 g_3 H.size x2 (1 : Int32) (50 : Int32) P_13 HC_13) (va_cwS 3 hts (gd_S (wm2 193 rfl rfl) (wm2 194 rfl rfl) (wm1 1 rfl rfl) (wm2 195 rfl rfl)) rfl rfl rfl (by decide +kernel) ⟨Nat.le_of_ble_eq_true rfl, Nat.le_of_ble_eq_true rfl⟩) hK hNw hG rfl rfl hl.1 rfl (lv_room (Nat.le_of_ble_eq_true rfl)) dX10_spare_13 ⟨Nat.zero_le _, Nat.zero_le _⟩) hG (fun r_13 h_13 g_13 H locs hz hq hG => ?_)
      replace HW := HW r_13 h_13 g_13 hz hq
      refine lv_if_eq (tgt := 28) hx hb dX10_spare_16 (by decide) (fun c_16 => ?_) (fun c_16 => ?_)
      · replace HW := HW.1 c_16
        refine lv_bipush (v := (-2)) hx hb dX10_spare_28 (by decide) ?_
        exact W.iret (v := (-2 : Int32)) hx hb hr (fun t ht hW => ⟨⟨(-2 : Int32), (h_13, g_13), rfl, HW, g_B ht hG⟩, hG.2.2.F ht⟩) hG.2.2.2.2 dX10_spare_30
      · replace HW := HW.2 c_16
        refine lv_iload_n hx hb dX10_spare_19 rfl (lv_at hl 3 rfl) ?_
        refine lv_iconst (v := (-1)) hx hb dX10_spare_20 (by decide) ?_
        refine lv_iconst (v := 3) hx hb dX10_spare_21 (by decide) ?_
        obtain ⟨P_22, HC_22, HW⟩ := HW
        refine g_callz (g_runS (As := [.int x3, .int (-1 : Int32), .int (3 : Int32)]) (rest := []) ⟨hx, hb, hml, hown, hts⟩ (m_X10_within l D cy ad h_13 g_13 H.size x3 (-1 : Int32) (3 : Int32) P_22 HC_22) (va_cwS 3 hts (gd_S (wm2 193 rfl rfl) (wm2 194 rfl rfl) (wm1 1 rfl rfl) (wm2 195 rfl rfl)) rfl rfl rfl (by decide +kernel) ⟨Nat.le_of_ble_eq_true rfl, Nat.le_of_ble_eq_true rfl⟩) hK hNw hG rfl rfl hl.1 rfl (lv_room (Nat.le_of_ble_eq_true rfl)) dX10_spare_22 ⟨Nat.zero_le _, Nat.zero_le _⟩) hG (fun r_22 h_22 g_22 H locs hz hq hG => ?_)
        replace HW := HW r_22 h_22 g_22 hz hq
        refine lv_if_ne (tgt := 31) hx hb dX10_spare_25 (by decide) (fun c_25 => ?_) (fun c_25 => ?_)
        · replace HW := HW.1 c_25
          refine lv_aload_n hx hb dX10_spare_31 rfl (lv_at hl 0 rfl) ?_
          refine g_getr hx hb hw inG10 hown hK hG gl_0 rfl gk_0 (by decide) 0 (by decide) (by rw [gm_0]; decide) (r := 1) gr_0_0 lk10 dX10_spare_32 ?_
          refine g_getr hx hb hw inG6 hown hK hG gl_1 rfl gk_1 (by decide) 6 (by decide) (by rw [gm_1]; decide) (r := 14) gr_1_6 lk199 dX10_spare_35 ?_
          refine lv_iload_n hx hb dX10_spare_38 rfl (lv_at hl 1 rfl) ?_
          refine lv_iload_n hx hb dX10_spare_39 rfl (lv_at hl 2 rfl) ?_
          refine lv_iload_n hx hb dX10_spare_40 rfl (lv_at hl 3 rfl) ?_
          refine lv_iconst (v := 0) hx hb dX10_spare_41 (by decide) ?_
          obtain ⟨P_42, HC_42, HW⟩ := HW
          refine g_calli (g_runV (As := [.int x1, .int x2, .int x3, .int (0 : Int32)]) (rest := []) ⟨hx, hb, hml, hown, hts⟩ (m_X8_add l D cy ad h_22 g_22 H.size 14 (gs_14) x1 x2 x3 (0 : Int32) P_42 HC_42) (cwV 4 hts (gd_V (wm2 196 rfl rfl) (wm1 53 rfl rfl) (wm1 54 rfl rfl) (wm1 3 rfl rfl) (wm1 55 rfl rfl)) rfl rfl rfl (by decide +kernel) ⟨Nat.le_of_ble_eq_true rfl, Nat.le_of_ble_eq_true rfl⟩) hK hNw hG gl_14 rfl gk_14 (by decide) rfl rfl hl.1 rfl (lv_room (Nat.le_of_ble_eq_true rfl)) dX10_spare_42 ⟨Nat.zero_le _, Nat.zero_le _⟩) hG (fun r_42 h_42 g_42 H locs hq hG => ?_)
          replace HW := HW r_42 h_42 g_42 hq
          exact W.iret (v := r_42) hx hb hr (fun t ht hW => ⟨⟨r_42, (h_42, g_42), rfl, HW, g_B ht hG⟩, hG.2.2.F ht⟩) hG.2.2.2.2 dX10_spare_45
        · replace HW := HW.2 c_25
          refine lv_bipush (v := (-2)) hx hb dX10_spare_28 (by decide) ?_
          exact W.iret (v := (-2 : Int32)) hx hb hr (fun t ht hW => ⟨⟨(-2 : Int32), (h_22, g_22), rfl, HW, g_B ht hG⟩, hG.2.2.F ht⟩) hG.2.2.2.2 dX10_spare_30
  exact E0 _ _ _ hG hl

def w_X10_scrap  (h : HI) (g : HL) (Q : Int32 → HI → HL → Prop) : Prop :=
  (∃ P_7 : Int32 → HI → HL → Prop, w_X8_rows 12 h g P_7 ∧ ∀ (r_7 : Int32) (h_7 : HI) (g_7 : HL), P_7 r_7 h_7 g_7 → (∃ P_17 : Int32 → HI → HL → Prop, w_X8_rows 14 h_7 g_7 P_17 ∧ ∀ (r_17 : Int32) (h_17 : HI) (g_17 : HL), P_17 r_17 h_17 g_17 → (∀ x1_21 : Int32, x1_21 = (r_7 + r_17) → (∃ P_29 : HI → HL → Prop, w_X8_empty 12 h_17 g_17 P_29 ∧ ∀ (h_29 : HI) (g_29 : HL), P_29 h_29 g_29 → (∃ P_39 : HI → HL → Prop, w_X8_empty 14 h_29 g_29 P_39 ∧ ∀ (h_39 : HI) (g_39 : HL), P_39 h_39 g_39 → Q x1_21 h_39 g_39)))))
set_option maxHeartbeats 8000000 in
set_option maxRecDepth 100000 in
theorem m_X10_scrap (l : Launch) (D : va_G) (cy : Nat → ClassId) (ad : Nat → Nat) (h : HI) (g : HL) (sz : Nat)  (Q : Int32 → HI → HL → Prop) (HW : w_X10_scrap h g Q) : Met l yX10_scrap (wa yX10_scrap cX10_scrap 2 (some .int)) ({ frames := 1, cells := 0, slots := 0, locals := 20 }) (va_Pc [.ref (ad 0)] (gI D cy ad h g sz)) (va_Qi (fun (r : Int32) (u : HI × HL) => Q r u.1 u.2) (gB D cy ad sz) (gA ad sz)) 0 0 (gA ad sz) := by
  refine Met.ofW (cc := cX10_scrap) (maxL := 2) (ret := (some .int)) (by decide) rfl ?_
  intro p e s m args below meth c s₁ B hml hv
  obtain ⟨hav, hsz, hP, hK, hD0, hNw⟩ := hv
  have hx := B.exec
  have hb := B.bytes
  have hr := B.returns
  have hts := atoms_spec (ws := (wa yX10_scrap cX10_scrap 2 (some .int))) B.pre
  have hw := wa_hw hts
  have hown : s.vm.findClass RX10 = some m.cls := findClass_of_methodNamed B.named
  have hlocks := B.notSynchronized
  subst hsz
  have hG : gG D cy ad (gA ad s.heap.size) s.heap h g s.heap [] := ⟨hP, gA_self hD0, va_S.rf⟩
  clear hP hD0
  have lk10 := hw (.fieldLink RX10 10 "OldWorks" "shop" "LOldWorks$Shop;") (wm2 155 rfl rfl)
  have lk196 := hw (.fieldLink RX10 196 "OldWorks$Shop" "machines" "LOldWorks$Table;") (wm1 79 rfl rfl)
  have lk199 := hw (.fieldLink RX10 199 "OldWorks$Shop" "spares" "LOldWorks$Table;") (wm1 82 rfl rfl)
  rw [show (headSpec (wa yX10_scrap cX10_scrap 2 (some .int)) ({ frames := 1, cells := 0, slots := 0, locals := 20 } : Room)).room = ({ frames := 1, cells := 0, slots := 0, locals := 20 } : Room) from rfl]
  have hl := lv_entry ([.ref (ad 0)]) (n := 2) (Nat.le_of_ble_eq_true rfl)
  rw [show entryFrame m args 2 = entryFrame m ([.ref (ad 0)] : List Value).toArray 2 from by rw [hav], lg_entry_eq]
  generalize (lg_sl ([.ref (ad 0)]) ++ List.replicate (2 - (lg_sl ([.ref (ad 0)])).length) Slot.unset).toArray = ls at hl ⊢
  have hl : lv_has ls 2 [(0, .ref (ad 0))] := hl
  have E0 : ∀ (H : Heap) (locs : List Loc) (ls : Array Slot), gG D cy ad (gA ad s.heap.size) s.heap h g H locs → lv_has ls 2 [(0, .ref (ad 0))] → W p l e ({ frames := 1, cells := 0, slots := 0, locals := 20 } : Room) s m args below meth c H locs 0 0 (MQ below (va_Qi (fun (r : Int32) (u : HI × HL) => Q r u.1 u.2) (gB D cy ad s.heap.size) (gA ad s.heap.size)) args s 0 0 (gA ad s.heap.size)) (F0 m 0 ls []) := by
    intro H locs ls hG hl
    unfold w_X10_scrap at HW
    refine lv_aload_n hx hb dX10_scrap_0 rfl (lv_at hl 0 rfl) ?_
    refine g_getr hx hb hw inG10 hown hK hG gl_0 rfl gk_0 (by decide) 0 (by decide) (by rw [gm_0]; decide) (r := 1) gr_0_0 lk10 dX10_scrap_1 ?_
    refine g_getr hx hb hw inG6 hown hK hG gl_1 rfl gk_1 (by decide) 5 (by decide) (by rw [gm_1]; decide) (r := 12) gr_1_5 lk196 dX10_scrap_4 ?_
    obtain ⟨P_7, HC_7, HW⟩ := HW
    refine g_calli (g_runV (As := []) (rest := []) ⟨hx, hb, hml, hown, hts⟩ (m_X8_rows l D cy ad h g H.size 12 (gs_12) P_7 HC_7) (cwV 0 hts (gd_V (wm3 19 rfl rfl) (wm2 217 rfl rfl) (wm2 218 rfl rfl) (wm1 3 rfl rfl) (wm2 219 rfl rfl)) rfl rfl rfl (by decide +kernel) ⟨Nat.le_of_ble_eq_true rfl, Nat.le_of_ble_eq_true rfl⟩) hK hNw hG gl_12 rfl gk_12 (by decide) rfl rfl hl.1 rfl (lv_room (Nat.le_of_ble_eq_true rfl)) dX10_scrap_7 ⟨Nat.zero_le _, Nat.zero_le _⟩) hG (fun r_7 h_7 g_7 H locs hq hG => ?_)
    replace HW := HW r_7 h_7 g_7 hq
    refine lv_aload_n hx hb dX10_scrap_10 rfl (lv_at hl 0 rfl) ?_
    refine g_getr hx hb hw inG10 hown hK hG gl_0 rfl gk_0 (by decide) 0 (by decide) (by rw [gm_0]; decide) (r := 1) gr_0_0 lk10 dX10_scrap_11 ?_
    refine g_getr hx hb hw inG6 hown hK hG gl_1 rfl gk_1 (by decide) 6 (by decide) (by rw [gm_1]; decide) (r := 14) gr_1_6 lk199 dX10_scrap_14 ?_
    obtain ⟨P_17, HC_17, HW⟩ := HW
    refine g_calli (g_runV (As := []) (rest := [.int r_7]) ⟨hx, hb, hml, hown, hts⟩ (m_X8_rows l D cy ad h_7 g_7 H.size 14 (gs_14) P_17 HC_17) (cwV 0 hts (gd_V (wm3 19 rfl rfl) (wm2 217 rfl rfl) (wm2 218 rfl rfl) (wm1 3 rfl rfl) (wm2 219 rfl rfl)) rfl rfl rfl (by decide +kernel) ⟨Nat.le_of_ble_eq_true rfl, Nat.le_of_ble_eq_true rfl⟩) hK hNw hG gl_14 rfl gk_14 (by decide) rfl rfl hl.1 rfl (lv_room (Nat.le_of_ble_eq_true rfl)) dX10_scrap_17 ⟨Nat.zero_le _, Nat.zero_le _⟩) hG (fun r_17 h_17 g_17 H locs hq hG => ?_)
    replace HW := HW r_17 h_17 g_17 hq
    refine lv_iadd hx hb dX10_scrap_20 ?_
    refine lv_topi (fun x1_21 ex1_21 => ?_)
    replace HW := HW x1_21 ex1_21
    refine lv_istore_n (lv' := [(1, .int x1_21), (0, .ref (ad 0))]) hx hb dX10_scrap_21 rfl hl (by decide) rfl (fun ls hl => ?_)
    refine lv_aload_n hx hb dX10_scrap_22 rfl (lv_at hl 1 rfl) ?_
    refine g_getr hx hb hw inG10 hown hK hG gl_0 rfl gk_0 (by decide) 0 (by decide) (by rw [gm_0]; decide) (r := 1) gr_0_0 lk10 dX10_scrap_23 ?_
    refine g_getr hx hb hw inG6 hown hK hG gl_1 rfl gk_1 (by decide) 5 (by decide) (by rw [gm_1]; decide) (r := 12) gr_1_5 lk196 dX10_scrap_26 ?_
    obtain ⟨P_29, HC_29, HW⟩ := HW
    refine g_callv (g_runV (As := []) (rest := []) ⟨hx, hb, hml, hown, hts⟩ (m_X8_empty l D cy ad h_17 g_17 H.size 12 (gs_12) P_29 HC_29) (cwV 0 hts (gd_V (wm3 24 rfl rfl) (wm3 25 rfl rfl) (wm3 26 rfl rfl) (wm1 3 rfl rfl) (wm3 27 rfl rfl)) rfl rfl rfl (by decide +kernel) ⟨Nat.le_of_ble_eq_true rfl, Nat.le_of_ble_eq_true rfl⟩) hK hNw hG gl_12 rfl gk_12 (by decide) rfl rfl hl.1 rfl (lv_room (Nat.le_of_ble_eq_true rfl)) dX10_scrap_29 ⟨Nat.zero_le _, Nat.zero_le _⟩) hG (fun h_29 g_29 H locs hq hG => ?_)
    replace HW := HW h_29 g_29 hq
    refine lv_aload_n hx hb dX10_scrap_32 rfl (lv_at hl 1 rfl) ?_
    refine g_getr hx hb hw inG10 hown hK hG gl_0 rfl gk_0 (by decide) 0 (by decide) (by rw [gm_0]; decide) (r := 1) gr_0_0 lk10 dX10_scrap_33 ?_
    refine g_getr hx hb hw inG6 hown hK hG gl_1 rfl gk_1 (by decide) 6 (by decide) (by rw [gm_1]; decide) (r := 14) gr_1_6 lk199 dX10_scrap_36 ?_
    obtain ⟨P_39, HC_39, HW⟩ := HW
    refine g_callv (g_runV (As := []) (rest := []) ⟨hx, hb, hml, hown, hts⟩ (m_X8_empty l D cy ad h_29 g_29 H.size 14 (gs_14) P_39 HC_39) (cwV 0 hts (gd_V (wm3 24 rfl rfl) (wm3 25 rfl rfl) (wm3 26 rfl rfl) (wm1 3 rfl rfl) (wm3 27 rfl rfl)) rfl rfl rfl (by decide +kernel) ⟨Nat.le_of_ble_eq_true rfl, Nat.le_of_ble_eq_true rfl⟩) hK hNw hG gl_14 rfl gk_14 (by decide) rfl rfl hl.1 rfl (lv_room (Nat.le_of_ble_eq_true rfl)) dX10_scrap_39 ⟨Nat.zero_le _, Nat.zero_le _⟩) hG (fun h_39 g_39 H locs hq hG => ?_)
    replace HW := HW h_39 g_39 hq
    refine lv_iload_n hx hb dX10_scrap_42 rfl (lv_at hl 0 rfl) ?_
    exact W.iret (v := x1_21) hx hb hr (fun t ht hW => ⟨⟨x1_21, (h_39, g_39), rfl, HW, g_B ht hG⟩, hG.2.2.F ht⟩) hG.2.2.2.2 dX10_scrap_43
  exact E0 _ _ _ hG hl

def j_X10_taking_22 (Q : Int32 → HI → HL → Prop) (x1 : Int32) (h : HI) (g : HL) : Prop :=
  (∃ P_26 : HI → HL → Prop, w_X3_find h g P_26 ∧ ∀ (h_26 : HI) (g_26 : HL), P_26 h_26 g_26 → ((¬ x1 = (-1 : Int32) → (∃ P_49 : Int32 → HI → HL → Prop, w_X3_spareOf x1 h_26 g_26 P_49 ∧ ∀ (r_49 : Int32) (h_49 : HI) (g_49 : HL), P_49 r_49 h_49 g_49 → Q r_49 h_49 g_49)) ∧ (x1 = (-1 : Int32) → (∃ P_38 : Int32 → HI → HL → Prop, w_X3_mostYears h_26 g_26 P_38 ∧ ∀ (r_38 : Int32) (h_38 : HI) (g_38 : HL), P_38 r_38 h_38 g_38 → Q r_38 h_38 g_38))))
def w_X10_taking (x1 : Int32) (h : HI) (g : HL) (Q : Int32 → HI → HL → Prop) : Prop :=
  ((x1 = (-1 : Int32) → j_X10_taking_22 Q x1 h g) ∧ (¬ x1 = (-1 : Int32) → (∃ P_13 : Int32 → HI → HL → Prop, w_X8_has 12 x1 h g P_13 ∧ ∀ (r_13 : Int32) (h_13 : HI) (g_13 : HL), zb r_13 → P_13 r_13 h_13 g_13 → ((¬ r_13 = 0 → j_X10_taking_22 Q x1 h_13 g_13) ∧ (r_13 = 0 → Q (-10 : Int32) h_13 g_13)))))
set_option maxHeartbeats 8000000 in
set_option maxRecDepth 100000 in
theorem m_X10_taking (l : Launch) (D : va_G) (cy : Nat → ClassId) (ad : Nat → Nat) (h : HI) (g : HL) (sz : Nat) (x1 : Int32) (Q : Int32 → HI → HL → Prop) (HW : w_X10_taking x1 h g Q) : Met l yX10_taking (wa yX10_taking cX10_taking 2 (some .int)) ({ frames := 4, cells := 0, slots := 0, locals := 95 }) (va_Pc [.ref (ad 0), .int x1] (gI D cy ad h g sz)) (va_Qi (fun (r : Int32) (u : HI × HL) => Q r u.1 u.2) (gB D cy ad sz) (gA ad sz)) 0 0 (gA ad sz) := by
  refine Met.ofW (cc := cX10_taking) (maxL := 2) (ret := (some .int)) (by decide) rfl ?_
  intro p e s m args below meth c s₁ B hml hv
  obtain ⟨hav, hsz, hP, hK, hD0, hNw⟩ := hv
  have hx := B.exec
  have hb := B.bytes
  have hr := B.returns
  have hts := atoms_spec (ws := (wa yX10_taking cX10_taking 2 (some .int))) B.pre
  have hw := wa_hw hts
  have hown : s.vm.findClass RX10 = some m.cls := findClass_of_methodNamed B.named
  have hlocks := B.notSynchronized
  subst hsz
  have hG : gG D cy ad (gA ad s.heap.size) s.heap h g s.heap [] := ⟨hP, gA_self hD0, va_S.rf⟩
  clear hP hD0
  have lk10 := hw (.fieldLink RX10 10 "OldWorks" "shop" "LOldWorks$Shop;") (wm2 155 rfl rfl)
  have lk196 := hw (.fieldLink RX10 196 "OldWorks$Shop" "machines" "LOldWorks$Table;") (wm1 79 rfl rfl)
  have lk63 := hw (.fieldLink RX10 63 "OldWorks" "givings" "LOldWorks$Givings;") (wm2 163 rfl rfl)
  rw [show (headSpec (wa yX10_taking cX10_taking 2 (some .int)) ({ frames := 4, cells := 0, slots := 0, locals := 95 } : Room)).room = ({ frames := 4, cells := 0, slots := 0, locals := 95 } : Room) from rfl]
  have hl := lv_entry ([.ref (ad 0), .int x1]) (n := 2) (Nat.le_of_ble_eq_true rfl)
  rw [show entryFrame m args 2 = entryFrame m ([.ref (ad 0), .int x1] : List Value).toArray 2 from by rw [hav], lg_entry_eq]
  generalize (lg_sl ([.ref (ad 0), .int x1]) ++ List.replicate (2 - (lg_sl ([.ref (ad 0), .int x1])).length) Slot.unset).toArray = ls at hl ⊢
  have hl : lv_has ls 2 [(0, .ref (ad 0)), (1, .int x1)] := hl
  have B22 : ∀ (x1 : Int32) (h : HI) (g : HL) (H : Heap) (locs : List Loc) (ls : Array Slot), j_X10_taking_22 Q x1 h g → gG D cy ad (gA ad s.heap.size) s.heap h g H locs → lv_has ls 2 [(0, .ref (ad 0)), (1, .int x1)] → W p l e ({ frames := 4, cells := 0, slots := 0, locals := 95 } : Room) s m args below meth c H locs 0 0 (MQ below (va_Qi (fun (r : Int32) (u : HI × HL) => Q r u.1 u.2) (gB D cy ad s.heap.size) (gA ad s.heap.size)) args s 0 0 (gA ad s.heap.size)) (F0 m 22 ls []) := by
    intro x1 h g H locs ls HW hG hl
    unfold j_X10_taking_22 at HW
    refine lv_aload_n hx hb dX10_taking_22 rfl (lv_at hl 0 rfl) ?_
    refine g_getr hx hb hw inG10 hown hK hG gl_0 rfl gk_0 (by decide) 8 (by decide) (by rw [gm_0]; decide) (r := 97) gr_0_8 lk63 dX10_taking_23 ?_
    obtain ⟨P_26, HC_26, HW⟩ := HW
    refine g_callv (g_runV (As := []) (rest := []) ⟨hx, hb, hml, hown, hts⟩ (m_X3_find l D cy ad h g H.size  P_26 HC_26) (cwV 0 hts (gd_V (wm3 228 rfl rfl) (wm3 229 rfl rfl) (wm3 230 rfl rfl) (wm1 9 rfl rfl) (wm3 231 rfl rfl)) rfl rfl rfl (by decide +kernel) ⟨Nat.le_of_ble_eq_true rfl, Nat.le_of_ble_eq_true rfl⟩) hK hNw hG gl_97 rfl gk_97 (by decide) rfl rfl hl.1 rfl (lv_room (Nat.le_of_ble_eq_true rfl)) dX10_taking_26 ⟨Nat.zero_le _, Nat.zero_le _⟩) hG (fun h_26 g_26 H locs hq hG => ?_)
    replace HW := HW h_26 g_26 hq
    refine lv_iload_n hx hb dX10_taking_29 rfl (lv_at hl 1 rfl) ?_
    refine lv_iconst (v := (-1)) hx hb dX10_taking_30 (by decide) ?_
    refine lv_icmp_ne (tgt := 44) hx hb dX10_taking_31 (by decide) (fun c_31 => ?_) (fun c_31 => ?_)
    · replace HW := HW.1 c_31
      refine lv_aload_n hx hb dX10_taking_44 rfl (lv_at hl 0 rfl) ?_
      refine g_getr hx hb hw inG10 hown hK hG gl_0 rfl gk_0 (by decide) 8 (by decide) (by rw [gm_0]; decide) (r := 97) gr_0_8 lk63 dX10_taking_45 ?_
      refine lv_iload_n hx hb dX10_taking_48 rfl (lv_at hl 1 rfl) ?_
      obtain ⟨P_49, HC_49, HW⟩ := HW
      refine g_calli (g_runV (As := [.int x1]) (rest := []) ⟨hx, hb, hml, hown, hts⟩ (m_X3_spareOf l D cy ad h_26 g_26 H.size x1 P_49 HC_49) (cwV 1 hts (gd_V (wm4 28 rfl rfl) (wm4 29 rfl rfl) (wm4 30 rfl rfl) (wm1 9 rfl rfl) (wm4 31 rfl rfl)) rfl rfl rfl (by decide +kernel) ⟨Nat.le_of_ble_eq_true rfl, Nat.le_of_ble_eq_true rfl⟩) hK hNw hG gl_97 rfl gk_97 (by decide) rfl rfl hl.1 rfl (lv_room (Nat.le_of_ble_eq_true rfl)) dX10_taking_49 ⟨Nat.zero_le _, Nat.zero_le _⟩) hG (fun r_49 h_49 g_49 H locs hq hG => ?_)
      replace HW := HW r_49 h_49 g_49 hq
      exact W.iret (v := r_49) hx hb hr (fun t ht hW => ⟨⟨r_49, (h_49, g_49), rfl, HW, g_B ht hG⟩, hG.2.2.F ht⟩) hG.2.2.2.2 dX10_taking_52
    · replace HW := HW.2 c_31
      refine lv_aload_n hx hb dX10_taking_34 rfl (lv_at hl 0 rfl) ?_
      refine g_getr hx hb hw inG10 hown hK hG gl_0 rfl gk_0 (by decide) 8 (by decide) (by rw [gm_0]; decide) (r := 97) gr_0_8 lk63 dX10_taking_35 ?_
      obtain ⟨P_38, HC_38, HW⟩ := HW
      refine g_calli (g_runV (As := []) (rest := []) ⟨hx, hb, hml, hown, hts⟩ (m_X3_mostYears l D cy ad h_26 g_26 H.size  P_38 HC_38) (cwV 0 hts (gd_V (wm4 24 rfl rfl) (wm4 25 rfl rfl) (wm4 26 rfl rfl) (wm1 9 rfl rfl) (wm4 27 rfl rfl)) rfl rfl rfl (by decide +kernel) ⟨Nat.le_of_ble_eq_true rfl, Nat.le_of_ble_eq_true rfl⟩) hK hNw hG gl_97 rfl gk_97 (by decide) rfl rfl hl.1 rfl (lv_room (Nat.le_of_ble_eq_true rfl)) dX10_taking_38 ⟨Nat.zero_le _, Nat.zero_le _⟩) hG (fun r_38 h_38 g_38 H locs hq hG => ?_)
      replace HW := HW r_38 h_38 g_38 hq
      refine lv_goto (tgt := 52) hx hb dX10_taking_41 (by decide) ?_
      exact W.iret (v := r_38) hx hb hr (fun t ht hW => ⟨⟨r_38, (h_38, g_38), rfl, HW, g_B ht hG⟩, hG.2.2.F ht⟩) hG.2.2.2.2 dX10_taking_52
  have E0 : ∀ (H : Heap) (locs : List Loc) (ls : Array Slot), gG D cy ad (gA ad s.heap.size) s.heap h g H locs → lv_has ls 2 [(0, .ref (ad 0)), (1, .int x1)] → W p l e ({ frames := 4, cells := 0, slots := 0, locals := 95 } : Room) s m args below meth c H locs 0 0 (MQ below (va_Qi (fun (r : Int32) (u : HI × HL) => Q r u.1 u.2) (gB D cy ad s.heap.size) (gA ad s.heap.size)) args s 0 0 (gA ad s.heap.size)) (F0 m 0 ls []) := by
    intro H locs ls hG hl
    unfold w_X10_taking at HW
    refine lv_iload_n hx hb dX10_taking_0 rfl (lv_at hl 1 rfl) ?_
    refine lv_iconst (v := (-1)) hx hb dX10_taking_1 (by decide) ?_
    refine lv_icmp_eq (tgt := 22) hx hb dX10_taking_2 (by decide) (fun c_2 => ?_) (fun c_2 => ?_)
    · replace HW := HW.1 c_2
      exact B22 x1 h g _ _ _ HW hG (lv_sub hl [0, 1] rfl)
    · replace HW := HW.2 c_2
      refine lv_aload_n hx hb dX10_taking_5 rfl (lv_at hl 0 rfl) ?_
      refine g_getr hx hb hw inG10 hown hK hG gl_0 rfl gk_0 (by decide) 0 (by decide) (by rw [gm_0]; decide) (r := 1) gr_0_0 lk10 dX10_taking_6 ?_
      refine g_getr hx hb hw inG6 hown hK hG gl_1 rfl gk_1 (by decide) 5 (by decide) (by rw [gm_1]; decide) (r := 12) gr_1_5 lk196 dX10_taking_9 ?_
      refine lv_iload_n hx hb dX10_taking_12 rfl (lv_at hl 1 rfl) ?_
      obtain ⟨P_13, HC_13, HW⟩ := HW
      refine g_callz (g_runV (As := [.int x1]) (rest := []) ⟨hx, hb, hml, hown, hts⟩ (m_X8_has l D cy ad h g H.size 12 (gs_12) x1 P_13 HC_13) (cwV 1 hts (gd_V (wm2 201 rfl rfl) (wm2 202 rfl rfl) (wm2 203 rfl rfl) (wm1 3 rfl rfl) (wm2 204 rfl rfl)) rfl rfl rfl (by decide +kernel) ⟨Nat.le_of_ble_eq_true rfl, Nat.le_of_ble_eq_true rfl⟩) hK hNw hG gl_12 rfl gk_12 (by decide) rfl rfl hl.1 rfl (lv_room (Nat.le_of_ble_eq_true rfl)) dX10_taking_13 ⟨Nat.zero_le _, Nat.zero_le _⟩) hG (fun r_13 h_13 g_13 H locs hz hq hG => ?_)
      replace HW := HW r_13 h_13 g_13 hz hq
      refine lv_if_ne (tgt := 22) hx hb dX10_taking_16 (by decide) (fun c_16 => ?_) (fun c_16 => ?_)
      · replace HW := HW.1 c_16
        exact B22 x1 h_13 g_13 _ _ _ HW hG (lv_sub hl [0, 1] rfl)
      · replace HW := HW.2 c_16
        refine lv_bipush (v := (-10)) hx hb dX10_taking_19 (by decide) ?_
        exact W.iret (v := (-10 : Int32)) hx hb hr (fun t ht hW => ⟨⟨(-10 : Int32), (h_13, g_13), rfl, HW, g_B ht hG⟩, hG.2.2.F ht⟩) hG.2.2.2.2 dX10_taking_21
  exact E0 _ _ _ hG hl

def w_X10_odds (x1 : Int32) (x2 : Int32) (h : HI) (g : HL) (Q : Int32 → HI → HL → Prop) : Prop :=
  (∃ P_4 : Int32 → HI → HL → Prop, w_X10_within x1 (0 : Int32) (9 : Int32) h g P_4 ∧ ∀ (r_4 : Int32) (h_4 : HI) (g_4 : HL), zb r_4 → P_4 r_4 h_4 g_4 → ((r_4 = 0 → Q (-2 : Int32) h_4 g_4) ∧ (¬ r_4 = 0 → (∃ P_14 : Int32 → HI → HL → Prop, w_X10_within x2 (0 : Int32) (9 : Int32) h_4 g_4 P_14 ∧ ∀ (r_14 : Int32) (h_14 : HI) (g_14 : HL), zb r_14 → P_14 r_14 h_14 g_14 → ((¬ r_14 = 0 → (∃ P_33 : HI → HL → Prop, w_X8_put 16 (0 : Int32) (0 : Int32) x1 h_14 g_14 P_33 ∧ ∀ (h_33 : HI) (g_33 : HL), P_33 h_33 g_33 → (∃ P_46 : HI → HL → Prop, w_X8_put 16 (0 : Int32) (1 : Int32) x2 h_33 g_33 P_46 ∧ ∀ (h_46 : HI) (g_46 : HL), P_46 h_46 g_46 → Q (1 : Int32) h_46 g_46))) ∧ (r_14 = 0 → Q (-2 : Int32) h_14 g_14))))))
set_option maxHeartbeats 8000000 in
set_option maxRecDepth 100000 in
theorem m_X10_odds (l : Launch) (D : va_G) (cy : Nat → ClassId) (ad : Nat → Nat) (h : HI) (g : HL) (sz : Nat) (x1 : Int32) (x2 : Int32) (Q : Int32 → HI → HL → Prop) (HW : w_X10_odds x1 x2 h g Q) : Met l yX10_odds (wa yX10_odds cX10_odds 3 (some .int)) ({ frames := 1, cells := 0, slots := 0, locals := 24 }) (va_Pc [.ref (ad 0), .int x1, .int x2] (gI D cy ad h g sz)) (va_Qi (fun (r : Int32) (u : HI × HL) => Q r u.1 u.2) (gB D cy ad sz) (gA ad sz)) 0 0 (gA ad sz) := by
  refine Met.ofW (cc := cX10_odds) (maxL := 3) (ret := (some .int)) (by decide) rfl ?_
  intro p e s m args below meth c s₁ B hml hv
  obtain ⟨hav, hsz, hP, hK, hD0, hNw⟩ := hv
  have hx := B.exec
  have hb := B.bytes
  have hr := B.returns
  have hts := atoms_spec (ws := (wa yX10_odds cX10_odds 3 (some .int))) B.pre
  have hw := wa_hw hts
  have hown : s.vm.findClass RX10 = some m.cls := findClass_of_methodNamed B.named
  have hlocks := B.notSynchronized
  subst hsz
  have hG : gG D cy ad (gA ad s.heap.size) s.heap h g s.heap [] := ⟨hP, gA_self hD0, va_S.rf⟩
  clear hP hD0
  have lk10 := hw (.fieldLink RX10 10 "OldWorks" "shop" "LOldWorks$Shop;") (wm2 155 rfl rfl)
  have lk210 := hw (.fieldLink RX10 210 "OldWorks$Shop" "odds" "LOldWorks$Table;") (wm1 85 rfl rfl)
  rw [show (headSpec (wa yX10_odds cX10_odds 3 (some .int)) ({ frames := 1, cells := 0, slots := 0, locals := 24 } : Room)).room = ({ frames := 1, cells := 0, slots := 0, locals := 24 } : Room) from rfl]
  have hl := lv_entry ([.ref (ad 0), .int x1, .int x2]) (n := 3) (Nat.le_of_ble_eq_true rfl)
  rw [show entryFrame m args 3 = entryFrame m ([.ref (ad 0), .int x1, .int x2] : List Value).toArray 3 from by rw [hav], lg_entry_eq]
  generalize (lg_sl ([.ref (ad 0), .int x1, .int x2]) ++ List.replicate (3 - (lg_sl ([.ref (ad 0), .int x1, .int x2])).length) Slot.unset).toArray = ls at hl ⊢
  have hl : lv_has ls 3 [(0, .ref (ad 0)), (1, .int x1), (2, .int x2)] := hl
  have E0 : ∀ (H : Heap) (locs : List Loc) (ls : Array Slot), gG D cy ad (gA ad s.heap.size) s.heap h g H locs → lv_has ls 3 [(0, .ref (ad 0)), (1, .int x1), (2, .int x2)] → W p l e ({ frames := 1, cells := 0, slots := 0, locals := 24 } : Room) s m args below meth c H locs 0 0 (MQ below (va_Qi (fun (r : Int32) (u : HI × HL) => Q r u.1 u.2) (gB D cy ad s.heap.size) (gA ad s.heap.size)) args s 0 0 (gA ad s.heap.size)) (F0 m 0 ls []) := by
    intro H locs ls hG hl
    unfold w_X10_odds at HW
    refine lv_iload_n hx hb dX10_odds_0 rfl (lv_at hl 1 rfl) ?_
    refine lv_iconst (v := 0) hx hb dX10_odds_1 (by decide) ?_
    refine lv_bipush (v := 9) hx hb dX10_odds_2 (by decide) ?_
    obtain ⟨P_4, HC_4, HW⟩ := HW
    refine g_callz (g_runS (As := [.int x1, .int (0 : Int32), .int (9 : Int32)]) (rest := []) ⟨hx, hb, hml, hown, hts⟩ (m_X10_within l D cy ad h g H.size x1 (0 : Int32) (9 : Int32) P_4 HC_4) (va_cwS 3 hts (gd_S (wm2 193 rfl rfl) (wm2 194 rfl rfl) (wm1 1 rfl rfl) (wm2 195 rfl rfl)) rfl rfl rfl (by decide +kernel) ⟨Nat.le_of_ble_eq_true rfl, Nat.le_of_ble_eq_true rfl⟩) hK hNw hG rfl rfl hl.1 rfl (lv_room (Nat.le_of_ble_eq_true rfl)) dX10_odds_4 ⟨Nat.zero_le _, Nat.zero_le _⟩) hG (fun r_4 h_4 g_4 H locs hz hq hG => ?_)
    replace HW := HW r_4 h_4 g_4 hz hq
    refine lv_if_eq (tgt := 20) hx hb dX10_odds_7 (by decide) (fun c_7 => ?_) (fun c_7 => ?_)
    · replace HW := HW.1 c_7
      refine lv_bipush (v := (-2)) hx hb dX10_odds_20 (by decide) ?_
      exact W.iret (v := (-2 : Int32)) hx hb hr (fun t ht hW => ⟨⟨(-2 : Int32), (h_4, g_4), rfl, HW, g_B ht hG⟩, hG.2.2.F ht⟩) hG.2.2.2.2 dX10_odds_22
    · replace HW := HW.2 c_7
      refine lv_iload_n hx hb dX10_odds_10 rfl (lv_at hl 2 rfl) ?_
      refine lv_iconst (v := 0) hx hb dX10_odds_11 (by decide) ?_
      refine lv_bipush (v := 9) hx hb dX10_odds_12 (by decide) ?_
      obtain ⟨P_14, HC_14, HW⟩ := HW
      refine g_callz (g_runS (As := [.int x2, .int (0 : Int32), .int (9 : Int32)]) (rest := []) ⟨hx, hb, hml, hown, hts⟩ (m_X10_within l D cy ad h_4 g_4 H.size x2 (0 : Int32) (9 : Int32) P_14 HC_14) (va_cwS 3 hts (gd_S (wm2 193 rfl rfl) (wm2 194 rfl rfl) (wm1 1 rfl rfl) (wm2 195 rfl rfl)) rfl rfl rfl (by decide +kernel) ⟨Nat.le_of_ble_eq_true rfl, Nat.le_of_ble_eq_true rfl⟩) hK hNw hG rfl rfl hl.1 rfl (lv_room (Nat.le_of_ble_eq_true rfl)) dX10_odds_14 ⟨Nat.zero_le _, Nat.zero_le _⟩) hG (fun r_14 h_14 g_14 H locs hz hq hG => ?_)
      replace HW := HW r_14 h_14 g_14 hz hq
      refine lv_if_ne (tgt := 23) hx hb dX10_odds_17 (by decide) (fun c_17 => ?_) (fun c_17 => ?_)
      · replace HW := HW.1 c_17
        refine lv_aload_n hx hb dX10_odds_23 rfl (lv_at hl 0 rfl) ?_
        refine g_getr hx hb hw inG10 hown hK hG gl_0 rfl gk_0 (by decide) 0 (by decide) (by rw [gm_0]; decide) (r := 1) gr_0_0 lk10 dX10_odds_24 ?_
        refine g_getr hx hb hw inG6 hown hK hG gl_1 rfl gk_1 (by decide) 7 (by decide) (by rw [gm_1]; decide) (r := 16) gr_1_7 lk210 dX10_odds_27 ?_
        refine lv_iconst (v := 0) hx hb dX10_odds_30 (by decide) ?_
        refine lv_iconst (v := 0) hx hb dX10_odds_31 (by decide) ?_
        refine lv_iload_n hx hb dX10_odds_32 rfl (lv_at hl 1 rfl) ?_
        obtain ⟨P_33, HC_33, HW⟩ := HW
        refine g_callv (g_runV (As := [.int (0 : Int32), .int (0 : Int32), .int x1]) (rest := []) ⟨hx, hb, hml, hown, hts⟩ (m_X8_put l D cy ad h_14 g_14 H.size 16 (gs_16) (0 : Int32) (0 : Int32) x1 P_33 HC_33) (cwV 3 hts (gd_V (wm2 207 rfl rfl) (wm1 57 rfl rfl) (wm1 58 rfl rfl) (wm1 3 rfl rfl) (wm1 59 rfl rfl)) rfl rfl rfl (by decide +kernel) ⟨Nat.le_of_ble_eq_true rfl, Nat.le_of_ble_eq_true rfl⟩) hK hNw hG gl_16 rfl gk_16 (by decide) rfl rfl hl.1 rfl (lv_room (Nat.le_of_ble_eq_true rfl)) dX10_odds_33 ⟨Nat.zero_le _, Nat.zero_le _⟩) hG (fun h_33 g_33 H locs hq hG => ?_)
        replace HW := HW h_33 g_33 hq
        refine lv_aload_n hx hb dX10_odds_36 rfl (lv_at hl 0 rfl) ?_
        refine g_getr hx hb hw inG10 hown hK hG gl_0 rfl gk_0 (by decide) 0 (by decide) (by rw [gm_0]; decide) (r := 1) gr_0_0 lk10 dX10_odds_37 ?_
        refine g_getr hx hb hw inG6 hown hK hG gl_1 rfl gk_1 (by decide) 7 (by decide) (by rw [gm_1]; decide) (r := 16) gr_1_7 lk210 dX10_odds_40 ?_
        refine lv_iconst (v := 0) hx hb dX10_odds_43 (by decide) ?_
        refine lv_iconst (v := 1) hx hb dX10_odds_44 (by decide) ?_
        refine lv_iload_n hx hb dX10_odds_45 rfl (lv_at hl 2 rfl) ?_
        obtain ⟨P_46, HC_46, HW⟩ := HW
        refine g_callv (g_runV (As := [.int (0 : Int32), .int (1 : Int32), .int x2]) (rest := []) ⟨hx, hb, hml, hown, hts⟩ (m_X8_put l D cy ad h_33 g_33 H.size 16 (gs_16) (0 : Int32) (1 : Int32) x2 P_46 HC_46) (cwV 3 hts (gd_V (wm2 207 rfl rfl) (wm1 57 rfl rfl) (wm1 58 rfl rfl) (wm1 3 rfl rfl) (wm1 59 rfl rfl)) rfl rfl rfl (by decide +kernel) ⟨Nat.le_of_ble_eq_true rfl, Nat.le_of_ble_eq_true rfl⟩) hK hNw hG gl_16 rfl gk_16 (by decide) rfl rfl hl.1 rfl (lv_room (Nat.le_of_ble_eq_true rfl)) dX10_odds_46 ⟨Nat.zero_le _, Nat.zero_le _⟩) hG (fun h_46 g_46 H locs hq hG => ?_)
        replace HW := HW h_46 g_46 hq
        refine lv_iconst (v := 1) hx hb dX10_odds_49 (by decide) ?_
        exact W.iret (v := (1 : Int32)) hx hb hr (fun t ht hW => ⟨⟨(1 : Int32), (h_46, g_46), rfl, HW, g_B ht hG⟩, hG.2.2.F ht⟩) hG.2.2.2.2 dX10_odds_50
      · replace HW := HW.2 c_17
        refine lv_bipush (v := (-2)) hx hb dX10_odds_20 (by decide) ?_
        exact W.iret (v := (-2 : Int32)) hx hb hr (fun t ht hW => ⟨⟨(-2 : Int32), (h_14, g_14), rfl, HW, g_B ht hG⟩, hG.2.2.F ht⟩) hG.2.2.2.2 dX10_odds_22
  exact E0 _ _ _ hG hl

def w_X10_lasts (x1 : Int32) (x2 : Int32) (h : HI) (g : HL) (Q : Int32 → HI → HL → Prop) : Prop :=
  (∃ P_8 : Int32 → HI → HL → Prop, w_X8_has 2 x1 h g P_8 ∧ ∀ (r_8 : Int32) (h_8 : HI) (g_8 : HL), zb r_8 → P_8 r_8 h_8 g_8 → ((r_8 = 0 → Q (-2 : Int32) h_8 g_8) ∧ (¬ r_8 = 0 → (∃ P_18 : Int32 → HI → HL → Prop, w_X10_within x2 (0 : Int32) (60 : Int32) h_8 g_8 P_18 ∧ ∀ (r_18 : Int32) (h_18 : HI) (g_18 : HL), zb r_18 → P_18 r_18 h_18 g_18 → ((¬ r_18 = 0 → (∃ P_33 : HI → HL → Prop, w_X1_last x1 x2 h_18 g_18 P_33 ∧ ∀ (h_33 : HI) (g_33 : HL), P_33 h_33 g_33 → Q (1 : Int32) h_33 g_33)) ∧ (r_18 = 0 → Q (-2 : Int32) h_18 g_18))))))
set_option maxHeartbeats 8000000 in
set_option maxRecDepth 100000 in
theorem m_X10_lasts (l : Launch) (D : va_G) (cy : Nat → ClassId) (ad : Nat → Nat) (h : HI) (g : HL) (sz : Nat) (x1 : Int32) (x2 : Int32) (Q : Int32 → HI → HL → Prop) (HW : w_X10_lasts x1 x2 h g Q) : Met l yX10_lasts (wa yX10_lasts cX10_lasts 3 (some .int)) ({ frames := 3, cells := 0, slots := 0, locals := 79 }) (va_Pc [.ref (ad 0), .int x1, .int x2] (gI D cy ad h g sz)) (va_Qi (fun (r : Int32) (u : HI × HL) => Q r u.1 u.2) (gB D cy ad sz) (gA ad sz)) 0 0 (gA ad sz) := by
  refine Met.ofW (cc := cX10_lasts) (maxL := 3) (ret := (some .int)) (by decide) rfl ?_
  intro p e s m args below meth c s₁ B hml hv
  obtain ⟨hav, hsz, hP, hK, hD0, hNw⟩ := hv
  have hx := B.exec
  have hb := B.bytes
  have hr := B.returns
  have hts := atoms_spec (ws := (wa yX10_lasts cX10_lasts 3 (some .int))) B.pre
  have hw := wa_hw hts
  have hown : s.vm.findClass RX10 = some m.cls := findClass_of_methodNamed B.named
  have hlocks := B.notSynchronized
  subst hsz
  have hG : gG D cy ad (gA ad s.heap.size) s.heap h g s.heap [] := ⟨hP, gA_self hD0, va_S.rf⟩
  clear hP hD0
  have lk10 := hw (.fieldLink RX10 10 "OldWorks" "shop" "LOldWorks$Shop;") (wm2 155 rfl rfl)
  have lk85 := hw (.fieldLink RX10 85 "OldWorks$Shop" "parts" "LOldWorks$Table;") (wm1 62 rfl rfl)
  have lk70 := hw (.fieldLink RX10 70 "OldWorks" "breaks" "LOldWorks$Breaks;") (wm2 164 rfl rfl)
  rw [show (headSpec (wa yX10_lasts cX10_lasts 3 (some .int)) ({ frames := 3, cells := 0, slots := 0, locals := 79 } : Room)).room = ({ frames := 3, cells := 0, slots := 0, locals := 79 } : Room) from rfl]
  have hl := lv_entry ([.ref (ad 0), .int x1, .int x2]) (n := 3) (Nat.le_of_ble_eq_true rfl)
  rw [show entryFrame m args 3 = entryFrame m ([.ref (ad 0), .int x1, .int x2] : List Value).toArray 3 from by rw [hav], lg_entry_eq]
  generalize (lg_sl ([.ref (ad 0), .int x1, .int x2]) ++ List.replicate (3 - (lg_sl ([.ref (ad 0), .int x1, .int x2])).length) Slot.unset).toArray = ls at hl ⊢
  have hl : lv_has ls 3 [(0, .ref (ad 0)), (1, .int x1), (2, .int x2)] := hl
  have E0 : ∀ (H : Heap) (locs : List Loc) (ls : Array Slot), gG D cy ad (gA ad s.heap.size) s.heap h g H locs → lv_has ls 3 [(0, .ref (ad 0)), (1, .int x1), (2, .int x2)] → W p l e ({ frames := 3, cells := 0, slots := 0, locals := 79 } : Room) s m args below meth c H locs 0 0 (MQ below (va_Qi (fun (r : Int32) (u : HI × HL) => Q r u.1 u.2) (gB D cy ad s.heap.size) (gA ad s.heap.size)) args s 0 0 (gA ad s.heap.size)) (F0 m 0 ls []) := by
    intro H locs ls hG hl
    unfold w_X10_lasts at HW
    refine lv_aload_n hx hb dX10_lasts_0 rfl (lv_at hl 0 rfl) ?_
    refine g_getr hx hb hw inG10 hown hK hG gl_0 rfl gk_0 (by decide) 0 (by decide) (by rw [gm_0]; decide) (r := 1) gr_0_0 lk10 dX10_lasts_1 ?_
    refine g_getr hx hb hw inG6 hown hK hG gl_1 rfl gk_1 (by decide) 0 (by decide) (by rw [gm_1]; decide) (r := 2) gr_1_0 lk85 dX10_lasts_4 ?_
    refine lv_iload_n hx hb dX10_lasts_7 rfl (lv_at hl 1 rfl) ?_
    obtain ⟨P_8, HC_8, HW⟩ := HW
    refine g_callz (g_runV (As := [.int x1]) (rest := []) ⟨hx, hb, hml, hown, hts⟩ (m_X8_has l D cy ad h g H.size 2 (gs_2) x1 P_8 HC_8) (cwV 1 hts (gd_V (wm2 201 rfl rfl) (wm2 202 rfl rfl) (wm2 203 rfl rfl) (wm1 3 rfl rfl) (wm2 204 rfl rfl)) rfl rfl rfl (by decide +kernel) ⟨Nat.le_of_ble_eq_true rfl, Nat.le_of_ble_eq_true rfl⟩) hK hNw hG gl_2 rfl gk_2 (by decide) rfl rfl hl.1 rfl (lv_room (Nat.le_of_ble_eq_true rfl)) dX10_lasts_8 ⟨Nat.zero_le _, Nat.zero_le _⟩) hG (fun r_8 h_8 g_8 H locs hz hq hG => ?_)
    replace HW := HW r_8 h_8 g_8 hz hq
    refine lv_if_eq (tgt := 24) hx hb dX10_lasts_11 (by decide) (fun c_11 => ?_) (fun c_11 => ?_)
    · replace HW := HW.1 c_11
      refine lv_bipush (v := (-2)) hx hb dX10_lasts_24 (by decide) ?_
      exact W.iret (v := (-2 : Int32)) hx hb hr (fun t ht hW => ⟨⟨(-2 : Int32), (h_8, g_8), rfl, HW, g_B ht hG⟩, hG.2.2.F ht⟩) hG.2.2.2.2 dX10_lasts_26
    · replace HW := HW.2 c_11
      refine lv_iload_n hx hb dX10_lasts_14 rfl (lv_at hl 2 rfl) ?_
      refine lv_iconst (v := 0) hx hb dX10_lasts_15 (by decide) ?_
      refine lv_bipush (v := 60) hx hb dX10_lasts_16 (by decide) ?_
      obtain ⟨P_18, HC_18, HW⟩ := HW
      refine g_callz (g_runS (As := [.int x2, .int (0 : Int32), .int (60 : Int32)]) (rest := []) ⟨hx, hb, hml, hown, hts⟩ (m_X10_within l D cy ad h_8 g_8 H.size x2 (0 : Int32) (60 : Int32) P_18 HC_18) (va_cwS 3 hts (gd_S (wm2 193 rfl rfl) (wm2 194 rfl rfl) (wm1 1 rfl rfl) (wm2 195 rfl rfl)) rfl rfl rfl (by decide +kernel) ⟨Nat.le_of_ble_eq_true rfl, Nat.le_of_ble_eq_true rfl⟩) hK hNw hG rfl rfl hl.1 rfl (lv_room (Nat.le_of_ble_eq_true rfl)) dX10_lasts_18 ⟨Nat.zero_le _, Nat.zero_le _⟩) hG (fun r_18 h_18 g_18 H locs hz hq hG => ?_)
      replace HW := HW r_18 h_18 g_18 hz hq
      refine lv_if_ne (tgt := 27) hx hb dX10_lasts_21 (by decide) (fun c_21 => ?_) (fun c_21 => ?_)
      · replace HW := HW.1 c_21
        refine lv_aload_n hx hb dX10_lasts_27 rfl (lv_at hl 0 rfl) ?_
        refine g_getr hx hb hw inG10 hown hK hG gl_0 rfl gk_0 (by decide) 9 (by decide) (by rw [gm_0]; decide) (r := 109) gr_0_9 lk70 dX10_lasts_28 ?_
        refine lv_iload_n hx hb dX10_lasts_31 rfl (lv_at hl 1 rfl) ?_
        refine lv_iload_n hx hb dX10_lasts_32 rfl (lv_at hl 2 rfl) ?_
        obtain ⟨P_33, HC_33, HW⟩ := HW
        refine g_callv (g_runV (As := [.int x1, .int x2]) (rest := []) ⟨hx, hb, hml, hown, hts⟩ (m_X1_last l D cy ad h_18 g_18 H.size x1 x2 P_33 HC_33) (cwV 2 hts (gd_V (wm4 45 rfl rfl) (wm4 46 rfl rfl) (wm4 47 rfl rfl) (wm1 10 rfl rfl) (wm4 48 rfl rfl)) rfl rfl rfl (by decide +kernel) ⟨Nat.le_of_ble_eq_true rfl, Nat.le_of_ble_eq_true rfl⟩) hK hNw hG gl_109 rfl gk_109 (by decide) rfl rfl hl.1 rfl (lv_room (Nat.le_of_ble_eq_true rfl)) dX10_lasts_33 ⟨Nat.zero_le _, Nat.zero_le _⟩) hG (fun h_33 g_33 H locs hq hG => ?_)
        replace HW := HW h_33 g_33 hq
        refine lv_iconst (v := 1) hx hb dX10_lasts_36 (by decide) ?_
        exact W.iret (v := (1 : Int32)) hx hb hr (fun t ht hW => ⟨⟨(1 : Int32), (h_33, g_33), rfl, HW, g_B ht hG⟩, hG.2.2.F ht⟩) hG.2.2.2.2 dX10_lasts_37
      · replace HW := HW.2 c_21
        refine lv_bipush (v := (-2)) hx hb dX10_lasts_24 (by decide) ?_
        exact W.iret (v := (-2 : Int32)) hx hb hr (fun t ht hW => ⟨⟨(-2 : Int32), (h_18, g_18), rfl, HW, g_B ht hG⟩, hG.2.2.F ht⟩) hG.2.2.2.2 dX10_lasts_26
  exact E0 _ _ _ hG hl

def w_X10_half (x1 : Int32) (h : HI) (g : HL) (Q : Int32 → HI → HL → Prop) : Prop :=
  (∃ P_8 : Int32 → HI → HL → Prop, w_X8_has 2 x1 h g P_8 ∧ ∀ (r_8 : Int32) (h_8 : HI) (g_8 : HL), zb r_8 → P_8 r_8 h_8 g_8 → ((¬ r_8 = 0 → (∃ P_22 : Int32 → HI → HL → Prop, w_X1_halved x1 h_8 g_8 P_22 ∧ ∀ (r_22 : Int32) (h_22 : HI) (g_22 : HL), P_22 r_22 h_22 g_22 → Q r_22 h_22 g_22)) ∧ (r_8 = 0 → Q (-2 : Int32) h_8 g_8)))
set_option maxHeartbeats 8000000 in
set_option maxRecDepth 100000 in
theorem m_X10_half (l : Launch) (D : va_G) (cy : Nat → ClassId) (ad : Nat → Nat) (h : HI) (g : HL) (sz : Nat) (x1 : Int32) (Q : Int32 → HI → HL → Prop) (HW : w_X10_half x1 h g Q) : Met l yX10_half (wa yX10_half cX10_half 2 (some .int)) ({ frames := 3, cells := 0, slots := 0, locals := 78 }) (va_Pc [.ref (ad 0), .int x1] (gI D cy ad h g sz)) (va_Qi (fun (r : Int32) (u : HI × HL) => Q r u.1 u.2) (gB D cy ad sz) (gA ad sz)) 0 0 (gA ad sz) := by
  refine Met.ofW (cc := cX10_half) (maxL := 2) (ret := (some .int)) (by decide) rfl ?_
  intro p e s m args below meth c s₁ B hml hv
  obtain ⟨hav, hsz, hP, hK, hD0, hNw⟩ := hv
  have hx := B.exec
  have hb := B.bytes
  have hr := B.returns
  have hts := atoms_spec (ws := (wa yX10_half cX10_half 2 (some .int))) B.pre
  have hw := wa_hw hts
  have hown : s.vm.findClass RX10 = some m.cls := findClass_of_methodNamed B.named
  have hlocks := B.notSynchronized
  subst hsz
  have hG : gG D cy ad (gA ad s.heap.size) s.heap h g s.heap [] := ⟨hP, gA_self hD0, va_S.rf⟩
  clear hP hD0
  have lk10 := hw (.fieldLink RX10 10 "OldWorks" "shop" "LOldWorks$Shop;") (wm2 155 rfl rfl)
  have lk85 := hw (.fieldLink RX10 85 "OldWorks$Shop" "parts" "LOldWorks$Table;") (wm1 62 rfl rfl)
  have lk70 := hw (.fieldLink RX10 70 "OldWorks" "breaks" "LOldWorks$Breaks;") (wm2 164 rfl rfl)
  rw [show (headSpec (wa yX10_half cX10_half 2 (some .int)) ({ frames := 3, cells := 0, slots := 0, locals := 78 } : Room)).room = ({ frames := 3, cells := 0, slots := 0, locals := 78 } : Room) from rfl]
  have hl := lv_entry ([.ref (ad 0), .int x1]) (n := 2) (Nat.le_of_ble_eq_true rfl)
  rw [show entryFrame m args 2 = entryFrame m ([.ref (ad 0), .int x1] : List Value).toArray 2 from by rw [hav], lg_entry_eq]
  generalize (lg_sl ([.ref (ad 0), .int x1]) ++ List.replicate (2 - (lg_sl ([.ref (ad 0), .int x1])).length) Slot.unset).toArray = ls at hl ⊢
  have hl : lv_has ls 2 [(0, .ref (ad 0)), (1, .int x1)] := hl
  have E0 : ∀ (H : Heap) (locs : List Loc) (ls : Array Slot), gG D cy ad (gA ad s.heap.size) s.heap h g H locs → lv_has ls 2 [(0, .ref (ad 0)), (1, .int x1)] → W p l e ({ frames := 3, cells := 0, slots := 0, locals := 78 } : Room) s m args below meth c H locs 0 0 (MQ below (va_Qi (fun (r : Int32) (u : HI × HL) => Q r u.1 u.2) (gB D cy ad s.heap.size) (gA ad s.heap.size)) args s 0 0 (gA ad s.heap.size)) (F0 m 0 ls []) := by
    intro H locs ls hG hl
    unfold w_X10_half at HW
    refine lv_aload_n hx hb dX10_half_0 rfl (lv_at hl 0 rfl) ?_
    refine g_getr hx hb hw inG10 hown hK hG gl_0 rfl gk_0 (by decide) 0 (by decide) (by rw [gm_0]; decide) (r := 1) gr_0_0 lk10 dX10_half_1 ?_
    refine g_getr hx hb hw inG6 hown hK hG gl_1 rfl gk_1 (by decide) 0 (by decide) (by rw [gm_1]; decide) (r := 2) gr_1_0 lk85 dX10_half_4 ?_
    refine lv_iload_n hx hb dX10_half_7 rfl (lv_at hl 1 rfl) ?_
    obtain ⟨P_8, HC_8, HW⟩ := HW
    refine g_callz (g_runV (As := [.int x1]) (rest := []) ⟨hx, hb, hml, hown, hts⟩ (m_X8_has l D cy ad h g H.size 2 (gs_2) x1 P_8 HC_8) (cwV 1 hts (gd_V (wm2 201 rfl rfl) (wm2 202 rfl rfl) (wm2 203 rfl rfl) (wm1 3 rfl rfl) (wm2 204 rfl rfl)) rfl rfl rfl (by decide +kernel) ⟨Nat.le_of_ble_eq_true rfl, Nat.le_of_ble_eq_true rfl⟩) hK hNw hG gl_2 rfl gk_2 (by decide) rfl rfl hl.1 rfl (lv_room (Nat.le_of_ble_eq_true rfl)) dX10_half_8 ⟨Nat.zero_le _, Nat.zero_le _⟩) hG (fun r_8 h_8 g_8 H locs hz hq hG => ?_)
    replace HW := HW r_8 h_8 g_8 hz hq
    refine lv_if_ne (tgt := 17) hx hb dX10_half_11 (by decide) (fun c_11 => ?_) (fun c_11 => ?_)
    · replace HW := HW.1 c_11
      refine lv_aload_n hx hb dX10_half_17 rfl (lv_at hl 0 rfl) ?_
      refine g_getr hx hb hw inG10 hown hK hG gl_0 rfl gk_0 (by decide) 9 (by decide) (by rw [gm_0]; decide) (r := 109) gr_0_9 lk70 dX10_half_18 ?_
      refine lv_iload_n hx hb dX10_half_21 rfl (lv_at hl 1 rfl) ?_
      obtain ⟨P_22, HC_22, HW⟩ := HW
      refine g_calli (g_runV (As := [.int x1]) (rest := []) ⟨hx, hb, hml, hown, hts⟩ (m_X1_halved l D cy ad h_8 g_8 H.size x1 P_22 HC_22) (cwV 1 hts (gd_V (wm4 72 rfl rfl) (wm4 73 rfl rfl) (wm4 74 rfl rfl) (wm1 10 rfl rfl) (wm4 75 rfl rfl)) rfl rfl rfl (by decide +kernel) ⟨Nat.le_of_ble_eq_true rfl, Nat.le_of_ble_eq_true rfl⟩) hK hNw hG gl_109 rfl gk_109 (by decide) rfl rfl hl.1 rfl (lv_room (Nat.le_of_ble_eq_true rfl)) dX10_half_22 ⟨Nat.zero_le _, Nat.zero_le _⟩) hG (fun r_22 h_22 g_22 H locs hq hG => ?_)
      replace HW := HW r_22 h_22 g_22 hq
      exact W.iret (v := r_22) hx hb hr (fun t ht hW => ⟨⟨r_22, (h_22, g_22), rfl, HW, g_B ht hG⟩, hG.2.2.F ht⟩) hG.2.2.2.2 dX10_half_25
    · replace HW := HW.2 c_11
      refine lv_bipush (v := (-2)) hx hb dX10_half_14 (by decide) ?_
      exact W.iret (v := (-2 : Int32)) hx hb hr (fun t ht hW => ⟨⟨(-2 : Int32), (h_8, g_8), rfl, HW, g_B ht hG⟩, hG.2.2.F ht⟩) hG.2.2.2.2 dX10_half_16
  exact E0 _ _ _ hG hl
end
