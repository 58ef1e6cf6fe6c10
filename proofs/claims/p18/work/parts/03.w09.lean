def j_X9_look_131 (Q : HI → HL → Prop) (x2 : Int32) (x5 : Int32) (h : HI) (g : HL) : Prop :=
  (∀ h_137 : HI, h_137 = hu h 89 5 (x5 / (32768 : Int32)) → (∀ h_146 : HI, h_146 = hu h_137 89 4 (x5 - x5 / (32768 : Int32) * (32768 : Int32)) → (∀ h_151 : HI, h_151 = hu h_146 89 6 x2 → Q h_151 g)))
def j_X9_look_104 (Q : HI → HL → Prop) (x2 : Int32) (x5 : Int32) (h : HI) (g : HL) : Prop :=
  ((x5 = (-1 : Int32) → Q h g) ∧ (¬ x5 = (-1 : Int32) → (((h 89 5) = (-1 : Int32) → j_X9_look_131 Q x2 x5 h g) ∧ (¬ (h 89 5) = (-1 : Int32) → (((x5 / (32768 : Int32)) < (h 89 5) → j_X9_look_131 Q x2 x5 h g) ∧ (¬ (x5 / (32768 : Int32)) < (h 89 5) → Q h g))))))
def j_X9_look_98 (Q : HI → HL → Prop) (K16 : Int32 → Int32 → Int32 → Int32 → Int32 → Int32 → HI → HL → Prop) (x1 : Int32) (x2 : Int32) (x3 : Int32) (x4 : Int32) (x5 : Int32) (x6 : Int32) (h : HI) (g : HL) : Prop :=
  (∀ x6_98 : Int32, x6_98 = (x6 + 1) → K16 x1 x2 x3 x4 x5 x6_98 h g)
def j_X9_look_94 (Q : HI → HL → Prop) (K16 : Int32 → Int32 → Int32 → Int32 → Int32 → Int32 → HI → HL → Prop) (x1 : Int32) (x2 : Int32) (x3 : Int32) (x4 : Int32) (x6 : Int32) (x8 : Int32) (h : HI) (g : HL) : Prop :=
  j_X9_look_98 Q K16 x1 x2 x3 x4 x8 x6 h g
def b_X9_look_16 (Q : HI → HL → Prop) (K16 : Int32 → Int32 → Int32 → Int32 → Int32 → Int32 → HI → HL → Prop) (x1 : Int32) (x2 : Int32) (x3 : Int32) (x4 : Int32) (x5 : Int32) (x6 : Int32) (h : HI) (g : HL) : Prop :=
  (vp_in x1 2 ∧ (((h 96 x1.toNatClampNeg) ≤ x6 → j_X9_look_104 Q x2 x5 h g) ∧ (¬ (h 96 x1.toNatClampNeg) ≤ x6 → (((3000 : Int32) ≤ x6 → j_X9_look_104 Q x2 x5 h g) ∧ (¬ (3000 : Int32) ≤ x6 → (vp_in x1 2 ∧ (vp_in x6 3000 ∧ (∀ x7_44 : Int32, x7_44 = (h (94 + x1.toNatClampNeg) x6.toNatClampNeg) → (∃ P_61 : Int32 → HI → HL → Prop, w_X10_within x7_44 (if x3 < (1 : Int32) then (1 : Int32) else x3) (if (3000 : Int32) < x4 then (3000 : Int32) else x4) h g P_61 ∧ ∀ (r_61 : Int32) (h_61 : HI) (g_61 : HL), zb r_61 → P_61 r_61 h_61 g_61 → ((¬ r_61 = 0 → (vp_in x1 2 ∧ (vp_in x7_44 3001 ∧ (∀ x8_79 : Int32, x8_79 = (h_61 (91 + x1.toNatClampNeg) x7_44.toNatClampNeg) → ((x5 = (-1 : Int32) → j_X9_look_94 Q K16 x1 x2 x3 x4 x6 x8_79 h_61 g_61) ∧ (¬ x5 = (-1 : Int32) → ((x5 ≤ x8_79 → j_X9_look_98 Q K16 x1 x2 x3 x4 x5 x6 h_61 g_61) ∧ (¬ x5 ≤ x8_79 → j_X9_look_94 Q K16 x1 x2 x3 x4 x6 x8_79 h_61 g_61)))))))) ∧ (r_61 = 0 → j_X9_look_98 Q K16 x1 x2 x3 x4 x5 x6 h_61 g_61)))))))))))
def F_X9_look_16 (Q : HI → HL → Prop) (K : Int32 × Int32 × Int32 × Int32 × Int32 × Int32 × HI × HL → Prop) (q : Int32 × Int32 × Int32 × Int32 × Int32 × Int32 × HI × HL) : Prop := b_X9_look_16 Q (fun x1 x2 x3 x4 x5 x6 h g => K (x1, x2, x3, x4, x5, x6, h, g)) q.1 q.2.1 q.2.2.1 q.2.2.2.1 q.2.2.2.2.1 q.2.2.2.2.2.1 q.2.2.2.2.2.2.1 q.2.2.2.2.2.2.2
def w_X9_look (x1 : Int32) (x2 : Int32) (x3 : Int32) (x4 : Int32) (h : HI) (g : HL) (Q : HI → HL → Prop) : Prop :=
  (∃ P_3 : Int32 → HI → HL → Prop, w_X10_within x1 (0 : Int32) (1 : Int32) h g P_3 ∧ ∀ (r_3 : Int32) (h_3 : HI) (g_3 : HL), zb r_3 → P_3 r_3 h_3 g_3 → ((¬ r_3 = 0 → lpE (F_X9_look_16 Q) (x1, x2, x3, x4, (-1 : Int32), (0 : Int32), h_3, g_3)) ∧ (r_3 = 0 → Q h_3 g_3)))
set_option maxHeartbeats 8000000 in
set_option maxRecDepth 100000 in
theorem m_X9_look (l : Launch) (D : va_G) (cy : Nat → ClassId) (ad : Nat → Nat) (h : HI) (g : HL) (sz : Nat) (x1 : Int32) (x2 : Int32) (x3 : Int32) (x4 : Int32) (Q : HI → HL → Prop) (HW : w_X9_look x1 x2 x3 x4 h g Q) : Met l yX9_look (wa yX9_look cX9_look 9 none) ({ frames := 1, cells := 0, slots := 0, locals := 32 }) (va_Pc [.ref (ad 89), .int x1, .int x2, .int x3, .int x4] (gI D cy ad h g sz)) (va_Qv (fun (u : HI × HL) => Q u.1 u.2) (gB D cy ad sz) (gA ad sz)) 0 0 (gA ad sz) := by
  refine Met.ofW (cc := cX9_look) (maxL := 9) (ret := none) (by decide) rfl ?_
  intro p e s m args below meth c s₁ B hml hv
  obtain ⟨hav, hsz, hP, hK, hD0, hNw⟩ := hv
  have hx := B.exec
  have hb := B.bytes
  have hr := B.returns
  have hts := atoms_spec (ws := (wa yX9_look cX9_look 9 none)) B.pre
  have hw := wa_hw hts
  have hown : s.vm.findClass RX9 = some m.cls := findClass_of_methodNamed B.named
  have hlocks := B.notSynchronized
  subst hsz
  have hG : gG D cy ad (gA ad s.heap.size) s.heap h g s.heap [] := ⟨hP, gA_self hD0, va_S.rf⟩
  clear hP hD0
  have lk19 := hw (.fieldLink RX9 19 "OldWorks$Ways" "many" "[I") (wm2 22 rfl rfl)
  have lk16 := hw (.fieldLink RX9 16 "OldWorks$Ways" "reached" "[[I") (wm2 21 rfl rfl)
  have ml56 := hw (.methodLink RX9 56 Lib.Math.max.name) (wm3 195 rfl rfl)
  have ms56 := hw (.static Lib.Math.max.name) (wm3 45 rfl rfl)
  have mi56 := hw (.initialized "java/lang/Math") (wm1 14 rfl rfl)
  have mc56 := hw (.code Lib.Math.max.name Lib.Math.max.code 2 (some .int)) (wm3 46 rfl rfl)
  have ml62 := hw (.methodLink RX9 62 Lib.Math.min.name) (wm3 196 rfl rfl)
  have ms62 := hw (.static Lib.Math.min.name) (wm3 99 rfl rfl)
  have mi62 := hw (.initialized "java/lang/Math") (wm1 14 rfl rfl)
  have mc62 := hw (.code Lib.Math.min.name Lib.Math.min.code 2 (some .int)) (wm3 100 rfl rfl)
  have lk11 := hw (.fieldLink RX9 11 "OldWorks$Ways" "best" "[[I") (wm2 20 rfl rfl)
  have lk33 := hw (.fieldLink RX9 33 "OldWorks$Ways" "price" "I") (wm2 24 rfl rfl)
  have cn65 := hw (.constant RX9 65 (32768)) (wm3 197 rfl rfl)
  have lk66 := hw (.fieldLink RX9 66 "OldWorks$Ways" "row" "I") (wm2 23 rfl rfl)
  have lk69 := hw (.fieldLink RX9 69 "OldWorks$Ways" "steps" "I") (wm2 26 rfl rfl)
  rw [show (headSpec (wa yX9_look cX9_look 9 none) ({ frames := 1, cells := 0, slots := 0, locals := 32 } : Room)).room = ({ frames := 1, cells := 0, slots := 0, locals := 32 } : Room) from rfl]
  have hl := lv_entry ([.ref (ad 89), .int x1, .int x2, .int x3, .int x4]) (n := 9) (Nat.le_of_ble_eq_true rfl)
  rw [show entryFrame m args 9 = entryFrame m ([.ref (ad 89), .int x1, .int x2, .int x3, .int x4] : List Value).toArray 9 from by rw [hav], lg_entry_eq]
  generalize (lg_sl ([.ref (ad 89), .int x1, .int x2, .int x3, .int x4]) ++ List.replicate (9 - (lg_sl ([.ref (ad 89), .int x1, .int x2, .int x3, .int x4])).length) Slot.unset).toArray = ls at hl ⊢
  have hl : lv_has ls 9 [(0, .ref (ad 89)), (1, .int x1), (2, .int x2), (3, .int x3), (4, .int x4)] := hl
  have B131 : ∀ (x2 : Int32) (x5 : Int32) (h : HI) (g : HL) (H : Heap) (locs : List Loc) (ls : Array Slot), j_X9_look_131 Q x2 x5 h g → gG D cy ad (gA ad s.heap.size) s.heap h g H locs → lv_has ls 9 [(0, .ref (ad 89)), (2, .int x2), (5, .int x5)] → W p l e ({ frames := 1, cells := 0, slots := 0, locals := 32 } : Room) s m args below meth c H locs 0 0 (MQ below (va_Qv (fun (u : HI × HL) => Q u.1 u.2) (gB D cy ad s.heap.size) (gA ad s.heap.size)) args s 0 0 (gA ad s.heap.size)) (F0 m 131 ls []) := by
    intro x2 x5 h g H locs ls HW hG hl
    unfold j_X9_look_131 at HW
    refine lv_aload_n hx hb dX9_look_131 rfl (lv_at hl 0 rfl) ?_
    refine lv_iload hx hb dX9_look_132 (lv_at hl 2 rfl) ?_
    refine lv_ldc (v := 32768) hx hb hown cn65 dX9_look_134 ?_
    refine lv_idiv hx hb dX9_look_136 (by decide) ?_
    refine g_put hx hb hw inG9 tyX9 tyX9_ok nmX9 hown hK hG gl_89 rfl gk_89 (by decide) 5 (by decide) (by rw [gm_89]; decide) gr_89_5 rfl (ty := .int) (by decide +kernel) rfl rfl lk33 dX9_look_137 (fun H locs hG => ?_)
    obtain ⟨h_137, eh_137⟩ : ∃ y : HI, y = hu h 89 5 (x5 / (32768 : Int32)) := ⟨_, rfl⟩
    rw [← eh_137] at hG
    replace HW := HW h_137 eh_137
    refine lv_aload_n hx hb dX9_look_140 rfl (lv_at hl 0 rfl) ?_
    refine lv_iload hx hb dX9_look_141 (lv_at hl 2 rfl) ?_
    refine lv_ldc (v := 32768) hx hb hown cn65 dX9_look_143 ?_
    refine lv_irem hx hb dX9_look_145 (by decide) ?_
    refine g_put hx hb hw inG9 tyX9 tyX9_ok nmX9 hown hK hG gl_89 rfl gk_89 (by decide) 4 (by decide) (by rw [gm_89]; decide) gr_89_4 rfl (ty := .int) (by decide +kernel) rfl rfl lk66 dX9_look_146 (fun H locs hG => ?_)
    obtain ⟨h_146, eh_146⟩ : ∃ y : HI, y = hu h_137 89 4 (x5 - x5 / (32768 : Int32) * (32768 : Int32)) := ⟨_, rfl⟩
    rw [← eh_146] at hG
    replace HW := HW h_146 eh_146
    refine lv_aload_n hx hb dX9_look_149 rfl (lv_at hl 0 rfl) ?_
    refine lv_iload_n hx hb dX9_look_150 rfl (lv_at hl 1 rfl) ?_
    refine g_put hx hb hw inG9 tyX9 tyX9_ok nmX9 hown hK hG gl_89 rfl gk_89 (by decide) 6 (by decide) (by rw [gm_89]; decide) gr_89_6 rfl (ty := .int) (by decide +kernel) rfl rfl lk69 dX9_look_151 (fun H locs hG => ?_)
    obtain ⟨h_151, eh_151⟩ : ∃ y : HI, y = hu h_146 89 6 x2 := ⟨_, rfl⟩
    rw [← eh_151] at hG
    replace HW := HW h_151 eh_151
    exact W.vret hx hb hr (fun t ht hW => ⟨⟨(h_151, g), rfl, HW, g_B ht hG⟩, hG.2.2.F ht⟩) hG.2.2.2.2 dX9_look_154
  have B104 : ∀ (x2 : Int32) (x5 : Int32) (h : HI) (g : HL) (H : Heap) (locs : List Loc) (ls : Array Slot), j_X9_look_104 Q x2 x5 h g → gG D cy ad (gA ad s.heap.size) s.heap h g H locs → lv_has ls 9 [(0, .ref (ad 89)), (2, .int x2), (5, .int x5)] → W p l e ({ frames := 1, cells := 0, slots := 0, locals := 32 } : Room) s m args below meth c H locs 0 0 (MQ below (va_Qv (fun (u : HI × HL) => Q u.1 u.2) (gB D cy ad s.heap.size) (gA ad s.heap.size)) args s 0 0 (gA ad s.heap.size)) (F0 m 104 ls []) := by
    intro x2 x5 h g H locs ls HW hG hl
    unfold j_X9_look_104 at HW
    refine lv_iload hx hb dX9_look_104 (lv_at hl 2 rfl) ?_
    refine lv_iconst (v := (-1)) hx hb dX9_look_106 (by decide) ?_
    refine lv_icmp_eq (tgt := 130) hx hb dX9_look_107 (by decide) (fun c_107 => ?_) (fun c_107 => ?_)
    · replace HW := HW.1 c_107
      exact W.vret hx hb hr (fun t ht hW => ⟨⟨(h, g), rfl, HW, g_B ht hG⟩, hG.2.2.F ht⟩) hG.2.2.2.2 dX9_look_130
    · replace HW := HW.2 c_107
      refine lv_aload_n hx hb dX9_look_110 rfl (lv_at hl 0 rfl) ?_
      refine g_geti hx hb hw inG9 hown hK hG gl_89 rfl gk_89 (by decide) 5 (by decide) (by rw [gm_89]; decide) gr_89_5 lk33 dX9_look_111 ?_
      refine lv_iconst (v := (-1)) hx hb dX9_look_114 (by decide) ?_
      refine lv_icmp_eq (tgt := 131) hx hb dX9_look_115 (by decide) (fun c_115 => ?_) (fun c_115 => ?_)
      · replace HW := HW.1 c_115
        exact B131 x2 x5 h g _ _ _ HW hG (lv_sub hl [0, 1, 2] rfl)
      · replace HW := HW.2 c_115
        refine lv_aload_n hx hb dX9_look_118 rfl (lv_at hl 0 rfl) ?_
        refine g_geti hx hb hw inG9 hown hK hG gl_89 rfl gk_89 (by decide) 5 (by decide) (by rw [gm_89]; decide) gr_89_5 lk33 dX9_look_119 ?_
        refine lv_iload hx hb dX9_look_122 (lv_at hl 2 rfl) ?_
        refine lv_ldc (v := 32768) hx hb hown cn65 dX9_look_124 ?_
        refine lv_idiv hx hb dX9_look_126 (by decide) ?_
        refine lv_icmp_gt (tgt := 131) hx hb dX9_look_127 (by decide) (fun c_127 => ?_) (fun c_127 => ?_)
        · replace HW := HW.1 c_127
          exact B131 x2 x5 h g _ _ _ HW hG (lv_sub hl [0, 1, 2] rfl)
        · replace HW := HW.2 c_127
          exact W.vret hx hb hr (fun t ht hW => ⟨⟨(h, g), rfl, HW, g_B ht hG⟩, hG.2.2.F ht⟩) hG.2.2.2.2 dX9_look_130
  have B98 : ∀ (K16 : Int32 → Int32 → Int32 → Int32 → Int32 → Int32 → HI → HL → Prop) (hK16 : ∀ (x1 : Int32) (x2 : Int32) (x3 : Int32) (x4 : Int32) (x5 : Int32) (x6 : Int32) (h : HI) (g : HL) (H : Heap) (locs : List Loc) (ls : Array Slot), K16 x1 x2 x3 x4 x5 x6 h g → gG D cy ad (gA ad s.heap.size) s.heap h g H locs → lv_has ls 9 [(0, .ref (ad 89)), (1, .int x1), (2, .int x2), (3, .int x3), (4, .int x4), (5, .int x5), (6, .int x6)] → W p l e ({ frames := 1, cells := 0, slots := 0, locals := 32 } : Room) s m args below meth c H locs 0 0 (MQ below (va_Qv (fun (u : HI × HL) => Q u.1 u.2) (gB D cy ad s.heap.size) (gA ad s.heap.size)) args s 0 0 (gA ad s.heap.size)) (F0 m 16 ls [])) (x1 : Int32) (x2 : Int32) (x3 : Int32) (x4 : Int32) (x5 : Int32) (x6 : Int32) (h : HI) (g : HL) (H : Heap) (locs : List Loc) (ls : Array Slot), j_X9_look_98 Q K16 x1 x2 x3 x4 x5 x6 h g → gG D cy ad (gA ad s.heap.size) s.heap h g H locs → lv_has ls 9 [(0, .ref (ad 89)), (1, .int x1), (2, .int x2), (3, .int x3), (4, .int x4), (5, .int x5), (6, .int x6)] → W p l e ({ frames := 1, cells := 0, slots := 0, locals := 32 } : Room) s m args below meth c H locs 0 0 (MQ below (va_Qv (fun (u : HI × HL) => Q u.1 u.2) (gB D cy ad s.heap.size) (gA ad s.heap.size)) args s 0 0 (gA ad s.heap.size)) (F0 m 98 ls []) := by
    intro K16 hK16 x1 x2 x3 x4 x5 x6 h g H locs ls HW hG hl
    unfold j_X9_look_98 at HW
    obtain ⟨x6_98, ex6_98⟩ : ∃ y : Int32, y = (x6 + 1) := ⟨_, rfl⟩
    replace HW := HW x6_98 ex6_98
    refine lv_iinc (v := x6_98) (lv' := [(6, .int x6_98), (0, .ref (ad 89)), (1, .int x1), (2, .int x2), (3, .int x3), (4, .int x4), (5, .int x5)]) hx hb dX9_look_98 hl (k := 6) rfl (by rw [ex6_98]; rfl) (by decide) rfl (fun ls hl => ?_)
    refine lv_goto (tgt := 16) hx hb dX9_look_101 (by decide) ?_
    exact hK16 x1 x2 x3 x4 x5 x6_98 h g _ _ _ HW hG (lv_sub hl [1, 2, 3, 4, 5, 6, 0] rfl)
  have B94 : ∀ (K16 : Int32 → Int32 → Int32 → Int32 → Int32 → Int32 → HI → HL → Prop) (hK16 : ∀ (x1 : Int32) (x2 : Int32) (x3 : Int32) (x4 : Int32) (x5 : Int32) (x6 : Int32) (h : HI) (g : HL) (H : Heap) (locs : List Loc) (ls : Array Slot), K16 x1 x2 x3 x4 x5 x6 h g → gG D cy ad (gA ad s.heap.size) s.heap h g H locs → lv_has ls 9 [(0, .ref (ad 89)), (1, .int x1), (2, .int x2), (3, .int x3), (4, .int x4), (5, .int x5), (6, .int x6)] → W p l e ({ frames := 1, cells := 0, slots := 0, locals := 32 } : Room) s m args below meth c H locs 0 0 (MQ below (va_Qv (fun (u : HI × HL) => Q u.1 u.2) (gB D cy ad s.heap.size) (gA ad s.heap.size)) args s 0 0 (gA ad s.heap.size)) (F0 m 16 ls [])) (x1 : Int32) (x2 : Int32) (x3 : Int32) (x4 : Int32) (x6 : Int32) (x8 : Int32) (h : HI) (g : HL) (H : Heap) (locs : List Loc) (ls : Array Slot), j_X9_look_94 Q K16 x1 x2 x3 x4 x6 x8 h g → gG D cy ad (gA ad s.heap.size) s.heap h g H locs → lv_has ls 9 [(0, .ref (ad 89)), (1, .int x1), (2, .int x2), (3, .int x3), (4, .int x4), (6, .int x6), (8, .int x8)] → W p l e ({ frames := 1, cells := 0, slots := 0, locals := 32 } : Room) s m args below meth c H locs 0 0 (MQ below (va_Qv (fun (u : HI × HL) => Q u.1 u.2) (gB D cy ad s.heap.size) (gA ad s.heap.size)) args s 0 0 (gA ad s.heap.size)) (F0 m 94 ls []) := by
    intro K16 hK16 x1 x2 x3 x4 x6 x8 h g H locs ls HW hG hl
    unfold j_X9_look_94 at HW
    refine lv_iload hx hb dX9_look_94 (lv_at hl 6 rfl) ?_
    refine lv_istore (lv' := [(5, .int x8), (0, .ref (ad 89)), (1, .int x1), (2, .int x2), (3, .int x3), (4, .int x4), (6, .int x6), (8, .int x8)]) hx hb dX9_look_96 hl (by decide) rfl (fun ls hl => ?_)
    exact B98 K16 hK16 x1 x2 x3 x4 x8 x6 h g _ _ _ HW hG (lv_sub hl [1, 2, 3, 4, 5, 0, 6] rfl)
  have L16 : ∀ (n : Nat) (x1 : Int32) (x2 : Int32) (x3 : Int32) (x4 : Int32) (x5 : Int32) (x6 : Int32) (h : HI) (g : HL) (H : Heap) (locs : List Loc) (ls : Array Slot), lpN (F_X9_look_16 Q) n (x1, x2, x3, x4, x5, x6, h, g) → gG D cy ad (gA ad s.heap.size) s.heap h g H locs → lv_has ls 9 [(0, .ref (ad 89)), (1, .int x1), (2, .int x2), (3, .int x3), (4, .int x4), (5, .int x5), (6, .int x6)] → W p l e ({ frames := 1, cells := 0, slots := 0, locals := 32 } : Room) s m args below meth c H locs 0 0 (MQ below (va_Qv (fun (u : HI × HL) => Q u.1 u.2) (gB D cy ad s.heap.size) (gA ad s.heap.size)) args s 0 0 (gA ad s.heap.size)) (F0 m 16 ls []) := by
    intro n
    induction n with
    | zero => intro x1 x2 x3 x4 x5 x6 h g H locs ls HW; exact HW.elim
    | succ n ih =>
      intro x1 x2 x3 x4 x5 x6 h g H locs ls HW hG hl
      have HW : b_X9_look_16 Q (fun x1 x2 x3 x4 x5 x6 h g => lpN (F_X9_look_16 Q) n (x1, x2, x3, x4, x5, x6, h, g)) x1 x2 x3 x4 x5 x6 h g := HW
      generalize hKe : (fun (x1 : Int32) (x2 : Int32) (x3 : Int32) (x4 : Int32) (x5 : Int32) (x6 : Int32) (h : HI) (g : HL) => lpN (F_X9_look_16 Q) n (x1, x2, x3, x4, x5, x6, h, g)) = K16 at HW
      have hK16 : ∀ (x1 : Int32) (x2 : Int32) (x3 : Int32) (x4 : Int32) (x5 : Int32) (x6 : Int32) (h : HI) (g : HL) (H : Heap) (locs : List Loc) (ls : Array Slot), K16 x1 x2 x3 x4 x5 x6 h g → gG D cy ad (gA ad s.heap.size) s.heap h g H locs → lv_has ls 9 [(0, .ref (ad 89)), (1, .int x1), (2, .int x2), (3, .int x3), (4, .int x4), (5, .int x5), (6, .int x6)] → W p l e ({ frames := 1, cells := 0, slots := 0, locals := 32 } : Room) s m args below meth c H locs 0 0 (MQ below (va_Qv (fun (u : HI × HL) => Q u.1 u.2) (gB D cy ad s.heap.size) (gA ad s.heap.size)) args s 0 0 (gA ad s.heap.size)) (F0 m 16 ls []) := by subst hKe; exact ih
      clear ih
      clear hKe
      unfold b_X9_look_16 at HW
      refine lv_iload hx hb dX9_look_16 (lv_at hl 6 rfl) ?_
      refine lv_aload_n hx hb dX9_look_18 rfl (lv_at hl 0 rfl) ?_
      refine g_getr hx hb hw inG9 hown hK hG gl_89 rfl gk_89 (by decide) 3 (by decide) (by rw [gm_89]; decide) (r := 96) gr_89_3 lk19 dX9_look_19 ?_
      refine lv_iload_n hx hb dX9_look_22 rfl (lv_at hl 1 rfl) ?_
      refine g_iald hx hb hK hG gl_96 gk_96 gn_96 HW.1 dX9_look_23 ?_
      replace HW := HW.2
      refine lv_icmp_ge (tgt := 104) hx hb dX9_look_24 (by decide) (fun c_24 => ?_) (fun c_24 => ?_)
      · replace HW := HW.1 c_24
        exact B104 x2 x5 h g _ _ _ HW hG (lv_sub hl [0, 2, 5] rfl)
      · replace HW := HW.2 c_24
        refine lv_iload hx hb dX9_look_27 (lv_at hl 6 rfl) ?_
        refine lv_sipush (v := 3000) hx hb dX9_look_29 (by decide) ?_
        refine lv_icmp_ge (tgt := 104) hx hb dX9_look_32 (by decide) (fun c_32 => ?_) (fun c_32 => ?_)
        · replace HW := HW.1 c_32
          exact B104 x2 x5 h g _ _ _ HW hG (lv_sub hl [0, 2, 5] rfl)
        · replace HW := HW.2 c_32
          refine lv_aload_n hx hb dX9_look_35 rfl (lv_at hl 0 rfl) ?_
          refine g_getr hx hb hw inG9 hown hK hG gl_89 rfl gk_89 (by decide) 2 (by decide) (by rw [gm_89]; decide) (r := 93) gr_89_2 lk16 dX9_look_36 ?_
          refine lv_iload_n hx hb dX9_look_39 rfl (lv_at hl 1 rfl) ?_
          have hi_40 := vp_lt HW.1
          refine g_aald hx hb hK hG gl_93 gk_93 gn_93 HW.1 (go_93 _ hi_40).1 dX9_look_40 ?_
          replace HW := HW.2
          refine lv_iload hx hb dX9_look_41 (lv_at hl 6 rfl) ?_
          refine g_iald hx hb hK hG ((go_93 _ hi_40).2.2.1) ((go_93 _ hi_40).2.1) ((go_93 _ hi_40).2.2.2) HW.1 dX9_look_43 ?_
          replace HW := HW.2
          refine lv_topi (fun x7_44 ex7_44 => ?_)
          replace HW := HW x7_44 ex7_44
          refine lv_istore (lv' := [(7, .int x7_44), (0, .ref (ad 89)), (1, .int x1), (2, .int x2), (3, .int x3), (4, .int x4), (5, .int x5), (6, .int x6)]) hx hb dX9_look_44 hl (by decide) rfl (fun ls hl => ?_)
          refine lv_iload hx hb dX9_look_46 (lv_at hl 0 rfl) ?_
          refine lv_iload_n hx hb dX9_look_48 rfl (lv_at hl 4 rfl) ?_
          refine lv_iconst (v := 1) hx hb dX9_look_49 (by decide) ?_
          refine va_mmax hx hb (hml.trans hl.1.symm) hown ml56 ms56 mi56 mc56 (by decide) (Nat.le_of_ble_eq_true rfl) (Nat.zero_le _) (Nat.zero_le _) dX9_look_50 ?_
          refine lv_iload hx hb dX9_look_53 (lv_at hl 5 rfl) ?_
          refine lv_sipush (v := 3000) hx hb dX9_look_55 (by decide) ?_
          refine va_mmin hx hb (hml.trans hl.1.symm) hown ml62 ms62 mi62 mc62 (by decide) (Nat.le_of_ble_eq_true rfl) (Nat.zero_le _) (Nat.zero_le _) dX9_look_58 ?_
          obtain ⟨P_61, HC_61, HW⟩ := HW
          refine g_callz (g_runSN (As := [.int x7_44, .int (if x3 < (1 : Int32) then (1 : Int32) else x3), .int (if (3000 : Int32) < x4 then (3000 : Int32) else x4)]) (rest := []) ⟨hx, hb, hml, hown, hts⟩ (m_X10_within l D cy ad h g H.size x7_44 (if x3 < (1 : Int32) then (1 : Int32) else x3) (if (3000 : Int32) < x4 then (3000 : Int32) else x4) P_61 HC_61) ⟨va_cnB 3 hts (gd_w (wm2 195 rfl rfl)) rfl rfl rfl (hNw _ (List.mem_of_getElem? (i := 5) rfl)) (hw (.initialized RX10) (wm1 1 rfl rfl)) (by decide +kernel) ⟨Nat.le_of_ble_eq_true rfl, Nat.le_of_ble_eq_true rfl⟩, hw (.static yX10_within) (wm2 194 rfl rfl), trivial⟩ hK hNw hG rfl rfl hl.1 rfl (lv_room (Nat.le_of_ble_eq_true rfl)) dX9_look_61 ⟨Nat.zero_le _, Nat.zero_le _⟩) hG (fun r_61 h_61 g_61 H locs hz hq hG => ?_)
          replace HW := HW r_61 h_61 g_61 hz hq
          refine lv_if_ne (tgt := 70) hx hb dX9_look_64 (by decide) (fun c_64 => ?_) (fun c_64 => ?_)
          · replace HW := HW.1 c_64
            refine lv_aload_n hx hb dX9_look_70 rfl (lv_at hl 1 rfl) ?_
            refine g_getr hx hb hw inG9 hown hK hG gl_89 rfl gk_89 (by decide) 1 (by decide) (by rw [gm_89]; decide) (r := 90) gr_89_1 lk11 dX9_look_71 ?_
            refine lv_iload_n hx hb dX9_look_74 rfl (lv_at hl 2 rfl) ?_
            have hi_75 := vp_lt HW.1
            refine g_aald hx hb hK hG gl_90 gk_90 gn_90 HW.1 (go_90 _ hi_75).1 dX9_look_75 ?_
            replace HW := HW.2
            refine lv_iload hx hb dX9_look_76 (lv_at hl 0 rfl) ?_
            refine g_iald hx hb hK hG ((go_90 _ hi_75).2.2.1) ((go_90 _ hi_75).2.1) ((go_90 _ hi_75).2.2.2) HW.1 dX9_look_78 ?_
            replace HW := HW.2
            refine lv_topi (fun x8_79 ex8_79 => ?_)
            replace HW := HW x8_79 ex8_79
            refine lv_istore (lv' := [(8, .int x8_79), (7, .int x7_44), (0, .ref (ad 89)), (1, .int x1), (2, .int x2), (3, .int x3), (4, .int x4), (5, .int x5), (6, .int x6)]) hx hb dX9_look_79 hl (by decide) rfl (fun ls hl => ?_)
            refine lv_iload hx hb dX9_look_81 (lv_at hl 7 rfl) ?_
            refine lv_iconst (v := (-1)) hx hb dX9_look_83 (by decide) ?_
            refine lv_icmp_eq (tgt := 94) hx hb dX9_look_84 (by decide) (fun c_84 => ?_) (fun c_84 => ?_)
            · replace HW := HW.1 c_84
              exact B94 K16 hK16 x1 x2 x3 x4 x6 x8_79 h_61 g_61 _ _ _ HW hG (lv_sub hl [2, 3, 4, 5, 6, 8, 0] rfl)
            · replace HW := HW.2 c_84
              refine lv_iload hx hb dX9_look_87 (lv_at hl 0 rfl) ?_
              refine lv_iload hx hb dX9_look_89 (lv_at hl 7 rfl) ?_
              refine lv_icmp_ge (tgt := 98) hx hb dX9_look_91 (by decide) (fun c_91 => ?_) (fun c_91 => ?_)
              · replace HW := HW.1 c_91
                exact B98 K16 hK16 x1 x2 x3 x4 x5 x6 h_61 g_61 _ _ _ HW hG (lv_sub hl [2, 3, 4, 5, 6, 7, 8] rfl)
              · replace HW := HW.2 c_91
                exact B94 K16 hK16 x1 x2 x3 x4 x6 x8_79 h_61 g_61 _ _ _ HW hG (lv_sub hl [2, 3, 4, 5, 6, 8, 0] rfl)
          · replace HW := HW.2 c_64
            refine lv_goto (tgt := 98) hx hb dX9_look_67 (by decide) ?_
            exact B98 K16 hK16 x1 x2 x3 x4 x5 x6 h_61 g_61 _ _ _ HW hG (lv_sub hl [1, 2, 3, 4, 5, 6, 7] rfl)
  have E0 : ∀ (H : Heap) (locs : List Loc) (ls : Array Slot), gG D cy ad (gA ad s.heap.size) s.heap h g H locs → lv_has ls 9 [(0, .ref (ad 89)), (1, .int x1), (2, .int x2), (3, .int x3), (4, .int x4)] → W p l e ({ frames := 1, cells := 0, slots := 0, locals := 32 } : Room) s m args below meth c H locs 0 0 (MQ below (va_Qv (fun (u : HI × HL) => Q u.1 u.2) (gB D cy ad s.heap.size) (gA ad s.heap.size)) args s 0 0 (gA ad s.heap.size)) (F0 m 0 ls []) := by
    intro H locs ls hG hl
    unfold w_X9_look at HW
    refine lv_iload_n hx hb dX9_look_0 rfl (lv_at hl 1 rfl) ?_
    refine lv_iconst (v := 0) hx hb dX9_look_1 (by decide) ?_
    refine lv_iconst (v := 1) hx hb dX9_look_2 (by decide) ?_
    obtain ⟨P_3, HC_3, HW⟩ := HW
    refine g_callz (g_runSN (As := [.int x1, .int (0 : Int32), .int (1 : Int32)]) (rest := []) ⟨hx, hb, hml, hown, hts⟩ (m_X10_within l D cy ad h g H.size x1 (0 : Int32) (1 : Int32) P_3 HC_3) ⟨va_cnB 3 hts (gd_w (wm2 195 rfl rfl)) rfl rfl rfl (hNw _ (List.mem_of_getElem? (i := 5) rfl)) (hw (.initialized RX10) (wm1 1 rfl rfl)) (by decide +kernel) ⟨Nat.le_of_ble_eq_true rfl, Nat.le_of_ble_eq_true rfl⟩, hw (.static yX10_within) (wm2 194 rfl rfl), trivial⟩ hK hNw hG rfl rfl hl.1 rfl (lv_room (Nat.le_of_ble_eq_true rfl)) dX9_look_3 ⟨Nat.zero_le _, Nat.zero_le _⟩) hG (fun r_3 h_3 g_3 H locs hz hq hG => ?_)
    replace HW := HW r_3 h_3 g_3 hz hq
    refine lv_if_ne (tgt := 10) hx hb dX9_look_6 (by decide) (fun c_6 => ?_) (fun c_6 => ?_)
    · replace HW := HW.1 c_6
      refine lv_iconst (v := (-1)) hx hb dX9_look_10 (by decide) ?_
      refine lv_istore (lv' := [(5, .int (-1 : Int32)), (0, .ref (ad 89)), (1, .int x1), (2, .int x2), (3, .int x3), (4, .int x4)]) hx hb dX9_look_11 hl (by decide) rfl (fun ls hl => ?_)
      refine lv_iconst (v := 0) hx hb dX9_look_13 (by decide) ?_
      refine lv_istore (lv' := [(6, .int (0 : Int32)), (5, .int (-1 : Int32)), (0, .ref (ad 89)), (1, .int x1), (2, .int x2), (3, .int x3), (4, .int x4)]) hx hb dX9_look_14 hl (by decide) rfl (fun ls hl => ?_)
      obtain ⟨n_16, HW⟩ := HW
      exact L16 n_16 x1 x2 x3 x4 (-1 : Int32) (0 : Int32) h_3 g_3 _ _ _ HW hG (lv_sub hl [2, 3, 4, 5, 6, 1, 0] rfl)
    · replace HW := HW.2 c_6
      exact W.vret hx hb hr (fun t ht hW => ⟨⟨(h_3, g_3), rfl, HW, g_B ht hG⟩, hG.2.2.F ht⟩) hG.2.2.2.2 dX9_look_9
  exact E0 _ _ _ hG hl

def j_X9_spread_194 (Q : HI → HL → Prop) (K12 : Int32 → Int32 → HI → HL → Prop) (x1 : Int32) (x2 : Int32) (h : HI) (g : HL) : Prop :=
  (∀ x2_194 : Int32, x2_194 = (x2 + 1) → K12 x1 x2_194 h g)
def j_X9_spread_188 (Q : HI → HL → Prop) (K12 : Int32 → Int32 → HI → HL → Prop) (K79 : Int32 → Int32 → Int32 → Int32 → Int32 → Int32 → HI → HL → Prop) (x1 : Int32) (x2 : Int32) (x3 : Int32) (x5 : Int32) (x6 : Int32) (x7 : Int32) (h : HI) (g : HL) : Prop :=
  (∀ x7_188 : Int32, x7_188 = (x7 + 1) → K79 x1 x2 x3 x5 x6 x7_188 h g)
def b_X9_spread_79 (Q : HI → HL → Prop) (K12 : Int32 → Int32 → HI → HL → Prop) (K79 : Int32 → Int32 → Int32 → Int32 → Int32 → Int32 → HI → HL → Prop) (x1 : Int32) (x2 : Int32) (x3 : Int32) (x5 : Int32) (x6 : Int32) (x7 : Int32) (h : HI) (g : HL) : Prop :=
  (∃ P_88 : Int32 → HI → HL → Prop, w_X8_rows 10 h g P_88 ∧ ∀ (r_88 : Int32) (h_88 : HI) (g_88 : HL), P_88 r_88 h_88 g_88 → ((r_88 ≤ x7 → j_X9_spread_194 Q K12 x1 x2 h_88 g_88) ∧ (¬ r_88 ≤ x7 → (∃ P_105 : Int32 → HI → HL → Prop, w_X8_at 10 x7 (2 : Int32) h_88 g_88 P_105 ∧ ∀ (r_105 : Int32) (h_105 : HI) (g_105 : HL), P_105 r_105 h_105 g_105 → ((r_105 ≤ x3 → (∃ P_125 : Int32 → HI → HL → Prop, w_X8_at 10 x7 (3 : Int32) h_105 g_105 P_125 ∧ ∀ (r_125 : Int32) (h_125 : HI) (g_125 : HL), P_125 r_125 h_125 g_125 → ((x3 ≤ r_125 → (∃ P_146 : Int32 → HI → HL → Prop, w_X8_at 10 x7 (1 : Int32) h_125 g_125 P_146 ∧ ∀ (r_146 : Int32) (h_146 : HI) (g_146 : HL), P_146 r_146 h_146 g_146 → (∀ x8_150 : Int32, x8_150 = (x5 + r_146) → (∃ P_167 : Int32 → HI → HL → Prop, w_X8_at 10 x7 (0 : Int32) h_146 g_146 P_167 ∧ ∀ (r_167 : Int32) (h_167 : HI) (g_167 : HL), P_167 r_167 h_167 g_167 → (∃ P_185 : HI → HL → Prop, w_X9_reach ((1 : Int32) - x1) (x3 + r_167) (((x8_150 * (32768 : Int32)) + (x6 * (8 : Int32))) + x7) h_167 g_167 P_185 ∧ ∀ (h_185 : HI) (g_185 : HL), P_185 h_185 g_185 → j_X9_spread_188 Q K12 K79 x1 x2 x3 x5 x6 x7 h_185 g_185))))) ∧ (¬ x3 ≤ r_125 → j_X9_spread_188 Q K12 K79 x1 x2 x3 x5 x6 x7 h_125 g_125)))) ∧ (¬ r_105 ≤ x3 → j_X9_spread_188 Q K12 K79 x1 x2 x3 x5 x6 x7 h_105 g_105))))))
def F_X9_spread_79 (Q : HI → HL → Prop) (K12 : Int32 → Int32 → HI → HL → Prop) (K : Int32 × Int32 × Int32 × Int32 × Int32 × Int32 × HI × HL → Prop) (q : Int32 × Int32 × Int32 × Int32 × Int32 × Int32 × HI × HL) : Prop := b_X9_spread_79 Q K12 (fun x1 x2 x3 x5 x6 x7 h g => K (x1, x2, x3, x5, x6, x7, h, g)) q.1 q.2.1 q.2.2.1 q.2.2.2.1 q.2.2.2.2.1 q.2.2.2.2.2.1 q.2.2.2.2.2.2.1 q.2.2.2.2.2.2.2
def b_X9_spread_12 (Q : HI → HL → Prop) (K12 : Int32 → Int32 → HI → HL → Prop) (x1 : Int32) (x2 : Int32) (h : HI) (g : HL) : Prop :=
  (vp_in x1 2 ∧ (((h 96 x1.toNatClampNeg) ≤ x2 → Q h g) ∧ (¬ (h 96 x1.toNatClampNeg) ≤ x2 → (((3000 : Int32) ≤ x2 → Q h g) ∧ (¬ (3000 : Int32) ≤ x2 → (vp_in x1 2 ∧ (vp_in x2 3000 ∧ (∀ x3_37 : Int32, x3_37 = (h (94 + x1.toNatClampNeg) x2.toNatClampNeg) → (∃ P_43 : Int32 → HI → HL → Prop, w_X10_within x3_37 (1 : Int32) (3000 : Int32) h g P_43 ∧ ∀ (r_43 : Int32) (h_43 : HI) (g_43 : HL), zb r_43 → P_43 r_43 h_43 g_43 → ((¬ r_43 = 0 → (vp_in x1 2 ∧ (vp_in x3_37 3001 ∧ (∀ x4_60 : Int32, x4_60 = (h_43 (91 + x1.toNatClampNeg) x3_37.toNatClampNeg) → (∀ x5_67 : Int32, x5_67 = (x4_60 / (32768 : Int32)) → (∀ x6_74 : Int32, x6_74 = (x4_60 - x4_60 / (32768 : Int32) * (32768 : Int32)) → lpE (F_X9_spread_79 Q K12) (x1, x2, x3_37, x5_67, x6_74, (0 : Int32), h_43, g_43))))))) ∧ (r_43 = 0 → j_X9_spread_194 Q K12 x1 x2 h_43 g_43)))))))))))
def F_X9_spread_12 (Q : HI → HL → Prop) (K : Int32 × Int32 × HI × HL → Prop) (q : Int32 × Int32 × HI × HL) : Prop := b_X9_spread_12 Q (fun x1 x2 h g => K (x1, x2, h, g)) q.1 q.2.1 q.2.2.1 q.2.2.2
def w_X9_spread (x1 : Int32) (h : HI) (g : HL) (Q : HI → HL → Prop) : Prop :=
  (∃ P_3 : Int32 → HI → HL → Prop, w_X10_within x1 (0 : Int32) (1 : Int32) h g P_3 ∧ ∀ (r_3 : Int32) (h_3 : HI) (g_3 : HL), zb r_3 → P_3 r_3 h_3 g_3 → ((¬ r_3 = 0 → lpE (F_X9_spread_12 Q) (x1, (0 : Int32), h_3, g_3)) ∧ (r_3 = 0 → Q h_3 g_3)))
set_option maxHeartbeats 8000000 in
set_option maxRecDepth 100000 in
theorem m_X9_spread (l : Launch) (D : va_G) (cy : Nat → ClassId) (ad : Nat → Nat) (h : HI) (g : HL) (sz : Nat) (x1 : Int32) (Q : HI → HL → Prop) (HW : w_X9_spread x1 h g Q) : Met l yX9_spread (wa yX9_spread cX9_spread 9 none) ({ frames := 2, cells := 0, slots := 0, locals := 45 }) (va_Pc [.ref (ad 89), .int x1] (gI D cy ad h g sz)) (va_Qv (fun (u : HI × HL) => Q u.1 u.2) (gB D cy ad sz) (gA ad sz)) 0 0 (gA ad sz) := by
  refine Met.ofW (cc := cX9_spread) (maxL := 9) (ret := none) (by decide) rfl ?_
  intro p e s m args below meth c s₁ B hml hv
  obtain ⟨hav, hsz, hP, hK, hD0, hNw⟩ := hv
  have hx := B.exec
  have hb := B.bytes
  have hr := B.returns
  have hts := atoms_spec (ws := (wa yX9_spread cX9_spread 9 none)) B.pre
  have hw := wa_hw hts
  have hown : s.vm.findClass RX9 = some m.cls := findClass_of_methodNamed B.named
  have hlocks := B.notSynchronized
  subst hsz
  have hG : gG D cy ad (gA ad s.heap.size) s.heap h g s.heap [] := ⟨hP, gA_self hD0, va_S.rf⟩
  clear hP hD0
  have lk19 := hw (.fieldLink RX9 19 "OldWorks$Ways" "many" "[I") (wm2 22 rfl rfl)
  have lk16 := hw (.fieldLink RX9 16 "OldWorks$Ways" "reached" "[[I") (wm2 21 rfl rfl)
  have lk11 := hw (.fieldLink RX9 11 "OldWorks$Ways" "best" "[[I") (wm2 20 rfl rfl)
  have cn65 := hw (.constant RX9 65 (32768)) (wm3 197 rfl rfl)
  have lk23 := hw (.fieldLink RX9 23 "OldWorks$Ways" "shop" "LOldWorks$Shop;") (wm2 19 rfl rfl)
  have lk72 := hw (.fieldLink RX9 72 "OldWorks$Shop" "works" "LOldWorks$Table;") (wm1 75 rfl rfl)
  rw [show (headSpec (wa yX9_spread cX9_spread 9 none) ({ frames := 2, cells := 0, slots := 0, locals := 45 } : Room)).room = ({ frames := 2, cells := 0, slots := 0, locals := 45 } : Room) from rfl]
  have hl := lv_entry ([.ref (ad 89), .int x1]) (n := 9) (Nat.le_of_ble_eq_true rfl)
  rw [show entryFrame m args 9 = entryFrame m ([.ref (ad 89), .int x1] : List Value).toArray 9 from by rw [hav], lg_entry_eq]
  generalize (lg_sl ([.ref (ad 89), .int x1]) ++ List.replicate (9 - (lg_sl ([.ref (ad 89), .int x1])).length) Slot.unset).toArray = ls at hl ⊢
  have hl : lv_has ls 9 [(0, .ref (ad 89)), (1, .int x1)] := hl
  have B194 : ∀ (K12 : Int32 → Int32 → HI → HL → Prop) (hK12 : ∀ (x1 : Int32) (x2 : Int32) (h : HI) (g : HL) (H : Heap) (locs : List Loc) (ls : Array Slot), K12 x1 x2 h g → gG D cy ad (gA ad s.heap.size) s.heap h g H locs → lv_has ls 9 [(0, .ref (ad 89)), (1, .int x1), (2, .int x2)] → W p l e ({ frames := 2, cells := 0, slots := 0, locals := 45 } : Room) s m args below meth c H locs 0 0 (MQ below (va_Qv (fun (u : HI × HL) => Q u.1 u.2) (gB D cy ad s.heap.size) (gA ad s.heap.size)) args s 0 0 (gA ad s.heap.size)) (F0 m 12 ls [])) (x1 : Int32) (x2 : Int32) (h : HI) (g : HL) (H : Heap) (locs : List Loc) (ls : Array Slot), j_X9_spread_194 Q K12 x1 x2 h g → gG D cy ad (gA ad s.heap.size) s.heap h g H locs → lv_has ls 9 [(0, .ref (ad 89)), (1, .int x1), (2, .int x2)] → W p l e ({ frames := 2, cells := 0, slots := 0, locals := 45 } : Room) s m args below meth c H locs 0 0 (MQ below (va_Qv (fun (u : HI × HL) => Q u.1 u.2) (gB D cy ad s.heap.size) (gA ad s.heap.size)) args s 0 0 (gA ad s.heap.size)) (F0 m 194 ls []) := by
    intro K12 hK12 x1 x2 h g H locs ls HW hG hl
    unfold j_X9_spread_194 at HW
    obtain ⟨x2_194, ex2_194⟩ : ∃ y : Int32, y = (x2 + 1) := ⟨_, rfl⟩
    replace HW := HW x2_194 ex2_194
    refine lv_iinc (v := x2_194) (lv' := [(2, .int x2_194), (0, .ref (ad 89)), (1, .int x1)]) hx hb dX9_spread_194 hl (k := 2) rfl (by rw [ex2_194]; rfl) (by decide) rfl (fun ls hl => ?_)
    refine lv_goto (tgt := 12) hx hb dX9_spread_197 (by decide) ?_
    exact hK12 x1 x2_194 h g _ _ _ HW hG (lv_sub hl [1, 2, 0] rfl)
  have B188 : ∀ (K12 : Int32 → Int32 → HI → HL → Prop) (hK12 : ∀ (x1 : Int32) (x2 : Int32) (h : HI) (g : HL) (H : Heap) (locs : List Loc) (ls : Array Slot), K12 x1 x2 h g → gG D cy ad (gA ad s.heap.size) s.heap h g H locs → lv_has ls 9 [(0, .ref (ad 89)), (1, .int x1), (2, .int x2)] → W p l e ({ frames := 2, cells := 0, slots := 0, locals := 45 } : Room) s m args below meth c H locs 0 0 (MQ below (va_Qv (fun (u : HI × HL) => Q u.1 u.2) (gB D cy ad s.heap.size) (gA ad s.heap.size)) args s 0 0 (gA ad s.heap.size)) (F0 m 12 ls [])) (K79 : Int32 → Int32 → Int32 → Int32 → Int32 → Int32 → HI → HL → Prop) (hK79 : ∀ (x1 : Int32) (x2 : Int32) (x3 : Int32) (x5 : Int32) (x6 : Int32) (x7 : Int32) (h : HI) (g : HL) (H : Heap) (locs : List Loc) (ls : Array Slot), K79 x1 x2 x3 x5 x6 x7 h g → gG D cy ad (gA ad s.heap.size) s.heap h g H locs → lv_has ls 9 [(0, .ref (ad 89)), (1, .int x1), (2, .int x2), (3, .int x3), (5, .int x5), (6, .int x6), (7, .int x7)] → W p l e ({ frames := 2, cells := 0, slots := 0, locals := 45 } : Room) s m args below meth c H locs 0 0 (MQ below (va_Qv (fun (u : HI × HL) => Q u.1 u.2) (gB D cy ad s.heap.size) (gA ad s.heap.size)) args s 0 0 (gA ad s.heap.size)) (F0 m 79 ls [])) (x1 : Int32) (x2 : Int32) (x3 : Int32) (x5 : Int32) (x6 : Int32) (x7 : Int32) (h : HI) (g : HL) (H : Heap) (locs : List Loc) (ls : Array Slot), j_X9_spread_188 Q K12 K79 x1 x2 x3 x5 x6 x7 h g → gG D cy ad (gA ad s.heap.size) s.heap h g H locs → lv_has ls 9 [(0, .ref (ad 89)), (1, .int x1), (2, .int x2), (3, .int x3), (5, .int x5), (6, .int x6), (7, .int x7)] → W p l e ({ frames := 2, cells := 0, slots := 0, locals := 45 } : Room) s m args below meth c H locs 0 0 (MQ below (va_Qv (fun (u : HI × HL) => Q u.1 u.2) (gB D cy ad s.heap.size) (gA ad s.heap.size)) args s 0 0 (gA ad s.heap.size)) (F0 m 188 ls []) := by
    intro K12 hK12 K79 hK79 x1 x2 x3 x5 x6 x7 h g H locs ls HW hG hl
    unfold j_X9_spread_188 at HW
    obtain ⟨x7_188, ex7_188⟩ : ∃ y : Int32, y = (x7 + 1) := ⟨_, rfl⟩
    replace HW := HW x7_188 ex7_188
    refine lv_iinc (v := x7_188) (lv' := [(7, .int x7_188), (0, .ref (ad 89)), (1, .int x1), (2, .int x2), (3, .int x3), (5, .int x5), (6, .int x6)]) hx hb dX9_spread_188 hl (k := 6) rfl (by rw [ex7_188]; rfl) (by decide) rfl (fun ls hl => ?_)
    refine lv_goto (tgt := 79) hx hb dX9_spread_191 (by decide) ?_
    exact hK79 x1 x2 x3 x5 x6 x7_188 h g _ _ _ HW hG (lv_sub hl [1, 2, 3, 4, 5, 6, 0] rfl)
  have L79 : ∀ (K12 : Int32 → Int32 → HI → HL → Prop) (hK12 : ∀ (x1 : Int32) (x2 : Int32) (h : HI) (g : HL) (H : Heap) (locs : List Loc) (ls : Array Slot), K12 x1 x2 h g → gG D cy ad (gA ad s.heap.size) s.heap h g H locs → lv_has ls 9 [(0, .ref (ad 89)), (1, .int x1), (2, .int x2)] → W p l e ({ frames := 2, cells := 0, slots := 0, locals := 45 } : Room) s m args below meth c H locs 0 0 (MQ below (va_Qv (fun (u : HI × HL) => Q u.1 u.2) (gB D cy ad s.heap.size) (gA ad s.heap.size)) args s 0 0 (gA ad s.heap.size)) (F0 m 12 ls [])) (n : Nat) (x1 : Int32) (x2 : Int32) (x3 : Int32) (x5 : Int32) (x6 : Int32) (x7 : Int32) (h : HI) (g : HL) (H : Heap) (locs : List Loc) (ls : Array Slot), lpN (F_X9_spread_79 Q K12) n (x1, x2, x3, x5, x6, x7, h, g) → gG D cy ad (gA ad s.heap.size) s.heap h g H locs → lv_has ls 9 [(0, .ref (ad 89)), (1, .int x1), (2, .int x2), (3, .int x3), (5, .int x5), (6, .int x6), (7, .int x7)] → W p l e ({ frames := 2, cells := 0, slots := 0, locals := 45 } : Room) s m args below meth c H locs 0 0 (MQ below (va_Qv (fun (u : HI × HL) => Q u.1 u.2) (gB D cy ad s.heap.size) (gA ad s.heap.size)) args s 0 0 (gA ad s.heap.size)) (F0 m 79 ls []) := by
    intro K12 hK12 n
    induction n with
    | zero => intro x1 x2 x3 x5 x6 x7 h g H locs ls HW; exact HW.elim
    | succ n ih =>
      intro x1 x2 x3 x5 x6 x7 h g H locs ls HW hG hl
      have HW : b_X9_spread_79 Q K12 (fun x1 x2 x3 x5 x6 x7 h g => lpN (F_X9_spread_79 Q K12) n (x1, x2, x3, x5, x6, x7, h, g)) x1 x2 x3 x5 x6 x7 h g := HW
      generalize hKe : (fun (x1 : Int32) (x2 : Int32) (x3 : Int32) (x5 : Int32) (x6 : Int32) (x7 : Int32) (h : HI) (g : HL) => lpN (F_X9_spread_79 Q K12) n (x1, x2, x3, x5, x6, x7, h, g)) = K79 at HW
      have hK79 : ∀ (x1 : Int32) (x2 : Int32) (x3 : Int32) (x5 : Int32) (x6 : Int32) (x7 : Int32) (h : HI) (g : HL) (H : Heap) (locs : List Loc) (ls : Array Slot), K79 x1 x2 x3 x5 x6 x7 h g → gG D cy ad (gA ad s.heap.size) s.heap h g H locs → lv_has ls 9 [(0, .ref (ad 89)), (1, .int x1), (2, .int x2), (3, .int x3), (5, .int x5), (6, .int x6), (7, .int x7)] → W p l e ({ frames := 2, cells := 0, slots := 0, locals := 45 } : Room) s m args below meth c H locs 0 0 (MQ below (va_Qv (fun (u : HI × HL) => Q u.1 u.2) (gB D cy ad s.heap.size) (gA ad s.heap.size)) args s 0 0 (gA ad s.heap.size)) (F0 m 79 ls []) := by subst hKe; exact ih
      clear ih
      clear hKe
      unfold b_X9_spread_79 at HW
      refine lv_iload hx hb dX9_spread_79 (lv_at hl 6 rfl) ?_
      refine lv_aload_n hx hb dX9_spread_81 rfl (lv_at hl 0 rfl) ?_
      refine g_getr hx hb hw inG9 hown hK hG gl_89 rfl gk_89 (by decide) 0 (by decide) (by rw [gm_89]; decide) (r := 1) gr_89_0 lk23 dX9_spread_82 ?_
      refine g_getr hx hb hw inG6 hown hK hG gl_1 rfl gk_1 (by decide) 4 (by decide) (by rw [gm_1]; decide) (r := 10) gr_1_4 lk72 dX9_spread_85 ?_
      obtain ⟨P_88, HC_88, HW⟩ := HW
      refine g_calli (g_runV (As := []) (rest := [.int x7]) ⟨hx, hb, hml, hown, hts⟩ (m_X8_rows l D cy ad h g H.size 10 (gs_10) P_88 HC_88) (cwV 0 hts (gd_V (wm3 202 rfl rfl) (wm2 217 rfl rfl) (wm2 218 rfl rfl) (wm1 3 rfl rfl) (wm2 219 rfl rfl)) rfl rfl rfl (by decide +kernel) ⟨Nat.le_of_ble_eq_true rfl, Nat.le_of_ble_eq_true rfl⟩) hK hNw hG gl_10 rfl gk_10 (by decide) rfl rfl hl.1 rfl (lv_room (Nat.le_of_ble_eq_true rfl)) dX9_spread_88 ⟨Nat.zero_le _, Nat.zero_le _⟩) hG (fun r_88 h_88 g_88 H locs hq hG => ?_)
      replace HW := HW r_88 h_88 g_88 hq
      refine lv_icmp_ge (tgt := 194) hx hb dX9_spread_91 (by decide) (fun c_91 => ?_) (fun c_91 => ?_)
      · replace HW := HW.1 c_91
        exact B194 K12 hK12 x1 x2 h_88 g_88 _ _ _ HW hG (lv_sub hl [0, 1, 2] rfl)
      · replace HW := HW.2 c_91
        refine lv_iload_n hx hb dX9_spread_94 rfl (lv_at hl 3 rfl) ?_
        refine lv_aload_n hx hb dX9_spread_95 rfl (lv_at hl 0 rfl) ?_
        refine g_getr hx hb hw inG9 hown hK hG gl_89 rfl gk_89 (by decide) 0 (by decide) (by rw [gm_89]; decide) (r := 1) gr_89_0 lk23 dX9_spread_96 ?_
        refine g_getr hx hb hw inG6 hown hK hG gl_1 rfl gk_1 (by decide) 4 (by decide) (by rw [gm_1]; decide) (r := 10) gr_1_4 lk72 dX9_spread_99 ?_
        refine lv_iload hx hb dX9_spread_102 (lv_at hl 6 rfl) ?_
        refine lv_iconst (v := 2) hx hb dX9_spread_104 (by decide) ?_
        obtain ⟨P_105, HC_105, HW⟩ := HW
        refine g_calli (g_runV (As := [.int x7, .int (2 : Int32)]) (rest := [.int x3]) ⟨hx, hb, hml, hown, hts⟩ (m_X8_at l D cy ad h_88 g_88 H.size 10 (gs_10) x7 (2 : Int32) P_105 HC_105) (cwV 2 hts (gd_V (wm3 203 rfl rfl) (wm2 221 rfl rfl) (wm2 222 rfl rfl) (wm1 3 rfl rfl) (wm2 223 rfl rfl)) rfl rfl rfl (by decide +kernel) ⟨Nat.le_of_ble_eq_true rfl, Nat.le_of_ble_eq_true rfl⟩) hK hNw hG gl_10 rfl gk_10 (by decide) rfl rfl hl.1 rfl (lv_room (Nat.le_of_ble_eq_true rfl)) dX9_spread_105 ⟨Nat.zero_le _, Nat.zero_le _⟩) hG (fun r_105 h_105 g_105 H locs hq hG => ?_)
        replace HW := HW r_105 h_105 g_105 hq
        refine lv_icmp_ge (tgt := 114) hx hb dX9_spread_108 (by decide) (fun c_108 => ?_) (fun c_108 => ?_)
        · replace HW := HW.1 c_108
          refine lv_iload_n hx hb dX9_spread_114 rfl (lv_at hl 3 rfl) ?_
          refine lv_aload_n hx hb dX9_spread_115 rfl (lv_at hl 0 rfl) ?_
          refine g_getr hx hb hw inG9 hown hK hG gl_89 rfl gk_89 (by decide) 0 (by decide) (by rw [gm_89]; decide) (r := 1) gr_89_0 lk23 dX9_spread_116 ?_
          refine g_getr hx hb hw inG6 hown hK hG gl_1 rfl gk_1 (by decide) 4 (by decide) (by rw [gm_1]; decide) (r := 10) gr_1_4 lk72 dX9_spread_119 ?_
          refine lv_iload hx hb dX9_spread_122 (lv_at hl 6 rfl) ?_
          refine lv_iconst (v := 3) hx hb dX9_spread_124 (by decide) ?_
          obtain ⟨P_125, HC_125, HW⟩ := HW
          refine g_calli (g_runV (As := [.int x7, .int (3 : Int32)]) (rest := [.int x3]) ⟨hx, hb, hml, hown, hts⟩ (m_X8_at l D cy ad h_105 g_105 H.size 10 (gs_10) x7 (3 : Int32) P_125 HC_125) (cwV 2 hts (gd_V (wm3 203 rfl rfl) (wm2 221 rfl rfl) (wm2 222 rfl rfl) (wm1 3 rfl rfl) (wm2 223 rfl rfl)) rfl rfl rfl (by decide +kernel) ⟨Nat.le_of_ble_eq_true rfl, Nat.le_of_ble_eq_true rfl⟩) hK hNw hG gl_10 rfl gk_10 (by decide) rfl rfl hl.1 rfl (lv_room (Nat.le_of_ble_eq_true rfl)) dX9_spread_125 ⟨Nat.zero_le _, Nat.zero_le _⟩) hG (fun r_125 h_125 g_125 H locs hq hG => ?_)
          replace HW := HW r_125 h_125 g_125 hq
          refine lv_icmp_le (tgt := 134) hx hb dX9_spread_128 (by decide) (fun c_128 => ?_) (fun c_128 => ?_)
          · replace HW := HW.1 c_128
            refine lv_iload hx hb dX9_spread_134 (lv_at hl 4 rfl) ?_
            refine lv_aload_n hx hb dX9_spread_136 rfl (lv_at hl 0 rfl) ?_
            refine g_getr hx hb hw inG9 hown hK hG gl_89 rfl gk_89 (by decide) 0 (by decide) (by rw [gm_89]; decide) (r := 1) gr_89_0 lk23 dX9_spread_137 ?_
            refine g_getr hx hb hw inG6 hown hK hG gl_1 rfl gk_1 (by decide) 4 (by decide) (by rw [gm_1]; decide) (r := 10) gr_1_4 lk72 dX9_spread_140 ?_
            refine lv_iload hx hb dX9_spread_143 (lv_at hl 6 rfl) ?_
            refine lv_iconst (v := 1) hx hb dX9_spread_145 (by decide) ?_
            obtain ⟨P_146, HC_146, HW⟩ := HW
            refine g_calli (g_runV (As := [.int x7, .int (1 : Int32)]) (rest := [.int x5]) ⟨hx, hb, hml, hown, hts⟩ (m_X8_at l D cy ad h_125 g_125 H.size 10 (gs_10) x7 (1 : Int32) P_146 HC_146) (cwV 2 hts (gd_V (wm3 203 rfl rfl) (wm2 221 rfl rfl) (wm2 222 rfl rfl) (wm1 3 rfl rfl) (wm2 223 rfl rfl)) rfl rfl rfl (by decide +kernel) ⟨Nat.le_of_ble_eq_true rfl, Nat.le_of_ble_eq_true rfl⟩) hK hNw hG gl_10 rfl gk_10 (by decide) rfl rfl hl.1 rfl (lv_room (Nat.le_of_ble_eq_true rfl)) dX9_spread_146 ⟨Nat.zero_le _, Nat.zero_le _⟩) hG (fun r_146 h_146 g_146 H locs hq hG => ?_)
            replace HW := HW r_146 h_146 g_146 hq
            refine lv_iadd hx hb dX9_spread_149 ?_
            refine lv_topi (fun x8_150 ex8_150 => ?_)
            replace HW := HW x8_150 ex8_150
            refine lv_istore (lv' := [(8, .int x8_150), (0, .ref (ad 89)), (1, .int x1), (2, .int x2), (3, .int x3), (5, .int x5), (6, .int x6), (7, .int x7)]) hx hb dX9_spread_150 hl (by decide) rfl (fun ls hl => ?_)
            refine lv_aload_n hx hb dX9_spread_152 rfl (lv_at hl 1 rfl) ?_
            refine lv_iconst (v := 1) hx hb dX9_spread_153 (by decide) ?_
            refine lv_iload_n hx hb dX9_spread_154 rfl (lv_at hl 2 rfl) ?_
            refine lv_isub hx hb dX9_spread_155 ?_
            refine lv_iload_n hx hb dX9_spread_156 rfl (lv_at hl 4 rfl) ?_
            refine lv_aload_n hx hb dX9_spread_157 rfl (lv_at hl 1 rfl) ?_
            refine g_getr hx hb hw inG9 hown hK hG gl_89 rfl gk_89 (by decide) 0 (by decide) (by rw [gm_89]; decide) (r := 1) gr_89_0 lk23 dX9_spread_158 ?_
            refine g_getr hx hb hw inG6 hown hK hG gl_1 rfl gk_1 (by decide) 4 (by decide) (by rw [gm_1]; decide) (r := 10) gr_1_4 lk72 dX9_spread_161 ?_
            refine lv_iload hx hb dX9_spread_164 (lv_at hl 7 rfl) ?_
            refine lv_iconst (v := 0) hx hb dX9_spread_166 (by decide) ?_
            obtain ⟨P_167, HC_167, HW⟩ := HW
            refine g_calli (g_runV (As := [.int x7, .int (0 : Int32)]) (rest := [.int x3, .int ((1 : Int32) - x1), .ref (ad 89)]) ⟨hx, hb, hml, hown, hts⟩ (m_X8_at l D cy ad h_146 g_146 H.size 10 (gs_10) x7 (0 : Int32) P_167 HC_167) (cwV 2 hts (gd_V (wm3 203 rfl rfl) (wm2 221 rfl rfl) (wm2 222 rfl rfl) (wm1 3 rfl rfl) (wm2 223 rfl rfl)) rfl rfl rfl (by decide +kernel) ⟨Nat.le_of_ble_eq_true rfl, Nat.le_of_ble_eq_true rfl⟩) hK hNw hG gl_10 rfl gk_10 (by decide) rfl rfl hl.1 rfl (lv_room (Nat.le_of_ble_eq_true rfl)) dX9_spread_167 ⟨Nat.zero_le _, Nat.zero_le _⟩) hG (fun r_167 h_167 g_167 H locs hq hG => ?_)
            replace HW := HW r_167 h_167 g_167 hq
            refine lv_iadd hx hb dX9_spread_170 ?_
            refine lv_iload hx hb dX9_spread_171 (lv_at hl 0 rfl) ?_
            refine lv_ldc (v := 32768) hx hb hown cn65 dX9_spread_173 ?_
            refine lv_imul hx hb dX9_spread_175 ?_
            refine lv_iload hx hb dX9_spread_176 (lv_at hl 6 rfl) ?_
            refine lv_bipush (v := 8) hx hb dX9_spread_178 (by decide) ?_
            refine lv_imul hx hb dX9_spread_180 ?_
            refine lv_iadd hx hb dX9_spread_181 ?_
            refine lv_iload hx hb dX9_spread_182 (lv_at hl 7 rfl) ?_
            refine lv_iadd hx hb dX9_spread_184 ?_
            obtain ⟨P_185, HC_185, HW⟩ := HW
            refine g_callv (g_runV (As := [.int ((1 : Int32) - x1), .int (x3 + r_167), .int (((x8_150 * (32768 : Int32)) + (x6 * (8 : Int32))) + x7)]) (rest := []) ⟨hx, hb, hml, hown, hts⟩ (m_X9_reach l D cy ad h_167 g_167 H.size ((1 : Int32) - x1) (x3 + r_167) (((x8_150 * (32768 : Int32)) + (x6 * (8 : Int32))) + x7) P_185 HC_185) (cwV 3 hts (gd_V (wm3 186 rfl rfl) (wm3 188 rfl rfl) (wmp1 (q := (yX9_reach, 7)) 14 rfl) (wm1 7 rfl rfl) (wm3 189 rfl rfl)) rfl rfl rfl (by decide +kernel) ⟨Nat.le_of_ble_eq_true rfl, Nat.le_of_ble_eq_true rfl⟩) hK hNw hG gl_89 rfl gk_89 (by decide) rfl rfl hl.1 rfl (lv_room (Nat.le_of_ble_eq_true rfl)) dX9_spread_185 ⟨Nat.zero_le _, Nat.zero_le _⟩) hG (fun h_185 g_185 H locs hq hG => ?_)
            replace HW := HW h_185 g_185 hq
            exact B188 K12 hK12 K79 hK79 x1 x2 x3 x5 x6 x7 h_185 g_185 _ _ _ HW hG (lv_sub hl [1, 2, 3, 4, 5, 6, 7] rfl)
          · replace HW := HW.2 c_128
            refine lv_goto (tgt := 188) hx hb dX9_spread_131 (by decide) ?_
            exact B188 K12 hK12 K79 hK79 x1 x2 x3 x5 x6 x7 h_125 g_125 _ _ _ HW hG (lv_sub hl [0, 1, 2, 3, 4, 5, 6] rfl)
        · replace HW := HW.2 c_108
          refine lv_goto (tgt := 188) hx hb dX9_spread_111 (by decide) ?_
          exact B188 K12 hK12 K79 hK79 x1 x2 x3 x5 x6 x7 h_105 g_105 _ _ _ HW hG (lv_sub hl [0, 1, 2, 3, 4, 5, 6] rfl)
  have L12 : ∀ (n : Nat) (x1 : Int32) (x2 : Int32) (h : HI) (g : HL) (H : Heap) (locs : List Loc) (ls : Array Slot), lpN (F_X9_spread_12 Q) n (x1, x2, h, g) → gG D cy ad (gA ad s.heap.size) s.heap h g H locs → lv_has ls 9 [(0, .ref (ad 89)), (1, .int x1), (2, .int x2)] → W p l e ({ frames := 2, cells := 0, slots := 0, locals := 45 } : Room) s m args below meth c H locs 0 0 (MQ below (va_Qv (fun (u : HI × HL) => Q u.1 u.2) (gB D cy ad s.heap.size) (gA ad s.heap.size)) args s 0 0 (gA ad s.heap.size)) (F0 m 12 ls []) := by
    intro n
    induction n with
    | zero => intro x1 x2 h g H locs ls HW; exact HW.elim
    | succ n ih =>
      intro x1 x2 h g H locs ls HW hG hl
      have HW : b_X9_spread_12 Q (fun x1 x2 h g => lpN (F_X9_spread_12 Q) n (x1, x2, h, g)) x1 x2 h g := HW
      generalize hKe : (fun (x1 : Int32) (x2 : Int32) (h : HI) (g : HL) => lpN (F_X9_spread_12 Q) n (x1, x2, h, g)) = K12 at HW
      have hK12 : ∀ (x1 : Int32) (x2 : Int32) (h : HI) (g : HL) (H : Heap) (locs : List Loc) (ls : Array Slot), K12 x1 x2 h g → gG D cy ad (gA ad s.heap.size) s.heap h g H locs → lv_has ls 9 [(0, .ref (ad 89)), (1, .int x1), (2, .int x2)] → W p l e ({ frames := 2, cells := 0, slots := 0, locals := 45 } : Room) s m args below meth c H locs 0 0 (MQ below (va_Qv (fun (u : HI × HL) => Q u.1 u.2) (gB D cy ad s.heap.size) (gA ad s.heap.size)) args s 0 0 (gA ad s.heap.size)) (F0 m 12 ls []) := by subst hKe; exact ih
      clear ih
      clear hKe
      unfold b_X9_spread_12 at HW
      refine lv_iload_n hx hb dX9_spread_12 rfl (lv_at hl 2 rfl) ?_
      refine lv_aload_n hx hb dX9_spread_13 rfl (lv_at hl 0 rfl) ?_
      refine g_getr hx hb hw inG9 hown hK hG gl_89 rfl gk_89 (by decide) 3 (by decide) (by rw [gm_89]; decide) (r := 96) gr_89_3 lk19 dX9_spread_14 ?_
      refine lv_iload_n hx hb dX9_spread_17 rfl (lv_at hl 1 rfl) ?_
      refine g_iald hx hb hK hG gl_96 gk_96 gn_96 HW.1 dX9_spread_18 ?_
      replace HW := HW.2
      refine lv_icmp_ge (tgt := 200) hx hb dX9_spread_19 (by decide) (fun c_19 => ?_) (fun c_19 => ?_)
      · replace HW := HW.1 c_19
        exact W.vret hx hb hr (fun t ht hW => ⟨⟨(h, g), rfl, HW, g_B ht hG⟩, hG.2.2.F ht⟩) hG.2.2.2.2 dX9_spread_200
      · replace HW := HW.2 c_19
        refine lv_iload_n hx hb dX9_spread_22 rfl (lv_at hl 2 rfl) ?_
        refine lv_sipush (v := 3000) hx hb dX9_spread_23 (by decide) ?_
        refine lv_icmp_ge (tgt := 200) hx hb dX9_spread_26 (by decide) (fun c_26 => ?_) (fun c_26 => ?_)
        · replace HW := HW.1 c_26
          exact W.vret hx hb hr (fun t ht hW => ⟨⟨(h, g), rfl, HW, g_B ht hG⟩, hG.2.2.F ht⟩) hG.2.2.2.2 dX9_spread_200
        · replace HW := HW.2 c_26
          refine lv_aload_n hx hb dX9_spread_29 rfl (lv_at hl 0 rfl) ?_
          refine g_getr hx hb hw inG9 hown hK hG gl_89 rfl gk_89 (by decide) 2 (by decide) (by rw [gm_89]; decide) (r := 93) gr_89_2 lk16 dX9_spread_30 ?_
          refine lv_iload_n hx hb dX9_spread_33 rfl (lv_at hl 1 rfl) ?_
          have hi_34 := vp_lt HW.1
          refine g_aald hx hb hK hG gl_93 gk_93 gn_93 HW.1 (go_93 _ hi_34).1 dX9_spread_34 ?_
          replace HW := HW.2
          refine lv_iload_n hx hb dX9_spread_35 rfl (lv_at hl 2 rfl) ?_
          refine g_iald hx hb hK hG ((go_93 _ hi_34).2.2.1) ((go_93 _ hi_34).2.1) ((go_93 _ hi_34).2.2.2) HW.1 dX9_spread_36 ?_
          replace HW := HW.2
          refine lv_topi (fun x3_37 ex3_37 => ?_)
          replace HW := HW x3_37 ex3_37
          refine lv_istore_n (lv' := [(3, .int x3_37), (0, .ref (ad 89)), (1, .int x1), (2, .int x2)]) hx hb dX9_spread_37 rfl hl (by decide) rfl (fun ls hl => ?_)
          refine lv_iload_n hx hb dX9_spread_38 rfl (lv_at hl 0 rfl) ?_
          refine lv_iconst (v := 1) hx hb dX9_spread_39 (by decide) ?_
          refine lv_sipush (v := 3000) hx hb dX9_spread_40 (by decide) ?_
          obtain ⟨P_43, HC_43, HW⟩ := HW
          refine g_callz (g_runSN (As := [.int x3_37, .int (1 : Int32), .int (3000 : Int32)]) (rest := []) ⟨hx, hb, hml, hown, hts⟩ (m_X10_within l D cy ad h g H.size x3_37 (1 : Int32) (3000 : Int32) P_43 HC_43) ⟨va_cnB 3 hts (gd_w (wm2 195 rfl rfl)) rfl rfl rfl (hNw _ (List.mem_of_getElem? (i := 5) rfl)) (hw (.initialized RX10) (wm1 1 rfl rfl)) (by decide +kernel) ⟨Nat.le_of_ble_eq_true rfl, Nat.le_of_ble_eq_true rfl⟩, hw (.static yX10_within) (wm2 194 rfl rfl), trivial⟩ hK hNw hG rfl rfl hl.1 rfl (lv_room (Nat.le_of_ble_eq_true rfl)) dX9_spread_43 ⟨Nat.zero_le _, Nat.zero_le _⟩) hG (fun r_43 h_43 g_43 H locs hz hq hG => ?_)
          replace HW := HW r_43 h_43 g_43 hz hq
          refine lv_if_ne (tgt := 52) hx hb dX9_spread_46 (by decide) (fun c_46 => ?_) (fun c_46 => ?_)
          · replace HW := HW.1 c_46
            refine lv_aload_n hx hb dX9_spread_52 rfl (lv_at hl 1 rfl) ?_
            refine g_getr hx hb hw inG9 hown hK hG gl_89 rfl gk_89 (by decide) 1 (by decide) (by rw [gm_89]; decide) (r := 90) gr_89_1 lk11 dX9_spread_53 ?_
            refine lv_iload_n hx hb dX9_spread_56 rfl (lv_at hl 2 rfl) ?_
            have hi_57 := vp_lt HW.1
            refine g_aald hx hb hK hG gl_90 gk_90 gn_90 HW.1 (go_90 _ hi_57).1 dX9_spread_57 ?_
            replace HW := HW.2
            refine lv_iload_n hx hb dX9_spread_58 rfl (lv_at hl 0 rfl) ?_
            refine g_iald hx hb hK hG ((go_90 _ hi_57).2.2.1) ((go_90 _ hi_57).2.1) ((go_90 _ hi_57).2.2.2) HW.1 dX9_spread_59 ?_
            replace HW := HW.2
            refine lv_topi (fun x4_60 ex4_60 => ?_)
            replace HW := HW x4_60 ex4_60
            refine lv_istore (lv' := [(4, .int x4_60), (3, .int x3_37), (0, .ref (ad 89)), (1, .int x1), (2, .int x2)]) hx hb dX9_spread_60 hl (by decide) rfl (fun ls hl => ?_)
            refine lv_iload hx hb dX9_spread_62 (lv_at hl 0 rfl) ?_
            refine lv_ldc (v := 32768) hx hb hown cn65 dX9_spread_64 ?_
            refine lv_idiv hx hb dX9_spread_66 (by decide) ?_
            refine lv_topi (fun x5_67 ex5_67 => ?_)
            replace HW := HW x5_67 ex5_67
            refine lv_istore (lv' := [(5, .int x5_67), (4, .int x4_60), (3, .int x3_37), (0, .ref (ad 89)), (1, .int x1), (2, .int x2)]) hx hb dX9_spread_67 hl (by decide) rfl (fun ls hl => ?_)
            refine lv_iload hx hb dX9_spread_69 (lv_at hl 1 rfl) ?_
            refine lv_ldc (v := 32768) hx hb hown cn65 dX9_spread_71 ?_
            refine lv_irem hx hb dX9_spread_73 (by decide) ?_
            refine lv_topi (fun x6_74 ex6_74 => ?_)
            replace HW := HW x6_74 ex6_74
            refine lv_istore (lv' := [(6, .int x6_74), (5, .int x5_67), (4, .int x4_60), (3, .int x3_37), (0, .ref (ad 89)), (1, .int x1), (2, .int x2)]) hx hb dX9_spread_74 hl (by decide) rfl (fun ls hl => ?_)
            refine lv_iconst (v := 0) hx hb dX9_spread_76 (by decide) ?_
            refine lv_istore (lv' := [(7, .int (0 : Int32)), (6, .int x6_74), (5, .int x5_67), (4, .int x4_60), (3, .int x3_37), (0, .ref (ad 89)), (1, .int x1), (2, .int x2)]) hx hb dX9_spread_77 hl (by decide) rfl (fun ls hl => ?_)
            obtain ⟨n_79, HW⟩ := HW
            exact L79 K12 hK12 n_79 x1 x2 x3_37 x5_67 x6_74 (0 : Int32) h_43 g_43 _ _ _ HW hG (lv_sub hl [5, 6, 7, 4, 2, 1, 0] rfl)
          · replace HW := HW.2 c_46
            refine lv_goto (tgt := 194) hx hb dX9_spread_49 (by decide) ?_
            exact B194 K12 hK12 x1 x2 h_43 g_43 _ _ _ HW hG (lv_sub hl [1, 2, 3] rfl)
  have E0 : ∀ (H : Heap) (locs : List Loc) (ls : Array Slot), gG D cy ad (gA ad s.heap.size) s.heap h g H locs → lv_has ls 9 [(0, .ref (ad 89)), (1, .int x1)] → W p l e ({ frames := 2, cells := 0, slots := 0, locals := 45 } : Room) s m args below meth c H locs 0 0 (MQ below (va_Qv (fun (u : HI × HL) => Q u.1 u.2) (gB D cy ad s.heap.size) (gA ad s.heap.size)) args s 0 0 (gA ad s.heap.size)) (F0 m 0 ls []) := by
    intro H locs ls hG hl
    unfold w_X9_spread at HW
    refine lv_iload_n hx hb dX9_spread_0 rfl (lv_at hl 1 rfl) ?_
    refine lv_iconst (v := 0) hx hb dX9_spread_1 (by decide) ?_
    refine lv_iconst (v := 1) hx hb dX9_spread_2 (by decide) ?_
    obtain ⟨P_3, HC_3, HW⟩ := HW
    refine g_callz (g_runSN (As := [.int x1, .int (0 : Int32), .int (1 : Int32)]) (rest := []) ⟨hx, hb, hml, hown, hts⟩ (m_X10_within l D cy ad h g H.size x1 (0 : Int32) (1 : Int32) P_3 HC_3) ⟨va_cnB 3 hts (gd_w (wm2 195 rfl rfl)) rfl rfl rfl (hNw _ (List.mem_of_getElem? (i := 5) rfl)) (hw (.initialized RX10) (wm1 1 rfl rfl)) (by decide +kernel) ⟨Nat.le_of_ble_eq_true rfl, Nat.le_of_ble_eq_true rfl⟩, hw (.static yX10_within) (wm2 194 rfl rfl), trivial⟩ hK hNw hG rfl rfl hl.1 rfl (lv_room (Nat.le_of_ble_eq_true rfl)) dX9_spread_3 ⟨Nat.zero_le _, Nat.zero_le _⟩) hG (fun r_3 h_3 g_3 H locs hz hq hG => ?_)
    replace HW := HW r_3 h_3 g_3 hz hq
    refine lv_if_ne (tgt := 10) hx hb dX9_spread_6 (by decide) (fun c_6 => ?_) (fun c_6 => ?_)
    · replace HW := HW.1 c_6
      refine lv_iconst (v := 0) hx hb dX9_spread_10 (by decide) ?_
      refine lv_istore_n (lv' := [(2, .int (0 : Int32)), (0, .ref (ad 89)), (1, .int x1)]) hx hb dX9_spread_11 rfl hl (by decide) rfl (fun ls hl => ?_)
      obtain ⟨n_12, HW⟩ := HW
      exact L12 n_12 x1 (0 : Int32) h_3 g_3 _ _ _ HW hG (lv_sub hl [1, 2, 0] rfl)
    · replace HW := HW.2 c_6
      exact W.vret hx hb hr (fun t ht hW => ⟨⟨(h_3, g_3), rfl, HW, g_B ht hG⟩, hG.2.2.F ht⟩) hG.2.2.2.2 dX9_spread_9
  exact E0 _ _ _ hG hl

def j_X9_forget_64 (Q : HI → HL → Prop) (x1 : Int32) (h : HI) (g : HL) : Prop :=
  (vp_in x1 2 ∧ ∀ h_70 : HI, h_70 = hu h 96 x1.toNatClampNeg (0 : Int32) → Q h_70 g)
def j_X9_forget_58 (Q : HI → HL → Prop) (K12 : Int32 → Int32 → HI → HL → Prop) (x1 : Int32) (x2 : Int32) (h : HI) (g : HL) : Prop :=
  (∀ x2_58 : Int32, x2_58 = (x2 + 1) → K12 x1 x2_58 h g)
def b_X9_forget_12 (Q : HI → HL → Prop) (K12 : Int32 → Int32 → HI → HL → Prop) (x1 : Int32) (x2 : Int32) (h : HI) (g : HL) : Prop :=
  (vp_in x1 2 ∧ (((h 96 x1.toNatClampNeg) ≤ x2 → j_X9_forget_64 Q x1 h g) ∧ (¬ (h 96 x1.toNatClampNeg) ≤ x2 → (((3000 : Int32) ≤ x2 → j_X9_forget_64 Q x1 h g) ∧ (¬ (3000 : Int32) ≤ x2 → (vp_in x1 2 ∧ (vp_in x2 3000 ∧ (∀ x3_37 : Int32, x3_37 = (h (94 + x1.toNatClampNeg) x2.toNatClampNeg) → (∃ P_43 : Int32 → HI → HL → Prop, w_X10_within x3_37 (1 : Int32) (3000 : Int32) h g P_43 ∧ ∀ (r_43 : Int32) (h_43 : HI) (g_43 : HL), zb r_43 → P_43 r_43 h_43 g_43 → ((r_43 = 0 → j_X9_forget_58 Q K12 x1 x2 h_43 g_43) ∧ (¬ r_43 = 0 → (vp_in x1 2 ∧ (vp_in x3_37 3001 ∧ ∀ h_57 : HI, h_57 = hu h_43 (91 + x1.toNatClampNeg) x3_37.toNatClampNeg (-1 : Int32) → j_X9_forget_58 Q K12 x1 x2 h_57 g_43)))))))))))))
def F_X9_forget_12 (Q : HI → HL → Prop) (K : Int32 × Int32 × HI × HL → Prop) (q : Int32 × Int32 × HI × HL) : Prop := b_X9_forget_12 Q (fun x1 x2 h g => K (x1, x2, h, g)) q.1 q.2.1 q.2.2.1 q.2.2.2
def w_X9_forget (x1 : Int32) (h : HI) (g : HL) (Q : HI → HL → Prop) : Prop :=
  (∃ P_3 : Int32 → HI → HL → Prop, w_X10_within x1 (0 : Int32) (1 : Int32) h g P_3 ∧ ∀ (r_3 : Int32) (h_3 : HI) (g_3 : HL), zb r_3 → P_3 r_3 h_3 g_3 → ((¬ r_3 = 0 → lpE (F_X9_forget_12 Q) (x1, (0 : Int32), h_3, g_3)) ∧ (r_3 = 0 → Q h_3 g_3)))
set_option maxHeartbeats 8000000 in
set_option maxRecDepth 100000 in
theorem m_X9_forget (l : Launch) (D : va_G) (cy : Nat → ClassId) (ad : Nat → Nat) (h : HI) (g : HL) (sz : Nat) (x1 : Int32) (Q : HI → HL → Prop) (HW : w_X9_forget x1 h g Q) : Met l yX9_forget (wa yX9_forget cX9_forget 4 none) ({ frames := 1, cells := 0, slots := 0, locals := 22 }) (va_Pc [.ref (ad 89), .int x1] (gI D cy ad h g sz)) (va_Qv (fun (u : HI × HL) => Q u.1 u.2) (gB D cy ad sz) (gA ad sz)) 0 0 (gA ad sz) := by
  refine Met.ofW (cc := cX9_forget) (maxL := 4) (ret := none) (by decide) rfl ?_
  intro p e s m args below meth c s₁ B hml hv
  obtain ⟨hav, hsz, hP, hK, hD0, hNw⟩ := hv
  have hx := B.exec
  have hb := B.bytes
  have hr := B.returns
  have hts := atoms_spec (ws := (wa yX9_forget cX9_forget 4 none)) B.pre
  have hw := wa_hw hts
  have hown : s.vm.findClass RX9 = some m.cls := findClass_of_methodNamed B.named
  have hlocks := B.notSynchronized
  subst hsz
  have hG : gG D cy ad (gA ad s.heap.size) s.heap h g s.heap [] := ⟨hP, gA_self hD0, va_S.rf⟩
  clear hP hD0
  have lk19 := hw (.fieldLink RX9 19 "OldWorks$Ways" "many" "[I") (wm2 22 rfl rfl)
  have lk16 := hw (.fieldLink RX9 16 "OldWorks$Ways" "reached" "[[I") (wm2 21 rfl rfl)
  have lk11 := hw (.fieldLink RX9 11 "OldWorks$Ways" "best" "[[I") (wm2 20 rfl rfl)
  rw [show (headSpec (wa yX9_forget cX9_forget 4 none) ({ frames := 1, cells := 0, slots := 0, locals := 22 } : Room)).room = ({ frames := 1, cells := 0, slots := 0, locals := 22 } : Room) from rfl]
  have hl := lv_entry ([.ref (ad 89), .int x1]) (n := 4) (Nat.le_of_ble_eq_true rfl)
  rw [show entryFrame m args 4 = entryFrame m ([.ref (ad 89), .int x1] : List Value).toArray 4 from by rw [hav], lg_entry_eq]
  generalize (lg_sl ([.ref (ad 89), .int x1]) ++ List.replicate (4 - (lg_sl ([.ref (ad 89), .int x1])).length) Slot.unset).toArray = ls at hl ⊢
  have hl : lv_has ls 4 [(0, .ref (ad 89)), (1, .int x1)] := hl
  have B64 : ∀ (x1 : Int32) (h : HI) (g : HL) (H : Heap) (locs : List Loc) (ls : Array Slot), j_X9_forget_64 Q x1 h g → gG D cy ad (gA ad s.heap.size) s.heap h g H locs → lv_has ls 4 [(0, .ref (ad 89)), (1, .int x1)] → W p l e ({ frames := 1, cells := 0, slots := 0, locals := 22 } : Room) s m args below meth c H locs 0 0 (MQ below (va_Qv (fun (u : HI × HL) => Q u.1 u.2) (gB D cy ad s.heap.size) (gA ad s.heap.size)) args s 0 0 (gA ad s.heap.size)) (F0 m 64 ls []) := by
    intro x1 h g H locs ls HW hG hl
    unfold j_X9_forget_64 at HW
    refine lv_aload_n hx hb dX9_forget_64 rfl (lv_at hl 0 rfl) ?_
    refine g_getr hx hb hw inG9 hown hK hG gl_89 rfl gk_89 (by decide) 3 (by decide) (by rw [gm_89]; decide) (r := 96) gr_89_3 lk19 dX9_forget_65 ?_
    refine lv_iload_n hx hb dX9_forget_68 rfl (lv_at hl 1 rfl) ?_
    refine lv_iconst (v := 0) hx hb dX9_forget_69 (by decide) ?_
    refine g_iast hx hb hK hG gl_96 gk_96 gn_96 HW.1 dX9_forget_70 (fun H locs hG => ?_)
    replace HW := HW.2
    obtain ⟨h_70, eh_70⟩ : ∃ y : HI, y = hu h 96 x1.toNatClampNeg (0 : Int32) := ⟨_, rfl⟩
    rw [← eh_70] at hG
    replace HW := HW h_70 eh_70
    exact W.vret hx hb hr (fun t ht hW => ⟨⟨(h_70, g), rfl, HW, g_B ht hG⟩, hG.2.2.F ht⟩) hG.2.2.2.2 dX9_forget_71
  have B58 : ∀ (K12 : Int32 → Int32 → HI → HL → Prop) (hK12 : ∀ (x1 : Int32) (x2 : Int32) (h : HI) (g : HL) (H : Heap) (locs : List Loc) (ls : Array Slot), K12 x1 x2 h g → gG D cy ad (gA ad s.heap.size) s.heap h g H locs → lv_has ls 4 [(0, .ref (ad 89)), (1, .int x1), (2, .int x2)] → W p l e ({ frames := 1, cells := 0, slots := 0, locals := 22 } : Room) s m args below meth c H locs 0 0 (MQ below (va_Qv (fun (u : HI × HL) => Q u.1 u.2) (gB D cy ad s.heap.size) (gA ad s.heap.size)) args s 0 0 (gA ad s.heap.size)) (F0 m 12 ls [])) (x1 : Int32) (x2 : Int32) (h : HI) (g : HL) (H : Heap) (locs : List Loc) (ls : Array Slot), j_X9_forget_58 Q K12 x1 x2 h g → gG D cy ad (gA ad s.heap.size) s.heap h g H locs → lv_has ls 4 [(0, .ref (ad 89)), (1, .int x1), (2, .int x2)] → W p l e ({ frames := 1, cells := 0, slots := 0, locals := 22 } : Room) s m args below meth c H locs 0 0 (MQ below (va_Qv (fun (u : HI × HL) => Q u.1 u.2) (gB D cy ad s.heap.size) (gA ad s.heap.size)) args s 0 0 (gA ad s.heap.size)) (F0 m 58 ls []) := by
    intro K12 hK12 x1 x2 h g H locs ls HW hG hl
    unfold j_X9_forget_58 at HW
    obtain ⟨x2_58, ex2_58⟩ : ∃ y : Int32, y = (x2 + 1) := ⟨_, rfl⟩
    replace HW := HW x2_58 ex2_58
    refine lv_iinc (v := x2_58) (lv' := [(2, .int x2_58), (0, .ref (ad 89)), (1, .int x1)]) hx hb dX9_forget_58 hl (k := 2) rfl (by rw [ex2_58]; rfl) (by decide) rfl (fun ls hl => ?_)
    refine lv_goto (tgt := 12) hx hb dX9_forget_61 (by decide) ?_
    exact hK12 x1 x2_58 h g _ _ _ HW hG (lv_sub hl [1, 2, 0] rfl)
  have L12 : ∀ (n : Nat) (x1 : Int32) (x2 : Int32) (h : HI) (g : HL) (H : Heap) (locs : List Loc) (ls : Array Slot), lpN (F_X9_forget_12 Q) n (x1, x2, h, g) → gG D cy ad (gA ad s.heap.size) s.heap h g H locs → lv_has ls 4 [(0, .ref (ad 89)), (1, .int x1), (2, .int x2)] → W p l e ({ frames := 1, cells := 0, slots := 0, locals := 22 } : Room) s m args below meth c H locs 0 0 (MQ below (va_Qv (fun (u : HI × HL) => Q u.1 u.2) (gB D cy ad s.heap.size) (gA ad s.heap.size)) args s 0 0 (gA ad s.heap.size)) (F0 m 12 ls []) := by
    intro n
    induction n with
    | zero => intro x1 x2 h g H locs ls HW; exact HW.elim
    | succ n ih =>
      intro x1 x2 h g H locs ls HW hG hl
      have HW : b_X9_forget_12 Q (fun x1 x2 h g => lpN (F_X9_forget_12 Q) n (x1, x2, h, g)) x1 x2 h g := HW
      generalize hKe : (fun (x1 : Int32) (x2 : Int32) (h : HI) (g : HL) => lpN (F_X9_forget_12 Q) n (x1, x2, h, g)) = K12 at HW
      have hK12 : ∀ (x1 : Int32) (x2 : Int32) (h : HI) (g : HL) (H : Heap) (locs : List Loc) (ls : Array Slot), K12 x1 x2 h g → gG D cy ad (gA ad s.heap.size) s.heap h g H locs → lv_has ls 4 [(0, .ref (ad 89)), (1, .int x1), (2, .int x2)] → W p l e ({ frames := 1, cells := 0, slots := 0, locals := 22 } : Room) s m args below meth c H locs 0 0 (MQ below (va_Qv (fun (u : HI × HL) => Q u.1 u.2) (gB D cy ad s.heap.size) (gA ad s.heap.size)) args s 0 0 (gA ad s.heap.size)) (F0 m 12 ls []) := by subst hKe; exact ih
      clear ih
      clear hKe
      unfold b_X9_forget_12 at HW
      refine lv_iload_n hx hb dX9_forget_12 rfl (lv_at hl 2 rfl) ?_
      refine lv_aload_n hx hb dX9_forget_13 rfl (lv_at hl 0 rfl) ?_
      refine g_getr hx hb hw inG9 hown hK hG gl_89 rfl gk_89 (by decide) 3 (by decide) (by rw [gm_89]; decide) (r := 96) gr_89_3 lk19 dX9_forget_14 ?_
      refine lv_iload_n hx hb dX9_forget_17 rfl (lv_at hl 1 rfl) ?_
      refine g_iald hx hb hK hG gl_96 gk_96 gn_96 HW.1 dX9_forget_18 ?_
      replace HW := HW.2
      refine lv_icmp_ge (tgt := 64) hx hb dX9_forget_19 (by decide) (fun c_19 => ?_) (fun c_19 => ?_)
      · replace HW := HW.1 c_19
        exact B64 x1 h g _ _ _ HW hG (lv_sub hl [0, 1] rfl)
      · replace HW := HW.2 c_19
        refine lv_iload_n hx hb dX9_forget_22 rfl (lv_at hl 2 rfl) ?_
        refine lv_sipush (v := 3000) hx hb dX9_forget_23 (by decide) ?_
        refine lv_icmp_ge (tgt := 64) hx hb dX9_forget_26 (by decide) (fun c_26 => ?_) (fun c_26 => ?_)
        · replace HW := HW.1 c_26
          exact B64 x1 h g _ _ _ HW hG (lv_sub hl [0, 1] rfl)
        · replace HW := HW.2 c_26
          refine lv_aload_n hx hb dX9_forget_29 rfl (lv_at hl 0 rfl) ?_
          refine g_getr hx hb hw inG9 hown hK hG gl_89 rfl gk_89 (by decide) 2 (by decide) (by rw [gm_89]; decide) (r := 93) gr_89_2 lk16 dX9_forget_30 ?_
          refine lv_iload_n hx hb dX9_forget_33 rfl (lv_at hl 1 rfl) ?_
          have hi_34 := vp_lt HW.1
          refine g_aald hx hb hK hG gl_93 gk_93 gn_93 HW.1 (go_93 _ hi_34).1 dX9_forget_34 ?_
          replace HW := HW.2
          refine lv_iload_n hx hb dX9_forget_35 rfl (lv_at hl 2 rfl) ?_
          refine g_iald hx hb hK hG ((go_93 _ hi_34).2.2.1) ((go_93 _ hi_34).2.1) ((go_93 _ hi_34).2.2.2) HW.1 dX9_forget_36 ?_
          replace HW := HW.2
          refine lv_topi (fun x3_37 ex3_37 => ?_)
          replace HW := HW x3_37 ex3_37
          refine lv_istore_n (lv' := [(3, .int x3_37), (0, .ref (ad 89)), (1, .int x1), (2, .int x2)]) hx hb dX9_forget_37 rfl hl (by decide) rfl (fun ls hl => ?_)
          refine lv_iload_n hx hb dX9_forget_38 rfl (lv_at hl 0 rfl) ?_
          refine lv_iconst (v := 1) hx hb dX9_forget_39 (by decide) ?_
          refine lv_sipush (v := 3000) hx hb dX9_forget_40 (by decide) ?_
          obtain ⟨P_43, HC_43, HW⟩ := HW
          refine g_callz (g_runSN (As := [.int x3_37, .int (1 : Int32), .int (3000 : Int32)]) (rest := []) ⟨hx, hb, hml, hown, hts⟩ (m_X10_within l D cy ad h g H.size x3_37 (1 : Int32) (3000 : Int32) P_43 HC_43) ⟨va_cnB 3 hts (gd_w (wm2 195 rfl rfl)) rfl rfl rfl (hNw _ (List.mem_of_getElem? (i := 5) rfl)) (hw (.initialized RX10) (wm1 1 rfl rfl)) (by decide +kernel) ⟨Nat.le_of_ble_eq_true rfl, Nat.le_of_ble_eq_true rfl⟩, hw (.static yX10_within) (wm2 194 rfl rfl), trivial⟩ hK hNw hG rfl rfl hl.1 rfl (lv_room (Nat.le_of_ble_eq_true rfl)) dX9_forget_43 ⟨Nat.zero_le _, Nat.zero_le _⟩) hG (fun r_43 h_43 g_43 H locs hz hq hG => ?_)
          replace HW := HW r_43 h_43 g_43 hz hq
          refine lv_if_eq (tgt := 58) hx hb dX9_forget_46 (by decide) (fun c_46 => ?_) (fun c_46 => ?_)
          · replace HW := HW.1 c_46
            exact B58 K12 hK12 x1 x2 h_43 g_43 _ _ _ HW hG (lv_sub hl [1, 2, 3] rfl)
          · replace HW := HW.2 c_46
            refine lv_aload_n hx hb dX9_forget_49 rfl (lv_at hl 1 rfl) ?_
            refine g_getr hx hb hw inG9 hown hK hG gl_89 rfl gk_89 (by decide) 1 (by decide) (by rw [gm_89]; decide) (r := 90) gr_89_1 lk11 dX9_forget_50 ?_
            refine lv_iload_n hx hb dX9_forget_53 rfl (lv_at hl 2 rfl) ?_
            have hi_54 := vp_lt HW.1
            refine g_aald hx hb hK hG gl_90 gk_90 gn_90 HW.1 (go_90 _ hi_54).1 dX9_forget_54 ?_
            replace HW := HW.2
            refine lv_iload_n hx hb dX9_forget_55 rfl (lv_at hl 0 rfl) ?_
            refine lv_iconst (v := (-1)) hx hb dX9_forget_56 (by decide) ?_
            refine g_iast hx hb hK hG ((go_90 _ hi_54).2.2.1) ((go_90 _ hi_54).2.1) ((go_90 _ hi_54).2.2.2) HW.1 dX9_forget_57 (fun H locs hG => ?_)
            replace HW := HW.2
            obtain ⟨h_57, eh_57⟩ : ∃ y : HI, y = hu h_43 (91 + x1.toNatClampNeg) x3_37.toNatClampNeg (-1 : Int32) := ⟨_, rfl⟩
            rw [← eh_57] at hG
            replace HW := HW h_57 eh_57
            exact B58 K12 hK12 x1 x2 h_57 g_43 _ _ _ HW hG (lv_sub hl [1, 2, 3] rfl)
  have E0 : ∀ (H : Heap) (locs : List Loc) (ls : Array Slot), gG D cy ad (gA ad s.heap.size) s.heap h g H locs → lv_has ls 4 [(0, .ref (ad 89)), (1, .int x1)] → W p l e ({ frames := 1, cells := 0, slots := 0, locals := 22 } : Room) s m args below meth c H locs 0 0 (MQ below (va_Qv (fun (u : HI × HL) => Q u.1 u.2) (gB D cy ad s.heap.size) (gA ad s.heap.size)) args s 0 0 (gA ad s.heap.size)) (F0 m 0 ls []) := by
    intro H locs ls hG hl
    unfold w_X9_forget at HW
    refine lv_iload_n hx hb dX9_forget_0 rfl (lv_at hl 1 rfl) ?_
    refine lv_iconst (v := 0) hx hb dX9_forget_1 (by decide) ?_
    refine lv_iconst (v := 1) hx hb dX9_forget_2 (by decide) ?_
    obtain ⟨P_3, HC_3, HW⟩ := HW
    refine g_callz (g_runSN (As := [.int x1, .int (0 : Int32), .int (1 : Int32)]) (rest := []) ⟨hx, hb, hml, hown, hts⟩ (m_X10_within l D cy ad h g H.size x1 (0 : Int32) (1 : Int32) P_3 HC_3) ⟨va_cnB 3 hts (gd_w (wm2 195 rfl rfl)) rfl rfl rfl (hNw _ (List.mem_of_getElem? (i := 5) rfl)) (hw (.initialized RX10) (wm1 1 rfl rfl)) (by decide +kernel) ⟨Nat.le_of_ble_eq_true rfl, Nat.le_of_ble_eq_true rfl⟩, hw (.static yX10_within) (wm2 194 rfl rfl), trivial⟩ hK hNw hG rfl rfl hl.1 rfl (lv_room (Nat.le_of_ble_eq_true rfl)) dX9_forget_3 ⟨Nat.zero_le _, Nat.zero_le _⟩) hG (fun r_3 h_3 g_3 H locs hz hq hG => ?_)
    replace HW := HW r_3 h_3 g_3 hz hq
    refine lv_if_ne (tgt := 10) hx hb dX9_forget_6 (by decide) (fun c_6 => ?_) (fun c_6 => ?_)
    · replace HW := HW.1 c_6
      refine lv_iconst (v := 0) hx hb dX9_forget_10 (by decide) ?_
      refine lv_istore_n (lv' := [(2, .int (0 : Int32)), (0, .ref (ad 89)), (1, .int x1)]) hx hb dX9_forget_11 rfl hl (by decide) rfl (fun ls hl => ?_)
      obtain ⟨n_12, HW⟩ := HW
      exact L12 n_12 x1 (0 : Int32) h_3 g_3 _ _ _ HW hG (lv_sub hl [1, 2, 0] rfl)
    · replace HW := HW.2 c_6
      exact W.vret hx hb hr (fun t ht hW => ⟨⟨(h_3, g_3), rfl, HW, g_B ht hG⟩, hG.2.2.F ht⟩) hG.2.2.2.2 dX9_forget_9
  exact E0 _ _ _ hG hl

def j_X9_find_49 (Q : HI → HL → Prop) (K15 : Int32 → Int32 → Int32 → HI → HL → Prop) (x2 : Int32) (x3 : Int32) (x4 : Int32) (x5 : Int32) (h : HI) (g : HL) : Prop :=
  (∃ P_52 : HI → HL → Prop, w_X9_forget x5 h g P_52 ∧ ∀ (h_52 : HI) (g_52 : HL), P_52 h_52 g_52 → (∀ x4_55 : Int32, x4_55 = (x4 + 1) → K15 x2 x3 x4_55 h_52 g_52))
def b_X9_find_15 (Q : HI → HL → Prop) (K15 : Int32 → Int32 → Int32 → HI → HL → Prop) (x2 : Int32) (x3 : Int32) (x4 : Int32) (h : HI) (g : HL) : Prop :=
  (((5 : Int32) < x4 → Q h g) ∧ (¬ (5 : Int32) < x4 → (∀ x5_25 : Int32, x5_25 = (x4 &&& (1 : Int32)) → (∃ P_34 : HI → HL → Prop, w_X9_look x5_25 x4 x2 x3 h g P_34 ∧ ∀ (h_34 : HI) (g_34 : HL), P_34 h_34 g_34 → (((5 : Int32) ≤ x4 → j_X9_find_49 Q K15 x2 x3 x4 x5_25 h_34 g_34) ∧ (¬ (5 : Int32) ≤ x4 → (∃ P_46 : HI → HL → Prop, w_X9_spread x5_25 h_34 g_34 P_46 ∧ ∀ (h_46 : HI) (g_46 : HL), P_46 h_46 g_46 → j_X9_find_49 Q K15 x2 x3 x4 x5_25 h_46 g_46)))))))
def F_X9_find_15 (Q : HI → HL → Prop) (K : Int32 × Int32 × Int32 × HI × HL → Prop) (q : Int32 × Int32 × Int32 × HI × HL) : Prop := b_X9_find_15 Q (fun x2 x3 x4 h g => K (x2, x3, x4, h, g)) q.1 q.2.1 q.2.2.1 q.2.2.2.1 q.2.2.2.2
def w_X9_find (x1 : Int32) (x2 : Int32) (x3 : Int32) (h : HI) (g : HL) (Q : HI → HL → Prop) : Prop :=
  (∀ h_2 : HI, h_2 = hu h 89 5 (-1 : Int32) → (∃ P_9 : HI → HL → Prop, w_X9_reach (0 : Int32) x1 (0 : Int32) h_2 g P_9 ∧ ∀ (h_9 : HI) (g_9 : HL), P_9 h_9 g_9 → lpE (F_X9_find_15 Q) (x2, x3, (0 : Int32), h_9, g_9)))
set_option maxHeartbeats 8000000 in
set_option maxRecDepth 100000 in
theorem m_X9_find (l : Launch) (D : va_G) (cy : Nat → ClassId) (ad : Nat → Nat) (h : HI) (g : HL) (sz : Nat) (x1 : Int32) (x2 : Int32) (x3 : Int32) (Q : HI → HL → Prop) (HW : w_X9_find x1 x2 x3 h g Q) : Met l yX9_find (wa yX9_find cX9_find 6 none) ({ frames := 3, cells := 0, slots := 0, locals := 73 }) (va_Pc [.ref (ad 89), .int x1, .int x2, .int x3] (gI D cy ad h g sz)) (va_Qv (fun (u : HI × HL) => Q u.1 u.2) (gB D cy ad sz) (gA ad sz)) 0 0 (gA ad sz) := by
  refine Met.ofW (cc := cX9_find) (maxL := 6) (ret := none) (by decide) rfl ?_
  intro p e s m args below meth c s₁ B hml hv
  obtain ⟨hav, hsz, hP, hK, hD0, hNw⟩ := hv
  have hx := B.exec
  have hb := B.bytes
  have hr := B.returns
  have hts := atoms_spec (ws := (wa yX9_find cX9_find 6 none)) B.pre
  have hw := wa_hw hts
  have hown : s.vm.findClass RX9 = some m.cls := findClass_of_methodNamed B.named
  have hlocks := B.notSynchronized
  subst hsz
  have hG : gG D cy ad (gA ad s.heap.size) s.heap h g s.heap [] := ⟨hP, gA_self hD0, va_S.rf⟩
  clear hP hD0
  have lk33 := hw (.fieldLink RX9 33 "OldWorks$Ways" "price" "I") (wm2 24 rfl rfl)
  rw [show (headSpec (wa yX9_find cX9_find 6 none) ({ frames := 3, cells := 0, slots := 0, locals := 73 } : Room)).room = ({ frames := 3, cells := 0, slots := 0, locals := 73 } : Room) from rfl]
  have hl := lv_entry ([.ref (ad 89), .int x1, .int x2, .int x3]) (n := 6) (Nat.le_of_ble_eq_true rfl)
  rw [show entryFrame m args 6 = entryFrame m ([.ref (ad 89), .int x1, .int x2, .int x3] : List Value).toArray 6 from by rw [hav], lg_entry_eq]
  generalize (lg_sl ([.ref (ad 89), .int x1, .int x2, .int x3]) ++ List.replicate (6 - (lg_sl ([.ref (ad 89), .int x1, .int x2, .int x3])).length) Slot.unset).toArray = ls at hl ⊢
  have hl : lv_has ls 6 [(0, .ref (ad 89)), (1, .int x1), (2, .int x2), (3, .int x3)] := hl
  have B49 : ∀ (K15 : Int32 → Int32 → Int32 → HI → HL → Prop) (hK15 : ∀ (x2 : Int32) (x3 : Int32) (x4 : Int32) (h : HI) (g : HL) (H : Heap) (locs : List Loc) (ls : Array Slot), K15 x2 x3 x4 h g → gG D cy ad (gA ad s.heap.size) s.heap h g H locs → lv_has ls 6 [(0, .ref (ad 89)), (2, .int x2), (3, .int x3), (4, .int x4)] → W p l e ({ frames := 3, cells := 0, slots := 0, locals := 73 } : Room) s m args below meth c H locs 0 0 (MQ below (va_Qv (fun (u : HI × HL) => Q u.1 u.2) (gB D cy ad s.heap.size) (gA ad s.heap.size)) args s 0 0 (gA ad s.heap.size)) (F0 m 15 ls [])) (x2 : Int32) (x3 : Int32) (x4 : Int32) (x5 : Int32) (h : HI) (g : HL) (H : Heap) (locs : List Loc) (ls : Array Slot), j_X9_find_49 Q K15 x2 x3 x4 x5 h g → gG D cy ad (gA ad s.heap.size) s.heap h g H locs → lv_has ls 6 [(0, .ref (ad 89)), (2, .int x2), (3, .int x3), (4, .int x4), (5, .int x5)] → W p l e ({ frames := 3, cells := 0, slots := 0, locals := 73 } : Room) s m args below meth c H locs 0 0 (MQ below (va_Qv (fun (u : HI × HL) => Q u.1 u.2) (gB D cy ad s.heap.size) (gA ad s.heap.size)) args s 0 0 (gA ad s.heap.size)) (F0 m 49 ls []) := by
    intro K15 hK15 x2 x3 x4 x5 h g H locs ls HW hG hl
    unfold j_X9_find_49 at HW
    refine lv_aload_n hx hb dX9_find_49 rfl (lv_at hl 0 rfl) ?_
    refine lv_iload hx hb dX9_find_50 (lv_at hl 4 rfl) ?_
    obtain ⟨P_52, HC_52, HW⟩ := HW
    refine g_callv (g_runV (As := [.int x5]) (rest := []) ⟨hx, hb, hml, hown, hts⟩ (m_X9_forget l D cy ad h g H.size x5 P_52 HC_52) (cwV 1 hts (gd_V (wm3 204 rfl rfl) (wm3 206 rfl rfl) (wmp2 (q := (yX9_forget, 7)) 1 rfl) (wm1 7 rfl rfl) (wm3 207 rfl rfl)) rfl rfl rfl (by decide +kernel) ⟨Nat.le_of_ble_eq_true rfl, Nat.le_of_ble_eq_true rfl⟩) hK hNw hG gl_89 rfl gk_89 (by decide) rfl rfl hl.1 rfl (lv_room (Nat.le_of_ble_eq_true rfl)) dX9_find_52 ⟨Nat.zero_le _, Nat.zero_le _⟩) hG (fun h_52 g_52 H locs hq hG => ?_)
    replace HW := HW h_52 g_52 hq
    obtain ⟨x4_55, ex4_55⟩ : ∃ y : Int32, y = (x4 + 1) := ⟨_, rfl⟩
    replace HW := HW x4_55 ex4_55
    refine lv_iinc (v := x4_55) (lv' := [(4, .int x4_55), (0, .ref (ad 89)), (2, .int x2), (3, .int x3), (5, .int x5)]) hx hb dX9_find_55 hl (k := 3) rfl (by rw [ex4_55]; rfl) (by decide) rfl (fun ls hl => ?_)
    refine lv_goto (tgt := 15) hx hb dX9_find_58 (by decide) ?_
    exact hK15 x2 x3 x4_55 h_52 g_52 _ _ _ HW hG (lv_sub hl [1, 2, 3, 0] rfl)
  have L15 : ∀ (n : Nat) (x2 : Int32) (x3 : Int32) (x4 : Int32) (h : HI) (g : HL) (H : Heap) (locs : List Loc) (ls : Array Slot), lpN (F_X9_find_15 Q) n (x2, x3, x4, h, g) → gG D cy ad (gA ad s.heap.size) s.heap h g H locs → lv_has ls 6 [(0, .ref (ad 89)), (2, .int x2), (3, .int x3), (4, .int x4)] → W p l e ({ frames := 3, cells := 0, slots := 0, locals := 73 } : Room) s m args below meth c H locs 0 0 (MQ below (va_Qv (fun (u : HI × HL) => Q u.1 u.2) (gB D cy ad s.heap.size) (gA ad s.heap.size)) args s 0 0 (gA ad s.heap.size)) (F0 m 15 ls []) := by
    intro n
    induction n with
    | zero => intro x2 x3 x4 h g H locs ls HW; exact HW.elim
    | succ n ih =>
      intro x2 x3 x4 h g H locs ls HW hG hl
      have HW : b_X9_find_15 Q (fun x2 x3 x4 h g => lpN (F_X9_find_15 Q) n (x2, x3, x4, h, g)) x2 x3 x4 h g := HW
      generalize hKe : (fun (x2 : Int32) (x3 : Int32) (x4 : Int32) (h : HI) (g : HL) => lpN (F_X9_find_15 Q) n (x2, x3, x4, h, g)) = K15 at HW
      have hK15 : ∀ (x2 : Int32) (x3 : Int32) (x4 : Int32) (h : HI) (g : HL) (H : Heap) (locs : List Loc) (ls : Array Slot), K15 x2 x3 x4 h g → gG D cy ad (gA ad s.heap.size) s.heap h g H locs → lv_has ls 6 [(0, .ref (ad 89)), (2, .int x2), (3, .int x3), (4, .int x4)] → W p l e ({ frames := 3, cells := 0, slots := 0, locals := 73 } : Room) s m args below meth c H locs 0 0 (MQ below (va_Qv (fun (u : HI × HL) => Q u.1 u.2) (gB D cy ad s.heap.size) (gA ad s.heap.size)) args s 0 0 (gA ad s.heap.size)) (F0 m 15 ls []) := by subst hKe; exact ih
      clear ih
      clear hKe
      unfold b_X9_find_15 at HW
      refine lv_iload hx hb dX9_find_15 (lv_at hl 3 rfl) ?_
      refine lv_iconst (v := 5) hx hb dX9_find_17 (by decide) ?_
      refine lv_icmp_gt (tgt := 61) hx hb dX9_find_18 (by decide) (fun c_18 => ?_) (fun c_18 => ?_)
      · replace HW := HW.1 c_18
        exact W.vret hx hb hr (fun t ht hW => ⟨⟨(h, g), rfl, HW, g_B ht hG⟩, hG.2.2.F ht⟩) hG.2.2.2.2 dX9_find_61
      · replace HW := HW.2 c_18
        refine lv_iload hx hb dX9_find_21 (lv_at hl 3 rfl) ?_
        refine lv_iconst (v := 1) hx hb dX9_find_23 (by decide) ?_
        refine lv_iand hx hb dX9_find_24 ?_
        refine lv_topi (fun x5_25 ex5_25 => ?_)
        replace HW := HW x5_25 ex5_25
        refine lv_istore (lv' := [(5, .int x5_25), (0, .ref (ad 89)), (2, .int x2), (3, .int x3), (4, .int x4)]) hx hb dX9_find_25 hl (by decide) rfl (fun ls hl => ?_)
        refine lv_aload_n hx hb dX9_find_27 rfl (lv_at hl 1 rfl) ?_
        refine lv_iload hx hb dX9_find_28 (lv_at hl 0 rfl) ?_
        refine lv_iload hx hb dX9_find_30 (lv_at hl 4 rfl) ?_
        refine lv_iload_n hx hb dX9_find_32 rfl (lv_at hl 2 rfl) ?_
        refine lv_iload_n hx hb dX9_find_33 rfl (lv_at hl 3 rfl) ?_
        obtain ⟨P_34, HC_34, HW⟩ := HW
        refine g_callv (g_runV (As := [.int x5_25, .int x4, .int x2, .int x3]) (rest := []) ⟨hx, hb, hml, hown, hts⟩ (m_X9_look l D cy ad h g H.size x5_25 x4 x2 x3 P_34 HC_34) (cwV 4 hts (gd_V (wm3 191 rfl rfl) (wm3 193 rfl rfl) (wmp1 (q := (yX9_look, 7)) 15 rfl) (wm1 7 rfl rfl) (wm3 194 rfl rfl)) rfl rfl rfl (by decide +kernel) ⟨Nat.le_of_ble_eq_true rfl, Nat.le_of_ble_eq_true rfl⟩) hK hNw hG gl_89 rfl gk_89 (by decide) rfl rfl hl.1 rfl (lv_room (Nat.le_of_ble_eq_true rfl)) dX9_find_34 ⟨Nat.zero_le _, Nat.zero_le _⟩) hG (fun h_34 g_34 H locs hq hG => ?_)
        replace HW := HW h_34 g_34 hq
        refine lv_iload hx hb dX9_find_37 (lv_at hl 4 rfl) ?_
        refine lv_iconst (v := 5) hx hb dX9_find_39 (by decide) ?_
        refine lv_icmp_ge (tgt := 49) hx hb dX9_find_40 (by decide) (fun c_40 => ?_) (fun c_40 => ?_)
        · replace HW := HW.1 c_40
          exact B49 K15 hK15 x2 x3 x4 x5_25 h_34 g_34 _ _ _ HW hG (lv_sub hl [1, 2, 3, 4, 0] rfl)
        · replace HW := HW.2 c_40
          refine lv_aload_n hx hb dX9_find_43 rfl (lv_at hl 1 rfl) ?_
          refine lv_iload hx hb dX9_find_44 (lv_at hl 0 rfl) ?_
          obtain ⟨P_46, HC_46, HW⟩ := HW
          refine g_callv (g_runV (As := [.int x5_25]) (rest := []) ⟨hx, hb, hml, hown, hts⟩ (m_X9_spread l D cy ad h_34 g_34 H.size x5_25 P_46 HC_46) (cwV 1 hts (gd_V (wm3 198 rfl rfl) (wm3 200 rfl rfl) (wmp2 (q := (yX9_spread, 7)) 0 rfl) (wm1 7 rfl rfl) (wm3 201 rfl rfl)) rfl rfl rfl (by decide +kernel) ⟨Nat.le_of_ble_eq_true rfl, Nat.le_of_ble_eq_true rfl⟩) hK hNw hG gl_89 rfl gk_89 (by decide) rfl rfl hl.1 rfl (lv_room (Nat.le_of_ble_eq_true rfl)) dX9_find_46 ⟨Nat.zero_le _, Nat.zero_le _⟩) hG (fun h_46 g_46 H locs hq hG => ?_)
          replace HW := HW h_46 g_46 hq
          exact B49 K15 hK15 x2 x3 x4 x5_25 h_46 g_46 _ _ _ HW hG (lv_sub hl [1, 2, 3, 4, 0] rfl)
  have E0 : ∀ (H : Heap) (locs : List Loc) (ls : Array Slot), gG D cy ad (gA ad s.heap.size) s.heap h g H locs → lv_has ls 6 [(0, .ref (ad 89)), (1, .int x1), (2, .int x2), (3, .int x3)] → W p l e ({ frames := 3, cells := 0, slots := 0, locals := 73 } : Room) s m args below meth c H locs 0 0 (MQ below (va_Qv (fun (u : HI × HL) => Q u.1 u.2) (gB D cy ad s.heap.size) (gA ad s.heap.size)) args s 0 0 (gA ad s.heap.size)) (F0 m 0 ls []) := by
    intro H locs ls hG hl
    unfold w_X9_find at HW
    refine lv_aload_n hx hb dX9_find_0 rfl (lv_at hl 0 rfl) ?_
    refine lv_iconst (v := (-1)) hx hb dX9_find_1 (by decide) ?_
    refine g_put hx hb hw inG9 tyX9 tyX9_ok nmX9 hown hK hG gl_89 rfl gk_89 (by decide) 5 (by decide) (by rw [gm_89]; decide) gr_89_5 rfl (ty := .int) (by decide +kernel) rfl rfl lk33 dX9_find_2 (fun H locs hG => ?_)
    obtain ⟨h_2, eh_2⟩ : ∃ y : HI, y = hu h 89 5 (-1 : Int32) := ⟨_, rfl⟩
    rw [← eh_2] at hG
    replace HW := HW h_2 eh_2
    refine lv_aload_n hx hb dX9_find_5 rfl (lv_at hl 0 rfl) ?_
    refine lv_iconst (v := 0) hx hb dX9_find_6 (by decide) ?_
    refine lv_iload_n hx hb dX9_find_7 rfl (lv_at hl 1 rfl) ?_
    refine lv_iconst (v := 0) hx hb dX9_find_8 (by decide) ?_
    obtain ⟨P_9, HC_9, HW⟩ := HW
    refine g_callv (g_runV (As := [.int (0 : Int32), .int x1, .int (0 : Int32)]) (rest := []) ⟨hx, hb, hml, hown, hts⟩ (m_X9_reach l D cy ad h_2 g H.size (0 : Int32) x1 (0 : Int32) P_9 HC_9) (cwV 3 hts (gd_V (wm3 186 rfl rfl) (wm3 188 rfl rfl) (wmp1 (q := (yX9_reach, 7)) 14 rfl) (wm1 7 rfl rfl) (wm3 189 rfl rfl)) rfl rfl rfl (by decide +kernel) ⟨Nat.le_of_ble_eq_true rfl, Nat.le_of_ble_eq_true rfl⟩) hK hNw hG gl_89 rfl gk_89 (by decide) rfl rfl hl.1 rfl (lv_room (Nat.le_of_ble_eq_true rfl)) dX9_find_9 ⟨Nat.zero_le _, Nat.zero_le _⟩) hG (fun h_9 g_9 H locs hq hG => ?_)
    replace HW := HW h_9 g_9 hq
    refine lv_iconst (v := 0) hx hb dX9_find_12 (by decide) ?_
    refine lv_istore (lv' := [(4, .int (0 : Int32)), (0, .ref (ad 89)), (1, .int x1), (2, .int x2), (3, .int x3)]) hx hb dX9_find_13 hl (by decide) rfl (fun ls hl => ?_)
    obtain ⟨n_15, HW⟩ := HW
    exact L15 n_15 x2 x3 (0 : Int32) h_9 g_9 _ _ _ HW hG (lv_sub hl [1, 3, 4, 0] rfl)
  exact E0 _ _ _ hG hl

def w_X9_stepAt (x1 : Int32) (h : HI) (g : HL) (Q : Int32 → HI → HL → Prop) : Prop :=
  (∃ P_8 : Int32 → HI → HL → Prop, w_X10_within x1 (0 : Int32) ((h 89 6) - (1 : Int32)) h g P_8 ∧ ∀ (r_8 : Int32) (h_8 : HI) (g_8 : HL), zb r_8 → P_8 r_8 h_8 g_8 → ((r_8 = 0 → Q (-1 : Int32) h_8 g_8) ∧ (¬ r_8 = 0 → Q (((h_8 89 4) >>> (((3 : Int32) * (((h_8 89 6) - (1 : Int32)) - x1)) &&& 31)) &&& (7 : Int32)) h_8 g_8)))
set_option maxHeartbeats 8000000 in
set_option maxRecDepth 100000 in
theorem m_X9_stepAt (l : Launch) (D : va_G) (cy : Nat → ClassId) (ad : Nat → Nat) (h : HI) (g : HL) (sz : Nat) (x1 : Int32) (Q : Int32 → HI → HL → Prop) (HW : w_X9_stepAt x1 h g Q) : Met l yX9_stepAt (wa yX9_stepAt cX9_stepAt 2 (some .int)) ({ frames := 1, cells := 0, slots := 0, locals := 22 }) (va_Pc [.ref (ad 89), .int x1] (gI D cy ad h g sz)) (va_Qi (fun (r : Int32) (u : HI × HL) => Q r u.1 u.2) (gB D cy ad sz) (gA ad sz)) 0 0 (gA ad sz) := by
  refine Met.ofW (cc := cX9_stepAt) (maxL := 2) (ret := (some .int)) (by decide) rfl ?_
  intro p e s m args below meth c s₁ B hml hv
  obtain ⟨hav, hsz, hP, hK, hD0, hNw⟩ := hv
  have hx := B.exec
  have hb := B.bytes
  have hr := B.returns
  have hts := atoms_spec (ws := (wa yX9_stepAt cX9_stepAt 2 (some .int))) B.pre
  have hw := wa_hw hts
  have hown : s.vm.findClass RX9 = some m.cls := findClass_of_methodNamed B.named
  have hlocks := B.notSynchronized
  subst hsz
  have hG : gG D cy ad (gA ad s.heap.size) s.heap h g s.heap [] := ⟨hP, gA_self hD0, va_S.rf⟩
  clear hP hD0
  have lk69 := hw (.fieldLink RX9 69 "OldWorks$Ways" "steps" "I") (wm2 26 rfl rfl)
  have lk66 := hw (.fieldLink RX9 66 "OldWorks$Ways" "row" "I") (wm2 23 rfl rfl)
  rw [show (headSpec (wa yX9_stepAt cX9_stepAt 2 (some .int)) ({ frames := 1, cells := 0, slots := 0, locals := 22 } : Room)).room = ({ frames := 1, cells := 0, slots := 0, locals := 22 } : Room) from rfl]
  have hl := lv_entry ([.ref (ad 89), .int x1]) (n := 2) (Nat.le_of_ble_eq_true rfl)
  rw [show entryFrame m args 2 = entryFrame m ([.ref (ad 89), .int x1] : List Value).toArray 2 from by rw [hav], lg_entry_eq]
  generalize (lg_sl ([.ref (ad 89), .int x1]) ++ List.replicate (2 - (lg_sl ([.ref (ad 89), .int x1])).length) Slot.unset).toArray = ls at hl ⊢
  have hl : lv_has ls 2 [(0, .ref (ad 89)), (1, .int x1)] := hl
  have E0 : ∀ (H : Heap) (locs : List Loc) (ls : Array Slot), gG D cy ad (gA ad s.heap.size) s.heap h g H locs → lv_has ls 2 [(0, .ref (ad 89)), (1, .int x1)] → W p l e ({ frames := 1, cells := 0, slots := 0, locals := 22 } : Room) s m args below meth c H locs 0 0 (MQ below (va_Qi (fun (r : Int32) (u : HI × HL) => Q r u.1 u.2) (gB D cy ad s.heap.size) (gA ad s.heap.size)) args s 0 0 (gA ad s.heap.size)) (F0 m 0 ls []) := by
    intro H locs ls hG hl
    unfold w_X9_stepAt at HW
    refine lv_iload_n hx hb dX9_stepAt_0 rfl (lv_at hl 1 rfl) ?_
    refine lv_iconst (v := 0) hx hb dX9_stepAt_1 (by decide) ?_
    refine lv_aload_n hx hb dX9_stepAt_2 rfl (lv_at hl 0 rfl) ?_
    refine g_geti hx hb hw inG9 hown hK hG gl_89 rfl gk_89 (by decide) 6 (by decide) (by rw [gm_89]; decide) gr_89_6 lk69 dX9_stepAt_3 ?_
    refine lv_iconst (v := 1) hx hb dX9_stepAt_6 (by decide) ?_
    refine lv_isub hx hb dX9_stepAt_7 ?_
    obtain ⟨P_8, HC_8, HW⟩ := HW
    refine g_callz (g_runSN (As := [.int x1, .int (0 : Int32), .int ((h 89 6) - (1 : Int32))]) (rest := []) ⟨hx, hb, hml, hown, hts⟩ (m_X10_within l D cy ad h g H.size x1 (0 : Int32) ((h 89 6) - (1 : Int32)) P_8 HC_8) ⟨va_cnB 3 hts (gd_w (wm2 195 rfl rfl)) rfl rfl rfl (hNw _ (List.mem_of_getElem? (i := 5) rfl)) (hw (.initialized RX10) (wm1 1 rfl rfl)) (by decide +kernel) ⟨Nat.le_of_ble_eq_true rfl, Nat.le_of_ble_eq_true rfl⟩, hw (.static yX10_within) (wm2 194 rfl rfl), trivial⟩ hK hNw hG rfl rfl hl.1 rfl (lv_room (Nat.le_of_ble_eq_true rfl)) dX9_stepAt_8 ⟨Nat.zero_le _, Nat.zero_le _⟩) hG (fun r_8 h_8 g_8 H locs hz hq hG => ?_)
    replace HW := HW r_8 h_8 g_8 hz hq
    refine lv_if_eq (tgt := 35) hx hb dX9_stepAt_11 (by decide) (fun c_11 => ?_) (fun c_11 => ?_)
    · replace HW := HW.1 c_11
      refine lv_iconst (v := (-1)) hx hb dX9_stepAt_35 (by decide) ?_
      exact W.iret (v := (-1 : Int32)) hx hb hr (fun t ht hW => ⟨⟨(-1 : Int32), (h_8, g_8), rfl, HW, g_B ht hG⟩, hG.2.2.F ht⟩) hG.2.2.2.2 dX9_stepAt_36
    · replace HW := HW.2 c_11
      refine lv_aload_n hx hb dX9_stepAt_14 rfl (lv_at hl 0 rfl) ?_
      refine g_geti hx hb hw inG9 hown hK hG gl_89 rfl gk_89 (by decide) 4 (by decide) (by rw [gm_89]; decide) gr_89_4 lk66 dX9_stepAt_15 ?_
      refine lv_iconst (v := 3) hx hb dX9_stepAt_18 (by decide) ?_
      refine lv_aload_n hx hb dX9_stepAt_19 rfl (lv_at hl 0 rfl) ?_
      refine g_geti hx hb hw inG9 hown hK hG gl_89 rfl gk_89 (by decide) 6 (by decide) (by rw [gm_89]; decide) gr_89_6 lk69 dX9_stepAt_20 ?_
      refine lv_iconst (v := 1) hx hb dX9_stepAt_23 (by decide) ?_
      refine lv_isub hx hb dX9_stepAt_24 ?_
      refine lv_iload_n hx hb dX9_stepAt_25 rfl (lv_at hl 1 rfl) ?_
      refine lv_isub hx hb dX9_stepAt_26 ?_
      refine lv_imul hx hb dX9_stepAt_27 ?_
      refine lv_ishr hx hb dX9_stepAt_28 ?_
      refine lv_bipush (v := 7) hx hb dX9_stepAt_29 (by decide) ?_
      refine lv_iand hx hb dX9_stepAt_31 ?_
      refine lv_goto (tgt := 36) hx hb dX9_stepAt_32 (by decide) ?_
      exact W.iret (v := (((h_8 89 4) >>> (((3 : Int32) * (((h_8 89 6) - (1 : Int32)) - x1)) &&& 31)) &&& (7 : Int32))) hx hb hr (fun t ht hW => ⟨⟨(((h_8 89 4) >>> (((3 : Int32) * (((h_8 89 6) - (1 : Int32)) - x1)) &&& 31)) &&& (7 : Int32)), (h_8, g_8), rfl, HW, g_B ht hG⟩, hG.2.2.F ht⟩) hG.2.2.2.2 dX9_stepAt_36
  exact E0 _ _ _ hG hl

def w_X10_part (x1 : Int32) (x2 : Int32) (x3 : Int32) (x4 : Int32) (h : HI) (g : HL) (Q : Int32 → HI → HL → Prop) : Prop :=
  (∃ P_4 : Int32 → HI → HL → Prop, w_X10_within x1 (0 : Int32) (100 : Int32) h g P_4 ∧ ∀ (r_4 : Int32) (h_4 : HI) (g_4 : HL), zb r_4 → P_4 r_4 h_4 g_4 → ((r_4 = 0 → Q (-2 : Int32) h_4 g_4) ∧ (¬ r_4 = 0 → (∃ P_14 : Int32 → HI → HL → Prop, w_X10_within x2 (1 : Int32) (100 : Int32) h_4 g_4 P_14 ∧ ∀ (r_14 : Int32) (h_14 : HI) (g_14 : HL), zb r_14 → P_14 r_14 h_14 g_14 → ((¬ r_14 = 0 → (∃ P_27 : Int32 → HI → HL → Prop, w_X10_within x3 (0 : Int32) (99 : Int32) h_14 g_14 P_27 ∧ ∀ (r_27 : Int32) (h_27 : HI) (g_27 : HL), zb r_27 → P_27 r_27 h_27 g_27 → ((r_27 = 0 → Q (-2 : Int32) h_27 g_27) ∧ (¬ r_27 = 0 → (∃ P_37 : Int32 → HI → HL → Prop, w_X10_within x4 (-1 : Int32) (3 : Int32) h_27 g_27 P_37 ∧ ∀ (r_37 : Int32) (h_37 : HI) (g_37 : HL), zb r_37 → P_37 r_37 h_37 g_37 → ((¬ r_37 = 0 → (∃ P_58 : Int32 → HI → HL → Prop, w_X8_add 2 x1 x2 x3 x4 h_37 g_37 P_58 ∧ ∀ (r_58 : Int32) (h_58 : HI) (g_58 : HL), P_58 r_58 h_58 g_58 → Q r_58 h_58 g_58)) ∧ (r_37 = 0 → Q (-2 : Int32) h_37 g_37))))))) ∧ (r_14 = 0 → Q (-2 : Int32) h_14 g_14))))))
set_option maxHeartbeats 8000000 in
set_option maxRecDepth 100000 in
theorem m_X10_part (l : Launch) (D : va_G) (cy : Nat → ClassId) (ad : Nat → Nat) (h : HI) (g : HL) (sz : Nat) (x1 : Int32) (x2 : Int32) (x3 : Int32) (x4 : Int32) (Q : Int32 → HI → HL → Prop) (HW : w_X10_part x1 x2 x3 x4 h g Q) : Met l yX10_part (wa yX10_part cX10_part 5 (some .int)) ({ frames := 2, cells := 0, slots := 0, locals := 50 }) (va_Pc [.ref (ad 0), .int x1, .int x2, .int x3, .int x4] (gI D cy ad h g sz)) (va_Qi (fun (r : Int32) (u : HI × HL) => Q r u.1 u.2) (gB D cy ad sz) (gA ad sz)) 0 0 (gA ad sz) := by
  refine Met.ofW (cc := cX10_part) (maxL := 5) (ret := (some .int)) (by decide) rfl ?_
  intro p e s m args below meth c s₁ B hml hv
  obtain ⟨hav, hsz, hP, hK, hD0, hNw⟩ := hv
  have hx := B.exec
  have hb := B.bytes
  have hr := B.returns
  have hts := atoms_spec (ws := (wa yX10_part cX10_part 5 (some .int))) B.pre
  have hw := wa_hw hts
  have hown : s.vm.findClass RX10 = some m.cls := findClass_of_methodNamed B.named
  have hlocks := B.notSynchronized
  subst hsz
  have hG : gG D cy ad (gA ad s.heap.size) s.heap h g s.heap [] := ⟨hP, gA_self hD0, va_S.rf⟩
  clear hP hD0
  have lk10 := hw (.fieldLink RX10 10 "OldWorks" "shop" "LOldWorks$Shop;") (wm2 155 rfl rfl)
  have lk85 := hw (.fieldLink RX10 85 "OldWorks$Shop" "parts" "LOldWorks$Table;") (wm1 62 rfl rfl)
  rw [show (headSpec (wa yX10_part cX10_part 5 (some .int)) ({ frames := 2, cells := 0, slots := 0, locals := 50 } : Room)).room = ({ frames := 2, cells := 0, slots := 0, locals := 50 } : Room) from rfl]
  have hl := lv_entry ([.ref (ad 0), .int x1, .int x2, .int x3, .int x4]) (n := 5) (Nat.le_of_ble_eq_true rfl)
  rw [show entryFrame m args 5 = entryFrame m ([.ref (ad 0), .int x1, .int x2, .int x3, .int x4] : List Value).toArray 5 from by rw [hav], lg_entry_eq]
  generalize (lg_sl ([.ref (ad 0), .int x1, .int x2, .int x3, .int x4]) ++ List.replicate (5 - (lg_sl ([.ref (ad 0), .int x1, .int x2, .int x3, .int x4])).length) Slot.unset).toArray = ls at hl ⊢
  have hl : lv_has ls 5 [(0, .ref (ad 0)), (1, .int x1), (2, .int x2), (3, .int x3), (4, .int x4)] := hl
  have E0 : ∀ (H : Heap) (locs : List Loc) (ls : Array Slot), gG D cy ad (gA ad s.heap.size) s.heap h g H locs → lv_has ls 5 [(0, .ref (ad 0)), (1, .int x1), (2, .int x2), (3, .int x3), (4, .int x4)] → W p l e ({ frames := 2, cells := 0, slots := 0, locals := 50 } : Room) s m args below meth c H locs 0 0 (MQ below (va_Qi (fun (r : Int32) (u : HI × HL) => Q r u.1 u.2) (gB D cy ad s.heap.size) (gA ad s.heap.size)) args s 0 0 (gA ad s.heap.size)) (F0 m 0 ls []) := by
    intro H locs ls hG hl
    unfold w_X10_part at HW
    refine lv_iload_n hx hb dX10_part_0 rfl (lv_at hl 1 rfl) ?_
    refine lv_iconst (v := 0) hx hb dX10_part_1 (by decide) ?_
    refine lv_bipush (v := 100) hx hb dX10_part_2 (by decide) ?_
    obtain ⟨P_4, HC_4, HW⟩ := HW
    refine g_callz (g_runS (As := [.int x1, .int (0 : Int32), .int (100 : Int32)]) (rest := []) ⟨hx, hb, hml, hown, hts⟩ (m_X10_within l D cy ad h g H.size x1 (0 : Int32) (100 : Int32) P_4 HC_4) (va_cwS 3 hts (gd_S (wm2 193 rfl rfl) (wm2 194 rfl rfl) (wm1 1 rfl rfl) (wm2 195 rfl rfl)) rfl rfl rfl (by decide +kernel) ⟨Nat.le_of_ble_eq_true rfl, Nat.le_of_ble_eq_true rfl⟩) hK hNw hG rfl rfl hl.1 rfl (lv_room (Nat.le_of_ble_eq_true rfl)) dX10_part_4 ⟨Nat.zero_le _, Nat.zero_le _⟩) hG (fun r_4 h_4 g_4 H locs hz hq hG => ?_)
    replace HW := HW r_4 h_4 g_4 hz hq
    refine lv_if_eq (tgt := 20) hx hb dX10_part_7 (by decide) (fun c_7 => ?_) (fun c_7 => ?_)
    · replace HW := HW.1 c_7
      refine lv_bipush (v := (-2)) hx hb dX10_part_20 (by decide) ?_
      exact W.iret (v := (-2 : Int32)) hx hb hr (fun t ht hW => ⟨⟨(-2 : Int32), (h_4, g_4), rfl, HW, g_B ht hG⟩, hG.2.2.F ht⟩) hG.2.2.2.2 dX10_part_22
    · replace HW := HW.2 c_7
      refine lv_iload_n hx hb dX10_part_10 rfl (lv_at hl 2 rfl) ?_
      refine lv_iconst (v := 1) hx hb dX10_part_11 (by decide) ?_
      refine lv_bipush (v := 100) hx hb dX10_part_12 (by decide) ?_
      obtain ⟨P_14, HC_14, HW⟩ := HW
      refine g_callz (g_runS (As := [.int x2, .int (1 : Int32), .int (100 : Int32)]) (rest := []) ⟨hx, hb, hml, hown, hts⟩ (m_X10_within l D cy ad h_4 g_4 H.size x2 (1 : Int32) (100 : Int32) P_14 HC_14) (va_cwS 3 hts (gd_S (wm2 193 rfl rfl) (wm2 194 rfl rfl) (wm1 1 rfl rfl) (wm2 195 rfl rfl)) rfl rfl rfl (by decide +kernel) ⟨Nat.le_of_ble_eq_true rfl, Nat.le_of_ble_eq_true rfl⟩) hK hNw hG rfl rfl hl.1 rfl (lv_room (Nat.le_of_ble_eq_true rfl)) dX10_part_14 ⟨Nat.zero_le _, Nat.zero_le _⟩) hG (fun r_14 h_14 g_14 H locs hz hq hG => ?_)
      replace HW := HW r_14 h_14 g_14 hz hq
      refine lv_if_ne (tgt := 23) hx hb dX10_part_17 (by decide) (fun c_17 => ?_) (fun c_17 => ?_)
      · replace HW := HW.1 c_17
        refine lv_iload_n hx hb dX10_part_23 rfl (lv_at hl 3 rfl) ?_
        refine lv_iconst (v := 0) hx hb dX10_part_24 (by decide) ?_
        refine lv_bipush (v := 99) hx hb dX10_part_25 (by decide) ?_
        obtain ⟨P_27, HC_27, HW⟩ := HW
        refine g_callz (g_runS (As := [.int x3, .int (0 : Int32), .int (99 : Int32)]) (rest := []) ⟨hx, hb, hml, hown, hts⟩ (m_X10_within l D cy ad h_14 g_14 H.size x3 (0 : Int32) (99 : Int32) P_27 HC_27) (va_cwS 3 hts (gd_S (wm2 193 rfl rfl) (wm2 194 rfl rfl) (wm1 1 rfl rfl) (wm2 195 rfl rfl)) rfl rfl rfl (by decide +kernel) ⟨Nat.le_of_ble_eq_true rfl, Nat.le_of_ble_eq_true rfl⟩) hK hNw hG rfl rfl hl.1 rfl (lv_room (Nat.le_of_ble_eq_true rfl)) dX10_part_27 ⟨Nat.zero_le _, Nat.zero_le _⟩) hG (fun r_27 h_27 g_27 H locs hz hq hG => ?_)
        replace HW := HW r_27 h_27 g_27 hz hq
        refine lv_if_eq (tgt := 43) hx hb dX10_part_30 (by decide) (fun c_30 => ?_) (fun c_30 => ?_)
        · replace HW := HW.1 c_30
          refine lv_bipush (v := (-2)) hx hb dX10_part_43 (by decide) ?_
          exact W.iret (v := (-2 : Int32)) hx hb hr (fun t ht hW => ⟨⟨(-2 : Int32), (h_27, g_27), rfl, HW, g_B ht hG⟩, hG.2.2.F ht⟩) hG.2.2.2.2 dX10_part_45
        · replace HW := HW.2 c_30
          refine lv_iload hx hb dX10_part_33 (lv_at hl 4 rfl) ?_
          refine lv_iconst (v := (-1)) hx hb dX10_part_35 (by decide) ?_
          refine lv_iconst (v := 3) hx hb dX10_part_36 (by decide) ?_
          obtain ⟨P_37, HC_37, HW⟩ := HW
          refine g_callz (g_runS (As := [.int x4, .int (-1 : Int32), .int (3 : Int32)]) (rest := []) ⟨hx, hb, hml, hown, hts⟩ (m_X10_within l D cy ad h_27 g_27 H.size x4 (-1 : Int32) (3 : Int32) P_37 HC_37) (va_cwS 3 hts (gd_S (wm2 193 rfl rfl) (wm2 194 rfl rfl) (wm1 1 rfl rfl) (wm2 195 rfl rfl)) rfl rfl rfl (by decide +kernel) ⟨Nat.le_of_ble_eq_true rfl, Nat.le_of_ble_eq_true rfl⟩) hK hNw hG rfl rfl hl.1 rfl (lv_room (Nat.le_of_ble_eq_true rfl)) dX10_part_37 ⟨Nat.zero_le _, Nat.zero_le _⟩) hG (fun r_37 h_37 g_37 H locs hz hq hG => ?_)
          replace HW := HW r_37 h_37 g_37 hz hq
          refine lv_if_ne (tgt := 46) hx hb dX10_part_40 (by decide) (fun c_40 => ?_) (fun c_40 => ?_)
          · replace HW := HW.1 c_40
            refine lv_aload_n hx hb dX10_part_46 rfl (lv_at hl 0 rfl) ?_
            refine g_getr hx hb hw inG10 hown hK hG gl_0 rfl gk_0 (by decide) 0 (by decide) (by rw [gm_0]; decide) (r := 1) gr_0_0 lk10 dX10_part_47 ?_
            refine g_getr hx hb hw inG6 hown hK hG gl_1 rfl gk_1 (by decide) 0 (by decide) (by rw [gm_1]; decide) (r := 2) gr_1_0 lk85 dX10_part_50 ?_
            refine lv_iload_n hx hb dX10_part_53 rfl (lv_at hl 1 rfl) ?_
            refine lv_iload_n hx hb dX10_part_54 rfl (lv_at hl 2 rfl) ?_
            refine lv_iload_n hx hb dX10_part_55 rfl (lv_at hl 3 rfl) ?_
            refine lv_iload hx hb dX10_part_56 (lv_at hl 4 rfl) ?_
            obtain ⟨P_58, HC_58, HW⟩ := HW
            refine g_calli (g_runV (As := [.int x1, .int x2, .int x3, .int x4]) (rest := []) ⟨hx, hb, hml, hown, hts⟩ (m_X8_add l D cy ad h_37 g_37 H.size 2 (gs_2) x1 x2 x3 x4 P_58 HC_58) (cwV 4 hts (gd_V (wm2 196 rfl rfl) (wm1 53 rfl rfl) (wm1 54 rfl rfl) (wm1 3 rfl rfl) (wm1 55 rfl rfl)) rfl rfl rfl (by decide +kernel) ⟨Nat.le_of_ble_eq_true rfl, Nat.le_of_ble_eq_true rfl⟩) hK hNw hG gl_2 rfl gk_2 (by decide) rfl rfl hl.1 rfl (lv_room (Nat.le_of_ble_eq_true rfl)) dX10_part_58 ⟨Nat.zero_le _, Nat.zero_le _⟩) hG (fun r_58 h_58 g_58 H locs hq hG => ?_)
            replace HW := HW r_58 h_58 g_58 hq
            exact W.iret (v := r_58) hx hb hr (fun t ht hW => ⟨⟨r_58, (h_58, g_58), rfl, HW, g_B ht hG⟩, hG.2.2.F ht⟩) hG.2.2.2.2 dX10_part_61
          · replace HW := HW.2 c_40
            refine lv_bipush (v := (-2)) hx hb dX10_part_43 (by decide) ?_
            exact W.iret (v := (-2 : Int32)) hx hb hr (fun t ht hW => ⟨⟨(-2 : Int32), (h_37, g_37), rfl, HW, g_B ht hG⟩, hG.2.2.F ht⟩) hG.2.2.2.2 dX10_part_45
      · replace HW := HW.2 c_17
        refine lv_bipush (v := (-2)) hx hb dX10_part_20 (by decide) ?_
        exact W.iret (v := (-2 : Int32)) hx hb hr (fun t ht hW => ⟨⟨(-2 : Int32), (h_14, g_14), rfl, HW, g_B ht hG⟩, hG.2.2.F ht⟩) hG.2.2.2.2 dX10_part_22
  exact E0 _ _ _ hG hl

def w_X10_family (x1 : Int32) (x2 : Int32) (x3 : Int32) (x4 : Int32) (h : HI) (g : HL) (Q : Int32 → HI → HL → Prop) : Prop :=
  (∃ P_8 : Int32 → HI → HL → Prop, w_X8_has 4 x1 h g P_8 ∧ ∀ (r_8 : Int32) (h_8 : HI) (g_8 : HL), zb r_8 → P_8 r_8 h_8 g_8 → ((r_8 = 0 → Q (-2 : Int32) h_8 g_8) ∧ (¬ r_8 = 0 → (∃ P_18 : Int32 → HI → HL → Prop, w_X10_within x2 (1 : Int32) (100000 : Int32) h_8 g_8 P_18 ∧ ∀ (r_18 : Int32) (h_18 : HI) (g_18 : HL), zb r_18 → P_18 r_18 h_18 g_18 → ((¬ r_18 = 0 → (∃ P_31 : Int32 → HI → HL → Prop, w_X10_within x3 (1 : Int32) (100000 : Int32) h_18 g_18 P_31 ∧ ∀ (r_31 : Int32) (h_31 : HI) (g_31 : HL), zb r_31 → P_31 r_31 h_31 g_31 → ((r_31 = 0 → Q (-2 : Int32) h_31 g_31) ∧ (¬ r_31 = 0 → (∃ P_42 : Int32 → HI → HL → Prop, w_X10_within x4 (1 : Int32) (100000 : Int32) h_31 g_31 P_42 ∧ ∀ (r_42 : Int32) (h_42 : HI) (g_42 : HL), zb r_42 → P_42 r_42 h_42 g_42 → ((¬ r_42 = 0 → (((lg_cmp (((x2).toInt64) + ((((x4).toInt64) - (1 : Int64)) * ((x3).toInt64))) (100000 : Int64)) ≤ 0 → (∃ P_82 : HI → HL → Prop, w_X8_put 4 x1 (0 : Int32) x2 h_42 g_42 P_82 ∧ ∀ (h_82 : HI) (g_82 : HL), P_82 h_82 g_82 → (∃ P_95 : HI → HL → Prop, w_X8_put 4 x1 (1 : Int32) x3 h_82 g_82 P_95 ∧ ∀ (h_95 : HI) (g_95 : HL), P_95 h_95 g_95 → (∃ P_109 : HI → HL → Prop, w_X8_put 4 x1 (2 : Int32) x4 h_95 g_95 P_109 ∧ ∀ (h_109 : HI) (g_109 : HL), P_109 h_109 g_109 → Q (1 : Int32) h_109 g_109)))) ∧ (¬ (lg_cmp (((x2).toInt64) + ((((x4).toInt64) - (1 : Int64)) * ((x3).toInt64))) (100000 : Int64)) ≤ 0 → Q (-2 : Int32) h_42 g_42))) ∧ (r_42 = 0 → Q (-2 : Int32) h_42 g_42))))))) ∧ (r_18 = 0 → Q (-2 : Int32) h_18 g_18))))))
set_option maxHeartbeats 8000000 in
set_option maxRecDepth 100000 in
theorem m_X10_family (l : Launch) (D : va_G) (cy : Nat → ClassId) (ad : Nat → Nat) (h : HI) (g : HL) (sz : Nat) (x1 : Int32) (x2 : Int32) (x3 : Int32) (x4 : Int32) (Q : Int32 → HI → HL → Prop) (HW : w_X10_family x1 x2 x3 x4 h g Q) : Met l yX10_family (wa yX10_family cX10_family 5 (some .int)) ({ frames := 1, cells := 0, slots := 0, locals := 24 }) (va_Pc [.ref (ad 0), .int x1, .int x2, .int x3, .int x4] (gI D cy ad h g sz)) (va_Qi (fun (r : Int32) (u : HI × HL) => Q r u.1 u.2) (gB D cy ad sz) (gA ad sz)) 0 0 (gA ad sz) := by
  refine Met.ofW (cc := cX10_family) (maxL := 5) (ret := (some .int)) (by decide) rfl ?_
  intro p e s m args below meth c s₁ B hml hv
  obtain ⟨hav, hsz, hP, hK, hD0, hNw⟩ := hv
  have hx := B.exec
  have hb := B.bytes
  have hr := B.returns
  have hts := atoms_spec (ws := (wa yX10_family cX10_family 5 (some .int))) B.pre
  have hw := wa_hw hts
  have hown : s.vm.findClass RX10 = some m.cls := findClass_of_methodNamed B.named
  have hlocks := B.notSynchronized
  subst hsz
  have hG : gG D cy ad (gA ad s.heap.size) s.heap h g s.heap [] := ⟨hP, gA_self hD0, va_S.rf⟩
  clear hP hD0
  have lk10 := hw (.fieldLink RX10 10 "OldWorks" "shop" "LOldWorks$Shop;") (wm2 155 rfl rfl)
  have lk95 := hw (.fieldLink RX10 95 "OldWorks$Shop" "families" "LOldWorks$Table;") (wm1 66 rfl rfl)
  have cn102 := hw (.constant RX10 102 (100000)) (wm2 205 rfl rfl)
  have cn103 := hw (.constantLong RX10 103 (100000)) (wm2 206 rfl rfl)
  rw [show (headSpec (wa yX10_family cX10_family 5 (some .int)) ({ frames := 1, cells := 0, slots := 0, locals := 24 } : Room)).room = ({ frames := 1, cells := 0, slots := 0, locals := 24 } : Room) from rfl]
  have hl := lv_entry ([.ref (ad 0), .int x1, .int x2, .int x3, .int x4]) (n := 5) (Nat.le_of_ble_eq_true rfl)
  rw [show entryFrame m args 5 = entryFrame m ([.ref (ad 0), .int x1, .int x2, .int x3, .int x4] : List Value).toArray 5 from by rw [hav], lg_entry_eq]
  generalize (lg_sl ([.ref (ad 0), .int x1, .int x2, .int x3, .int x4]) ++ List.replicate (5 - (lg_sl ([.ref (ad 0), .int x1, .int x2, .int x3, .int x4])).length) Slot.unset).toArray = ls at hl ⊢
  have hl : lv_has ls 5 [(0, .ref (ad 0)), (1, .int x1), (2, .int x2), (3, .int x3), (4, .int x4)] := hl
  have E0 : ∀ (H : Heap) (locs : List Loc) (ls : Array Slot), gG D cy ad (gA ad s.heap.size) s.heap h g H locs → lv_has ls 5 [(0, .ref (ad 0)), (1, .int x1), (2, .int x2), (3, .int x3), (4, .int x4)] → W p l e ({ frames := 1, cells := 0, slots := 0, locals := 24 } : Room) s m args below meth c H locs 0 0 (MQ below (va_Qi (fun (r : Int32) (u : HI × HL) => Q r u.1 u.2) (gB D cy ad s.heap.size) (gA ad s.heap.size)) args s 0 0 (gA ad s.heap.size)) (F0 m 0 ls []) := by
    intro H locs ls hG hl
    unfold w_X10_family at HW
    refine lv_aload_n hx hb dX10_family_0 rfl (lv_at hl 0 rfl) ?_
    refine g_getr hx hb hw inG10 hown hK hG gl_0 rfl gk_0 (by decide) 0 (by decide) (by rw [gm_0]; decide) (r := 1) gr_0_0 lk10 dX10_family_1 ?_
    refine g_getr hx hb hw inG6 hown hK hG gl_1 rfl gk_1 (by decide) 1 (by decide) (by rw [gm_1]; decide) (r := 4) gr_1_1 lk95 dX10_family_4 ?_
    refine lv_iload_n hx hb dX10_family_7 rfl (lv_at hl 1 rfl) ?_
    obtain ⟨P_8, HC_8, HW⟩ := HW
    refine g_callz (g_runV (As := [.int x1]) (rest := []) ⟨hx, hb, hml, hown, hts⟩ (m_X8_has l D cy ad h g H.size 4 (gs_4) x1 P_8 HC_8) (cwV 1 hts (gd_V (wm2 201 rfl rfl) (wm2 202 rfl rfl) (wm2 203 rfl rfl) (wm1 3 rfl rfl) (wm2 204 rfl rfl)) rfl rfl rfl (by decide +kernel) ⟨Nat.le_of_ble_eq_true rfl, Nat.le_of_ble_eq_true rfl⟩) hK hNw hG gl_4 rfl gk_4 (by decide) rfl rfl hl.1 rfl (lv_room (Nat.le_of_ble_eq_true rfl)) dX10_family_8 ⟨Nat.zero_le _, Nat.zero_le _⟩) hG (fun r_8 h_8 g_8 H locs hz hq hG => ?_)
    replace HW := HW r_8 h_8 g_8 hz hq
    refine lv_if_eq (tgt := 24) hx hb dX10_family_11 (by decide) (fun c_11 => ?_) (fun c_11 => ?_)
    · replace HW := HW.1 c_11
      refine lv_bipush (v := (-2)) hx hb dX10_family_24 (by decide) ?_
      exact W.iret (v := (-2 : Int32)) hx hb hr (fun t ht hW => ⟨⟨(-2 : Int32), (h_8, g_8), rfl, HW, g_B ht hG⟩, hG.2.2.F ht⟩) hG.2.2.2.2 dX10_family_26
    · replace HW := HW.2 c_11
      refine lv_iload_n hx hb dX10_family_14 rfl (lv_at hl 2 rfl) ?_
      refine lv_iconst (v := 1) hx hb dX10_family_15 (by decide) ?_
      refine lv_ldc (v := 100000) hx hb hown cn102 dX10_family_16 ?_
      obtain ⟨P_18, HC_18, HW⟩ := HW
      refine g_callz (g_runS (As := [.int x2, .int (1 : Int32), .int (100000 : Int32)]) (rest := []) ⟨hx, hb, hml, hown, hts⟩ (m_X10_within l D cy ad h_8 g_8 H.size x2 (1 : Int32) (100000 : Int32) P_18 HC_18) (va_cwS 3 hts (gd_S (wm2 193 rfl rfl) (wm2 194 rfl rfl) (wm1 1 rfl rfl) (wm2 195 rfl rfl)) rfl rfl rfl (by decide +kernel) ⟨Nat.le_of_ble_eq_true rfl, Nat.le_of_ble_eq_true rfl⟩) hK hNw hG rfl rfl hl.1 rfl (lv_room (Nat.le_of_ble_eq_true rfl)) dX10_family_18 ⟨Nat.zero_le _, Nat.zero_le _⟩) hG (fun r_18 h_18 g_18 H locs hz hq hG => ?_)
      replace HW := HW r_18 h_18 g_18 hz hq
      refine lv_if_ne (tgt := 27) hx hb dX10_family_21 (by decide) (fun c_21 => ?_) (fun c_21 => ?_)
      · replace HW := HW.1 c_21
        refine lv_iload_n hx hb dX10_family_27 rfl (lv_at hl 3 rfl) ?_
        refine lv_iconst (v := 1) hx hb dX10_family_28 (by decide) ?_
        refine lv_ldc (v := 100000) hx hb hown cn102 dX10_family_29 ?_
        obtain ⟨P_31, HC_31, HW⟩ := HW
        refine g_callz (g_runS (As := [.int x3, .int (1 : Int32), .int (100000 : Int32)]) (rest := []) ⟨hx, hb, hml, hown, hts⟩ (m_X10_within l D cy ad h_18 g_18 H.size x3 (1 : Int32) (100000 : Int32) P_31 HC_31) (va_cwS 3 hts (gd_S (wm2 193 rfl rfl) (wm2 194 rfl rfl) (wm1 1 rfl rfl) (wm2 195 rfl rfl)) rfl rfl rfl (by decide +kernel) ⟨Nat.le_of_ble_eq_true rfl, Nat.le_of_ble_eq_true rfl⟩) hK hNw hG rfl rfl hl.1 rfl (lv_room (Nat.le_of_ble_eq_true rfl)) dX10_family_31 ⟨Nat.zero_le _, Nat.zero_le _⟩) hG (fun r_31 h_31 g_31 H locs hz hq hG => ?_)
        replace HW := HW r_31 h_31 g_31 hz hq
        refine lv_if_eq (tgt := 48) hx hb dX10_family_34 (by decide) (fun c_34 => ?_) (fun c_34 => ?_)
        · replace HW := HW.1 c_34
          refine lv_bipush (v := (-2)) hx hb dX10_family_48 (by decide) ?_
          exact W.iret (v := (-2 : Int32)) hx hb hr (fun t ht hW => ⟨⟨(-2 : Int32), (h_31, g_31), rfl, HW, g_B ht hG⟩, hG.2.2.F ht⟩) hG.2.2.2.2 dX10_family_50
        · replace HW := HW.2 c_34
          refine lv_iload hx hb dX10_family_37 (lv_at hl 4 rfl) ?_
          refine lv_iconst (v := 1) hx hb dX10_family_39 (by decide) ?_
          refine lv_ldc (v := 100000) hx hb hown cn102 dX10_family_40 ?_
          obtain ⟨P_42, HC_42, HW⟩ := HW
          refine g_callz (g_runS (As := [.int x4, .int (1 : Int32), .int (100000 : Int32)]) (rest := []) ⟨hx, hb, hml, hown, hts⟩ (m_X10_within l D cy ad h_31 g_31 H.size x4 (1 : Int32) (100000 : Int32) P_42 HC_42) (va_cwS 3 hts (gd_S (wm2 193 rfl rfl) (wm2 194 rfl rfl) (wm1 1 rfl rfl) (wm2 195 rfl rfl)) rfl rfl rfl (by decide +kernel) ⟨Nat.le_of_ble_eq_true rfl, Nat.le_of_ble_eq_true rfl⟩) hK hNw hG rfl rfl hl.1 rfl (lv_room (Nat.le_of_ble_eq_true rfl)) dX10_family_42 ⟨Nat.zero_le _, Nat.zero_le _⟩) hG (fun r_42 h_42 g_42 H locs hz hq hG => ?_)
          replace HW := HW r_42 h_42 g_42 hz hq
          refine lv_if_ne (tgt := 51) hx hb dX10_family_45 (by decide) (fun c_45 => ?_) (fun c_45 => ?_)
          · replace HW := HW.1 c_45
            refine lv_iload_n hx hb dX10_family_51 rfl (lv_at hl 2 rfl) ?_
            refine lv_i2l hx hb dX10_family_52 rfl ?_
            refine lv_iload hx hb dX10_family_53 (lv_at hl 4 rfl) ?_
            refine lv_i2l hx hb dX10_family_55 rfl ?_
            refine lv_lconst (v := 1) hx hb dX10_family_56 (by decide) ?_
            refine lv_lsub hx hb dX10_family_57 ?_
            refine lv_iload_n hx hb dX10_family_58 rfl (lv_at hl 3 rfl) ?_
            refine lv_i2l hx hb dX10_family_59 rfl ?_
            refine lv_lmul hx hb dX10_family_60 ?_
            refine lv_ladd hx hb dX10_family_61 ?_
            refine lv_ldc2 (v := 100000) hx hb hown cn103 dX10_family_62 ?_
            refine W.lcmp hx hb dX10_family_65 ?_
            refine lv_if_le (tgt := 72) hx hb dX10_family_66 (by decide) (fun c_66 => ?_) (fun c_66 => ?_)
            · replace HW := HW.1 c_66
              refine lv_aload_n hx hb dX10_family_72 rfl (lv_at hl 0 rfl) ?_
              refine g_getr hx hb hw inG10 hown hK hG gl_0 rfl gk_0 (by decide) 0 (by decide) (by rw [gm_0]; decide) (r := 1) gr_0_0 lk10 dX10_family_73 ?_
              refine g_getr hx hb hw inG6 hown hK hG gl_1 rfl gk_1 (by decide) 1 (by decide) (by rw [gm_1]; decide) (r := 4) gr_1_1 lk95 dX10_family_76 ?_
              refine lv_iload_n hx hb dX10_family_79 rfl (lv_at hl 1 rfl) ?_
              refine lv_iconst (v := 0) hx hb dX10_family_80 (by decide) ?_
              refine lv_iload_n hx hb dX10_family_81 rfl (lv_at hl 2 rfl) ?_
              obtain ⟨P_82, HC_82, HW⟩ := HW
              refine g_callv (g_runV (As := [.int x1, .int (0 : Int32), .int x2]) (rest := []) ⟨hx, hb, hml, hown, hts⟩ (m_X8_put l D cy ad h_42 g_42 H.size 4 (gs_4) x1 (0 : Int32) x2 P_82 HC_82) (cwV 3 hts (gd_V (wm2 207 rfl rfl) (wm1 57 rfl rfl) (wm1 58 rfl rfl) (wm1 3 rfl rfl) (wm1 59 rfl rfl)) rfl rfl rfl (by decide +kernel) ⟨Nat.le_of_ble_eq_true rfl, Nat.le_of_ble_eq_true rfl⟩) hK hNw hG gl_4 rfl gk_4 (by decide) rfl rfl hl.1 rfl (lv_room (Nat.le_of_ble_eq_true rfl)) dX10_family_82 ⟨Nat.zero_le _, Nat.zero_le _⟩) hG (fun h_82 g_82 H locs hq hG => ?_)
              replace HW := HW h_82 g_82 hq
              refine lv_aload_n hx hb dX10_family_85 rfl (lv_at hl 0 rfl) ?_
              refine g_getr hx hb hw inG10 hown hK hG gl_0 rfl gk_0 (by decide) 0 (by decide) (by rw [gm_0]; decide) (r := 1) gr_0_0 lk10 dX10_family_86 ?_
              refine g_getr hx hb hw inG6 hown hK hG gl_1 rfl gk_1 (by decide) 1 (by decide) (by rw [gm_1]; decide) (r := 4) gr_1_1 lk95 dX10_family_89 ?_
              refine lv_iload_n hx hb dX10_family_92 rfl (lv_at hl 1 rfl) ?_
              refine lv_iconst (v := 1) hx hb dX10_family_93 (by decide) ?_
              refine lv_iload_n hx hb dX10_family_94 rfl (lv_at hl 3 rfl) ?_
              obtain ⟨P_95, HC_95, HW⟩ := HW
              refine g_callv (g_runV (As := [.int x1, .int (1 : Int32), .int x3]) (rest := []) ⟨hx, hb, hml, hown, hts⟩ (m_X8_put l D cy ad h_82 g_82 H.size 4 (gs_4) x1 (1 : Int32) x3 P_95 HC_95) (cwV 3 hts (gd_V (wm2 207 rfl rfl) (wm1 57 rfl rfl) (wm1 58 rfl rfl) (wm1 3 rfl rfl) (wm1 59 rfl rfl)) rfl rfl rfl (by decide +kernel) ⟨Nat.le_of_ble_eq_true rfl, Nat.le_of_ble_eq_true rfl⟩) hK hNw hG gl_4 rfl gk_4 (by decide) rfl rfl hl.1 rfl (lv_room (Nat.le_of_ble_eq_true rfl)) dX10_family_95 ⟨Nat.zero_le _, Nat.zero_le _⟩) hG (fun h_95 g_95 H locs hq hG => ?_)
              replace HW := HW h_95 g_95 hq
              refine lv_aload_n hx hb dX10_family_98 rfl (lv_at hl 0 rfl) ?_
              refine g_getr hx hb hw inG10 hown hK hG gl_0 rfl gk_0 (by decide) 0 (by decide) (by rw [gm_0]; decide) (r := 1) gr_0_0 lk10 dX10_family_99 ?_
              refine g_getr hx hb hw inG6 hown hK hG gl_1 rfl gk_1 (by decide) 1 (by decide) (by rw [gm_1]; decide) (r := 4) gr_1_1 lk95 dX10_family_102 ?_
              refine lv_iload_n hx hb dX10_family_105 rfl (lv_at hl 1 rfl) ?_
              refine lv_iconst (v := 2) hx hb dX10_family_106 (by decide) ?_
              refine lv_iload hx hb dX10_family_107 (lv_at hl 4 rfl) ?_
              obtain ⟨P_109, HC_109, HW⟩ := HW
              refine g_callv (g_runV (As := [.int x1, .int (2 : Int32), .int x4]) (rest := []) ⟨hx, hb, hml, hown, hts⟩ (m_X8_put l D cy ad h_95 g_95 H.size 4 (gs_4) x1 (2 : Int32) x4 P_109 HC_109) (cwV 3 hts (gd_V (wm2 207 rfl rfl) (wm1 57 rfl rfl) (wm1 58 rfl rfl) (wm1 3 rfl rfl) (wm1 59 rfl rfl)) rfl rfl rfl (by decide +kernel) ⟨Nat.le_of_ble_eq_true rfl, Nat.le_of_ble_eq_true rfl⟩) hK hNw hG gl_4 rfl gk_4 (by decide) rfl rfl hl.1 rfl (lv_room (Nat.le_of_ble_eq_true rfl)) dX10_family_109 ⟨Nat.zero_le _, Nat.zero_le _⟩) hG (fun h_109 g_109 H locs hq hG => ?_)
              replace HW := HW h_109 g_109 hq
              refine lv_iconst (v := 1) hx hb dX10_family_112 (by decide) ?_
              exact W.iret (v := (1 : Int32)) hx hb hr (fun t ht hW => ⟨⟨(1 : Int32), (h_109, g_109), rfl, HW, g_B ht hG⟩, hG.2.2.F ht⟩) hG.2.2.2.2 dX10_family_113
            · replace HW := HW.2 c_66
              refine lv_bipush (v := (-2)) hx hb dX10_family_69 (by decide) ?_
              exact W.iret (v := (-2 : Int32)) hx hb hr (fun t ht hW => ⟨⟨(-2 : Int32), (h_42, g_42), rfl, HW, g_B ht hG⟩, hG.2.2.F ht⟩) hG.2.2.2.2 dX10_family_71
          · replace HW := HW.2 c_45
            refine lv_bipush (v := (-2)) hx hb dX10_family_48 (by decide) ?_
            exact W.iret (v := (-2 : Int32)) hx hb hr (fun t ht hW => ⟨⟨(-2 : Int32), (h_42, g_42), rfl, HW, g_B ht hG⟩, hG.2.2.F ht⟩) hG.2.2.2.2 dX10_family_50
      · replace HW := HW.2 c_21
        refine lv_bipush (v := (-2)) hx hb dX10_family_24 (by decide) ?_
        exact W.iret (v := (-2 : Int32)) hx hb hr (fun t ht hW => ⟨⟨(-2 : Int32), (h_18, g_18), rfl, HW, g_B ht hG⟩, hG.2.2.F ht⟩) hG.2.2.2.2 dX10_family_26
  exact E0 _ _ _ hG hl
