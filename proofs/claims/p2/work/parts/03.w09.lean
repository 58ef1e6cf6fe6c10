def j_X9_look_121 (Q : HI → HL → Prop) (x2 : Int32) (x5 : Int32) (h : HI) (g : HL) : Prop :=
  (∀ h_127 : HI, h_127 = hu h 89 5 (x5 / (32768 : Int32)) → (∀ h_136 : HI, h_136 = hu h_127 89 4 (x5 - x5 / (32768 : Int32) * (32768 : Int32)) → (∀ h_141 : HI, h_141 = hu h_136 89 6 x2 → Q h_141 g)))
def j_X9_look_94 (Q : HI → HL → Prop) (x2 : Int32) (x5 : Int32) (h : HI) (g : HL) : Prop :=
  ((x5 = (-1 : Int32) → Q h g) ∧ (¬ x5 = (-1 : Int32) → (((h 89 5) = (-1 : Int32) → j_X9_look_121 Q x2 x5 h g) ∧ (¬ (h 89 5) = (-1 : Int32) → (((x5 / (32768 : Int32)) < (h 89 5) → j_X9_look_121 Q x2 x5 h g) ∧ (¬ (x5 / (32768 : Int32)) < (h 89 5) → Q h g))))))
def j_X9_look_88 (Q : HI → HL → Prop) (K6 : Int32 → Int32 → Int32 → Int32 → Int32 → Int32 → HI → HL → Prop) (x1 : Int32) (x2 : Int32) (x3 : Int32) (x4 : Int32) (x5 : Int32) (x6 : Int32) (h : HI) (g : HL) : Prop :=
  (∀ x6_88 : Int32, x6_88 = (x6 + 1) → K6 x1 x2 x3 x4 x5 x6_88 h g)
def j_X9_look_84 (Q : HI → HL → Prop) (K6 : Int32 → Int32 → Int32 → Int32 → Int32 → Int32 → HI → HL → Prop) (x1 : Int32) (x2 : Int32) (x3 : Int32) (x4 : Int32) (x6 : Int32) (x8 : Int32) (h : HI) (g : HL) : Prop :=
  j_X9_look_88 Q K6 x1 x2 x3 x4 x8 x6 h g
def b_X9_look_6 (Q : HI → HL → Prop) (K6 : Int32 → Int32 → Int32 → Int32 → Int32 → Int32 → HI → HL → Prop) (x1 : Int32) (x2 : Int32) (x3 : Int32) (x4 : Int32) (x5 : Int32) (x6 : Int32) (h : HI) (g : HL) : Prop :=
  (vp_in x1 2 ∧ (((h 96 x1.toNatClampNeg) ≤ x6 → j_X9_look_94 Q x2 x5 h g) ∧ (¬ (h 96 x1.toNatClampNeg) ≤ x6 → (((3000 : Int32) ≤ x6 → j_X9_look_94 Q x2 x5 h g) ∧ (¬ (3000 : Int32) ≤ x6 → (vp_in x1 2 ∧ (vp_in x6 3000 ∧ (∀ x7_34 : Int32, x7_34 = (h (94 + x1.toNatClampNeg) x6.toNatClampNeg) → (∃ P_51 : Int32 → HI → HL → Prop, w_X10_within x7_34 (if x3 < (1 : Int32) then (1 : Int32) else x3) (if (3000 : Int32) < x4 then (3000 : Int32) else x4) h g P_51 ∧ ∀ (r_51 : Int32) (h_51 : HI) (g_51 : HL), zb r_51 → P_51 r_51 h_51 g_51 → ((¬ r_51 = 0 → (vp_in x1 2 ∧ (vp_in x7_34 3001 ∧ (∀ x8_69 : Int32, x8_69 = (h_51 (91 + x1.toNatClampNeg) x7_34.toNatClampNeg) → ((x5 = (-1 : Int32) → j_X9_look_84 Q K6 x1 x2 x3 x4 x6 x8_69 h_51 g_51) ∧ (¬ x5 = (-1 : Int32) → ((x5 ≤ x8_69 → j_X9_look_88 Q K6 x1 x2 x3 x4 x5 x6 h_51 g_51) ∧ (¬ x5 ≤ x8_69 → j_X9_look_84 Q K6 x1 x2 x3 x4 x6 x8_69 h_51 g_51)))))))) ∧ (r_51 = 0 → j_X9_look_88 Q K6 x1 x2 x3 x4 x5 x6 h_51 g_51)))))))))))
def F_X9_look_6 (Q : HI → HL → Prop) (K : Int32 × Int32 × Int32 × Int32 × Int32 × Int32 × HI × HL → Prop) (q : Int32 × Int32 × Int32 × Int32 × Int32 × Int32 × HI × HL) : Prop := b_X9_look_6 Q (fun x1 x2 x3 x4 x5 x6 h g => K (x1, x2, x3, x4, x5, x6, h, g)) q.1 q.2.1 q.2.2.1 q.2.2.2.1 q.2.2.2.2.1 q.2.2.2.2.2.1 q.2.2.2.2.2.2.1 q.2.2.2.2.2.2.2
def w_X9_look (x1 : Int32) (x2 : Int32) (x3 : Int32) (x4 : Int32) (h : HI) (g : HL) (Q : HI → HL → Prop) : Prop :=
  lpE (F_X9_look_6 Q) (x1, x2, x3, x4, (-1 : Int32), (0 : Int32), h, g)
set_option maxHeartbeats 8000000 in
set_option maxRecDepth 100000 in
theorem m_X9_look (l : Launch) (D : va_G) (cy : Nat → ClassId) (ad : Nat → Nat) (h : HI) (g : HL) (sz : Nat) (x1 : Int32) (x2 : Int32) (x3 : Int32) (x4 : Int32) (Q : HI → HL → Prop) (HW : w_X9_look x1 x2 x3 x4 h g Q) : Met l yX9_look (wa yX9_look cX9_look 9 none) ({ frames := 1, cells := 0, slots := 0, locals := 32 }) (va_Pc [.ref (ad 89), .int x1, .int x2, .int x3, .int x4] (gI D cy ad h g sz)) (va_Qv (fun (u : HI × HL) => Q u.1 u.2) (gB D cy ad sz) (gA ad sz)) 0 0 (gA ad sz) := by
  refine Met.ofW (cc := cX9_look) (maxL := 9) (ret := none) (by decide) rfl ?_
  intro p e s m args below meth c s₁ B hml hv
  obtain ⟨hav, hsz, hP, hK, hD0, hNw⟩ := hv
  have hx := B.exec
  have hb := B.bytes
  have hr := B.returns
  have hts := atoms_spec (ws := (wa yX9_look cX9_look 9 none)) B.pre
  have hw := wa_hw hts
  have hown : s.vm.findClass RX9 = some m.cls := findClass_of_methodNamed B.named
  have hlocks := B.notSynchronized
  subst hsz
  have hG : gG D cy ad (gA ad s.heap.size) s.heap h g s.heap [] := ⟨hP, gA_self hD0, va_S.rf⟩
  clear hP hD0
  have lk19 := hw (.fieldLink RX9 19 "OldWorks$Ways" "many" "[I") (wm2 22 rfl rfl)
  have lk16 := hw (.fieldLink RX9 16 "OldWorks$Ways" "reached" "[[I") (wm2 21 rfl rfl)
  have ml52 := hw (.methodLink RX9 52 Lib.Math.max.name) (wm3 195 rfl rfl)
  have ms52 := hw (.static Lib.Math.max.name) (wm3 45 rfl rfl)
  have mi52 := hw (.initialized "java/lang/Math") (wm1 14 rfl rfl)
  have mc52 := hw (.code Lib.Math.max.name Lib.Math.max.code 2 (some .int)) (wm3 46 rfl rfl)
  have ml58 := hw (.methodLink RX9 58 Lib.Math.min.name) (wm3 196 rfl rfl)
  have ms58 := hw (.static Lib.Math.min.name) (wm3 99 rfl rfl)
  have mi58 := hw (.initialized "java/lang/Math") (wm1 14 rfl rfl)
  have mc58 := hw (.code Lib.Math.min.name Lib.Math.min.code 2 (some .int)) (wm3 100 rfl rfl)
  have lk11 := hw (.fieldLink RX9 11 "OldWorks$Ways" "best" "[[I") (wm2 20 rfl rfl)
  have lk33 := hw (.fieldLink RX9 33 "OldWorks$Ways" "price" "I") (wm2 24 rfl rfl)
  have cn65 := hw (.constant RX9 65 (32768)) (wm3 197 rfl rfl)
  have lk66 := hw (.fieldLink RX9 66 "OldWorks$Ways" "row" "I") (wm2 23 rfl rfl)
  have lk69 := hw (.fieldLink RX9 69 "OldWorks$Ways" "steps" "I") (wm2 26 rfl rfl)
  rw [show (headSpec (wa yX9_look cX9_look 9 none) ({ frames := 1, cells := 0, slots := 0, locals := 32 } : Room)).room = ({ frames := 1, cells := 0, slots := 0, locals := 32 } : Room) from rfl]
  have hl := lv_entry ([.ref (ad 89), .int x1, .int x2, .int x3, .int x4]) (n := 9) (Nat.le_of_ble_eq_true rfl)
  rw [show entryFrame m args 9 = entryFrame m ([.ref (ad 89), .int x1, .int x2, .int x3, .int x4] : List Value).toArray 9 from by rw [hav], lg_entry_eq]
  generalize (lg_sl ([.ref (ad 89), .int x1, .int x2, .int x3, .int x4]) ++ List.replicate (9 - (lg_sl ([.ref (ad 89), .int x1, .int x2, .int x3, .int x4])).length) Slot.unset).toArray = ls at hl ⊢
  have hl : lv_has ls 9 [(0, .ref (ad 89)), (1, .int x1), (2, .int x2), (3, .int x3), (4, .int x4)] := hl
  have B121 : ∀ (x2 : Int32) (x5 : Int32) (h : HI) (g : HL) (H : Heap) (locs : List Loc) (ls : Array Slot), j_X9_look_121 Q x2 x5 h g → gG D cy ad (gA ad s.heap.size) s.heap h g H locs → lv_has ls 9 [(0, .ref (ad 89)), (2, .int x2), (5, .int x5)] → W p l e ({ frames := 1, cells := 0, slots := 0, locals := 32 } : Room) s m args below meth c H locs 0 0 (MQ below (va_Qv (fun (u : HI × HL) => Q u.1 u.2) (gB D cy ad s.heap.size) (gA ad s.heap.size)) args s 0 0 (gA ad s.heap.size)) (F0 m 121 ls []) := by
    intro x2 x5 h g H locs ls HW hG hl
    unfold j_X9_look_121 at HW
    refine lv_aload_n hx hb dX9_look_121 rfl (lv_at hl 0 rfl) ?_
    refine lv_iload hx hb dX9_look_122 (lv_at hl 2 rfl) ?_
    refine lv_ldc (v := 32768) hx hb hown cn65 dX9_look_124 ?_
    refine lv_idiv hx hb dX9_look_126 (by decide) ?_
    refine g_put hx hb hw inG9 tyX9 tyX9_ok nmX9 hown hK hG gl_89 rfl gk_89 (by decide) 5 (by decide) (by rw [gm_89]; decide) gr_89_5 rfl (ty := .int) (by decide +kernel) rfl rfl lk33 dX9_look_127 (fun H locs hG => ?_)
    obtain ⟨h_127, eh_127⟩ : ∃ y : HI, y = hu h 89 5 (x5 / (32768 : Int32)) := ⟨_, rfl⟩
    rw [← eh_127] at hG
    replace HW := HW h_127 eh_127
    refine lv_aload_n hx hb dX9_look_130 rfl (lv_at hl 0 rfl) ?_
    refine lv_iload hx hb dX9_look_131 (lv_at hl 2 rfl) ?_
    refine lv_ldc (v := 32768) hx hb hown cn65 dX9_look_133 ?_
    refine lv_irem hx hb dX9_look_135 (by decide) ?_
    refine g_put hx hb hw inG9 tyX9 tyX9_ok nmX9 hown hK hG gl_89 rfl gk_89 (by decide) 4 (by decide) (by rw [gm_89]; decide) gr_89_4 rfl (ty := .int) (by decide +kernel) rfl rfl lk66 dX9_look_136 (fun H locs hG => ?_)
    obtain ⟨h_136, eh_136⟩ : ∃ y : HI, y = hu h_127 89 4 (x5 - x5 / (32768 : Int32) * (32768 : Int32)) := ⟨_, rfl⟩
    rw [← eh_136] at hG
    replace HW := HW h_136 eh_136
    refine lv_aload_n hx hb dX9_look_139 rfl (lv_at hl 0 rfl) ?_
    refine lv_iload_n hx hb dX9_look_140 rfl (lv_at hl 1 rfl) ?_
    refine g_put hx hb hw inG9 tyX9 tyX9_ok nmX9 hown hK hG gl_89 rfl gk_89 (by decide) 6 (by decide) (by rw [gm_89]; decide) gr_89_6 rfl (ty := .int) (by decide +kernel) rfl rfl lk69 dX9_look_141 (fun H locs hG => ?_)
    obtain ⟨h_141, eh_141⟩ : ∃ y : HI, y = hu h_136 89 6 x2 := ⟨_, rfl⟩
    rw [← eh_141] at hG
    replace HW := HW h_141 eh_141
    exact W.vret hx hb hr (fun t ht hW => ⟨⟨(h_141, g), rfl, HW, g_B ht hG⟩, hG.2.2.F ht⟩) hG.2.2.2.2 dX9_look_144
  have B94 : ∀ (x2 : Int32) (x5 : Int32) (h : HI) (g : HL) (H : Heap) (locs : List Loc) (ls : Array Slot), j_X9_look_94 Q x2 x5 h g → gG D cy ad (gA ad s.heap.size) s.heap h g H locs → lv_has ls 9 [(0, .ref (ad 89)), (2, .int x2), (5, .int x5)] → W p l e ({ frames := 1, cells := 0, slots := 0, locals := 32 } : Room) s m args below meth c H locs 0 0 (MQ below (va_Qv (fun (u : HI × HL) => Q u.1 u.2) (gB D cy ad s.heap.size) (gA ad s.heap.size)) args s 0 0 (gA ad s.heap.size)) (F0 m 94 ls []) := by
    intro x2 x5 h g H locs ls HW hG hl
    unfold j_X9_look_94 at HW
    refine lv_iload hx hb dX9_look_94 (lv_at hl 2 rfl) ?_
    refine lv_iconst (v := (-1)) hx hb dX9_look_96 (by decide) ?_
    refine lv_icmp_eq (tgt := 120) hx hb dX9_look_97 (by decide) (fun c_97 => ?_) (fun c_97 => ?_)
    · replace HW := HW.1 c_97
      exact W.vret hx hb hr (fun t ht hW => ⟨⟨(h, g), rfl, HW, g_B ht hG⟩, hG.2.2.F ht⟩) hG.2.2.2.2 dX9_look_120
    · replace HW := HW.2 c_97
      refine lv_aload_n hx hb dX9_look_100 rfl (lv_at hl 0 rfl) ?_
      refine g_geti hx hb hw inG9 hown hK hG gl_89 rfl gk_89 (by decide) 5 (by decide) (by rw [gm_89]; decide) gr_89_5 lk33 dX9_look_101 ?_
      refine lv_iconst (v := (-1)) hx hb dX9_look_104 (by decide) ?_
      refine lv_icmp_eq (tgt := 121) hx hb dX9_look_105 (by decide) (fun c_105 => ?_) (fun c_105 => ?_)
      · replace HW := HW.1 c_105
        exact B121 x2 x5 h g _ _ _ HW hG (lv_sub hl [0, 1, 2] rfl)
      · replace HW := HW.2 c_105
        refine lv_aload_n hx hb dX9_look_108 rfl (lv_at hl 0 rfl) ?_
        refine g_geti hx hb hw inG9 hown hK hG gl_89 rfl gk_89 (by decide) 5 (by decide) (by rw [gm_89]; decide) gr_89_5 lk33 dX9_look_109 ?_
        refine lv_iload hx hb dX9_look_112 (lv_at hl 2 rfl) ?_
        refine lv_ldc (v := 32768) hx hb hown cn65 dX9_look_114 ?_
        refine lv_idiv hx hb dX9_look_116 (by decide) ?_
        refine lv_icmp_gt (tgt := 121) hx hb dX9_look_117 (by decide) (fun c_117 => ?_) (fun c_117 => ?_)
        · replace HW := HW.1 c_117
          exact B121 x2 x5 h g _ _ _ HW hG (lv_sub hl [0, 1, 2] rfl)
        · replace HW := HW.2 c_117
          exact W.vret hx hb hr (fun t ht hW => ⟨⟨(h, g), rfl, HW, g_B ht hG⟩, hG.2.2.F ht⟩) hG.2.2.2.2 dX9_look_120
  have B88 : ∀ (K6 : Int32 → Int32 → Int32 → Int32 → Int32 → Int32 → HI → HL → Prop) (hK6 : ∀ (x1 : Int32) (x2 : Int32) (x3 : Int32) (x4 : Int32) (x5 : Int32) (x6 : Int32) (h : HI) (g : HL) (H : Heap) (locs : List Loc) (ls : Array Slot), K6 x1 x2 x3 x4 x5 x6 h g → gG D cy ad (gA ad s.heap.size) s.heap h g H locs → lv_has ls 9 [(0, .ref (ad 89)), (1, .int x1), (2, .int x2), (3, .int x3), (4, .int x4), (5, .int x5), (6, .int x6)] → W p l e ({ frames := 1, cells := 0, slots := 0, locals := 32 } : Room) s m args below meth c H locs 0 0 (MQ below (va_Qv (fun (u : HI × HL) => Q u.1 u.2) (gB D cy ad s.heap.size) (gA ad s.heap.size)) args s 0 0 (gA ad s.heap.size)) (F0 m 6 ls [])) (x1 : Int32) (x2 : Int32) (x3 : Int32) (x4 : Int32) (x5 : Int32) (x6 : Int32) (h : HI) (g : HL) (H : Heap) (locs : List Loc) (ls : Array Slot), j_X9_look_88 Q K6 x1 x2 x3 x4 x5 x6 h g → gG D cy ad (gA ad s.heap.size) s.heap h g H locs → lv_has ls 9 [(0, .ref (ad 89)), (1, .int x1), (2, .int x2), (3, .int x3), (4, .int x4), (5, .int x5), (6, .int x6)] → W p l e ({ frames := 1, cells := 0, slots := 0, locals := 32 } : Room) s m args below meth c H locs 0 0 (MQ below (va_Qv (fun (u : HI × HL) => Q u.1 u.2) (gB D cy ad s.heap.size) (gA ad s.heap.size)) args s 0 0 (gA ad s.heap.size)) (F0 m 88 ls []) := by
    intro K6 hK6 x1 x2 x3 x4 x5 x6 h g H locs ls HW hG hl
    unfold j_X9_look_88 at HW
    obtain ⟨x6_88, ex6_88⟩ : ∃ y : Int32, y = (x6 + 1) := ⟨_, rfl⟩
    replace HW := HW x6_88 ex6_88
    refine lv_iinc (v := x6_88) (lv' := [(6, .int x6_88), (0, .ref (ad 89)), (1, .int x1), (2, .int x2), (3, .int x3), (4, .int x4), (5, .int x5)]) hx hb dX9_look_88 hl (k := 6) rfl (by rw [ex6_88]; rfl) (by decide) rfl (fun ls hl => ?_)
    refine lv_goto (tgt := 6) hx hb dX9_look_91 (by decide) ?_
    exact hK6 x1 x2 x3 x4 x5 x6_88 h g _ _ _ HW hG (lv_sub hl [1, 2, 3, 4, 5, 6, 0] rfl)
  have B84 : ∀ (K6 : Int32 → Int32 → Int32 → Int32 → Int32 → Int32 → HI → HL → Prop) (hK6 : ∀ (x1 : Int32) (x2 : Int32) (x3 : Int32) (x4 : Int32) (x5 : Int32) (x6 : Int32) (h : HI) (g : HL) (H : Heap) (locs : List Loc) (ls : Array Slot), K6 x1 x2 x3 x4 x5 x6 h g → gG D cy ad (gA ad s.heap.size) s.heap h g H locs → lv_has ls 9 [(0, .ref (ad 89)), (1, .int x1), (2, .int x2), (3, .int x3), (4, .int x4), (5, .int x5), (6, .int x6)] → W p l e ({ frames := 1, cells := 0, slots := 0, locals := 32 } : Room) s m args below meth c H locs 0 0 (MQ below (va_Qv (fun (u : HI × HL) => Q u.1 u.2) (gB D cy ad s.heap.size) (gA ad s.heap.size)) args s 0 0 (gA ad s.heap.size)) (F0 m 6 ls [])) (x1 : Int32) (x2 : Int32) (x3 : Int32) (x4 : Int32) (x6 : Int32) (x8 : Int32) (h : HI) (g : HL) (H : Heap) (locs : List Loc) (ls : Array Slot), j_X9_look_84 Q K6 x1 x2 x3 x4 x6 x8 h g → gG D cy ad (gA ad s.heap.size) s.heap h g H locs → lv_has ls 9 [(0, .ref (ad 89)), (1, .int x1), (2, .int x2), (3, .int x3), (4, .int x4), (6, .int x6), (8, .int x8)] → W p l e ({ frames := 1, cells := 0, slots := 0, locals := 32 } : Room) s m args below meth c H locs 0 0 (MQ below (va_Qv (fun (u : HI × HL) => Q u.1 u.2) (gB D cy ad s.heap.size) (gA ad s.heap.size)) args s 0 0 (gA ad s.heap.size)) (F0 m 84 ls []) := by
    intro K6 hK6 x1 x2 x3 x4 x6 x8 h g H locs ls HW hG hl
    unfold j_X9_look_84 at HW
    refine lv_iload hx hb dX9_look_84 (lv_at hl 6 rfl) ?_
    refine lv_istore (lv' := [(5, .int x8), (0, .ref (ad 89)), (1, .int x1), (2, .int x2), (3, .int x3), (4, .int x4), (6, .int x6), (8, .int x8)]) hx hb dX9_look_86 hl (by decide) rfl (fun ls hl => ?_)
    exact B88 K6 hK6 x1 x2 x3 x4 x8 x6 h g _ _ _ HW hG (lv_sub hl [1, 2, 3, 4, 5, 0, 6] rfl)
  have L6 : ∀ (n : Nat) (x1 : Int32) (x2 : Int32) (x3 : Int32) (x4 : Int32) (x5 : Int32) (x6 : Int32) (h : HI) (g : HL) (H : Heap) (locs : List Loc) (ls : Array Slot), lpN (F_X9_look_6 Q) n (x1, x2, x3, x4, x5, x6, h, g) → gG D cy ad (gA ad s.heap.size) s.heap h g H locs → lv_has ls 9 [(0, .ref (ad 89)), (1, .int x1), (2, .int x2), (3, .int x3), (4, .int x4), (5, .int x5), (6, .int x6)] → W p l e ({ frames := 1, cells := 0, slots := 0, locals := 32 } : Room) s m args below meth c H locs 0 0 (MQ below (va_Qv (fun (u : HI × HL) => Q u.1 u.2) (gB D cy ad s.heap.size) (gA ad s.heap.size)) args s 0 0 (gA ad s.heap.size)) (F0 m 6 ls []) := by
    intro n
    induction n with
    | zero => intro x1 x2 x3 x4 x5 x6 h g H locs ls HW; exact HW.elim
    | succ n ih =>
      intro x1 x2 x3 x4 x5 x6 h g H locs ls HW hG hl
      have HW : b_X9_look_6 Q (fun x1 x2 x3 x4 x5 x6 h g => lpN (F_X9_look_6 Q) n (x1, x2, x3, x4, x5, x6, h, g)) x1 x2 x3 x4 x5 x6 h g := HW
      generalize hKe : (fun (x1 : Int32) (x2 : Int32) (x3 : Int32) (x4 : Int32) (x5 : Int32) (x6 : Int32) (h : HI) (g : HL) => lpN (F_X9_look_6 Q) n (x1, x2, x3, x4, x5, x6, h, g)) = K6 at HW
      have hK6 : ∀ (x1 : Int32) (x2 : Int32) (x3 : Int32) (x4 : Int32) (x5 : Int32) (x6 : Int32) (h : HI) (g : HL) (H : Heap) (locs : List Loc) (ls : Array Slot), K6 x1 x2 x3 x4 x5 x6 h g → gG D cy ad (gA ad s.heap.size) s.heap h g H locs → lv_has ls 9 [(0, .ref (ad 89)), (1, .int x1), (2, .int x2), (3, .int x3), (4, .int x4), (5, .int x5), (6, .int x6)] → W p l e ({ frames := 1, cells := 0, slots := 0, locals := 32 } : Room) s m args below meth c H locs 0 0 (MQ below (va_Qv (fun (u : HI × HL) => Q u.1 u.2) (gB D cy ad s.heap.size) (gA ad s.heap.size)) args s 0 0 (gA ad s.heap.size)) (F0 m 6 ls []) := by subst hKe; exact ih
      clear ih
      clear hKe
      unfold b_X9_look_6 at HW
      refine lv_iload hx hb dX9_look_6 (lv_at hl 6 rfl) ?_
      refine lv_aload_n hx hb dX9_look_8 rfl (lv_at hl 0 rfl) ?_
      refine g_getr hx hb hw inG9 hown hK hG gl_89 rfl gk_89 (by decide) 3 (by decide) (by rw [gm_89]; decide) (r := 96) gr_89_3 lk19 dX9_look_9 ?_
      refine lv_iload_n hx hb dX9_look_12 rfl (lv_at hl 1 rfl) ?_
      refine g_iald hx hb hK hG gl_96 gk_96 gn_96 HW.1 dX9_look_13 ?_
      replace HW := HW.2
      refine lv_icmp_ge (tgt := 94) hx hb dX9_look_14 (by decide) (fun c_14 => ?_) (fun c_14 => ?_)
      · replace HW := HW.1 c_14
        exact B94 x2 x5 h g _ _ _ HW hG (lv_sub hl [0, 2, 5] rfl)
      · replace HW := HW.2 c_14
        refine lv_iload hx hb dX9_look_17 (lv_at hl 6 rfl) ?_
        refine lv_sipush (v := 3000) hx hb dX9_look_19 (by decide) ?_
        refine lv_icmp_ge (tgt := 94) hx hb dX9_look_22 (by decide) (fun c_22 => ?_) (fun c_22 => ?_)
        · replace HW := HW.1 c_22
          exact B94 x2 x5 h g _ _ _ HW hG (lv_sub hl [0, 2, 5] rfl)
        · replace HW := HW.2 c_22
          refine lv_aload_n hx hb dX9_look_25 rfl (lv_at hl 0 rfl) ?_
          refine g_getr hx hb hw inG9 hown hK hG gl_89 rfl gk_89 (by decide) 2 (by decide) (by rw [gm_89]; decide) (r := 93) gr_89_2 lk16 dX9_look_26 ?_
          refine lv_iload_n hx hb dX9_look_29 rfl (lv_at hl 1 rfl) ?_
          have hi_30 := vp_lt HW.1
          refine g_aald hx hb hK hG gl_93 gk_93 gn_93 HW.1 (go_93 _ hi_30).1 dX9_look_30 ?_
          replace HW := HW.2
          refine lv_iload hx hb dX9_look_31 (lv_at hl 6 rfl) ?_
          refine g_iald hx hb hK hG ((go_93 _ hi_30).2.2.1) ((go_93 _ hi_30).2.1) ((go_93 _ hi_30).2.2.2) HW.1 dX9_look_33 ?_
          replace HW := HW.2
          refine lv_topi (fun x7_34 ex7_34 => ?_)
          replace HW := HW x7_34 ex7_34
          refine lv_istore (lv' := [(7, .int x7_34), (0, .ref (ad 89)), (1, .int x1), (2, .int x2), (3, .int x3), (4, .int x4), (5, .int x5), (6, .int x6)]) hx hb dX9_look_34 hl (by decide) rfl (fun ls hl => ?_)
          refine lv_iload hx hb dX9_look_36 (lv_at hl 0 rfl) ?_
          refine lv_iload_n hx hb dX9_look_38 rfl (lv_at hl 4 rfl) ?_
          refine lv_iconst (v := 1) hx hb dX9_look_39 (by decide) ?_
          refine va_mmax hx hb (hml.trans hl.1.symm) hown ml52 ms52 mi52 mc52 (by decide) (Nat.le_of_ble_eq_true rfl) (Nat.zero_le _) (Nat.zero_le _) dX9_look_40 ?_
          refine lv_iload hx hb dX9_look_43 (lv_at hl 5 rfl) ?_
          refine lv_sipush (v := 3000) hx hb dX9_look_45 (by decide) ?_
          refine va_mmin hx hb (hml.trans hl.1.symm) hown ml58 ms58 mi58 mc58 (by decide) (Nat.le_of_ble_eq_true rfl) (Nat.zero_le _) (Nat.zero_le _) dX9_look_48 ?_
          obtain ⟨P_51, HC_51, HW⟩ := HW
          refine g_callz (g_runSN (As := [.int x7_34, .int (if x3 < (1 : Int32) then (1 : Int32) else x3), .int (if (3000 : Int32) < x4 then (3000 : Int32) else x4)]) (rest := []) ⟨hx, hb, hml, hown, hts⟩ (m_X10_within l D cy ad h g H.size x7_34 (if x3 < (1 : Int32) then (1 : Int32) else x3) (if (3000 : Int32) < x4 then (3000 : Int32) else x4) P_51 HC_51) ⟨va_cnB 3 hts (gd_w (wm2 195 rfl rfl)) rfl rfl rfl (hNw _ (List.mem_of_getElem? (i := 5) rfl)) (hw (.initialized RX10) (wm1 1 rfl rfl)) (by decide +kernel) ⟨Nat.le_of_ble_eq_true rfl, Nat.le_of_ble_eq_true rfl⟩, hw (.static yX10_within) (wm2 194 rfl rfl), trivial⟩ hK hNw hG rfl rfl hl.1 rfl (lv_room (Nat.le_of_ble_eq_true rfl)) dX9_look_51 ⟨Nat.zero_le _, Nat.zero_le _⟩) hG (fun r_51 h_51 g_51 H locs hz hq hG => ?_)
          replace HW := HW r_51 h_51 g_51 hz hq
          refine lv_if_ne (tgt := 60) hx hb dX9_look_54 (by decide) (fun c_54 => ?_) (fun c_54 => ?_)
          · replace HW := HW.1 c_54
            refine lv_aload_n hx hb dX9_look_60 rfl (lv_at hl 1 rfl) ?_
            refine g_getr hx hb hw inG9 hown hK hG gl_89 rfl gk_89 (by decide) 1 (by decide) (by rw [gm_89]; decide) (r := 90) gr_89_1 lk11 dX9_look_61 ?_
            refine lv_iload_n hx hb dX9_look_64 rfl (lv_at hl 2 rfl) ?_
            have hi_65 := vp_lt HW.1
            refine g_aald hx hb hK hG gl_90 gk_90 gn_90 HW.1 (go_90 _ hi_65).1 dX9_look_65 ?_
            replace HW := HW.2
            refine lv_iload hx hb dX9_look_66 (lv_at hl 0 rfl) ?_
            refine g_iald hx hb hK hG ((go_90 _ hi_65).2.2.1) ((go_90 _ hi_65).2.1) ((go_90 _ hi_65).2.2.2) HW.1 dX9_look_68 ?_
            replace HW := HW.2
            refine lv_topi (fun x8_69 ex8_69 => ?_)
            replace HW := HW x8_69 ex8_69
            refine lv_istore (lv' := [(8, .int x8_69), (7, .int x7_34), (0, .ref (ad 89)), (1, .int x1), (2, .int x2), (3, .int x3), (4, .int x4), (5, .int x5), (6, .int x6)]) hx hb dX9_look_69 hl (by decide) rfl (fun ls hl => ?_)
            refine lv_iload hx hb dX9_look_71 (lv_at hl 7 rfl) ?_
            refine lv_iconst (v := (-1)) hx hb dX9_look_73 (by decide) ?_
            refine lv_icmp_eq (tgt := 84) hx hb dX9_look_74 (by decide) (fun c_74 => ?_) (fun c_74 => ?_)
            · replace HW := HW.1 c_74
              exact B84 K6 hK6 x1 x2 x3 x4 x6 x8_69 h_51 g_51 _ _ _ HW hG (lv_sub hl [2, 3, 4, 5, 6, 8, 0] rfl)
            · replace HW := HW.2 c_74
              refine lv_iload hx hb dX9_look_77 (lv_at hl 0 rfl) ?_
              refine lv_iload hx hb dX9_look_79 (lv_at hl 7 rfl) ?_
              refine lv_icmp_ge (tgt := 88) hx hb dX9_look_81 (by decide) (fun c_81 => ?_) (fun c_81 => ?_)
              · replace HW := HW.1 c_81
                exact B88 K6 hK6 x1 x2 x3 x4 x5 x6 h_51 g_51 _ _ _ HW hG (lv_sub hl [2, 3, 4, 5, 6, 7, 8] rfl)
              · replace HW := HW.2 c_81
                exact B84 K6 hK6 x1 x2 x3 x4 x6 x8_69 h_51 g_51 _ _ _ HW hG (lv_sub hl [2, 3, 4, 5, 6, 8, 0] rfl)
          · replace HW := HW.2 c_54
            refine lv_goto (tgt := 88) hx hb dX9_look_57 (by decide) ?_
            exact B88 K6 hK6 x1 x2 x3 x4 x5 x6 h_51 g_51 _ _ _ HW hG (lv_sub hl [1, 2, 3, 4, 5, 6, 7] rfl)
  have E0 : ∀ (H : Heap) (locs : List Loc) (ls : Array Slot), gG D cy ad (gA ad s.heap.size) s.heap h g H locs → lv_has ls 9 [(0, .ref (ad 89)), (1, .int x1), (2, .int x2), (3, .int x3), (4, .int x4)] → W p l e ({ frames := 1, cells := 0, slots := 0, locals := 32 } : Room) s m args below meth c H locs 0 0 (MQ below (va_Qv (fun (u : HI × HL) => Q u.1 u.2) (gB D cy ad s.heap.size) (gA ad s.heap.size)) args s 0 0 (gA ad s.heap.size)) (F0 m 0 ls []) := by
    intro H locs ls hG hl
    unfold w_X9_look at HW
    refine lv_iconst (v := (-1)) hx hb dX9_look_0 (by decide) ?_
    refine lv_istore (lv' := [(5, .int (-1 : Int32)), (0, .ref (ad 89)), (1, .int x1), (2, .int x2), (3, .int x3), (4, .int x4)]) hx hb dX9_look_1 hl (by decide) rfl (fun ls hl => ?_)
    refine lv_iconst (v := 0) hx hb dX9_look_3 (by decide) ?_
    refine lv_istore (lv' := [(6, .int (0 : Int32)), (5, .int (-1 : Int32)), (0, .ref (ad 89)), (1, .int x1), (2, .int x2), (3, .int x3), (4, .int x4)]) hx hb dX9_look_4 hl (by decide) rfl (fun ls hl => ?_)
    obtain ⟨n_6, HW⟩ := HW
    exact L6 n_6 x1 x2 x3 x4 (-1 : Int32) (0 : Int32) h g _ _ _ HW hG (lv_sub hl [2, 3, 4, 5, 6, 1, 0] rfl)
  exact E0 _ _ _ hG hl

def j_X9_spread_184 (Q : HI → HL → Prop) (K2 : Int32 → Int32 → HI → HL → Prop) (x1 : Int32) (x2 : Int32) (h : HI) (g : HL) : Prop :=
  (∀ x2_184 : Int32, x2_184 = (x2 + 1) → K2 x1 x2_184 h g)
def j_X9_spread_178 (Q : HI → HL → Prop) (K2 : Int32 → Int32 → HI → HL → Prop) (K69 : Int32 → Int32 → Int32 → Int32 → Int32 → Int32 → HI → HL → Prop) (x1 : Int32) (x2 : Int32) (x3 : Int32) (x5 : Int32) (x6 : Int32) (x7 : Int32) (h : HI) (g : HL) : Prop :=
  (∀ x7_178 : Int32, x7_178 = (x7 + 1) → K69 x1 x2 x3 x5 x6 x7_178 h g)
def b_X9_spread_69 (Q : HI → HL → Prop) (K2 : Int32 → Int32 → HI → HL → Prop) (K69 : Int32 → Int32 → Int32 → Int32 → Int32 → Int32 → HI → HL → Prop) (x1 : Int32) (x2 : Int32) (x3 : Int32) (x5 : Int32) (x6 : Int32) (x7 : Int32) (h : HI) (g : HL) : Prop :=
  (∃ P_78 : Int32 → HI → HL → Prop, w_X8_rows 10 h g P_78 ∧ ∀ (r_78 : Int32) (h_78 : HI) (g_78 : HL), P_78 r_78 h_78 g_78 → ((r_78 ≤ x7 → j_X9_spread_184 Q K2 x1 x2 h_78 g_78) ∧ (¬ r_78 ≤ x7 → (∃ P_95 : Int32 → HI → HL → Prop, w_X8_at 10 x7 (2 : Int32) h_78 g_78 P_95 ∧ ∀ (r_95 : Int32) (h_95 : HI) (g_95 : HL), P_95 r_95 h_95 g_95 → ((r_95 ≤ x3 → (∃ P_115 : Int32 → HI → HL → Prop, w_X8_at 10 x7 (3 : Int32) h_95 g_95 P_115 ∧ ∀ (r_115 : Int32) (h_115 : HI) (g_115 : HL), P_115 r_115 h_115 g_115 → ((x3 ≤ r_115 → (∃ P_136 : Int32 → HI → HL → Prop, w_X8_at 10 x7 (1 : Int32) h_115 g_115 P_136 ∧ ∀ (r_136 : Int32) (h_136 : HI) (g_136 : HL), P_136 r_136 h_136 g_136 → (∀ x8_140 : Int32, x8_140 = (x5 + r_136) → (∃ P_157 : Int32 → HI → HL → Prop, w_X8_at 10 x7 (0 : Int32) h_136 g_136 P_157 ∧ ∀ (r_157 : Int32) (h_157 : HI) (g_157 : HL), P_157 r_157 h_157 g_157 → (∃ P_175 : HI → HL → Prop, w_X9_reach ((1 : Int32) - x1) (x3 + r_157) (((x8_140 * (32768 : Int32)) + (x6 * (8 : Int32))) + x7) h_157 g_157 P_175 ∧ ∀ (h_175 : HI) (g_175 : HL), P_175 h_175 g_175 → j_X9_spread_178 Q K2 K69 x1 x2 x3 x5 x6 x7 h_175 g_175))))) ∧ (¬ x3 ≤ r_115 → j_X9_spread_178 Q K2 K69 x1 x2 x3 x5 x6 x7 h_115 g_115)))) ∧ (¬ r_95 ≤ x3 → j_X9_spread_178 Q K2 K69 x1 x2 x3 x5 x6 x7 h_95 g_95))))))
def F_X9_spread_69 (Q : HI → HL → Prop) (K2 : Int32 → Int32 → HI → HL → Prop) (K : Int32 × Int32 × Int32 × Int32 × Int32 × Int32 × HI × HL → Prop) (q : Int32 × Int32 × Int32 × Int32 × Int32 × Int32 × HI × HL) : Prop := b_X9_spread_69 Q K2 (fun x1 x2 x3 x5 x6 x7 h g => K (x1, x2, x3, x5, x6, x7, h, g)) q.1 q.2.1 q.2.2.1 q.2.2.2.1 q.2.2.2.2.1 q.2.2.2.2.2.1 q.2.2.2.2.2.2.1 q.2.2.2.2.2.2.2
def b_X9_spread_2 (Q : HI → HL → Prop) (K2 : Int32 → Int32 → HI → HL → Prop) (x1 : Int32) (x2 : Int32) (h : HI) (g : HL) : Prop :=
  (vp_in x1 2 ∧ (((h 96 x1.toNatClampNeg) ≤ x2 → Q h g) ∧ (¬ (h 96 x1.toNatClampNeg) ≤ x2 → (((3000 : Int32) ≤ x2 → Q h g) ∧ (¬ (3000 : Int32) ≤ x2 → (vp_in x1 2 ∧ (vp_in x2 3000 ∧ (∀ x3_27 : Int32, x3_27 = (h (94 + x1.toNatClampNeg) x2.toNatClampNeg) → (∃ P_33 : Int32 → HI → HL → Prop, w_X10_within x3_27 (1 : Int32) (3000 : Int32) h g P_33 ∧ ∀ (r_33 : Int32) (h_33 : HI) (g_33 : HL), zb r_33 → P_33 r_33 h_33 g_33 → ((¬ r_33 = 0 → (vp_in x1 2 ∧ (vp_in x3_27 3001 ∧ (∀ x4_50 : Int32, x4_50 = (h_33 (91 + x1.toNatClampNeg) x3_27.toNatClampNeg) → (∀ x5_57 : Int32, x5_57 = (x4_50 / (32768 : Int32)) → (∀ x6_64 : Int32, x6_64 = (x4_50 - x4_50 / (32768 : Int32) * (32768 : Int32)) → lpE (F_X9_spread_69 Q K2) (x1, x2, x3_27, x5_57, x6_64, (0 : Int32), h_33, g_33))))))) ∧ (r_33 = 0 → j_X9_spread_184 Q K2 x1 x2 h_33 g_33)))))))))))
def F_X9_spread_2 (Q : HI → HL → Prop) (K : Int32 × Int32 × HI × HL → Prop) (q : Int32 × Int32 × HI × HL) : Prop := b_X9_spread_2 Q (fun x1 x2 h g => K (x1, x2, h, g)) q.1 q.2.1 q.2.2.1 q.2.2.2
def w_X9_spread (x1 : Int32) (h : HI) (g : HL) (Q : HI → HL → Prop) : Prop :=
  lpE (F_X9_spread_2 Q) (x1, (0 : Int32), h, g)
set_option maxHeartbeats 8000000 in
set_option maxRecDepth 100000 in
theorem m_X9_spread (l : Launch) (D : va_G) (cy : Nat → ClassId) (ad : Nat → Nat) (h : HI) (g : HL) (sz : Nat) (x1 : Int32) (Q : HI → HL → Prop) (HW : w_X9_spread x1 h g Q) : Met l yX9_spread (wa yX9_spread cX9_spread 9 none) ({ frames := 2, cells := 0, slots := 0, locals := 45 }) (va_Pc [.ref (ad 89), .int x1] (gI D cy ad h g sz)) (va_Qv (fun (u : HI × HL) => Q u.1 u.2) (gB D cy ad sz) (gA ad sz)) 0 0 (gA ad sz) := by
  refine Met.ofW (cc := cX9_spread) (maxL := 9) (ret := none) (by decide) rfl ?_
  intro p e s m args below meth c s₁ B hml hv
  obtain ⟨hav, hsz, hP, hK, hD0, hNw⟩ := hv
  have hx := B.exec
  have hb := B.bytes
  have hr := B.returns
  have hts := atoms_spec (ws := (wa yX9_spread cX9_spread 9 none)) B.pre
  have hw := wa_hw hts
  have hown : s.vm.findClass RX9 = some m.cls := findClass_of_methodNamed B.named
  have hlocks := B.notSynchronized
  subst hsz
  have hG : gG D cy ad (gA ad s.heap.size) s.heap h g s.heap [] := ⟨hP, gA_self hD0, va_S.rf⟩
  clear hP hD0
  have lk19 := hw (.fieldLink RX9 19 "OldWorks$Ways" "many" "[I") (wm2 22 rfl rfl)
  have lk16 := hw (.fieldLink RX9 16 "OldWorks$Ways" "reached" "[[I") (wm2 21 rfl rfl)
  have lk11 := hw (.fieldLink RX9 11 "OldWorks$Ways" "best" "[[I") (wm2 20 rfl rfl)
  have cn65 := hw (.constant RX9 65 (32768)) (wm3 197 rfl rfl)
  have lk23 := hw (.fieldLink RX9 23 "OldWorks$Ways" "shop" "LOldWorks$Shop;") (wm2 19 rfl rfl)
  have lk72 := hw (.fieldLink RX9 72 "OldWorks$Shop" "works" "LOldWorks$Table;") (wm1 75 rfl rfl)
  rw [show (headSpec (wa yX9_spread cX9_spread 9 none) ({ frames := 2, cells := 0, slots := 0, locals := 45 } : Room)).room = ({ frames := 2, cells := 0, slots := 0, locals := 45 } : Room) from rfl]
  have hl := lv_entry ([.ref (ad 89), .int x1]) (n := 9) (Nat.le_of_ble_eq_true rfl)
  rw [show entryFrame m args 9 = entryFrame m ([.ref (ad 89), .int x1] : List Value).toArray 9 from by rw [hav], lg_entry_eq]
  generalize (lg_sl ([.ref (ad 89), .int x1]) ++ List.replicate (9 - (lg_sl ([.ref (ad 89), .int x1])).length) Slot.unset).toArray = ls at hl ⊢
  have hl : lv_has ls 9 [(0, .ref (ad 89)), (1, .int x1)] := hl
  have B184 : ∀ (K2 : Int32 → Int32 → HI → HL → Prop) (hK2 : ∀ (x1 : Int32) (x2 : Int32) (h : HI) (g : HL) (H : Heap) (locs : List Loc) (ls : Array Slot), K2 x1 x2 h g → gG D cy ad (gA ad s.heap.size) s.heap h g H locs → lv_has ls 9 [(0, .ref (ad 89)), (1, .int x1), (2, .int x2)] → W p l e ({ frames := 2, cells := 0, slots := 0, locals := 45 } : Room) s m args below meth c H locs 0 0 (MQ below (va_Qv (fun (u : HI × HL) => Q u.1 u.2) (gB D cy ad s.heap.size) (gA ad s.heap.size)) args s 0 0 (gA ad s.heap.size)) (F0 m 2 ls [])) (x1 : Int32) (x2 : Int32) (h : HI) (g : HL) (H : Heap) (locs : List Loc) (ls : Array Slot), j_X9_spread_184 Q K2 x1 x2 h g → gG D cy ad (gA ad s.heap.size) s.heap h g H locs → lv_has ls 9 [(0, .ref (ad 89)), (1, .int x1), (2, .int x2)] → W p l e ({ frames := 2, cells := 0, slots := 0, locals := 45 } : Room) s m args below meth c H locs 0 0 (MQ below (va_Qv (fun (u : HI × HL) => Q u.1 u.2) (gB D cy ad s.heap.size) (gA ad s.heap.size)) args s 0 0 (gA ad s.heap.size)) (F0 m 184 ls []) := by
    intro K2 hK2 x1 x2 h g H locs ls HW hG hl
    unfold j_X9_spread_184 at HW
    obtain ⟨x2_184, ex2_184⟩ : ∃ y : Int32, y = (x2 + 1) := ⟨_, rfl⟩
    replace HW := HW x2_184 ex2_184
    refine lv_iinc (v := x2_184) (lv' := [(2, .int x2_184), (0, .ref (ad 89)), (1, .int x1)]) hx hb dX9_spread_184 hl (k := 2) rfl (by rw [ex2_184]; rfl) (by decide) rfl (fun ls hl => ?_)
    refine lv_goto (tgt := 2) hx hb dX9_spread_187 (by decide) ?_
    exact hK2 x1 x2_184 h g _ _ _ HW hG (lv_sub hl [1, 2, 0] rfl)
  have B178 : ∀ (K2 : Int32 → Int32 → HI → HL → Prop) (hK2 : ∀ (x1 : Int32) (x2 : Int32) (h : HI) (g : HL) (H : Heap) (locs : List Loc) (ls : Array Slot), K2 x1 x2 h g → gG D cy ad (gA ad s.heap.size) s.heap h g H locs → lv_has ls 9 [(0, .ref (ad 89)), (1, .int x1), (2, .int x2)] → W p l e ({ frames := 2, cells := 0, slots := 0, locals := 45 } : Room) s m args below meth c H locs 0 0 (MQ below (va_Qv (fun (u : HI × HL) => Q u.1 u.2) (gB D cy ad s.heap.size) (gA ad s.heap.size)) args s 0 0 (gA ad s.heap.size)) (F0 m 2 ls [])) (K69 : Int32 → Int32 → Int32 → Int32 → Int32 → Int32 → HI → HL → Prop) (hK69 : ∀ (x1 : Int32) (x2 : Int32) (x3 : Int32) (x5 : Int32) (x6 : Int32) (x7 : Int32) (h : HI) (g : HL) (H : Heap) (locs : List Loc) (ls : Array Slot), K69 x1 x2 x3 x5 x6 x7 h g → gG D cy ad (gA ad s.heap.size) s.heap h g H locs → lv_has ls 9 [(0, .ref (ad 89)), (1, .int x1), (2, .int x2), (3, .int x3), (5, .int x5), (6, .int x6), (7, .int x7)] → W p l e ({ frames := 2, cells := 0, slots := 0, locals := 45 } : Room) s m args below meth c H locs 0 0 (MQ below (va_Qv (fun (u : HI × HL) => Q u.1 u.2) (gB D cy ad s.heap.size) (gA ad s.heap.size)) args s 0 0 (gA ad s.heap.size)) (F0 m 69 ls [])) (x1 : Int32) (x2 : Int32) (x3 : Int32) (x5 : Int32) (x6 : Int32) (x7 : Int32) (h : HI) (g : HL) (H : Heap) (locs : List Loc) (ls : Array Slot), j_X9_spread_178 Q K2 K69 x1 x2 x3 x5 x6 x7 h g → gG D cy ad (gA ad s.heap.size) s.heap h g H locs → lv_has ls 9 [(0, .ref (ad 89)), (1, .int x1), (2, .int x2), (3, .int x3), (5, .int x5), (6, .int x6), (7, .int x7)] → W p l e ({ frames := 2, cells := 0, slots := 0, locals := 45 } : Room) s m args below meth c H locs 0 0 (MQ below (va_Qv (fun (u : HI × HL) => Q u.1 u.2) (gB D cy ad s.heap.size) (gA ad s.heap.size)) args s 0 0 (gA ad s.heap.size)) (F0 m 178 ls []) := by
    intro K2 hK2 K69 hK69 x1 x2 x3 x5 x6 x7 h g H locs ls HW hG hl
    unfold j_X9_spread_178 at HW
    obtain ⟨x7_178, ex7_178⟩ : ∃ y : Int32, y = (x7 + 1) := ⟨_, rfl⟩
    replace HW := HW x7_178 ex7_178
    refine lv_iinc (v := x7_178) (lv' := [(7, .int x7_178), (0, .ref (ad 89)), (1, .int x1), (2, .int x2), (3, .int x3), (5, .int x5), (6, .int x6)]) hx hb dX9_spread_178 hl (k := 6) rfl (by rw [ex7_178]; rfl) (by decide) rfl (fun ls hl => ?_)
    refine lv_goto (tgt := 69) hx hb dX9_spread_181 (by decide) ?_
    exact hK69 x1 x2 x3 x5 x6 x7_178 h g _ _ _ HW hG (lv_sub hl [1, 2, 3, 4, 5, 6, 0] rfl)
  have L69 : ∀ (K2 : Int32 → Int32 → HI → HL → Prop) (hK2 : ∀ (x1 : Int32) (x2 : Int32) (h : HI) (g : HL) (H : Heap) (locs : List Loc) (ls : Array Slot), K2 x1 x2 h g → gG D cy ad (gA ad s.heap.size) s.heap h g H locs → lv_has ls 9 [(0, .ref (ad 89)), (1, .int x1), (2, .int x2)] → W p l e ({ frames := 2, cells := 0, slots := 0, locals := 45 } : Room) s m args below meth c H locs 0 0 (MQ below (va_Qv (fun (u : HI × HL) => Q u.1 u.2) (gB D cy ad s.heap.size) (gA ad s.heap.size)) args s 0 0 (gA ad s.heap.size)) (F0 m 2 ls [])) (n : Nat) (x1 : Int32) (x2 : Int32) (x3 : Int32) (x5 : Int32) (x6 : Int32) (x7 : Int32) (h : HI) (g : HL) (H : Heap) (locs : List Loc) (ls : Array Slot), lpN (F_X9_spread_69 Q K2) n (x1, x2, x3, x5, x6, x7, h, g) → gG D cy ad (gA ad s.heap.size) s.heap h g H locs → lv_has ls 9 [(0, .ref (ad 89)), (1, .int x1), (2, .int x2), (3, .int x3), (5, .int x5), (6, .int x6), (7, .int x7)] → W p l e ({ frames := 2, cells := 0, slots := 0, locals := 45 } : Room) s m args below meth c H locs 0 0 (MQ below (va_Qv (fun (u : HI × HL) => Q u.1 u.2) (gB D cy ad s.heap.size) (gA ad s.heap.size)) args s 0 0 (gA ad s.heap.size)) (F0 m 69 ls []) := by
    intro K2 hK2 n
    induction n with
    | zero => intro x1 x2 x3 x5 x6 x7 h g H locs ls HW; exact HW.elim
    | succ n ih =>
      intro x1 x2 x3 x5 x6 x7 h g H locs ls HW hG hl
      have HW : b_X9_spread_69 Q K2 (fun x1 x2 x3 x5 x6 x7 h g => lpN (F_X9_spread_69 Q K2) n (x1, x2, x3, x5, x6, x7, h, g)) x1 x2 x3 x5 x6 x7 h g := HW
      generalize hKe : (fun (x1 : Int32) (x2 : Int32) (x3 : Int32) (x5 : Int32) (x6 : Int32) (x7 : Int32) (h : HI) (g : HL) => lpN (F_X9_spread_69 Q K2) n (x1, x2, x3, x5, x6, x7, h, g)) = K69 at HW
      have hK69 : ∀ (x1 : Int32) (x2 : Int32) (x3 : Int32) (x5 : Int32) (x6 : Int32) (x7 : Int32) (h : HI) (g : HL) (H : Heap) (locs : List Loc) (ls : Array Slot), K69 x1 x2 x3 x5 x6 x7 h g → gG D cy ad (gA ad s.heap.size) s.heap h g H locs → lv_has ls 9 [(0, .ref (ad 89)), (1, .int x1), (2, .int x2), (3, .int x3), (5, .int x5), (6, .int x6), (7, .int x7)] → W p l e ({ frames := 2, cells := 0, slots := 0, locals := 45 } : Room) s m args below meth c H locs 0 0 (MQ below (va_Qv (fun (u : HI × HL) => Q u.1 u.2) (gB D cy ad s.heap.size) (gA ad s.heap.size)) args s 0 0 (gA ad s.heap.size)) (F0 m 69 ls []) := by subst hKe; exact ih
      clear ih
      clear hKe
      unfold b_X9_spread_69 at HW
      refine lv_iload hx hb dX9_spread_69 (lv_at hl 6 rfl) ?_
      refine lv_aload_n hx hb dX9_spread_71 rfl (lv_at hl 0 rfl) ?_
      refine g_getr hx hb hw inG9 hown hK hG gl_89 rfl gk_89 (by decide) 0 (by decide) (by rw [gm_89]; decide) (r := 1) gr_89_0 lk23 dX9_spread_72 ?_
      refine g_getr hx hb hw inG6 hown hK hG gl_1 rfl gk_1 (by decide) 4 (by decide) (by rw [gm_1]; decide) (r := 10) gr_1_4 lk72 dX9_spread_75 ?_
      obtain ⟨P_78, HC_78, HW⟩ := HW
      refine g_calli (g_runV (As := []) (rest := [.int x7]) ⟨hx, hb, hml, hown, hts⟩ (m_X8_rows l D cy ad h g H.size 10 (gs_10) P_78 HC_78) (cwV 0 hts (gd_V (wm3 202 rfl rfl) (wm2 217 rfl rfl) (wm2 218 rfl rfl) (wm1 3 rfl rfl) (wm2 219 rfl rfl)) rfl rfl rfl (by decide +kernel) ⟨Nat.le_of_ble_eq_true rfl, Nat.le_of_ble_eq_true rfl⟩) hK hNw hG gl_10 rfl gk_10 (by decide) rfl rfl hl.1 rfl (lv_room (Nat.le_of_ble_eq_true rfl)) dX9_spread_78 ⟨Nat.zero_le _, Nat.zero_le _⟩) hG (fun r_78 h_78 g_78 H locs hq hG => ?_)
      replace HW := HW r_78 h_78 g_78 hq
      refine lv_icmp_ge (tgt := 184) hx hb dX9_spread_81 (by decide) (fun c_81 => ?_) (fun c_81 => ?_)
      · replace HW := HW.1 c_81
        exact B184 K2 hK2 x1 x2 h_78 g_78 _ _ _ HW hG (lv_sub hl [0, 1, 2] rfl)
      · replace HW := HW.2 c_81
        refine lv_iload_n hx hb dX9_spread_84 rfl (lv_at hl 3 rfl) ?_
        refine lv_aload_n hx hb dX9_spread_85 rfl (lv_at hl 0 rfl) ?_
        refine g_getr hx hb hw inG9 hown hK hG gl_89 rfl gk_89 (by decide) 0 (by decide) (by rw [gm_89]; decide) (r := 1) gr_89_0 lk23 dX9_spread_86 ?_
        refine g_getr hx hb hw inG6 hown hK hG gl_1 rfl gk_1 (by decide) 4 (by decide) (by rw [gm_1]; decide) (r := 10) gr_1_4 lk72 dX9_spread_89 ?_
        refine lv_iload hx hb dX9_spread_92 (lv_at hl 6 rfl) ?_
        refine lv_iconst (v := 2) hx hb dX9_spread_94 (by decide) ?_
        obtain ⟨P_95, HC_95, HW⟩ := HW
        refine g_calli (g_runV (As := [.int x7, .int (2 : Int32)]) (rest := [.int x3]) ⟨hx, hb, hml, hown, hts⟩ (m_X8_at l D cy ad h_78 g_78 H.size 10 (gs_10) x7 (2 : Int32) P_95 HC_95) (cwV 2 hts (gd_V (wm3 203 rfl rfl) (wm2 221 rfl rfl) (wm2 222 rfl rfl) (wm1 3 rfl rfl) (wm2 223 rfl rfl)) rfl rfl rfl (by decide +kernel) ⟨Nat.le_of_ble_eq_true rfl, Nat.le_of_ble_eq_true rfl⟩) hK hNw hG gl_10 rfl gk_10 (by decide) rfl rfl hl.1 rfl (lv_room (Nat.le_of_ble_eq_true rfl)) dX9_spread_95 ⟨Nat.zero_le _, Nat.zero_le _⟩) hG (fun r_95 h_95 g_95 H locs hq hG => ?_)
        replace HW := HW r_95 h_95 g_95 hq
        refine lv_icmp_ge (tgt := 104) hx hb dX9_spread_98 (by decide) (fun c_98 => ?_) (fun c_98 => ?_)
        · replace HW := HW.1 c_98
          refine lv_iload_n hx hb dX9_spread_104 rfl (lv_at hl 3 rfl) ?_
          refine lv_aload_n hx hb dX9_spread_105 rfl (lv_at hl 0 rfl) ?_
          refine g_getr hx hb hw inG9 hown hK hG gl_89 rfl gk_89 (by decide) 0 (by decide) (by rw [gm_89]; decide) (r := 1) gr_89_0 lk23 dX9_spread_106 ?_
          refine g_getr hx hb hw inG6 hown hK hG gl_1 rfl gk_1 (by decide) 4 (by decide) (by rw [gm_1]; decide) (r := 10) gr_1_4 lk72 dX9_spread_109 ?_
          refine lv_iload hx hb dX9_spread_112 (lv_at hl 6 rfl) ?_
          refine lv_iconst (v := 3) hx hb dX9_spread_114 (by decide) ?_
          obtain ⟨P_115, HC_115, HW⟩ := HW
          refine g_calli (g_runV (As := [.int x7, .int (3 : Int32)]) (rest := [.int x3]) ⟨hx, hb, hml, hown, hts⟩ (m_X8_at l D cy ad h_95 g_95 H.size 10 (gs_10) x7 (3 : Int32) P_115 HC_115) (cwV 2 hts (gd_V (wm3 203 rfl rfl) (wm2 221 rfl rfl) (wm2 222 rfl rfl) (wm1 3 rfl rfl) (wm2 223 rfl rfl)) rfl rfl rfl (by decide +kernel) ⟨Nat.le_of_ble_eq_true rfl, Nat.le_of_ble_eq_true rfl⟩) hK hNw hG gl_10 rfl gk_10 (by decide) rfl rfl hl.1 rfl (lv_room (Nat.le_of_ble_eq_true rfl)) dX9_spread_115 ⟨Nat.zero_le _, Nat.zero_le _⟩) hG (fun r_115 h_115 g_115 H locs hq hG => ?_)
          replace HW := HW r_115 h_115 g_115 hq
          refine lv_icmp_le (tgt := 124) hx hb dX9_spread_118 (by decide) (fun c_118 => ?_) (fun c_118 => ?_)
          · replace HW := HW.1 c_118
            refine lv_iload hx hb dX9_spread_124 (lv_at hl 4 rfl) ?_
            refine lv_aload_n hx hb dX9_spread_126 rfl (lv_at hl 0 rfl) ?_
            refine g_getr hx hb hw inG9 hown hK hG gl_89 rfl gk_89 (by decide) 0 (by decide) (by rw [gm_89]; decide) (r := 1) gr_89_0 lk23 dX9_spread_127 ?_
            refine g_getr hx hb hw inG6 hown hK hG gl_1 rfl gk_1 (by decide) 4 (by decide) (by rw [gm_1]; decide) (r := 10) gr_1_4 lk72 dX9_spread_130 ?_
            refine lv_iload hx hb dX9_spread_133 (lv_at hl 6 rfl) ?_
            refine lv_iconst (v := 1) hx hb dX9_spread_135 (by decide) ?_
            obtain ⟨P_136, HC_136, HW⟩ := HW
            refine g_calli (g_runV (As := [.int x7, .int (1 : Int32)]) (rest := [.int x5]) ⟨hx, hb, hml, hown, hts⟩ (m_X8_at l D cy ad h_115 g_115 H.size 10 (gs_10) x7 (1 : Int32) P_136 HC_136) (cwV 2 hts (gd_V (wm3 203 rfl rfl) (wm2 221 rfl rfl) (wm2 222 rfl rfl) (wm1 3 rfl rfl) (wm2 223 rfl rfl)) rfl rfl rfl (by decide +kernel) ⟨Nat.le_of_ble_eq_true rfl, Nat.le_of_ble_eq_true rfl⟩) hK hNw hG gl_10 rfl gk_10 (by decide) rfl rfl hl.1 rfl (lv_room (Nat.le_of_ble_eq_true rfl)) dX9_spread_136 ⟨Nat.zero_le _, Nat.zero_le _⟩) hG (fun r_136 h_136 g_136 H locs hq hG => ?_)
            replace HW := HW r_136 h_136 g_136 hq
            refine lv_iadd hx hb dX9_spread_139 ?_
            refine lv_topi (fun x8_140 ex8_140 => ?_)
            replace HW := HW x8_140 ex8_140
            refine lv_istore (lv' := [(8, .int x8_140), (0, .ref (ad 89)), (1, .int x1), (2, .int x2), (3, .int x3), (5, .int x5), (6, .int x6), (7, .int x7)]) hx hb dX9_spread_140 hl (by decide) rfl (fun ls hl => ?_)
            refine lv_aload_n hx hb dX9_spread_142 rfl (lv_at hl 1 rfl) ?_
            refine lv_iconst (v := 1) hx hb dX9_spread_143 (by decide) ?_
            refine lv_iload_n hx hb dX9_spread_144 rfl (lv_at hl 2 rfl) ?_
            refine lv_isub hx hb dX9_spread_145 ?_
            refine lv_iload_n hx hb dX9_spread_146 rfl (lv_at hl 4 rfl) ?_
            refine lv_aload_n hx hb dX9_spread_147 rfl (lv_at hl 1 rfl) ?_
            refine g_getr hx hb hw inG9 hown hK hG gl_89 rfl gk_89 (by decide) 0 (by decide) (by rw [gm_89]; decide) (r := 1) gr_89_0 lk23 dX9_spread_148 ?_
            refine g_getr hx hb hw inG6 hown hK hG gl_1 rfl gk_1 (by decide) 4 (by decide) (by rw [gm_1]; decide) (r := 10) gr_1_4 lk72 dX9_spread_151 ?_
            refine lv_iload hx hb dX9_spread_154 (lv_at hl 7 rfl) ?_
            refine lv_iconst (v := 0) hx hb dX9_spread_156 (by decide) ?_
            obtain ⟨P_157, HC_157, HW⟩ := HW
            refine g_calli (g_runV (As := [.int x7, .int (0 : Int32)]) (rest := [.int x3, .int ((1 : Int32) - x1), .ref (ad 89)]) ⟨hx, hb, hml, hown, hts⟩ (m_X8_at l D cy ad h_136 g_136 H.size 10 (gs_10) x7 (0 : Int32) P_157 HC_157) (cwV 2 hts (gd_V (wm3 203 rfl rfl) (wm2 221 rfl rfl) (wm2 222 rfl rfl) (wm1 3 rfl rfl) (wm2 223 rfl rfl)) rfl rfl rfl (by decide +kernel) ⟨Nat.le_of_ble_eq_true rfl, Nat.le_of_ble_eq_true rfl⟩) hK hNw hG gl_10 rfl gk_10 (by decide) rfl rfl hl.1 rfl (lv_room (Nat.le_of_ble_eq_true rfl)) dX9_spread_157 ⟨Nat.zero_le _, Nat.zero_le _⟩) hG (fun r_157 h_157 g_157 H locs hq hG => ?_)
            replace HW := HW r_157 h_157 g_157 hq
            refine lv_iadd hx hb dX9_spread_160 ?_
            refine lv_iload hx hb dX9_spread_161 (lv_at hl 0 rfl) ?_
            refine lv_ldc (v := 32768) hx hb hown cn65 dX9_spread_163 ?_
            refine lv_imul hx hb dX9_spread_165 ?_
            refine lv_iload hx hb dX9_spread_166 (lv_at hl 6 rfl) ?_
            refine lv_bipush (v := 8) hx hb dX9_spread_168 (by decide) ?_
            refine lv_imul hx hb dX9_spread_170 ?_
            refine lv_iadd hx hb dX9_spread_171 ?_
            refine lv_iload hx hb dX9_spread_172 (lv_at hl 7 rfl) ?_
            refine lv_iadd hx hb dX9_spread_174 ?_
            obtain ⟨P_175, HC_175, HW⟩ := HW
            refine g_callv (g_runV (As := [.int ((1 : Int32) - x1), .int (x3 + r_157), .int (((x8_140 * (32768 : Int32)) + (x6 * (8 : Int32))) + x7)]) (rest := []) ⟨hx, hb, hml, hown, hts⟩ (m_X9_reach l D cy ad h_157 g_157 H.size ((1 : Int32) - x1) (x3 + r_157) (((x8_140 * (32768 : Int32)) + (x6 * (8 : Int32))) + x7) P_175 HC_175) (cwV 3 hts (gd_V (wm3 186 rfl rfl) (wm3 188 rfl rfl) (wmp1 (q := (yX9_reach, 7)) 14 rfl) (wm1 7 rfl rfl) (wm3 189 rfl rfl)) rfl rfl rfl (by decide +kernel) ⟨Nat.le_of_ble_eq_true rfl, Nat.le_of_ble_eq_true rfl⟩) hK hNw hG gl_89 rfl gk_89 (by decide) rfl rfl hl.1 rfl (lv_room (Nat.le_of_ble_eq_true rfl)) dX9_spread_175 ⟨Nat.zero_le _, Nat.zero_le _⟩) hG (fun h_175 g_175 H locs hq hG => ?_)
            replace HW := HW h_175 g_175 hq
            exact B178 K2 hK2 K69 hK69 x1 x2 x3 x5 x6 x7 h_175 g_175 _ _ _ HW hG (lv_sub hl [1, 2, 3, 4, 5, 6, 7] rfl)
          · replace HW := HW.2 c_118
            refine lv_goto (tgt := 178) hx hb dX9_spread_121 (by decide) ?_
            exact B178 K2 hK2 K69 hK69 x1 x2 x3 x5 x6 x7 h_115 g_115 _ _ _ HW hG (lv_sub hl [0, 1, 2, 3, 4, 5, 6] rfl)
        · replace HW := HW.2 c_98
          refine lv_goto (tgt := 178) hx hb dX9_spread_101 (by decide) ?_
          exact B178 K2 hK2 K69 hK69 x1 x2 x3 x5 x6 x7 h_95 g_95 _ _ _ HW hG (lv_sub hl [0, 1, 2, 3, 4, 5, 6] rfl)
  have L2 : ∀ (n : Nat) (x1 : Int32) (x2 : Int32) (h : HI) (g : HL) (H : Heap) (locs : List Loc) (ls : Array Slot), lpN (F_X9_spread_2 Q) n (x1, x2, h, g) → gG D cy ad (gA ad s.heap.size) s.heap h g H locs → lv_has ls 9 [(0, .ref (ad 89)), (1, .int x1), (2, .int x2)] → W p l e ({ frames := 2, cells := 0, slots := 0, locals := 45 } : Room) s m args below meth c H locs 0 0 (MQ below (va_Qv (fun (u : HI × HL) => Q u.1 u.2) (gB D cy ad s.heap.size) (gA ad s.heap.size)) args s 0 0 (gA ad s.heap.size)) (F0 m 2 ls []) := by
    intro n
    induction n with
    | zero => intro x1 x2 h g H locs ls HW; exact HW.elim
    | succ n ih =>
      intro x1 x2 h g H locs ls HW hG hl
      have HW : b_X9_spread_2 Q (fun x1 x2 h g => lpN (F_X9_spread_2 Q) n (x1, x2, h, g)) x1 x2 h g := HW
      generalize hKe : (fun (x1 : Int32) (x2 : Int32) (h : HI) (g : HL) => lpN (F_X9_spread_2 Q) n (x1, x2, h, g)) = K2 at HW
      have hK2 : ∀ (x1 : Int32) (x2 : Int32) (h : HI) (g : HL) (H : Heap) (locs : List Loc) (ls : Array Slot), K2 x1 x2 h g → gG D cy ad (gA ad s.heap.size) s.heap h g H locs → lv_has ls 9 [(0, .ref (ad 89)), (1, .int x1), (2, .int x2)] → W p l e ({ frames := 2, cells := 0, slots := 0, locals := 45 } : Room) s m args below meth c H locs 0 0 (MQ below (va_Qv (fun (u : HI × HL) => Q u.1 u.2) (gB D cy ad s.heap.size) (gA ad s.heap.size)) args s 0 0 (gA ad s.heap.size)) (F0 m 2 ls []) := by subst hKe; exact ih
      clear ih
      clear hKe
      unfold b_X9_spread_2 at HW
      refine lv_iload_n hx hb dX9_spread_2 rfl (lv_at hl 2 rfl) ?_
      refine lv_aload_n hx hb dX9_spread_3 rfl (lv_at hl 0 rfl) ?_
      refine g_getr hx hb hw inG9 hown hK hG gl_89 rfl gk_89 (by decide) 3 (by decide) (by rw [gm_89]; decide) (r := 96) gr_89_3 lk19 dX9_spread_4 ?_
      refine lv_iload_n hx hb dX9_spread_7 rfl (lv_at hl 1 rfl) ?_
      refine g_iald hx hb hK hG gl_96 gk_96 gn_96 HW.1 dX9_spread_8 ?_
      replace HW := HW.2
      refine lv_icmp_ge (tgt := 190) hx hb dX9_spread_9 (by decide) (fun c_9 => ?_) (fun c_9 => ?_)
      · replace HW := HW.1 c_9
        exact W.vret hx hb hr (fun t ht hW => ⟨⟨(h, g), rfl, HW, g_B ht hG⟩, hG.2.2.F ht⟩) hG.2.2.2.2 dX9_spread_190
      · replace HW := HW.2 c_9
        refine lv_iload_n hx hb dX9_spread_12 rfl (lv_at hl 2 rfl) ?_
        refine lv_sipush (v := 3000) hx hb dX9_spread_13 (by decide) ?_
        refine lv_icmp_ge (tgt := 190) hx hb dX9_spread_16 (by decide) (fun c_16 => ?_) (fun c_16 => ?_)
        · replace HW := HW.1 c_16
          exact W.vret hx hb hr (fun t ht hW => ⟨⟨(h, g), rfl, HW, g_B ht hG⟩, hG.2.2.F ht⟩) hG.2.2.2.2 dX9_spread_190
        · replace HW := HW.2 c_16
          refine lv_aload_n hx hb dX9_spread_19 rfl (lv_at hl 0 rfl) ?_
          refine g_getr hx hb hw inG9 hown hK hG gl_89 rfl gk_89 (by decide) 2 (by decide) (by rw [gm_89]; decide) (r := 93) gr_89_2 lk16 dX9_spread_20 ?_
          refine lv_iload_n hx hb dX9_spread_23 rfl (lv_at hl 1 rfl) ?_
          have hi_24 := vp_lt HW.1
          refine g_aald hx hb hK hG gl_93 gk_93 gn_93 HW.1 (go_93 _ hi_24).1 dX9_spread_24 ?_
          replace HW := HW.2
          refine lv_iload_n hx hb dX9_spread_25 rfl (lv_at hl 2 rfl) ?_
          refine g_iald hx hb hK hG ((go_93 _ hi_24).2.2.1) ((go_93 _ hi_24).2.1) ((go_93 _ hi_24).2.2.2) HW.1 dX9_spread_26 ?_
          replace HW := HW.2
          refine lv_topi (fun x3_27 ex3_27 => ?_)
          replace HW := HW x3_27 ex3_27
          refine lv_istore_n (lv' := [(3, .int x3_27), (0, .ref (ad 89)), (1, .int x1), (2, .int x2)]) hx hb dX9_spread_27 rfl hl (by decide) rfl (fun ls hl => ?_)
          refine lv_iload_n hx hb dX9_spread_28 rfl (lv_at hl 0 rfl) ?_
          refine lv_iconst (v := 1) hx hb dX9_spread_29 (by decide) ?_
          refine lv_sipush (v := 3000) hx hb dX9_spread_30 (by decide) ?_
          obtain ⟨P_33, HC_33, HW⟩ := HW
          refine g_callz (g_runSN (As := [.int x3_27, .int (1 : Int32), .int (3000 : Int32)]) (rest := []) ⟨hx, hb, hml, hown, hts⟩ (m_X10_within l D cy ad h g H.size x3_27 (1 : Int32) (3000 : Int32) P_33 HC_33) ⟨va_cnB 3 hts (gd_w (wm2 195 rfl rfl)) rfl rfl rfl (hNw _ (List.mem_of_getElem? (i := 5) rfl)) (hw (.initialized RX10) (wm1 1 rfl rfl)) (by decide +kernel) ⟨Nat.le_of_ble_eq_true rfl, Nat.le_of_ble_eq_true rfl⟩, hw (.static yX10_within) (wm2 194 rfl rfl), trivial⟩ hK hNw hG rfl rfl hl.1 rfl (lv_room (Nat.le_of_ble_eq_true rfl)) dX9_spread_33 ⟨Nat.zero_le _, Nat.zero_le _⟩) hG (fun r_33 h_33 g_33 H locs hz hq hG => ?_)
          replace HW := HW r_33 h_33 g_33 hz hq
          refine lv_if_ne (tgt := 42) hx hb dX9_spread_36 (by decide) (fun c_36 => ?_) (fun c_36 => ?_)
          · replace HW := HW.1 c_36
            refine lv_aload_n hx hb dX9_spread_42 rfl (lv_at hl 1 rfl) ?_
            refine g_getr hx hb hw inG9 hown hK hG gl_89 rfl gk_89 (by decide) 1 (by decide) (by rw [gm_89]; decide) (r := 90) gr_89_1 lk11 dX9_spread_43 ?_
            refine lv_iload_n hx hb dX9_spread_46 rfl (lv_at hl 2 rfl) ?_
            have hi_47 := vp_lt HW.1
            refine g_aald hx hb hK hG gl_90 gk_90 gn_90 HW.1 (go_90 _ hi_47).1 dX9_spread_47 ?_
            replace HW := HW.2
            refine lv_iload_n hx hb dX9_spread_48 rfl (lv_at hl 0 rfl) ?_
            refine g_iald hx hb hK hG ((go_90 _ hi_47).2.2.1) ((go_90 _ hi_47).2.1) ((go_90 _ hi_47).2.2.2) HW.1 dX9_spread_49 ?_
            replace HW := HW.2
            refine lv_topi (fun x4_50 ex4_50 => ?_)
            replace HW := HW x4_50 ex4_50
            refine lv_istore (lv' := [(4, .int x4_50), (3, .int x3_27), (0, .ref (ad 89)), (1, .int x1), (2, .int x2)]) hx hb dX9_spread_50 hl (by decide) rfl (fun ls hl => ?_)
            refine lv_iload hx hb dX9_spread_52 (lv_at hl 0 rfl) ?_
            refine lv_ldc (v := 32768) hx hb hown cn65 dX9_spread_54 ?_
            refine lv_idiv hx hb dX9_spread_56 (by decide) ?_
            refine lv_topi (fun x5_57 ex5_57 => ?_)
            replace HW := HW x5_57 ex5_57
            refine lv_istore (lv' := [(5, .int x5_57), (4, .int x4_50), (3, .int x3_27), (0, .ref (ad 89)), (1, .int x1), (2, .int x2)]) hx hb dX9_spread_57 hl (by decide) rfl (fun ls hl => ?_)
            refine lv_iload hx hb dX9_spread_59 (lv_at hl 1 rfl) ?_
            refine lv_ldc (v := 32768) hx hb hown cn65 dX9_spread_61 ?_
            refine lv_irem hx hb dX9_spread_63 (by decide) ?_
            refine lv_topi (fun x6_64 ex6_64 => ?_)
            replace HW := HW x6_64 ex6_64
            refine lv_istore (lv' := [(6, .int x6_64), (5, .int x5_57), (4, .int x4_50), (3, .int x3_27), (0, .ref (ad 89)), (1, .int x1), (2, .int x2)]) hx hb dX9_spread_64 hl (by decide) rfl (fun ls hl => ?_)
            refine lv_iconst (v := 0) hx hb dX9_spread_66 (by decide) ?_
            refine lv_istore (lv' := [(7, .int (0 : Int32)), (6, .int x6_64), (5, .int x5_57), (4, .int x4_50), (3, .int x3_27), (0, .ref (ad 89)), (1, .int x1), (2, .int x2)]) hx hb dX9_spread_67 hl (by decide) rfl (fun ls hl => ?_)
            obtain ⟨n_69, HW⟩ := HW
            exact L69 K2 hK2 n_69 x1 x2 x3_27 x5_57 x6_64 (0 : Int32) h_33 g_33 _ _ _ HW hG (lv_sub hl [5, 6, 7, 4, 2, 1, 0] rfl)
          · replace HW := HW.2 c_36
            refine lv_goto (tgt := 184) hx hb dX9_spread_39 (by decide) ?_
            exact B184 K2 hK2 x1 x2 h_33 g_33 _ _ _ HW hG (lv_sub hl [1, 2, 3] rfl)
  have E0 : ∀ (H : Heap) (locs : List Loc) (ls : Array Slot), gG D cy ad (gA ad s.heap.size) s.heap h g H locs → lv_has ls 9 [(0, .ref (ad 89)), (1, .int x1)] → W p l e ({ frames := 2, cells := 0, slots := 0, locals := 45 } : Room) s m args below meth c H locs 0 0 (MQ below (va_Qv (fun (u : HI × HL) => Q u.1 u.2) (gB D cy ad s.heap.size) (gA ad s.heap.size)) args s 0 0 (gA ad s.heap.size)) (F0 m 0 ls []) := by
    intro H locs ls hG hl
    unfold w_X9_spread at HW
    refine lv_iconst (v := 0) hx hb dX9_spread_0 (by decide) ?_
    refine lv_istore_n (lv' := [(2, .int (0 : Int32)), (0, .ref (ad 89)), (1, .int x1)]) hx hb dX9_spread_1 rfl hl (by decide) rfl (fun ls hl => ?_)
    obtain ⟨n_2, HW⟩ := HW
    exact L2 n_2 x1 (0 : Int32) h g _ _ _ HW hG (lv_sub hl [1, 2, 0] rfl)
  exact E0 _ _ _ hG hl

def j_X9_forget_54 (Q : HI → HL → Prop) (x1 : Int32) (h : HI) (g : HL) : Prop :=
  (vp_in x1 2 ∧ ∀ h_60 : HI, h_60 = hu h 96 x1.toNatClampNeg (0 : Int32) → Q h_60 g)
def j_X9_forget_48 (Q : HI → HL → Prop) (K2 : Int32 → Int32 → HI → HL → Prop) (x1 : Int32) (x2 : Int32) (h : HI) (g : HL) : Prop :=
  (∀ x2_48 : Int32, x2_48 = (x2 + 1) → K2 x1 x2_48 h g)
def b_X9_forget_2 (Q : HI → HL → Prop) (K2 : Int32 → Int32 → HI → HL → Prop) (x1 : Int32) (x2 : Int32) (h : HI) (g : HL) : Prop :=
  (vp_in x1 2 ∧ (((h 96 x1.toNatClampNeg) ≤ x2 → j_X9_forget_54 Q x1 h g) ∧ (¬ (h 96 x1.toNatClampNeg) ≤ x2 → (((3000 : Int32) ≤ x2 → j_X9_forget_54 Q x1 h g) ∧ (¬ (3000 : Int32) ≤ x2 → (vp_in x1 2 ∧ (vp_in x2 3000 ∧ (∀ x3_27 : Int32, x3_27 = (h (94 + x1.toNatClampNeg) x2.toNatClampNeg) → (∃ P_33 : Int32 → HI → HL → Prop, w_X10_within x3_27 (1 : Int32) (3000 : Int32) h g P_33 ∧ ∀ (r_33 : Int32) (h_33 : HI) (g_33 : HL), zb r_33 → P_33 r_33 h_33 g_33 → ((r_33 = 0 → j_X9_forget_48 Q K2 x1 x2 h_33 g_33) ∧ (¬ r_33 = 0 → (vp_in x1 2 ∧ (vp_in x3_27 3001 ∧ ∀ h_47 : HI, h_47 = hu h_33 (91 + x1.toNatClampNeg) x3_27.toNatClampNeg (-1 : Int32) → j_X9_forget_48 Q K2 x1 x2 h_47 g_33)))))))))))))
def F_X9_forget_2 (Q : HI → HL → Prop) (K : Int32 × Int32 × HI × HL → Prop) (q : Int32 × Int32 × HI × HL) : Prop := b_X9_forget_2 Q (fun x1 x2 h g => K (x1, x2, h, g)) q.1 q.2.1 q.2.2.1 q.2.2.2
def w_X9_forget (x1 : Int32) (h : HI) (g : HL) (Q : HI → HL → Prop) : Prop :=
  lpE (F_X9_forget_2 Q) (x1, (0 : Int32), h, g)
set_option maxHeartbeats 8000000 in
set_option maxRecDepth 100000 in
theorem m_X9_forget (l : Launch) (D : va_G) (cy : Nat → ClassId) (ad : Nat → Nat) (h : HI) (g : HL) (sz : Nat) (x1 : Int32) (Q : HI → HL → Prop) (HW : w_X9_forget x1 h g Q) : Met l yX9_forget (wa yX9_forget cX9_forget 4 none) ({ frames := 1, cells := 0, slots := 0, locals := 22 }) (va_Pc [.ref (ad 89), .int x1] (gI D cy ad h g sz)) (va_Qv (fun (u : HI × HL) => Q u.1 u.2) (gB D cy ad sz) (gA ad sz)) 0 0 (gA ad sz) := by
  refine Met.ofW (cc := cX9_forget) (maxL := 4) (ret := none) (by decide) rfl ?_
  intro p e s m args below meth c s₁ B hml hv
  obtain ⟨hav, hsz, hP, hK, hD0, hNw⟩ := hv
  have hx := B.exec
  have hb := B.bytes
  have hr := B.returns
  have hts := atoms_spec (ws := (wa yX9_forget cX9_forget 4 none)) B.pre
  have hw := wa_hw hts
  have hown : s.vm.findClass RX9 = some m.cls := findClass_of_methodNamed B.named
  have hlocks := B.notSynchronized
  subst hsz
  have hG : gG D cy ad (gA ad s.heap.size) s.heap h g s.heap [] := ⟨hP, gA_self hD0, va_S.rf⟩
  clear hP hD0
  have lk19 := hw (.fieldLink RX9 19 "OldWorks$Ways" "many" "[I") (wm2 22 rfl rfl)
  have lk16 := hw (.fieldLink RX9 16 "OldWorks$Ways" "reached" "[[I") (wm2 21 rfl rfl)
  have lk11 := hw (.fieldLink RX9 11 "OldWorks$Ways" "best" "[[I") (wm2 20 rfl rfl)
  rw [show (headSpec (wa yX9_forget cX9_forget 4 none) ({ frames := 1, cells := 0, slots := 0, locals := 22 } : Room)).room = ({ frames := 1, cells := 0, slots := 0, locals := 22 } : Room) from rfl]
  have hl := lv_entry ([.ref (ad 89), .int x1]) (n := 4) (Nat.le_of_ble_eq_true rfl)
  rw [show entryFrame m args 4 = entryFrame m ([.ref (ad 89), .int x1] : List Value).toArray 4 from by rw [hav], lg_entry_eq]
  generalize (lg_sl ([.ref (ad 89), .int x1]) ++ List.replicate (4 - (lg_sl ([.ref (ad 89), .int x1])).length) Slot.unset).toArray = ls at hl ⊢
  have hl : lv_has ls 4 [(0, .ref (ad 89)), (1, .int x1)] := hl
  have B54 : ∀ (x1 : Int32) (h : HI) (g : HL) (H : Heap) (locs : List Loc) (ls : Array Slot), j_X9_forget_54 Q x1 h g → gG D cy ad (gA ad s.heap.size) s.heap h g H locs → lv_has ls 4 [(0, .ref (ad 89)), (1, .int x1)] → W p l e ({ frames := 1, cells := 0, slots := 0, locals := 22 } : Room) s m args below meth c H locs 0 0 (MQ below (va_Qv (fun (u : HI × HL) => Q u.1 u.2) (gB D cy ad s.heap.size) (gA ad s.heap.size)) args s 0 0 (gA ad s.heap.size)) (F0 m 54 ls []) := by
    intro x1 h g H locs ls HW hG hl
    unfold j_X9_forget_54 at HW
    refine lv_aload_n hx hb dX9_forget_54 rfl (lv_at hl 0 rfl) ?_
    refine g_getr hx hb hw inG9 hown hK hG gl_89 rfl gk_89 (by decide) 3 (by decide) (by rw [gm_89]; decide) (r := 96) gr_89_3 lk19 dX9_forget_55 ?_
    refine lv_iload_n hx hb dX9_forget_58 rfl (lv_at hl 1 rfl) ?_
    refine lv_iconst (v := 0) hx hb dX9_forget_59 (by decide) ?_
    refine g_iast hx hb hK hG gl_96 gk_96 gn_96 HW.1 dX9_forget_60 (fun H locs hG => ?_)
    replace HW := HW.2
    obtain ⟨h_60, eh_60⟩ : ∃ y : HI, y = hu h 96 x1.toNatClampNeg (0 : Int32) := ⟨_, rfl⟩
    rw [← eh_60] at hG
    replace HW := HW h_60 eh_60
    exact W.vret hx hb hr (fun t ht hW => ⟨⟨(h_60, g), rfl, HW, g_B ht hG⟩, hG.2.2.F ht⟩) hG.2.2.2.2 dX9_forget_61
  have B48 : ∀ (K2 : Int32 → Int32 → HI → HL → Prop) (hK2 : ∀ (x1 : Int32) (x2 : Int32) (h : HI) (g : HL) (H : Heap) (locs : List Loc) (ls : Array Slot), K2 x1 x2 h g → gG D cy ad (gA ad s.heap.size) s.heap h g H locs → lv_has ls 4 [(0, .ref (ad 89)), (1, .int x1), (2, .int x2)] → W p l e ({ frames := 1, cells := 0, slots := 0, locals := 22 } : Room) s m args below meth c H locs 0 0 (MQ below (va_Qv (fun (u : HI × HL) => Q u.1 u.2) (gB D cy ad s.heap.size) (gA ad s.heap.size)) args s 0 0 (gA ad s.heap.size)) (F0 m 2 ls [])) (x1 : Int32) (x2 : Int32) (h : HI) (g : HL) (H : Heap) (locs : List Loc) (ls : Array Slot), j_X9_forget_48 Q K2 x1 x2 h g → gG D cy ad (gA ad s.heap.size) s.heap h g H locs → lv_has ls 4 [(0, .ref (ad 89)), (1, .int x1), (2, .int x2)] → W p l e ({ frames := 1, cells := 0, slots := 0, locals := 22 } : Room) s m args below meth c H locs 0 0 (MQ below (va_Qv (fun (u : HI × HL) => Q u.1 u.2) (gB D cy ad s.heap.size) (gA ad s.heap.size)) args s 0 0 (gA ad s.heap.size)) (F0 m 48 ls []) := by
    intro K2 hK2 x1 x2 h g H locs ls HW hG hl
    unfold j_X9_forget_48 at HW
    obtain ⟨x2_48, ex2_48⟩ : ∃ y : Int32, y = (x2 + 1) := ⟨_, rfl⟩
    replace HW := HW x2_48 ex2_48
    refine lv_iinc (v := x2_48) (lv' := [(2, .int x2_48), (0, .ref (ad 89)), (1, .int x1)]) hx hb dX9_forget_48 hl (k := 2) rfl (by rw [ex2_48]; rfl) (by decide) rfl (fun ls hl => ?_)
    refine lv_goto (tgt := 2) hx hb dX9_forget_51 (by decide) ?_
    exact hK2 x1 x2_48 h g _ _ _ HW hG (lv_sub hl [1, 2, 0] rfl)
  have L2 : ∀ (n : Nat) (x1 : Int32) (x2 : Int32) (h : HI) (g : HL) (H : Heap) (locs : List Loc) (ls : Array Slot), lpN (F_X9_forget_2 Q) n (x1, x2, h, g) → gG D cy ad (gA ad s.heap.size) s.heap h g H locs → lv_has ls 4 [(0, .ref (ad 89)), (1, .int x1), (2, .int x2)] → W p l e ({ frames := 1, cells := 0, slots := 0, locals := 22 } : Room) s m args below meth c H locs 0 0 (MQ below (va_Qv (fun (u : HI × HL) => Q u.1 u.2) (gB D cy ad s.heap.size) (gA ad s.heap.size)) args s 0 0 (gA ad s.heap.size)) (F0 m 2 ls []) := by
    intro n
    induction n with
    | zero => intro x1 x2 h g H locs ls HW; exact HW.elim
    | succ n ih =>
      intro x1 x2 h g H locs ls HW hG hl
      have HW : b_X9_forget_2 Q (fun x1 x2 h g => lpN (F_X9_forget_2 Q) n (x1, x2, h, g)) x1 x2 h g := HW
      generalize hKe : (fun (x1 : Int32) (x2 : Int32) (h : HI) (g : HL) => lpN (F_X9_forget_2 Q) n (x1, x2, h, g)) = K2 at HW
      have hK2 : ∀ (x1 : Int32) (x2 : Int32) (h : HI) (g : HL) (H : Heap) (locs : List Loc) (ls : Array Slot), K2 x1 x2 h g → gG D cy ad (gA ad s.heap.size) s.heap h g H locs → lv_has ls 4 [(0, .ref (ad 89)), (1, .int x1), (2, .int x2)] → W p l e ({ frames := 1, cells := 0, slots := 0, locals := 22 } : Room) s m args below meth c H locs 0 0 (MQ below (va_Qv (fun (u : HI × HL) => Q u.1 u.2) (gB D cy ad s.heap.size) (gA ad s.heap.size)) args s 0 0 (gA ad s.heap.size)) (F0 m 2 ls []) := by subst hKe; exact ih
      clear ih
      clear hKe
      unfold b_X9_forget_2 at HW
      refine lv_iload_n hx hb dX9_forget_2 rfl (lv_at hl 2 rfl) ?_
      refine lv_aload_n hx hb dX9_forget_3 rfl (lv_at hl 0 rfl) ?_
      refine g_getr hx hb hw inG9 hown hK hG gl_89 rfl gk_89 (by decide) 3 (by decide) (by rw [gm_89]; decide) (r := 96) gr_89_3 lk19 dX9_forget_4 ?_
      refine lv_iload_n hx hb dX9_forget_7 rfl (lv_at hl 1 rfl) ?_
      refine g_iald hx hb hK hG gl_96 gk_96 gn_96 HW.1 dX9_forget_8 ?_
      replace HW := HW.2
      refine lv_icmp_ge (tgt := 54) hx hb dX9_forget_9 (by decide) (fun c_9 => ?_) (fun c_9 => ?_)
      · replace HW := HW.1 c_9
        exact B54 x1 h g _ _ _ HW hG (lv_sub hl [0, 1] rfl)
      · replace HW := HW.2 c_9
        refine lv_iload_n hx hb dX9_forget_12 rfl (lv_at hl 2 rfl) ?_
        refine lv_sipush (v := 3000) hx hb dX9_forget_13 (by decide) ?_
        refine lv_icmp_ge (tgt := 54) hx hb dX9_forget_16 (by decide) (fun c_16 => ?_) (fun c_16 => ?_)
        · replace HW := HW.1 c_16
          exact B54 x1 h g _ _ _ HW hG (lv_sub hl [0, 1] rfl)
        · replace HW := HW.2 c_16
          refine lv_aload_n hx hb dX9_forget_19 rfl (lv_at hl 0 rfl) ?_
          refine g_getr hx hb hw inG9 hown hK hG gl_89 rfl gk_89 (by decide) 2 (by decide) (by rw [gm_89]; decide) (r := 93) gr_89_2 lk16 dX9_forget_20 ?_
          refine lv_iload_n hx hb dX9_forget_23 rfl (lv_at hl 1 rfl) ?_
          have hi_24 := vp_lt HW.1
          refine g_aald hx hb hK hG gl_93 gk_93 gn_93 HW.1 (go_93 _ hi_24).1 dX9_forget_24 ?_
          replace HW := HW.2
          refine lv_iload_n hx hb dX9_forget_25 rfl (lv_at hl 2 rfl) ?_
          refine g_iald hx hb hK hG ((go_93 _ hi_24).2.2.1) ((go_93 _ hi_24).2.1) ((go_93 _ hi_24).2.2.2) HW.1 dX9_forget_26 ?_
          replace HW := HW.2
          refine lv_topi (fun x3_27 ex3_27 => ?_)
          replace HW := HW x3_27 ex3_27
          refine lv_istore_n (lv' := [(3, .int x3_27), (0, .ref (ad 89)), (1, .int x1), (2, .int x2)]) hx hb dX9_forget_27 rfl hl (by decide) rfl (fun ls hl => ?_)
          refine lv_iload_n hx hb dX9_forget_28 rfl (lv_at hl 0 rfl) ?_
          refine lv_iconst (v := 1) hx hb dX9_forget_29 (by decide) ?_
          refine lv_sipush (v := 3000) hx hb dX9_forget_30 (by decide) ?_
          obtain ⟨P_33, HC_33, HW⟩ := HW
          refine g_callz (g_runSN (As := [.int x3_27, .int (1 : Int32), .int (3000 : Int32)]) (rest := []) ⟨hx, hb, hml, hown, hts⟩ (m_X10_within l D cy ad h g H.size x3_27 (1 : Int32) (3000 : Int32) P_33 HC_33) ⟨va_cnB 3 hts (gd_w (wm2 195 rfl rfl)) rfl rfl rfl (hNw _ (List.mem_of_getElem? (i := 5) rfl)) (hw (.initialized RX10) (wm1 1 rfl rfl)) (by decide +kernel) ⟨Nat.le_of_ble_eq_true rfl, Nat.le_of_ble_eq_true rfl⟩, hw (.static yX10_within) (wm2 194 rfl rfl), trivial⟩ hK hNw hG rfl rfl hl.1 rfl (lv_room (Nat.le_of_ble_eq_true rfl)) dX9_forget_33 ⟨Nat.zero_le _, Nat.zero_le _⟩) hG (fun r_33 h_33 g_33 H locs hz hq hG => ?_)
          replace HW := HW r_33 h_33 g_33 hz hq
          refine lv_if_eq (tgt := 48) hx hb dX9_forget_36 (by decide) (fun c_36 => ?_) (fun c_36 => ?_)
          · replace HW := HW.1 c_36
            exact B48 K2 hK2 x1 x2 h_33 g_33 _ _ _ HW hG (lv_sub hl [1, 2, 3] rfl)
          · replace HW := HW.2 c_36
            refine lv_aload_n hx hb dX9_forget_39 rfl (lv_at hl 1 rfl) ?_
            refine g_getr hx hb hw inG9 hown hK hG gl_89 rfl gk_89 (by decide) 1 (by decide) (by rw [gm_89]; decide) (r := 90) gr_89_1 lk11 dX9_forget_40 ?_
            refine lv_iload_n hx hb dX9_forget_43 rfl (lv_at hl 2 rfl) ?_
            have hi_44 := vp_lt HW.1
            refine g_aald hx hb hK hG gl_90 gk_90 gn_90 HW.1 (go_90 _ hi_44).1 dX9_forget_44 ?_
            replace HW := HW.2
            refine lv_iload_n hx hb dX9_forget_45 rfl (lv_at hl 0 rfl) ?_
            refine lv_iconst (v := (-1)) hx hb dX9_forget_46 (by decide) ?_
            refine g_iast hx hb hK hG ((go_90 _ hi_44).2.2.1) ((go_90 _ hi_44).2.1) ((go_90 _ hi_44).2.2.2) HW.1 dX9_forget_47 (fun H locs hG => ?_)
            replace HW := HW.2
            obtain ⟨h_47, eh_47⟩ : ∃ y : HI, y = hu h_33 (91 + x1.toNatClampNeg) x3_27.toNatClampNeg (-1 : Int32) := ⟨_, rfl⟩
            rw [← eh_47] at hG
            replace HW := HW h_47 eh_47
            exact B48 K2 hK2 x1 x2 h_47 g_33 _ _ _ HW hG (lv_sub hl [1, 2, 3] rfl)
  have E0 : ∀ (H : Heap) (locs : List Loc) (ls : Array Slot), gG D cy ad (gA ad s.heap.size) s.heap h g H locs → lv_has ls 4 [(0, .ref (ad 89)), (1, .int x1)] → W p l e ({ frames := 1, cells := 0, slots := 0, locals := 22 } : Room) s m args below meth c H locs 0 0 (MQ below (va_Qv (fun (u : HI × HL) => Q u.1 u.2) (gB D cy ad s.heap.size) (gA ad s.heap.size)) args s 0 0 (gA ad s.heap.size)) (F0 m 0 ls []) := by
    intro H locs ls hG hl
    unfold w_X9_forget at HW
    refine lv_iconst (v := 0) hx hb dX9_forget_0 (by decide) ?_
    refine lv_istore_n (lv' := [(2, .int (0 : Int32)), (0, .ref (ad 89)), (1, .int x1)]) hx hb dX9_forget_1 rfl hl (by decide) rfl (fun ls hl => ?_)
    obtain ⟨n_2, HW⟩ := HW
    exact L2 n_2 x1 (0 : Int32) h g _ _ _ HW hG (lv_sub hl [1, 2, 0] rfl)
  exact E0 _ _ _ hG hl

def j_X9_find_49 (Q : HI → HL → Prop) (K15 : Int32 → Int32 → Int32 → HI → HL → Prop) (x2 : Int32) (x3 : Int32) (x4 : Int32) (x5 : Int32) (h : HI) (g : HL) : Prop :=
  (∃ P_52 : HI → HL → Prop, w_X9_forget x5 h g P_52 ∧ ∀ (h_52 : HI) (g_52 : HL), P_52 h_52 g_52 → (∀ x4_55 : Int32, x4_55 = (x4 + 1) → K15 x2 x3 x4_55 h_52 g_52))
def b_X9_find_15 (Q : HI → HL → Prop) (K15 : Int32 → Int32 → Int32 → HI → HL → Prop) (x2 : Int32) (x3 : Int32) (x4 : Int32) (h : HI) (g : HL) : Prop :=
  (((5 : Int32) < x4 → Q h g) ∧ (¬ (5 : Int32) < x4 → (∀ x5_25 : Int32, x5_25 = (x4 &&& (1 : Int32)) → (∃ P_34 : HI → HL → Prop, w_X9_look x5_25 x4 x2 x3 h g P_34 ∧ ∀ (h_34 : HI) (g_34 : HL), P_34 h_34 g_34 → (((5 : Int32) ≤ x4 → j_X9_find_49 Q K15 x2 x3 x4 x5_25 h_34 g_34) ∧ (¬ (5 : Int32) ≤ x4 → (∃ P_46 : HI → HL → Prop, w_X9_spread x5_25 h_34 g_34 P_46 ∧ ∀ (h_46 : HI) (g_46 : HL), P_46 h_46 g_46 → j_X9_find_49 Q K15 x2 x3 x4 x5_25 h_46 g_46)))))))
def F_X9_find_15 (Q : HI → HL → Prop) (K : Int32 × Int32 × Int32 × HI × HL → Prop) (q : Int32 × Int32 × Int32 × HI × HL) : Prop := b_X9_find_15 Q (fun x2 x3 x4 h g => K (x2, x3, x4, h, g)) q.1 q.2.1 q.2.2.1 q.2.2.2.1 q.2.2.2.2
def w_X9_find (x1 : Int32) (x2 : Int32) (x3 : Int32) (h : HI) (g : HL) (Q : HI → HL → Prop) : Prop :=
  (∀ h_2 : HI, h_2 = hu h 89 5 (-1 : Int32) → (∃ P_9 : HI → HL → Prop, w_X9_reach (0 : Int32) x1 (0 : Int32) h_2 g P_9 ∧ ∀ (h_9 : HI) (g_9 : HL), P_9 h_9 g_9 → lpE (F_X9_find_15 Q) (x2, x3, (0 : Int32), h_9, g_9)))
set_option maxHeartbeats 8000000 in
set_option maxRecDepth 100000 in
theorem m_X9_find (l : Launch) (D : va_G) (cy : Nat → ClassId) (ad : Nat → Nat) (h : HI) (g : HL) (sz : Nat) (x1 : Int32) (x2 : Int32) (x3 : Int32) (Q : HI → HL → Prop) (HW : w_X9_find x1 x2 x3 h g Q) : Met l yX9_find (wa yX9_find cX9_find 6 none) ({ frames := 3, cells := 0, slots := 0, locals := 73 }) (va_Pc [.ref (ad 89), .int x1, .int x2, .int x3] (gI D cy ad h g sz)) (va_Qv (fun (u : HI × HL) => Q u.1 u.2) (gB D cy ad sz) (gA ad sz)) 0 0 (gA ad sz) := by
  refine Met.ofW (cc := cX9_find) (maxL := 6) (ret := none) (by decide) rfl ?_
  intro p e s m args below meth c s₁ B hml hv
  obtain ⟨hav, hsz, hP, hK, hD0, hNw⟩ := hv
  have hx := B.exec
  have hb := B.bytes
  have hr := B.returns
  have hts := atoms_spec (ws := (wa yX9_find cX9_find 6 none)) B.pre
  have hw := wa_hw hts
  have hown : s.vm.findClass RX9 = some m.cls := findClass_of_methodNamed B.named
  have hlocks := B.notSynchronized
  subst hsz
  have hG : gG D cy ad (gA ad s.heap.size) s.heap h g s.heap [] := ⟨hP, gA_self hD0, va_S.rf⟩
  clear hP hD0
  have lk33 := hw (.fieldLink RX9 33 "OldWorks$Ways" "price" "I") (wm2 24 rfl rfl)
  rw [show (headSpec (wa yX9_find cX9_find 6 none) ({ frames := 3, cells := 0, slots := 0, locals := 73 } : Room)).room = ({ frames := 3, cells := 0, slots := 0, locals := 73 } : Room) from rfl]
  have hl := lv_entry ([.ref (ad 89), .int x1, .int x2, .int x3]) (n := 6) (Nat.le_of_ble_eq_true rfl)
  rw [show entryFrame m args 6 = entryFrame m ([.ref (ad 89), .int x1, .int x2, .int x3] : List Value).toArray 6 from by rw [hav], lg_entry_eq]
  generalize (lg_sl ([.ref (ad 89), .int x1, .int x2, .int x3]) ++ List.replicate (6 - (lg_sl ([.ref (ad 89), .int x1, .int x2, .int x3])).length) Slot.unset).toArray = ls at hl ⊢
  have hl : lv_has ls 6 [(0, .ref (ad 89)), (1, .int x1), (2, .int x2), (3, .int x3)] := hl
  have B49 : ∀ (K15 : Int32 → Int32 → Int32 → HI → HL → Prop) (hK15 : ∀ (x2 : Int32) (x3 : Int32) (x4 : Int32) (h : HI) (g : HL) (H : Heap) (locs : List Loc) (ls : Array Slot), K15 x2 x3 x4 h g → gG D cy ad (gA ad s.heap.size) s.heap h g H locs → lv_has ls 6 [(0, .ref (ad 89)), (2, .int x2), (3, .int x3), (4, .int x4)] → W p l e ({ frames := 3, cells := 0, slots := 0, locals := 73 } : Room) s m args below meth c H locs 0 0 (MQ below (va_Qv (fun (u : HI × HL) => Q u.1 u.2) (gB D cy ad s.heap.size) (gA ad s.heap.size)) args s 0 0 (gA ad s.heap.size)) (F0 m 15 ls [])) (x2 : Int32) (x3 : Int32) (x4 : Int32) (x5 : Int32) (h : HI) (g : HL) (H : Heap) (locs : List Loc) (ls : Array Slot), j_X9_find_49 Q K15 x2 x3 x4 x5 h g → gG D cy ad (gA ad s.heap.size) s.heap h g H locs → lv_has ls 6 [(0, .ref (ad 89)), (2, .int x2), (3, .int x3), (4, .int x4), (5, .int x5)] → W p l e ({ frames := 3, cells := 0, slots := 0, locals := 73 } : Room) s m args below meth c H locs 0 0 (MQ below (va_Qv (fun (u : HI × HL) => Q u.1 u.2) (gB D cy ad s.heap.size) (gA ad s.heap.size)) args s 0 0 (gA ad s.heap.size)) (F0 m 49 ls []) := by
    intro K15 hK15 x2 x3 x4 x5 h g H locs ls HW hG hl
    unfold j_X9_find_49 at HW
    refine lv_aload_n hx hb dX9_find_49 rfl (lv_at hl 0 rfl) ?_
    refine lv_iload hx hb dX9_find_50 (lv_at hl 4 rfl) ?_
    obtain ⟨P_52, HC_52, HW⟩ := HW
    refine g_callv (g_runV (As := [.int x5]) (rest := []) ⟨hx, hb, hml, hown, hts⟩ (m_X9_forget l D cy ad h g H.size x5 P_52 HC_52) (cwV 1 hts (gd_V (wm3 204 rfl rfl) (wm3 206 rfl rfl) (wmp2 (q := (yX9_forget, 7)) 1 rfl) (wm1 7 rfl rfl) (wm3 207 rfl rfl)) rfl rfl rfl (by decide +kernel) ⟨Nat.le_of_ble_eq_true rfl, Nat.le_of_ble_eq_true rfl⟩) hK hNw hG gl_89 rfl gk_89 (by decide) rfl rfl hl.1 rfl (lv_room (Nat.le_of_ble_eq_true rfl)) dX9_find_52 ⟨Nat.zero_le _, Nat.zero_le _⟩) hG (fun h_52 g_52 H locs hq hG => ?_)
    replace HW := HW h_52 g_52 hq
    obtain ⟨x4_55, ex4_55⟩ : ∃ y : Int32, y = (x4 + 1) := ⟨_, rfl⟩
    replace HW := HW x4_55 ex4_55
    refine lv_iinc (v := x4_55) (lv' := [(4, .int x4_55), (0, .ref (ad 89)), (2, .int x2), (3, .int x3), (5, .int x5)]) hx hb dX9_find_55 hl (k := 3) rfl (by rw [ex4_55]; rfl) (by decide) rfl (fun ls hl => ?_)
    refine lv_goto (tgt := 15) hx hb dX9_find_58 (by decide) ?_
    exact hK15 x2 x3 x4_55 h_52 g_52 _ _ _ HW hG (lv_sub hl [1, 2, 3, 0] rfl)
  have L15 : ∀ (n : Nat) (x2 : Int32) (x3 : Int32) (x4 : Int32) (h : HI) (g : HL) (H : Heap) (locs : List Loc) (ls : Array Slot), lpN (F_X9_find_15 Q) n (x2, x3, x4, h, g) → gG D cy ad (gA ad s.heap.size) s.heap h g H locs → lv_has ls 6 [(0, .ref (ad 89)), (2, .int x2), (3, .int x3), (4, .int x4)] → W p l e ({ frames := 3, cells := 0, slots := 0, locals := 73 } : Room) s m args below meth c H locs 0 0 (MQ below (va_Qv (fun (u : HI × HL) => Q u.1 u.2) (gB D cy ad s.heap.size) (gA ad s.heap.size)) args s 0 0 (gA ad s.heap.size)) (F0 m 15 ls []) := by
    intro n
    induction n with
    | zero => intro x2 x3 x4 h g H locs ls HW; exact HW.elim
    | succ n ih =>
      intro x2 x3 x4 h g H locs ls HW hG hl
      have HW : b_X9_find_15 Q (fun x2 x3 x4 h g => lpN (F_X9_find_15 Q) n (x2, x3, x4, h, g)) x2 x3 x4 h g := HW
      generalize hKe : (fun (x2 : Int32) (x3 : Int32) (x4 : Int32) (h : HI) (g : HL) => lpN (F_X9_find_15 Q) n (x2, x3, x4, h, g)) = K15 at HW
      have hK15 : ∀ (x2 : Int32) (x3 : Int32) (x4 : Int32) (h : HI) (g : HL) (H : Heap) (locs : List Loc) (ls : Array Slot), K15 x2 x3 x4 h g → gG D cy ad (gA ad s.heap.size) s.heap h g H locs → lv_has ls 6 [(0, .ref (ad 89)), (2, .int x2), (3, .int x3), (4, .int x4)] → W p l e ({ frames := 3, cells := 0, slots := 0, locals := 73 } : Room) s m args below meth c H locs 0 0 (MQ below (va_Qv (fun (u : HI × HL) => Q u.1 u.2) (gB D cy ad s.heap.size) (gA ad s.heap.size)) args s 0 0 (gA ad s.heap.size)) (F0 m 15 ls []) := by subst hKe; exact ih
      clear ih
      clear hKe
      unfold b_X9_find_15 at HW
      refine lv_iload hx hb dX9_find_15 (lv_at hl 3 rfl) ?_
      refine lv_iconst (v := 5) hx hb dX9_find_17 (by decide) ?_
      refine lv_icmp_gt (tgt := 61) hx hb dX9_find_18 (by decide) (fun c_18 => ?_) (fun c_18 => ?_)
      · replace HW := HW.1 c_18
        exact W.vret hx hb hr (fun t ht hW => ⟨⟨(h, g), rfl, HW, g_B ht hG⟩, hG.2.2.F ht⟩) hG.2.2.2.2 dX9_find_61
      · replace HW := HW.2 c_18
        refine lv_iload hx hb dX9_find_21 (lv_at hl 3 rfl) ?_
        refine lv_iconst (v := 1) hx hb dX9_find_23 (by decide) ?_
        refine lv_iand hx hb dX9_find_24 ?_
        refine lv_topi (fun x5_25 ex5_25 => ?_)
        replace HW := HW x5_25 ex5_25
        refine lv_istore (lv' := [(5, .int x5_25), (0, .ref (ad 89)), (2, .int x2), (3, .int x3), (4, .int x4)]) hx hb dX9_find_25 hl (by decide) rfl (fun ls hl => ?_)
        refine lv_aload_n hx hb dX9_find_27 rfl (lv_at hl 1 rfl) ?_
        refine lv_iload hx hb dX9_find_28 (lv_at hl 0 rfl) ?_
        refine lv_iload hx hb dX9_find_30 (lv_at hl 4 rfl) ?_
        refine lv_iload_n hx hb dX9_find_32 rfl (lv_at hl 2 rfl) ?_
        refine lv_iload_n hx hb dX9_find_33 rfl (lv_at hl 3 rfl) ?_
        obtain ⟨P_34, HC_34, HW⟩ := HW
        refine g_callv (g_runV (As := [.int x5_25, .int x4, .int x2, .int x3]) (rest := []) ⟨hx, hb, hml, hown, hts⟩ (m_X9_look l D cy ad h g H.size x5_25 x4 x2 x3 P_34 HC_34) (cwV 4 hts (gd_V (wm3 191 rfl rfl) (wm3 193 rfl rfl) (wmp1 (q := (yX9_look, 7)) 15 rfl) (wm1 7 rfl rfl) (wm3 194 rfl rfl)) rfl rfl rfl (by decide +kernel) ⟨Nat.le_of_ble_eq_true rfl, Nat.le_of_ble_eq_true rfl⟩) hK hNw hG gl_89 rfl gk_89 (by decide) rfl rfl hl.1 rfl (lv_room (Nat.le_of_ble_eq_true rfl)) dX9_find_34 ⟨Nat.zero_le _, Nat.zero_le _⟩) hG (fun h_34 g_34 H locs hq hG => ?_)
        replace HW := HW h_34 g_34 hq
        refine lv_iload hx hb dX9_find_37 (lv_at hl 4 rfl) ?_
        refine lv_iconst (v := 5) hx hb dX9_find_39 (by decide) ?_
        refine lv_icmp_ge (tgt := 49) hx hb dX9_find_40 (by decide) (fun c_40 => ?_) (fun c_40 => ?_)
        · replace HW := HW.1 c_40
          exact B49 K15 hK15 x2 x3 x4 x5_25 h_34 g_34 _ _ _ HW hG (lv_sub hl [1, 2, 3, 4, 0] rfl)
        · replace HW := HW.2 c_40
          refine lv_aload_n hx hb dX9_find_43 rfl (lv_at hl 1 rfl) ?_
          refine lv_iload hx hb dX9_find_44 (lv_at hl 0 rfl) ?_
          obtain ⟨P_46, HC_46, HW⟩ := HW
          refine g_callv (g_runV (As := [.int x5_25]) (rest := []) ⟨hx, hb, hml, hown, hts⟩ (m_X9_spread l D cy ad h_34 g_34 H.size x5_25 P_46 HC_46) (cwV 1 hts (gd_V (wm3 198 rfl rfl) (wm3 200 rfl rfl) (wmp2 (q := (yX9_spread, 7)) 0 rfl) (wm1 7 rfl rfl) (wm3 201 rfl rfl)) rfl rfl rfl (by decide +kernel) ⟨Nat.le_of_ble_eq_true rfl, Nat.le_of_ble_eq_true rfl⟩) hK hNw hG gl_89 rfl gk_89 (by decide) rfl rfl hl.1 rfl (lv_room (Nat.le_of_ble_eq_true rfl)) dX9_find_46 ⟨Nat.zero_le _, Nat.zero_le _⟩) hG (fun h_46 g_46 H locs hq hG => ?_)
          replace HW := HW h_46 g_46 hq
          exact B49 K15 hK15 x2 x3 x4 x5_25 h_46 g_46 _ _ _ HW hG (lv_sub hl [1, 2, 3, 4, 0] rfl)
  have E0 : ∀ (H : Heap) (locs : List Loc) (ls : Array Slot), gG D cy ad (gA ad s.heap.size) s.heap h g H locs → lv_has ls 6 [(0, .ref (ad 89)), (1, .int x1), (2, .int x2), (3, .int x3)] → W p l e ({ frames := 3, cells := 0, slots := 0, locals := 73 } : Room) s m args below meth c H locs 0 0 (MQ below (va_Qv (fun (u : HI × HL) => Q u.1 u.2) (gB D cy ad s.heap.size) (gA ad s.heap.size)) args s 0 0 (gA ad s.heap.size)) (F0 m 0 ls []) := by
    intro H locs ls hG hl
    unfold w_X9_find at HW
    refine lv_aload_n hx hb dX9_find_0 rfl (lv_at hl 0 rfl) ?_
    refine lv_iconst (v := (-1)) hx hb dX9_find_1 (by decide) ?_
    refine g_put hx hb hw inG9 tyX9 tyX9_ok nmX9 hown hK hG gl_89 rfl gk_89 (by decide) 5 (by decide) (by rw [gm_89]; decide) gr_89_5 rfl (ty := .int) (by decide +kernel) rfl rfl lk33 dX9_find_2 (fun H locs hG => ?_)
    obtain ⟨h_2, eh_2⟩ : ∃ y : HI, y = hu h 89 5 (-1 : Int32) := ⟨_, rfl⟩
    rw [← eh_2] at hG
    replace HW := HW h_2 eh_2
    refine lv_aload_n hx hb dX9_find_5 rfl (lv_at hl 0 rfl) ?_
    refine lv_iconst (v := 0) hx hb dX9_find_6 (by decide) ?_
    refine lv_iload_n hx hb dX9_find_7 rfl (lv_at hl 1 rfl) ?_
    refine lv_iconst (v := 0) hx hb dX9_find_8 (by decide) ?_
    obtain ⟨P_9, HC_9, HW⟩ := HW
    refine g_callv (g_runV (As := [.int (0 : Int32), .int x1, .int (0 : Int32)]) (rest := []) ⟨hx, hb, hml, hown, hts⟩ (m_X9_reach l D cy ad h_2 g H.size (0 : Int32) x1 (0 : Int32) P_9 HC_9) (cwV 3 hts (gd_V (wm3 186 rfl rfl) (wm3 188 rfl rfl) (wmp1 (q := (yX9_reach, 7)) 14 rfl) (wm1 7 rfl rfl) (wm3 189 rfl rfl)) rfl rfl rfl (by decide +kernel) ⟨Nat.le_of_ble_eq_true rfl, Nat.le_of_ble_eq_true rfl⟩) hK hNw hG gl_89 rfl gk_89 (by decide) rfl rfl hl.1 rfl (lv_room (Nat.le_of_ble_eq_true rfl)) dX9_find_9 ⟨Nat.zero_le _, Nat.zero_le _⟩) hG (fun h_9 g_9 H locs hq hG => ?_)
    replace HW := HW h_9 g_9 hq
    refine lv_iconst (v := 0) hx hb dX9_find_12 (by decide) ?_
    refine lv_istore (lv' := [(4, .int (0 : Int32)), (0, .ref (ad 89)), (1, .int x1), (2, .int x2), (3, .int x3)]) hx hb dX9_find_13 hl (by decide) rfl (fun ls hl => ?_)
    obtain ⟨n_15, HW⟩ := HW
    exact L15 n_15 x2 x3 (0 : Int32) h_9 g_9 _ _ _ HW hG (lv_sub hl [1, 3, 4, 0] rfl)
  exact E0 _ _ _ hG hl

def w_X9_stepAt (x1 : Int32) (h : HI) (g : HL) (Q : Int32 → HI → HL → Prop) : Prop :=
  (∃ P_8 : Int32 → HI → HL → Prop, w_X10_within x1 (0 : Int32) ((h 89 6) - (1 : Int32)) h g P_8 ∧ ∀ (r_8 : Int32) (h_8 : HI) (g_8 : HL), zb r_8 → P_8 r_8 h_8 g_8 → ((r_8 = 0 → Q (-1 : Int32) h_8 g_8) ∧ (¬ r_8 = 0 → Q (((h_8 89 4) >>> (((3 : Int32) * (((h_8 89 6) - (1 : Int32)) - x1)) &&& 31)) &&& (7 : Int32)) h_8 g_8)))
set_option maxHeartbeats 8000000 in
set_option maxRecDepth 100000 in
theorem m_X9_stepAt (l : Launch) (D : va_G) (cy : Nat → ClassId) (ad : Nat → Nat) (h : HI) (g : HL) (sz : Nat) (x1 : Int32) (Q : Int32 → HI → HL → Prop) (HW : w_X9_stepAt x1 h g Q) : Met l yX9_stepAt (wa yX9_stepAt cX9_stepAt 2 (some .int)) ({ frames := 1, cells := 0, slots := 0, locals := 22 }) (va_Pc [.ref (ad 89), .int x1] (gI D cy ad h g sz)) (va_Qi (fun (r : Int32) (u : HI × HL) => Q r u.1 u.2) (gB D cy ad sz) (gA ad sz)) 0 0 (gA ad sz) := by
  refine Met.ofW (cc := cX9_stepAt) (maxL := 2) (ret := (some .int)) (by decide) rfl ?_
  intro p e s m args below meth c s₁ B hml hv
  obtain ⟨hav, hsz, hP, hK, hD0, hNw⟩ := hv
  have hx := B.exec
  have hb := B.bytes
  have hr := B.returns
  have hts := atoms_spec (ws := (wa yX9_stepAt cX9_stepAt 2 (some .int))) B.pre
  have hw := wa_hw hts
  have hown : s.vm.findClass RX9 = some m.cls := findClass_of_methodNamed B.named
  have hlocks := B.notSynchronized
  subst hsz
  have hG : gG D cy ad (gA ad s.heap.size) s.heap h g s.heap [] := ⟨hP, gA_self hD0, va_S.rf⟩
  clear hP hD0
  have lk69 := hw (.fieldLink RX9 69 "OldWorks$Ways" "steps" "I") (wm2 26 rfl rfl)
  have lk66 := hw (.fieldLink RX9 66 "OldWorks$Ways" "row" "I") (wm2 23 rfl rfl)
  rw [show (headSpec (wa yX9_stepAt cX9_stepAt 2 (some .int)) ({ frames := 1, cells := 0, slots := 0, locals := 22 } : Room)).room = ({ frames := 1, cells := 0, slots := 0, locals := 22 } : Room) from rfl]
  have hl := lv_entry ([.ref (ad 89), .int x1]) (n := 2) (Nat.le_of_ble_eq_true rfl)
  rw [show entryFrame m args 2 = entryFrame m ([.ref (ad 89), .int x1] : List Value).toArray 2 from by rw [hav], lg_entry_eq]
  generalize (lg_sl ([.ref (ad 89), .int x1]) ++ List.replicate (2 - (lg_sl ([.ref (ad 89), .int x1])).length) Slot.unset).toArray = ls at hl ⊢
  have hl : lv_has ls 2 [(0, .ref (ad 89)), (1, .int x1)] := hl
  have E0 : ∀ (H : Heap) (locs : List Loc) (ls : Array Slot), gG D cy ad (gA ad s.heap.size) s.heap h g H locs → lv_has ls 2 [(0, .ref (ad 89)), (1, .int x1)] → W p l e ({ frames := 1, cells := 0, slots := 0, locals := 22 } : Room) s m args below meth c H locs 0 0 (MQ below (va_Qi (fun (r : Int32) (u : HI × HL) => Q r u.1 u.2) (gB D cy ad s.heap.size) (gA ad s.heap.size)) args s 0 0 (gA ad s.heap.size)) (F0 m 0 ls []) := by
    intro H locs ls hG hl
    unfold w_X9_stepAt at HW
    refine lv_iload_n hx hb dX9_stepAt_0 rfl (lv_at hl 1 rfl) ?_
    refine lv_iconst (v := 0) hx hb dX9_stepAt_1 (by decide) ?_
    refine lv_aload_n hx hb dX9_stepAt_2 rfl (lv_at hl 0 rfl) ?_
    refine g_geti hx hb hw inG9 hown hK hG gl_89 rfl gk_89 (by decide) 6 (by decide) (by rw [gm_89]; decide) gr_89_6 lk69 dX9_stepAt_3 ?_
    refine lv_iconst (v := 1) hx hb dX9_stepAt_6 (by decide) ?_
    refine lv_isub hx hb dX9_stepAt_7 ?_
    obtain ⟨P_8, HC_8, HW⟩ := HW
    refine g_callz (g_runSN (As := [.int x1, .int (0 : Int32), .int ((h 89 6) - (1 : Int32))]) (rest := []) ⟨hx, hb, hml, hown, hts⟩ (m_X10_within l D cy ad h g H.size x1 (0 : Int32) ((h 89 6) - (1 : Int32)) P_8 HC_8) ⟨va_cnB 3 hts (gd_w (wm2 195 rfl rfl)) rfl rfl rfl (hNw _ (List.mem_of_getElem? (i := 5) rfl)) (hw (.initialized RX10) (wm1 1 rfl rfl)) (by decide +kernel) ⟨Nat.le_of_ble_eq_true rfl, Nat.le_of_ble_eq_true rfl⟩, hw (.static yX10_within) (wm2 194 rfl rfl), trivial⟩ hK hNw hG rfl rfl hl.1 rfl (lv_room (Nat.le_of_ble_eq_true rfl)) dX9_stepAt_8 ⟨Nat.zero_le _, Nat.zero_le _⟩) hG (fun r_8 h_8 g_8 H locs hz hq hG => ?_)
    replace HW := HW r_8 h_8 g_8 hz hq
    refine lv_if_eq (tgt := 35) hx hb dX9_stepAt_11 (by decide) (fun c_11 => ?_) (fun c_11 => ?_)
    · replace HW := HW.1 c_11
      refine lv_iconst (v := (-1)) hx hb dX9_stepAt_35 (by decide) ?_
      exact W.iret (v := (-1 : Int32)) hx hb hr (fun t ht hW => ⟨⟨(-1 : Int32), (h_8, g_8), rfl, HW, g_B ht hG⟩, hG.2.2.F ht⟩) hG.2.2.2.2 dX9_stepAt_36
    · replace HW := HW.2 c_11
      refine lv_aload_n hx hb dX9_stepAt_14 rfl (lv_at hl 0 rfl) ?_
      refine g_geti hx hb hw inG9 hown hK hG gl_89 rfl gk_89 (by decide) 4 (by decide) (by rw [gm_89]; decide) gr_89_4 lk66 dX9_stepAt_15 ?_
      refine lv_iconst (v := 3) hx hb dX9_stepAt_18 (by decide) ?_
      refine lv_aload_n hx hb dX9_stepAt_19 rfl (lv_at hl 0 rfl) ?_
      refine g_geti hx hb hw inG9 hown hK hG gl_89 rfl gk_89 (by decide) 6 (by decide) (by rw [gm_89]; decide) gr_89_6 lk69 dX9_stepAt_20 ?_
      refine lv_iconst (v := 1) hx hb dX9_stepAt_23 (by decide) ?_
      refine lv_isub hx hb dX9_stepAt_24 ?_
      refine lv_iload_n hx hb dX9_stepAt_25 rfl (lv_at hl 1 rfl) ?_
      refine lv_isub hx hb dX9_stepAt_26 ?_
      refine lv_imul hx hb dX9_stepAt_27 ?_
      refine lv_ishr hx hb dX9_stepAt_28 ?_
      refine lv_bipush (v := 7) hx hb dX9_stepAt_29 (by decide) ?_
      refine lv_iand hx hb dX9_stepAt_31 ?_
      refine lv_goto (tgt := 36) hx hb dX9_stepAt_32 (by decide) ?_
      exact W.iret (v := (((h_8 89 4) >>> (((3 : Int32) * (((h_8 89 6) - (1 : Int32)) - x1)) &&& 31)) &&& (7 : Int32))) hx hb hr (fun t ht hW => ⟨⟨(((h_8 89 4) >>> (((3 : Int32) * (((h_8 89 6) - (1 : Int32)) - x1)) &&& 31)) &&& (7 : Int32)), (h_8, g_8), rfl, HW, g_B ht hG⟩, hG.2.2.F ht⟩) hG.2.2.2.2 dX9_stepAt_36
  exact E0 _ _ _ hG hl

def w_X10_part (x1 : Int32) (x2 : Int32) (x3 : Int32) (x4 : Int32) (h : HI) (g : HL) (Q : Int32 → HI → HL → Prop) : Prop :=
  (∃ P_4 : Int32 → HI → HL → Prop, w_X10_within x1 (0 : Int32) (100 : Int32) h g P_4 ∧ ∀ (r_4 : Int32) (h_4 : HI) (g_4 : HL), zb r_4 → P_4 r_4 h_4 g_4 → ((r_4 = 0 → Q (-2 : Int32) h_4 g_4) ∧ (¬ r_4 = 0 → (∃ P_14 : Int32 → HI → HL → Prop, w_X10_within x2 (1 : Int32) (100 : Int32) h_4 g_4 P_14 ∧ ∀ (r_14 : Int32) (h_14 : HI) (g_14 : HL), zb r_14 → P_14 r_14 h_14 g_14 → ((¬ r_14 = 0 → (∃ P_27 : Int32 → HI → HL → Prop, w_X10_within x3 (0 : Int32) (99 : Int32) h_14 g_14 P_27 ∧ ∀ (r_27 : Int32) (h_27 : HI) (g_27 : HL), zb r_27 → P_27 r_27 h_27 g_27 → ((r_27 = 0 → Q (-2 : Int32) h_27 g_27) ∧ (¬ r_27 = 0 → (∃ P_37 : Int32 → HI → HL → Prop, w_X10_within x4 (-1 : Int32) (3 : Int32) h_27 g_27 P_37 ∧ ∀ (r_37 : Int32) (h_37 : HI) (g_37 : HL), zb r_37 → P_37 r_37 h_37 g_37 → ((¬ r_37 = 0 → (∃ P_58 : Int32 → HI → HL → Prop, w_X8_add 2 x1 x2 x3 x4 h_37 g_37 P_58 ∧ ∀ (r_58 : Int32) (h_58 : HI) (g_58 : HL), P_58 r_58 h_58 g_58 → Q r_58 h_58 g_58)) ∧ (r_37 = 0 → Q (-2 : Int32) h_37 g_37))))))) ∧ (r_14 = 0 → Q (-2 : Int32) h_14 g_14))))))
set_option maxHeartbeats 8000000 in
set_option maxRecDepth 100000 in
theorem m_X10_part (l : Launch) (D : va_G) (cy : Nat → ClassId) (ad : Nat → Nat) (h : HI) (g : HL) (sz : Nat) (x1 : Int32) (x2 : Int32) (x3 : Int32) (x4 : Int32) (Q : Int32 → HI → HL → Prop) (HW : w_X10_part x1 x2 x3 x4 h g Q) : Met l yX10_part (wa yX10_part cX10_part 5 (some .int)) ({ frames := 2, cells := 0, slots := 0, locals := 50 }) (va_Pc [.ref (ad 0), .int x1, .int x2, .int x3, .int x4] (gI D cy ad h g sz)) (va_Qi (fun (r : Int32) (u : HI × HL) => Q r u.1 u.2) (gB D cy ad sz) (gA ad sz)) 0 0 (gA ad sz) := by
  refine Met.ofW (cc := cX10_part) (maxL := 5) (ret := (some .int)) (by decide) rfl ?_
  intro p e s m args below meth c s₁ B hml hv
  obtain ⟨hav, hsz, hP, hK, hD0, hNw⟩ := hv
  have hx := B.exec
  have hb := B.bytes
  have hr := B.returns
  have hts := atoms_spec (ws := (wa yX10_part cX10_part 5 (some .int))) B.pre
  have hw := wa_hw hts
  have hown : s.vm.findClass RX10 = some m.cls := findClass_of_methodNamed B.named
  have hlocks := B.notSynchronized
  subst hsz
  have hG : gG D cy ad (gA ad s.heap.size) s.heap h g s.heap [] := ⟨hP, gA_self hD0, va_S.rf⟩
  clear hP hD0
  have lk10 := hw (.fieldLink RX10 10 "OldWorks" "shop" "LOldWorks$Shop;") (wm2 155 rfl rfl)
  have lk85 := hw (.fieldLink RX10 85 "OldWorks$Shop" "parts" "LOldWorks$Table;") (wm1 62 rfl rfl)
  rw [show (headSpec (wa yX10_part cX10_part 5 (some .int)) ({ frames := 2, cells := 0, slots := 0, locals := 50 } : Room)).room = ({ frames := 2, cells := 0, slots := 0, locals := 50 } : Room) from rfl]
  have hl := lv_entry ([.ref (ad 0), .int x1, .int x2, .int x3, .int x4]) (n := 5) (Nat.le_of_ble_eq_true rfl)
  rw [show entryFrame m args 5 = entryFrame m ([.ref (ad 0), .int x1, .int x2, .int x3, .int x4] : List Value).toArray 5 from by rw [hav], lg_entry_eq]
  generalize (lg_sl ([.ref (ad 0), .int x1, .int x2, .int x3, .int x4]) ++ List.replicate (5 - (lg_sl ([.ref (ad 0), .int x1, .int x2, .int x3, .int x4])).length) Slot.unset).toArray = ls at hl ⊢
  have hl : lv_has ls 5 [(0, .ref (ad 0)), (1, .int x1), (2, .int x2), (3, .int x3), (4, .int x4)] := hl
  have E0 : ∀ (H : Heap) (locs : List Loc) (ls : Array Slot), gG D cy ad (gA ad s.heap.size) s.heap h g H locs → lv_has ls 5 [(0, .ref (ad 0)), (1, .int x1), (2, .int x2), (3, .int x3), (4, .int x4)] → W p l e ({ frames := 2, cells := 0, slots := 0, locals := 50 } : Room) s m args below meth c H locs 0 0 (MQ below (va_Qi (fun (r : Int32) (u : HI × HL) => Q r u.1 u.2) (gB D cy ad s.heap.size) (gA ad s.heap.size)) args s 0 0 (gA ad s.heap.size)) (F0 m 0 ls []) := by
    intro H locs ls hG hl
    unfold w_X10_part at HW
    refine lv_iload_n hx hb dX10_part_0 rfl (lv_at hl 1 rfl) ?_
    refine lv_iconst (v := 0) hx hb dX10_part_1 (by decide) ?_
    refine lv_bipush (v := 100) hx hb dX10_part_2 (by decide) ?_
    obtain ⟨P_4, HC_4, HW⟩ := HW
    refine g_callz (g_runS (As := [.int x1, .int (0 : Int32), .int (100 : Int32)]) (rest := []) ⟨hx, hb, hml, hown, hts⟩ (m_X10_within l D cy ad h g H.size x1 (0 : Int32) (100 : Int32) P_4 HC_4) (va_cwS 3 hts (gd_S (wm2 193 rfl rfl) (wm2 194 rfl rfl) (wm1 1 rfl rfl) (wm2 195 rfl rfl)) rfl rfl rfl (by decide +kernel) ⟨Nat.le_of_ble_eq_true rfl, Nat.le_of_ble_eq_true rfl⟩) hK hNw hG rfl rfl hl.1 rfl (lv_room (Nat.le_of_ble_eq_true rfl)) dX10_part_4 ⟨Nat.zero_le _, Nat.zero_le _⟩) hG (fun r_4 h_4 g_4 H locs hz hq hG => ?_)
    replace HW := HW r_4 h_4 g_4 hz hq
    refine lv_if_eq (tgt := 20) hx hb dX10_part_7 (by decide) (fun c_7 => ?_) (fun c_7 => ?_)
    · replace HW := HW.1 c_7
      refine lv_bipush (v := (-2)) hx hb dX10_part_20 (by decide) ?_
      exact W.iret (v := (-2 : Int32)) hx hb hr (fun t ht hW => ⟨⟨(-2 : Int32), (h_4, g_4), rfl, HW, g_B ht hG⟩, hG.2.2.F ht⟩) hG.2.2.2.2 dX10_part_22
    · replace HW := HW.2 c_7
      refine lv_iload_n hx hb dX10_part_10 rfl (lv_at hl 2 rfl) ?_
      refine lv_iconst (v := 1) hx hb dX10_part_11 (by decide) ?_
      refine lv_bipush (v := 100) hx hb dX10_part_12 (by decide) ?_
      obtain ⟨P_14, HC_14, HW⟩ := HW
      refine g_callz (g_runS (As := [.int x2, .int (1 : Int32), .int (100 : Int32)]) (rest := []) ⟨hx, hb, hml, hown, hts⟩ (m_X10_within l D cy ad h_4 g_4 H.size x2 (1 : Int32) (100 : Int32) P_14 HC_14) (va_cwS 3 hts (gd_S (wm2 193 rfl rfl) (wm2 194 rfl rfl) (wm1 1 rfl rfl) (wm2 195 rfl rfl)) rfl rfl rfl (by decide +kernel) ⟨Nat.le_of_ble_eq_true rfl, Nat.le_of_ble_eq_true rfl⟩) hK hNw hG rfl rfl hl.1 rfl (lv_room (Nat.le_of_ble_eq_true rfl)) dX10_part_14 ⟨Nat.zero_le _, Nat.zero_le _⟩) hG (fun r_14 h_14 g_14 H locs hz hq hG => ?_)
      replace HW := HW r_14 h_14 g_14 hz hq
      refine lv_if_ne (tgt := 23) hx hb dX10_part_17 (by decide) (fun c_17 => ?_) (fun c_17 => ?_)
      · replace HW := HW.1 c_17
        refine lv_iload_n hx hb dX10_part_23 rfl (lv_at hl 3 rfl) ?_
        refine lv_iconst (v := 0) hx hb dX10_part_24 (by decide) ?_
        refine lv_bipush (v := 99) hx hb dX10_part_25 (by decide) ?_
        obtain ⟨P_27, HC_27, HW⟩ := HW
        refine g_callz (g_runS (As := [.int x3, .int (0 : Int32), .int (99 : Int32)]) (rest := []) ⟨hx, hb, hml, hown, hts⟩ (m_X10_within l D cy ad h_14 g_14 H.size x3 (0 : Int32) (99 : Int32) P_27 HC_27) (va_cwS 3 hts (gd_S (wm2 193 rfl rfl) (wm2 194 rfl rfl) (wm1 1 rfl rfl) (wm2 195 rfl rfl)) rfl rfl rfl (by decide +kernel) ⟨Nat.le_of_ble_eq_true rfl, Nat.le_of_ble_eq_true rfl⟩) hK hNw hG rfl rfl hl.1 rfl (lv_room (Nat.le_of_ble_eq_true rfl)) dX10_part_27 ⟨Nat.zero_le _, Nat.zero_le _⟩) hG (fun r_27 h_27 g_27 H locs hz hq hG => ?_)
        replace HW := HW r_27 h_27 g_27 hz hq
        refine lv_if_eq (tgt := 43) hx hb dX10_part_30 (by decide) (fun c_30 => ?_) (fun c_30 => ?_)
        · replace HW := HW.1 c_30
          refine lv_bipush (v := (-2)) hx hb dX10_part_43 (by decide) ?_
          exact W.iret (v := (-2 : Int32)) hx hb hr (fun t ht hW => ⟨⟨(-2 : Int32), (h_27, g_27), rfl, HW, g_B ht hG⟩, hG.2.2.F ht⟩) hG.2.2.2.2 dX10_part_45
        · replace HW := HW.2 c_30
          refine lv_iload hx hb dX10_part_33 (lv_at hl 4 rfl) ?_
          refine lv_iconst (v := (-1)) hx hb dX10_part_35 (by decide) ?_
          refine lv_iconst (v := 3) hx hb dX10_part_36 (by decide) ?_
          obtain ⟨P_37, HC_37, HW⟩ := HW
          refine g_callz (g_runS (As := [.int x4, .int (-1 : Int32), .int (3 : Int32)]) (rest := []) ⟨hx, hb, hml, hown, hts⟩ (m_X10_within l D cy ad h_27 g_27 H.size x4 (-1 : Int32) (3 : Int32) P_37 HC_37) (va_cwS 3 hts (gd_S (wm2 193 rfl rfl) (wm2 194 rfl rfl) (wm1 1 rfl rfl) (wm2 195 rfl rfl)) rfl rfl rfl (by decide +kernel) ⟨Nat.le_of_ble_eq_true rfl, Nat.le_of_ble_eq_true rfl⟩) hK hNw hG rfl rfl hl.1 rfl (lv_room (Nat.le_of_ble_eq_true rfl)) dX10_part_37 ⟨Nat.zero_le _, Nat.zero_le _⟩) hG (fun r_37 h_37 g_37 H locs hz hq hG => ?_)
          replace HW := HW r_37 h_37 g_37 hz hq
          refine lv_if_ne (tgt := 46) hx hb dX10_part_40 (by decide) (fun c_40 => ?_) (fun c_40 => ?_)
          · replace HW := HW.1 c_40
            refine lv_aload_n hx hb dX10_part_46 rfl (lv_at hl 0 rfl) ?_
            refine g_getr hx hb hw inG10 hown hK hG gl_0 rfl gk_0 (by decide) 0 (by decide) (by rw [gm_0]; decide) (r := 1) gr_0_0 lk10 dX10_part_47 ?_
            refine g_getr hx hb hw inG6 hown hK hG gl_1 rfl gk_1 (by decide) 0 (by decide) (by rw [gm_1]; decide) (r := 2) gr_1_0 lk85 dX10_part_50 ?_
            refine lv_iload_n hx hb dX10_part_53 rfl (lv_at hl 1 rfl) ?_
            refine lv_iload_n hx hb dX10_part_54 rfl (lv_at hl 2 rfl) ?_
            refine lv_iload_n hx hb dX10_part_55 rfl (lv_at hl 3 rfl) ?_
            refine lv_iload hx hb dX10_part_56 (lv_at hl 4 rfl) ?_
            obtain ⟨P_58, HC_58, HW⟩ := HW
            refine g_calli (g_runV (As := [.int x1, .int x2, .int x3, .int x4]) (rest := []) ⟨hx, hb, hml, hown, hts⟩ (m_X8_add l D cy ad h_37 g_37 H.size 2 (gs_2) x1 x2 x3 x4 P_58 HC_58) (cwV 4 hts (gd_V (wm2 196 rfl rfl) (wm1 53 rfl rfl) (wm1 54 rfl rfl) (wm1 3 rfl rfl) (wm1 55 rfl rfl)) rfl rfl rfl (by decide +kernel) ⟨Nat.le_of_ble_eq_true rfl, Nat.le_of_ble_eq_true rfl⟩) hK hNw hG gl_2 rfl gk_2 (by decide) rfl rfl hl.1 rfl (lv_room (Nat.le_of_ble_eq_true rfl)) dX10_part_58 ⟨Nat.zero_le _, Nat.zero_le _⟩) hG (fun r_58 h_58 g_58 H locs hq hG => ?_)
            replace HW := HW r_58 h_58 g_58 hq
            exact W.iret (v := r_58) hx hb hr (fun t ht hW => ⟨⟨r_58, (h_58, g_58), rfl, HW, g_B ht hG⟩, hG.2.2.F ht⟩) hG.2.2.2.2 dX10_part_61
          · replace HW := HW.2 c_40
            refine lv_bipush (v := (-2)) hx hb dX10_part_43 (by decide) ?_
            exact W.iret (v := (-2 : Int32)) hx hb hr (fun t ht hW => ⟨⟨(-2 : Int32), (h_37, g_37), rfl, HW, g_B ht hG⟩, hG.2.2.F ht⟩) hG.2.2.2.2 dX10_part_45
      · replace HW := HW.2 c_17
        refine lv_bipush (v := (-2)) hx hb dX10_part_20 (by decide) ?_
        exact W.iret (v := (-2 : Int32)) hx hb hr (fun t ht hW => ⟨⟨(-2 : Int32), (h_14, g_14), rfl, HW, g_B ht hG⟩, hG.2.2.F ht⟩) hG.2.2.2.2 dX10_part_22
  exact E0 _ _ _ hG hl

def w_X10_family (x1 : Int32) (x2 : Int32) (x3 : Int32) (x4 : Int32) (h : HI) (g : HL) (Q : Int32 → HI → HL → Prop) : Prop :=
  (∃ P_8 : Int32 → HI → HL → Prop, w_X8_has 4 x1 h g P_8 ∧ ∀ (r_8 : Int32) (h_8 : HI) (g_8 : HL), zb r_8 → P_8 r_8 h_8 g_8 → ((r_8 = 0 → Q (-2 : Int32) h_8 g_8) ∧ (¬ r_8 = 0 → (∃ P_18 : Int32 → HI → HL → Prop, w_X10_within x2 (1 : Int32) (100000 : Int32) h_8 g_8 P_18 ∧ ∀ (r_18 : Int32) (h_18 : HI) (g_18 : HL), zb r_18 → P_18 r_18 h_18 g_18 → ((¬ r_18 = 0 → (∃ P_31 : Int32 → HI → HL → Prop, w_X10_within x3 (1 : Int32) (100000 : Int32) h_18 g_18 P_31 ∧ ∀ (r_31 : Int32) (h_31 : HI) (g_31 : HL), zb r_31 → P_31 r_31 h_31 g_31 → ((r_31 = 0 → Q (-2 : Int32) h_31 g_31) ∧ (¬ r_31 = 0 → (∃ P_42 : Int32 → HI → HL → Prop, w_X10_within x4 (1 : Int32) (100000 : Int32) h_31 g_31 P_42 ∧ ∀ (r_42 : Int32) (h_42 : HI) (g_42 : HL), zb r_42 → P_42 r_42 h_42 g_42 → ((¬ r_42 = 0 → (((lg_cmp (((x2).toInt64) + ((((x4).toInt64) - (1 : Int64)) * ((x3).toInt64))) (100000 : Int64)) ≤ 0 → (∃ P_82 : HI → HL → Prop, w_X8_put 4 x1 (0 : Int32) x2 h_42 g_42 P_82 ∧ ∀ (h_82 : HI) (g_82 : HL), P_82 h_82 g_82 → (∃ P_95 : HI → HL → Prop, w_X8_put 4 x1 (1 : Int32) x3 h_82 g_82 P_95 ∧ ∀ (h_95 : HI) (g_95 : HL), P_95 h_95 g_95 → (∃ P_109 : HI → HL → Prop, w_X8_put 4 x1 (2 : Int32) x4 h_95 g_95 P_109 ∧ ∀ (h_109 : HI) (g_109 : HL), P_109 h_109 g_109 → Q (1 : Int32) h_109 g_109)))) ∧ (¬ (lg_cmp (((x2).toInt64) + ((((x4).toInt64) - (1 : Int64)) * ((x3).toInt64))) (100000 : Int64)) ≤ 0 → Q (-2 : Int32) h_42 g_42))) ∧ (r_42 = 0 → Q (-2 : Int32) h_42 g_42))))))) ∧ (r_18 = 0 → Q (-2 : Int32) h_18 g_18))))))
set_option maxHeartbeats 8000000 in
set_option maxRecDepth 100000 in
theorem m_X10_family (l : Launch) (D : va_G) (cy : Nat → ClassId) (ad : Nat → Nat) (h : HI) (g : HL) (sz : Nat) (x1 : Int32) (x2 : Int32) (x3 : Int32) (x4 : Int32) (Q : Int32 → HI → HL → Prop) (HW : w_X10_family x1 x2 x3 x4 h g Q) : Met l yX10_family (wa yX10_family cX10_family 5 (some .int)) ({ frames := 1, cells := 0, slots := 0, locals := 24 }) (va_Pc [.ref (ad 0), .int x1, .int x2, .int x3, .int x4] (gI D cy ad h g sz)) (va_Qi (fun (r : Int32) (u : HI × HL) => Q r u.1 u.2) (gB D cy ad sz) (gA ad sz)) 0 0 (gA ad sz) := by
  refine Met.ofW (cc := cX10_family) (maxL := 5) (ret := (some .int)) (by decide) rfl ?_
  intro p e s m args below meth c s₁ B hml hv
  obtain ⟨hav, hsz, hP, hK, hD0, hNw⟩ := hv
  have hx := B.exec
  have hb := B.bytes
  have hr := B.returns
  have hts := atoms_spec (ws := (wa yX10_family cX10_family 5 (some .int))) B.pre
  have hw := wa_hw hts
  have hown : s.vm.findClass RX10 = some m.cls := findClass_of_methodNamed B.named
  have hlocks := B.notSynchronized
  subst hsz
  have hG : gG D cy ad (gA ad s.heap.size) s.heap h g s.heap [] := ⟨hP, gA_self hD0, va_S.rf⟩
  clear hP hD0
  have lk10 := hw (.fieldLink RX10 10 "OldWorks" "shop" "LOldWorks$Shop;") (wm2 155 rfl rfl)
  have lk95 := hw (.fieldLink RX10 95 "OldWorks$Shop" "families" "LOldWorks$Table;") (wm1 66 rfl rfl)
  have cn102 := hw (.constant RX10 102 (100000)) (wm2 205 rfl rfl)
  have cn103 := hw (.constantLong RX10 103 (100000)) (wm2 206 rfl rfl)
  rw [show (headSpec (wa yX10_family cX10_family 5 (some .int)) ({ frames := 1, cells := 0, slots := 0, locals := 24 } : Room)).room = ({ frames := 1, cells := 0, slots := 0, locals := 24 } : Room) from rfl]
  have hl := lv_entry ([.ref (ad 0), .int x1, .int x2, .int x3, .int x4]) (n := 5) (Nat.le_of_ble_eq_true rfl)
  rw [show entryFrame m args 5 = entryFrame m ([.ref (ad 0), .int x1, .int x2, .int x3, .int x4] : List Value).toArray 5 from by rw [hav], lg_entry_eq]
  generalize (lg_sl ([.ref (ad 0), .int x1, .int x2, .int x3, .int x4]) ++ List.replicate (5 - (lg_sl ([.ref (ad 0), .int x1, .int x2, .int x3, .int x4])).length) Slot.unset).toArray = ls at hl ⊢
  have hl : lv_has ls 5 [(0, .ref (ad 0)), (1, .int x1), (2, .int x2), (3, .int x3), (4, .int x4)] := hl
  have E0 : ∀ (H : Heap) (locs : List Loc) (ls : Array Slot), gG D cy ad (gA ad s.heap.size) s.heap h g H locs → lv_has ls 5 [(0, .ref (ad 0)), (1, .int x1), (2, .int x2), (3, .int x3), (4, .int x4)] → W p l e ({ frames := 1, cells := 0, slots := 0, locals := 24 } : Room) s m args below meth c H locs 0 0 (MQ below (va_Qi (fun (r : Int32) (u : HI × HL) => Q r u.1 u.2) (gB D cy ad s.heap.size) (gA ad s.heap.size)) args s 0 0 (gA ad s.heap.size)) (F0 m 0 ls []) := by
    intro H locs ls hG hl
    unfold w_X10_family at HW
    refine lv_aload_n hx hb dX10_family_0 rfl (lv_at hl 0 rfl) ?_
    refine g_getr hx hb hw inG10 hown hK hG gl_0 rfl gk_0 (by decide) 0 (by decide) (by rw [gm_0]; decide) (r := 1) gr_0_0 lk10 dX10_family_1 ?_
    refine g_getr hx hb hw inG6 hown hK hG gl_1 rfl gk_1 (by decide) 1 (by decide) (by rw [gm_1]; decide) (r := 4) gr_1_1 lk95 dX10_family_4 ?_
    refine lv_iload_n hx hb dX10_family_7 rfl (lv_at hl 1 rfl) ?_
    obtain ⟨P_8, HC_8, HW⟩ := HW
    refine g_callz (g_runV (As := [.int x1]) (rest := []) ⟨hx, hb, hml, hown, hts⟩ (m_X8_has l D cy ad h g H.size 4 (gs_4) x1 P_8 HC_8) (cwV 1 hts (gd_V (wm2 201 rfl rfl) (wm2 202 rfl rfl) (wm2 203 rfl rfl) (wm1 3 rfl rfl) (wm2 204 rfl rfl)) rfl rfl rfl (by decide +kernel) ⟨Nat.le_of_ble_eq_true rfl, Nat.le_of_ble_eq_true rfl⟩) hK hNw hG gl_4 rfl gk_4 (by decide) rfl rfl hl.1 rfl (lv_room (Nat.le_of_ble_eq_true rfl)) dX10_family_8 ⟨Nat.zero_le _, Nat.zero_le _⟩) hG (fun r_8 h_8 g_8 H locs hz hq hG => ?_)
    replace HW := HW r_8 h_8 g_8 hz hq
    refine lv_if_eq (tgt := 24) hx hb dX10_family_11 (by decide) (fun c_11 => ?_) (fun c_11 => ?_)
    · replace HW := HW.1 c_11
      refine lv_bipush (v := (-2)) hx hb dX10_family_24 (by decide) ?_
      exact W.iret (v := (-2 : Int32)) hx hb hr (fun t ht hW => ⟨⟨(-2 : Int32), (h_8, g_8), rfl, HW, g_B ht hG⟩, hG.2.2.F ht⟩) hG.2.2.2.2 dX10_family_26
    · replace HW := HW.2 c_11
      refine lv_iload_n hx hb dX10_family_14 rfl (lv_at hl 2 rfl) ?_
      refine lv_iconst (v := 1) hx hb dX10_family_15 (by decide) ?_
      refine lv_ldc (v := 100000) hx hb hown cn102 dX10_family_16 ?_
      obtain ⟨P_18, HC_18, HW⟩ := HW
      refine g_callz (g_runS (As := [.int x2, .int (1 : Int32), .int (100000 : Int32)]) (rest := []) ⟨hx, hb, hml, hown, hts⟩ (m_X10_within l D cy ad h_8 g_8 H.size x2 (1 : Int32) (100000 : Int32) P_18 HC_18) (va_cwS 3 hts (gd_S (wm2 193 rfl rfl) (wm2 194 rfl rfl) (wm1 1 rfl rfl) (wm2 195 rfl rfl)) rfl rfl rfl (by decide +kernel) ⟨Nat.le_of_ble_eq_true rfl, Nat.le_of_ble_eq_true rfl⟩) hK hNw hG rfl rfl hl.1 rfl (lv_room (Nat.le_of_ble_eq_true rfl)) dX10_family_18 ⟨Nat.zero_le _, Nat.zero_le _⟩) hG (fun r_18 h_18 g_18 H locs hz hq hG => ?_)
      replace HW := HW r_18 h_18 g_18 hz hq
      refine lv_if_ne (tgt := 27) hx hb dX10_family_21 (by decide) (fun c_21 => ?_) (fun c_21 => ?_)
      · replace HW := HW.1 c_21
        refine lv_iload_n hx hb dX10_family_27 rfl (lv_at hl 3 rfl) ?_
        refine lv_iconst (v := 1) hx hb dX10_family_28 (by decide) ?_
        refine lv_ldc (v := 100000) hx hb hown cn102 dX10_family_29 ?_
        obtain ⟨P_31, HC_31, HW⟩ := HW
        refine g_callz (g_runS (As := [.int x3, .int (1 : Int32), .int (100000 : Int32)]) (rest := []) ⟨hx, hb, hml, hown, hts⟩ (m_X10_within l D cy ad h_18 g_18 H.size x3 (1 : Int32) (100000 : Int32) P_31 HC_31) (va_cwS 3 hts (gd_S (wm2 193 rfl rfl) (wm2 194 rfl rfl) (wm1 1 rfl rfl) (wm2 195 rfl rfl)) rfl rfl rfl (by decide +kernel) ⟨Nat.le_of_ble_eq_true rfl, Nat.le_of_ble_eq_true rfl⟩) hK hNw hG rfl rfl hl.1 rfl (lv_room (Nat.le_of_ble_eq_true rfl)) dX10_family_31 ⟨Nat.zero_le _, Nat.zero_le _⟩) hG (fun r_31 h_31 g_31 H locs hz hq hG => ?_)
        replace HW := HW r_31 h_31 g_31 hz hq
        refine lv_if_eq (tgt := 48) hx hb dX10_family_34 (by decide) (fun c_34 => ?_) (fun c_34 => ?_)
        · replace HW := HW.1 c_34
          refine lv_bipush (v := (-2)) hx hb dX10_family_48 (by decide) ?_
          exact W.iret (v := (-2 : Int32)) hx hb hr (fun t ht hW => ⟨⟨(-2 : Int32), (h_31, g_31), rfl, HW, g_B ht hG⟩, hG.2.2.F ht⟩) hG.2.2.2.2 dX10_family_50
        · replace HW := HW.2 c_34
          refine lv_iload hx hb dX10_family_37 (lv_at hl 4 rfl) ?_
          refine lv_iconst (v := 1) hx hb dX10_family_39 (by decide) ?_
          refine lv_ldc (v := 100000) hx hb hown cn102 dX10_family_40 ?_
          obtain ⟨P_42, HC_42, HW⟩ := HW
          refine g_callz (g_runS (As := [.int x4, .int (1 : Int32), .int (100000 : Int32)]) (rest := []) ⟨hx, hb, hml, hown, hts⟩ (m_X10_within l D cy ad h_31 g_31 H.size x4 (1 : Int32) (100000 : Int32) P_42 HC_42) (va_cwS 3 hts (gd_S (wm2 193 rfl rfl) (wm2 194 rfl rfl) (wm1 1 rfl rfl) (wm2 195 rfl rfl)) rfl rfl rfl (by decide +kernel) ⟨Nat.le_of_ble_eq_true rfl, Nat.le_of_ble_eq_true rfl⟩) hK hNw hG rfl rfl hl.1 rfl (lv_room (Nat.le_of_ble_eq_true rfl)) dX10_family_42 ⟨Nat.zero_le _, Nat.zero_le _⟩) hG (fun r_42 h_42 g_42 H locs hz hq hG => ?_)
          replace HW := HW r_42 h_42 g_42 hz hq
          refine lv_if_ne (tgt := 51) hx hb dX10_family_45 (by decide) (fun c_45 => ?_) (fun c_45 => ?_)
          · replace HW := HW.1 c_45
            refine lv_iload_n hx hb dX10_family_51 rfl (lv_at hl 2 rfl) ?_
            refine lv_i2l hx hb dX10_family_52 rfl ?_
            refine lv_iload hx hb dX10_family_53 (lv_at hl 4 rfl) ?_
            refine lv_i2l hx hb dX10_family_55 rfl ?_
            refine lv_lconst (v := 1) hx hb dX10_family_56 (by decide) ?_
            refine lv_lsub hx hb dX10_family_57 ?_
            refine lv_iload_n hx hb dX10_family_58 rfl (lv_at hl 3 rfl) ?_
            refine lv_i2l hx hb dX10_family_59 rfl ?_
            refine lv_lmul hx hb dX10_family_60 ?_
            refine lv_ladd hx hb dX10_family_61 ?_
            refine lv_ldc2 (v := 100000) hx hb hown cn103 dX10_family_62 ?_
            refine W.lcmp hx hb dX10_family_65 ?_
            refine lv_if_le (tgt := 72) hx hb dX10_family_66 (by decide) (fun c_66 => ?_) (fun c_66 => ?_)
            · replace HW := HW.1 c_66
              refine lv_aload_n hx hb dX10_family_72 rfl (lv_at hl 0 rfl) ?_
              refine g_getr hx hb hw inG10 hown hK hG gl_0 rfl gk_0 (by decide) 0 (by decide) (by rw [gm_0]; decide) (r := 1) gr_0_0 lk10 dX10_family_73 ?_
              refine g_getr hx hb hw inG6 hown hK hG gl_1 rfl gk_1 (by decide) 1 (by decide) (by rw [gm_1]; decide) (r := 4) gr_1_1 lk95 dX10_family_76 ?_
              refine lv_iload_n hx hb dX10_family_79 rfl (lv_at hl 1 rfl) ?_
              refine lv_iconst (v := 0) hx hb dX10_family_80 (by decide) ?_
              refine lv_iload_n hx hb dX10_family_81 rfl (lv_at hl 2 rfl) ?_
              obtain ⟨P_82, HC_82, HW⟩ := HW
              refine g_callv (g_runV (As := [.int x1, .int (0 : Int32), .int x2]) (rest := []) ⟨hx, hb, hml, hown, hts⟩ (m_X8_put l D cy ad h_42 g_42 H.size 4 (gs_4) x1 (0 : Int32) x2 P_82 HC_82) (cwV 3 hts (gd_V (wm2 207 rfl rfl) (wm1 57 rfl rfl) (wm1 58 rfl rfl) (wm1 3 rfl rfl) (wm1 59 rfl rfl)) rfl rfl rfl (by decide +kernel) ⟨Nat.le_of_ble_eq_true rfl, Nat.le_of_ble_eq_true rfl⟩) hK hNw hG gl_4 rfl gk_4 (by decide) rfl rfl hl.1 rfl (lv_room (Nat.le_of_ble_eq_true rfl)) dX10_family_82 ⟨Nat.zero_le _, Nat.zero_le _⟩) hG (fun h_82 g_82 H locs hq hG => ?_)
              replace HW := HW h_82 g_82 hq
              refine lv_aload_n hx hb dX10_family_85 rfl (lv_at hl 0 rfl) ?_
              refine g_getr hx hb hw inG10 hown hK hG gl_0 rfl gk_0 (by decide) 0 (by decide) (by rw [gm_0]; decide) (r := 1) gr_0_0 lk10 dX10_family_86 ?_
              refine g_getr hx hb hw inG6 hown hK hG gl_1 rfl gk_1 (by decide) 1 (by decide) (by rw [gm_1]; decide) (r := 4) gr_1_1 lk95 dX10_family_89 ?_
              refine lv_iload_n hx hb dX10_family_92 rfl (lv_at hl 1 rfl) ?_
              refine lv_iconst (v := 1) hx hb dX10_family_93 (by decide) ?_
              refine lv_iload_n hx hb dX10_family_94 rfl (lv_at hl 3 rfl) ?_
              obtain ⟨P_95, HC_95, HW⟩ := HW
              refine g_callv (g_runV (As := [.int x1, .int (1 : Int32), .int x3]) (rest := []) ⟨hx, hb, hml, hown, hts⟩ (m_X8_put l D cy ad h_82 g_82 H.size 4 (gs_4) x1 (1 : Int32) x3 P_95 HC_95) (cwV 3 hts (gd_V (wm2 207 rfl rfl) (wm1 57 rfl rfl) (wm1 58 rfl rfl) (wm1 3 rfl rfl) (wm1 59 rfl rfl)) rfl rfl rfl (by decide +kernel) ⟨Nat.le_of_ble_eq_true rfl, Nat.le_of_ble_eq_true rfl⟩) hK hNw hG gl_4 rfl gk_4 (by decide) rfl rfl hl.1 rfl (lv_room (Nat.le_of_ble_eq_true rfl)) dX10_family_95 ⟨Nat.zero_le _, Nat.zero_le _⟩) hG (fun h_95 g_95 H locs hq hG => ?_)
              replace HW := HW h_95 g_95 hq
              refine lv_aload_n hx hb dX10_family_98 rfl (lv_at hl 0 rfl) ?_
              refine g_getr hx hb hw inG10 hown hK hG gl_0 rfl gk_0 (by decide) 0 (by decide) (by rw [gm_0]; decide) (r := 1) gr_0_0 lk10 dX10_family_99 ?_
              refine g_getr hx hb hw inG6 hown hK hG gl_1 rfl gk_1 (by decide) 1 (by decide) (by rw [gm_1]; decide) (r := 4) gr_1_1 lk95 dX10_family_102 ?_
              refine lv_iload_n hx hb dX10_family_105 rfl (lv_at hl 1 rfl) ?_
              refine lv_iconst (v := 2) hx hb dX10_family_106 (by decide) ?_
              refine lv_iload hx hb dX10_family_107 (lv_at hl 4 rfl) ?_
              obtain ⟨P_109, HC_109, HW⟩ := HW
              refine g_callv (g_runV (As := [.int x1, .int (2 : Int32), .int x4]) (rest := []) ⟨hx, hb, hml, hown, hts⟩ (m_X8_put l D cy ad h_95 g_95 H.size 4 (gs_4) x1 (2 : Int32) x4 P_109 HC_109) (cwV 3 hts (gd_V (wm2 207 rfl rfl) (wm1 57 rfl rfl) (wm1 58 rfl rfl) (wm1 3 rfl rfl) (wm1 59 rfl rfl)) rfl rfl rfl (by decide +kernel) ⟨Nat.le_of_ble_eq_true rfl, Nat.le_of_ble_eq_true rfl⟩) hK hNw hG gl_4 rfl gk_4 (by decide) rfl rfl hl.1 rfl (lv_room (Nat.le_of_ble_eq_true rfl)) dX10_family_109 ⟨Nat.zero_le _, Nat.zero_le _⟩) hG (fun h_109 g_109 H locs hq hG => ?_)
              replace HW := HW h_109 g_109 hq
              refine lv_iconst (v := 1) hx hb dX10_family_112 (by decide) ?_
              exact W.iret (v := (1 : Int32)) hx hb hr (fun t ht hW => ⟨⟨(1 : Int32), (h_109, g_109), rfl, HW, g_B ht hG⟩, hG.2.2.F ht⟩) hG.2.2.2.2 dX10_family_113
            · replace HW := HW.2 c_66
              refine lv_bipush (v := (-2)) hx hb dX10_family_69 (by decide) ?_
              exact W.iret (v := (-2 : Int32)) hx hb hr (fun t ht hW => ⟨⟨(-2 : Int32), (h_42, g_42), rfl, HW, g_B ht hG⟩, hG.2.2.F ht⟩) hG.2.2.2.2 dX10_family_71
          · replace HW := HW.2 c_45
            refine lv_bipush (v := (-2)) hx hb dX10_family_48 (by decide) ?_
            exact W.iret (v := (-2 : Int32)) hx hb hr (fun t ht hW => ⟨⟨(-2 : Int32), (h_42, g_42), rfl, HW, g_B ht hG⟩, hG.2.2.F ht⟩) hG.2.2.2.2 dX10_family_50
      · replace HW := HW.2 c_21
        refine lv_bipush (v := (-2)) hx hb dX10_family_24 (by decide) ?_
        exact W.iret (v := (-2 : Int32)) hx hb hr (fun t ht hW => ⟨⟨(-2 : Int32), (h_18, g_18), rfl, HW, g_B ht hG⟩, hG.2.2.F ht⟩) hG.2.2.2.2 dX10_family_26
  exact E0 _ _ _ hG hl
