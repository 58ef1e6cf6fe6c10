def j_X10_stands_119 (Q : Int32 → HI → HL → Prop) (K49 : Int32 → Int32 → Int32 → Int32 → HI → HL → Prop) (x1 : Int32) (x2 : Int32) (x3 : Int32) (x4 : Int32) (h : HI) (g : HL) : Prop :=
  (∀ x4_119 : Int32, x4_119 = (x4 + 1) → K49 x1 x2 x3 x4_119 h g)
def b_X10_stands_49 (Q : Int32 → HI → HL → Prop) (K49 : Int32 → Int32 → Int32 → Int32 → HI → HL → Prop) (x1 : Int32) (x2 : Int32) (x3 : Int32) (x4 : Int32) (h : HI) (g : HL) : Prop :=
  (∃ P_58 : Int32 → HI → HL → Prop, w_X8_rows 8 h g P_58 ∧ ∀ (r_58 : Int32) (h_58 : HI) (g_58 : HL), P_58 r_58 h_58 g_58 → ((r_58 ≤ x4 → Q (1 : Int32) h_58 g_58) ∧ (¬ r_58 ≤ x4 → (∃ P_71 : Int32 → HI → HL → Prop, w_X6_isIn 1 x4 x2 h_58 g_58 P_71 ∧ ∀ (r_71 : Int32) (h_71 : HI) (g_71 : HL), zb r_71 → P_71 r_71 h_71 g_71 → ((¬ r_71 = 0 → (∃ P_87 : Int32 → HI → HL → Prop, w_X6_isIn 1 x4 x1 h_71 g_71 P_87 ∧ ∀ (r_87 : Int32) (h_87 : HI) (g_87 : HL), zb r_87 → P_87 r_87 h_87 g_87 → ((r_87 = 0 → (∃ P_103 : HI → HL → Prop, w_X2_take x4 x2 x1 h_87 g_87 P_103 ∧ ∀ (h_103 : HI) (g_103 : HL), P_103 h_103 g_103 → (∃ P_111 : Int32 → HI → HL → Prop, w_X2_holdIn x3 h_103 g_103 P_111 ∧ ∀ (r_111 : Int32) (h_111 : HI) (g_111 : HL), zb r_111 → P_111 r_111 h_111 g_111 → ((¬ r_111 = 0 → j_X10_stands_119 Q K49 x1 x2 x3 x4 h_111 g_111) ∧ (r_111 = 0 → Q (0 : Int32) h_111 g_111))))) ∧ (¬ r_87 = 0 → Q (0 : Int32) h_87 g_87)))) ∧ (r_71 = 0 → j_X10_stands_119 Q K49 x1 x2 x3 x4 h_71 g_71))))))
def F_X10_stands_49 (Q : Int32 → HI → HL → Prop) (K : Int32 × Int32 × Int32 × Int32 × HI × HL → Prop) (q : Int32 × Int32 × Int32 × Int32 × HI × HL) : Prop := b_X10_stands_49 Q (fun x1 x2 x3 x4 h g => K (x1, x2, x3, x4, h, g)) q.1 q.2.1 q.2.2.1 q.2.2.2.1 q.2.2.2.2.1 q.2.2.2.2.2
def w_X10_stands (x1 : Int32) (x2 : Int32) (x3 : Int32) (h : HI) (g : HL) (Q : Int32 → HI → HL → Prop) : Prop :=
  (∃ P_8 : Int32 → HI → HL → Prop, w_X8_has 2 x1 h g P_8 ∧ ∀ (r_8 : Int32) (h_8 : HI) (g_8 : HL), zb r_8 → P_8 r_8 h_8 g_8 → ((r_8 = 0 → Q (-2 : Int32) h_8 g_8) ∧ (¬ r_8 = 0 → (∃ P_22 : Int32 → HI → HL → Prop, w_X8_has 2 x2 h_8 g_8 P_22 ∧ ∀ (r_22 : Int32) (h_22 : HI) (g_22 : HL), zb r_22 → P_22 r_22 h_22 g_22 → ((r_22 = 0 → Q (-2 : Int32) h_22 g_22) ∧ (¬ r_22 = 0 → ((x1 = x2 → Q (-2 : Int32) h_22 g_22) ∧ (¬ x1 = x2 → (∃ P_37 : Int32 → HI → HL → Prop, w_X10_within x3 (0 : Int32) (99 : Int32) h_22 g_22 P_37 ∧ ∀ (r_37 : Int32) (h_37 : HI) (g_37 : HL), zb r_37 → P_37 r_37 h_37 g_37 → ((¬ r_37 = 0 → lpE (F_X10_stands_49 Q) (x1, x2, x3, (0 : Int32), h_37, g_37)) ∧ (r_37 = 0 → Q (-2 : Int32) h_37 g_37)))))))))))
set_option maxHeartbeats 8000000 in
set_option maxRecDepth 100000 in
theorem m_X10_stands (l : Launch) (D : va_G) (cy : Nat → ClassId) (ad : Nat → Nat) (h : HI) (g : HL) (sz : Nat) (x1 : Int32) (x2 : Int32) (x3 : Int32) (Q : Int32 → HI → HL → Prop) (HW : w_X10_stands x1 x2 x3 h g Q) : Met l yX10_stands (wa yX10_stands cX10_stands 5 (some .int)) ({ frames := 6, cells := 0, slots := 0, locals := 150 }) (va_Pc [.ref (ad 0), .int x1, .int x2, .int x3] (gI D cy ad h g sz)) (va_Qi (fun (r : Int32) (u : HI × HL) => Q r u.1 u.2) (gB D cy ad sz) (gA ad sz)) 0 0 (gA ad sz) := by
  refine Met.ofW (cc := cX10_stands) (maxL := 5) (ret := (some .int)) (by decide) rfl ?_
  intro p e s m args below meth c s₁ B hml hv
  obtain ⟨hav, hsz, hP, hK, hD0, hNw⟩ := hv
  have hx := B.exec
  have hb := B.bytes
  have hr := B.returns
  have hts := atoms_spec (ws := (wa yX10_stands cX10_stands 5 (some .int))) B.pre
  have hw := wa_hw hts
  have hown : s.vm.findClass RX10 = some m.cls := findClass_of_methodNamed B.named
  have hlocks := B.notSynchronized
  subst hsz
  have hG : gG D cy ad (gA ad s.heap.size) s.heap h g s.heap [] := ⟨hP, gA_self hD0, va_S.rf⟩
  clear hP hD0
  have lk10 := hw (.fieldLink RX10 10 "OldWorks" "shop" "LOldWorks$Shop;") (wm2 155 rfl rfl)
  have lk85 := hw (.fieldLink RX10 85 "OldWorks$Shop" "parts" "LOldWorks$Table;") (wm1 62 rfl rfl)
  have lk153 := hw (.fieldLink RX10 153 "OldWorks$Shop" "chains" "LOldWorks$Table;") (wm1 73 rfl rfl)
  have lk49 := hw (.fieldLink RX10 49 "OldWorks" "fits" "LOldWorks$Fits;") (wm2 161 rfl rfl)
  rw [show (headSpec (wa yX10_stands cX10_stands 5 (some .int)) ({ frames := 6, cells := 0, slots := 0, locals := 150 } : Room)).room = ({ frames := 6, cells := 0, slots := 0, locals := 150 } : Room) from rfl]
  have hl := lv_entry ([.ref (ad 0), .int x1, .int x2, .int x3]) (n := 5) (Nat.le_of_ble_eq_true rfl)
  rw [show entryFrame m args 5 = entryFrame m ([.ref (ad 0), .int x1, .int x2, .int x3] : List Value).toArray 5 from by rw [hav], lg_entry_eq]
  generalize (lg_sl ([.ref (ad 0), .int x1, .int x2, .int x3]) ++ List.replicate (5 - (lg_sl ([.ref (ad 0), .int x1, .int x2, .int x3])).length) Slot.unset).toArray = ls at hl ⊢
  have hl : lv_has ls 5 [(0, .ref (ad 0)), (1, .int x1), (2, .int x2), (3, .int x3)] := hl
  have B119 : ∀ (K49 : Int32 → Int32 → Int32 → Int32 → HI → HL → Prop) (hK49 : ∀ (x1 : Int32) (x2 : Int32) (x3 : Int32) (x4 : Int32) (h : HI) (g : HL) (H : Heap) (locs : List Loc) (ls : Array Slot), K49 x1 x2 x3 x4 h g → gG D cy ad (gA ad s.heap.size) s.heap h g H locs → lv_has ls 5 [(0, .ref (ad 0)), (1, .int x1), (2, .int x2), (3, .int x3), (4, .int x4)] → W p l e ({ frames := 6, cells := 0, slots := 0, locals := 150 } : Room) s m args below meth c H locs 0 0 (MQ below (va_Qi (fun (r : Int32) (u : HI × HL) => Q r u.1 u.2) (gB D cy ad s.heap.size) (gA ad s.heap.size)) args s 0 0 (gA ad s.heap.size)) (F0 m 49 ls [])) (x1 : Int32) (x2 : Int32) (x3 : Int32) (x4 : Int32) (h : HI) (g : HL) (H : Heap) (locs : List Loc) (ls : Array Slot), j_X10_stands_119 Q K49 x1 x2 x3 x4 h g → gG D cy ad (gA ad s.heap.size) s.heap h g H locs → lv_has ls 5 [(0, .ref (ad 0)), (1, .int x1), (2, .int x2), (3, .int x3), (4, .int x4)] → W p l e ({ frames := 6, cells := 0, slots := 0, locals := 150 } : Room) s m args below meth c H locs 0 0 (MQ below (va_Qi (fun (r : Int32) (u : HI × HL) => Q r u.1 u.2) (gB D cy ad s.heap.size) (gA ad s.heap.size)) args s 0 0 (gA ad s.heap.size)) (F0 m 119 ls []) := by
    intro K49 hK49 x1 x2 x3 x4 h g H locs ls HW hG hl
    unfold j_X10_stands_119 at HW
    obtain ⟨x4_119, ex4_119⟩ : ∃ y : Int32, y = (x4 + 1) := ⟨_, rfl⟩
    replace HW := HW x4_119 ex4_119
    refine lv_iinc (v := x4_119) (lv' := [(4, .int x4_119), (0, .ref (ad 0)), (1, .int x1), (2, .int x2), (3, .int x3)]) hx hb dX10_stands_119 hl (k := 4) rfl (by rw [ex4_119]; rfl) (by decide) rfl (fun ls hl => ?_)
    refine lv_goto (tgt := 49) hx hb dX10_stands_122 (by decide) ?_
    exact hK49 x1 x2 x3 x4_119 h g _ _ _ HW hG (lv_sub hl [1, 2, 3, 4, 0] rfl)
  have L49 : ∀ (n : Nat) (x1 : Int32) (x2 : Int32) (x3 : Int32) (x4 : Int32) (h : HI) (g : HL) (H : Heap) (locs : List Loc) (ls : Array Slot), lpN (F_X10_stands_49 Q) n (x1, x2, x3, x4, h, g) → gG D cy ad (gA ad s.heap.size) s.heap h g H locs → lv_has ls 5 [(0, .ref (ad 0)), (1, .int x1), (2, .int x2), (3, .int x3), (4, .int x4)] → W p l e ({ frames := 6, cells := 0, slots := 0, locals := 150 } : Room) s m args below meth c H locs 0 0 (MQ below (va_Qi (fun (r : Int32) (u : HI × HL) => Q r u.1 u.2) (gB D cy ad s.heap.size) (gA ad s.heap.size)) args s 0 0 (gA ad s.heap.size)) (F0 m 49 ls []) := by
    intro n
    induction n with
    | zero => intro x1 x2 x3 x4 h g H locs ls HW; exact HW.elim
    | succ n ih =>
      intro x1 x2 x3 x4 h g H locs ls HW hG hl
      have HW : b_X10_stands_49 Q (fun x1 x2 x3 x4 h g => lpN (F_X10_stands_49 Q) n (x1, x2, x3, x4, h, g)) x1 x2 x3 x4 h g := HW
      generalize hKe : (fun (x1 : Int32) (x2 : Int32) (x3 : Int32) (x4 : Int32) (h : HI) (g : HL) => lpN (F_X10_stands_49 Q) n (x1, x2, x3, x4, h, g)) = K49 at HW
      have hK49 : ∀ (x1 : Int32) (x2 : Int32) (x3 : Int32) (x4 : Int32) (h : HI) (g : HL) (H : Heap) (locs : List Loc) (ls : Array Slot), K49 x1 x2 x3 x4 h g → gG D cy ad (gA ad s.heap.size) s.heap h g H locs → lv_has ls 5 [(0, .ref (ad 0)), (1, .int x1), (2, .int x2), (3, .int x3), (4, .int x4)] → W p l e ({ frames := 6, cells := 0, slots := 0, locals := 150 } : Room) s m args below meth c H locs 0 0 (MQ below (va_Qi (fun (r : Int32) (u : HI × HL) => Q r u.1 u.2) (gB D cy ad s.heap.size) (gA ad s.heap.size)) args s 0 0 (gA ad s.heap.size)) (F0 m 49 ls []) := by subst hKe; exact ih
      clear ih
      clear hKe
      unfold b_X10_stands_49 at HW
      refine lv_iload hx hb dX10_stands_49 (lv_at hl 4 rfl) ?_
      refine lv_aload_n hx hb dX10_stands_51 rfl (lv_at hl 0 rfl) ?_
      refine g_getr hx hb hw inG10 hown hK hG gl_0 rfl gk_0 (by decide) 0 (by decide) (by rw [gm_0]; decide) (r := 1) gr_0_0 lk10 dX10_stands_52 ?_
      refine g_getr hx hb hw inG6 hown hK hG gl_1 rfl gk_1 (by decide) 3 (by decide) (by rw [gm_1]; decide) (r := 8) gr_1_3 lk153 dX10_stands_55 ?_
      obtain ⟨P_58, HC_58, HW⟩ := HW
      refine g_calli (g_runV (As := []) (rest := [.int x4]) ⟨hx, hb, hml, hown, hts⟩ (m_X8_rows l D cy ad h g H.size 8 (gs_8) P_58 HC_58) (cwV 0 hts (gd_V (wm3 19 rfl rfl) (wm2 217 rfl rfl) (wm2 218 rfl rfl) (wm1 3 rfl rfl) (wm2 219 rfl rfl)) rfl rfl rfl (by decide +kernel) ⟨Nat.le_of_ble_eq_true rfl, Nat.le_of_ble_eq_true rfl⟩) hK hNw hG gl_8 rfl gk_8 (by decide) rfl rfl hl.1 rfl (lv_room (Nat.le_of_ble_eq_true rfl)) dX10_stands_58 ⟨Nat.zero_le _, Nat.zero_le _⟩) hG (fun r_58 h_58 g_58 H locs hq hG => ?_)
      replace HW := HW r_58 h_58 g_58 hq
      refine lv_icmp_ge (tgt := 125) hx hb dX10_stands_61 (by decide) (fun c_61 => ?_) (fun c_61 => ?_)
      · replace HW := HW.1 c_61
        refine lv_iconst (v := 1) hx hb dX10_stands_125 (by decide) ?_
        exact W.iret (v := (1 : Int32)) hx hb hr (fun t ht hW => ⟨⟨(1 : Int32), (h_58, g_58), rfl, HW, g_B ht hG⟩, hG.2.2.F ht⟩) hG.2.2.2.2 dX10_stands_126
      · replace HW := HW.2 c_61
        refine lv_aload_n hx hb dX10_stands_64 rfl (lv_at hl 0 rfl) ?_
        refine g_getr hx hb hw inG10 hown hK hG gl_0 rfl gk_0 (by decide) 0 (by decide) (by rw [gm_0]; decide) (r := 1) gr_0_0 lk10 dX10_stands_65 ?_
        refine lv_iload hx hb dX10_stands_68 (lv_at hl 4 rfl) ?_
        refine lv_iload_n hx hb dX10_stands_70 rfl (lv_at hl 2 rfl) ?_
        obtain ⟨P_71, HC_71, HW⟩ := HW
        refine g_callz (g_runV (As := [.int x4, .int x2]) (rest := []) ⟨hx, hb, hml, hown, hts⟩ (m_X6_isIn l D cy ad h_58 g_58 H.size 1 (gs_1) x4 x2 P_71 HC_71) (cwV 2 hts (gd_V (wm3 139 rfl rfl) (wm3 140 rfl rfl) (wm3 141 rfl rfl) (wm1 2 rfl rfl) (wm3 142 rfl rfl)) rfl rfl rfl (by decide +kernel) ⟨Nat.le_of_ble_eq_true rfl, Nat.le_of_ble_eq_true rfl⟩) hK hNw hG gl_1 rfl gk_1 (by decide) rfl rfl hl.1 rfl (lv_room (Nat.le_of_ble_eq_true rfl)) dX10_stands_71 ⟨Nat.zero_le _, Nat.zero_le _⟩) hG (fun r_71 h_71 g_71 H locs hz hq hG => ?_)
        replace HW := HW r_71 h_71 g_71 hz hq
        refine lv_if_ne (tgt := 80) hx hb dX10_stands_74 (by decide) (fun c_74 => ?_) (fun c_74 => ?_)
        · replace HW := HW.1 c_74
          refine lv_aload_n hx hb dX10_stands_80 rfl (lv_at hl 0 rfl) ?_
          refine g_getr hx hb hw inG10 hown hK hG gl_0 rfl gk_0 (by decide) 0 (by decide) (by rw [gm_0]; decide) (r := 1) gr_0_0 lk10 dX10_stands_81 ?_
          refine lv_iload hx hb dX10_stands_84 (lv_at hl 4 rfl) ?_
          refine lv_iload_n hx hb dX10_stands_86 rfl (lv_at hl 1 rfl) ?_
          obtain ⟨P_87, HC_87, HW⟩ := HW
          refine g_callz (g_runV (As := [.int x4, .int x1]) (rest := []) ⟨hx, hb, hml, hown, hts⟩ (m_X6_isIn l D cy ad h_71 g_71 H.size 1 (gs_1) x4 x1 P_87 HC_87) (cwV 2 hts (gd_V (wm3 139 rfl rfl) (wm3 140 rfl rfl) (wm3 141 rfl rfl) (wm1 2 rfl rfl) (wm3 142 rfl rfl)) rfl rfl rfl (by decide +kernel) ⟨Nat.le_of_ble_eq_true rfl, Nat.le_of_ble_eq_true rfl⟩) hK hNw hG gl_1 rfl gk_1 (by decide) rfl rfl hl.1 rfl (lv_room (Nat.le_of_ble_eq_true rfl)) dX10_stands_87 ⟨Nat.zero_le _, Nat.zero_le _⟩) hG (fun r_87 h_87 g_87 H locs hz hq hG => ?_)
          replace HW := HW r_87 h_87 g_87 hz hq
          refine lv_if_eq (tgt := 95) hx hb dX10_stands_90 (by decide) (fun c_90 => ?_) (fun c_90 => ?_)
          · replace HW := HW.1 c_90
            refine lv_aload_n hx hb dX10_stands_95 rfl (lv_at hl 0 rfl) ?_
            refine g_getr hx hb hw inG10 hown hK hG gl_0 rfl gk_0 (by decide) 6 (by decide) (by rw [gm_0]; decide) (r := 85) gr_0_6 lk49 dX10_stands_96 ?_
            refine lv_iload hx hb dX10_stands_99 (lv_at hl 4 rfl) ?_
            refine lv_iload_n hx hb dX10_stands_101 rfl (lv_at hl 2 rfl) ?_
            refine lv_iload_n hx hb dX10_stands_102 rfl (lv_at hl 1 rfl) ?_
            obtain ⟨P_103, HC_103, HW⟩ := HW
            refine g_callv (g_runV (As := [.int x4, .int x2, .int x1]) (rest := []) ⟨hx, hb, hml, hown, hts⟩ (m_X2_take l D cy ad h_87 g_87 H.size x4 x2 x1 P_103 HC_103) (cwV 3 hts (gd_V (wm3 149 rfl rfl) (wm3 150 rfl rfl) (wm3 151 rfl rfl) (wm1 6 rfl rfl) (wm3 152 rfl rfl)) rfl rfl rfl (by decide +kernel) ⟨Nat.le_of_ble_eq_true rfl, Nat.le_of_ble_eq_true rfl⟩) hK hNw hG gl_85 rfl gk_85 (by decide) rfl rfl hl.1 rfl (lv_room (Nat.le_of_ble_eq_true rfl)) dX10_stands_103 ⟨Nat.zero_le _, Nat.zero_le _⟩) hG (fun h_103 g_103 H locs hq hG => ?_)
            replace HW := HW h_103 g_103 hq
            refine lv_aload_n hx hb dX10_stands_106 rfl (lv_at hl 0 rfl) ?_
            refine g_getr hx hb hw inG10 hown hK hG gl_0 rfl gk_0 (by decide) 6 (by decide) (by rw [gm_0]; decide) (r := 85) gr_0_6 lk49 dX10_stands_107 ?_
            refine lv_iload_n hx hb dX10_stands_110 rfl (lv_at hl 3 rfl) ?_
            obtain ⟨P_111, HC_111, HW⟩ := HW
            refine g_callz (g_runV (As := [.int x3]) (rest := []) ⟨hx, hb, hml, hown, hts⟩ (m_X2_holdIn l D cy ad h_103 g_103 H.size x3 P_111 HC_111) (cwV 1 hts (gd_V (wm3 155 rfl rfl) (wm3 156 rfl rfl) (wm3 157 rfl rfl) (wm1 6 rfl rfl) (wm3 158 rfl rfl)) rfl rfl rfl (by decide +kernel) ⟨Nat.le_of_ble_eq_true rfl, Nat.le_of_ble_eq_true rfl⟩) hK hNw hG gl_85 rfl gk_85 (by decide) rfl rfl hl.1 rfl (lv_room (Nat.le_of_ble_eq_true rfl)) dX10_stands_111 ⟨Nat.zero_le _, Nat.zero_le _⟩) hG (fun r_111 h_111 g_111 H locs hz hq hG => ?_)
            replace HW := HW r_111 h_111 g_111 hz hq
            refine lv_if_ne (tgt := 119) hx hb dX10_stands_114 (by decide) (fun c_114 => ?_) (fun c_114 => ?_)
            · replace HW := HW.1 c_114
              exact B119 K49 hK49 x1 x2 x3 x4 h_111 g_111 _ _ _ HW hG (lv_sub hl [0, 1, 2, 3, 4] rfl)
            · replace HW := HW.2 c_114
              refine lv_iconst (v := 0) hx hb dX10_stands_117 (by decide) ?_
              exact W.iret (v := (0 : Int32)) hx hb hr (fun t ht hW => ⟨⟨(0 : Int32), (h_111, g_111), rfl, HW, g_B ht hG⟩, hG.2.2.F ht⟩) hG.2.2.2.2 dX10_stands_118
          · replace HW := HW.2 c_90
            refine lv_iconst (v := 0) hx hb dX10_stands_93 (by decide) ?_
            exact W.iret (v := (0 : Int32)) hx hb hr (fun t ht hW => ⟨⟨(0 : Int32), (h_87, g_87), rfl, HW, g_B ht hG⟩, hG.2.2.F ht⟩) hG.2.2.2.2 dX10_stands_94
        · replace HW := HW.2 c_74
          refine lv_goto (tgt := 119) hx hb dX10_stands_77 (by decide) ?_
          exact B119 K49 hK49 x1 x2 x3 x4 h_71 g_71 _ _ _ HW hG (lv_sub hl [0, 1, 2, 3, 4] rfl)
  have E0 : ∀ (H : Heap) (locs : List Loc) (ls : Array Slot), gG D cy ad (gA ad s.heap.size) s.heap h g H locs → lv_has ls 5 [(0, .ref (ad 0)), (1, .int x1), (2, .int x2), (3, .int x3)] → W p l e ({ frames := 6, cells := 0, slots := 0, locals := 150 } : Room) s m args below meth c H locs 0 0 (MQ below (va_Qi (fun (r : Int32) (u : HI × HL) => Q r u.1 u.2) (gB D cy ad s.heap.size) (gA ad s.heap.size)) args s 0 0 (gA ad s.heap.size)) (F0 m 0 ls []) := by
    intro H locs ls hG hl
    unfold w_X10_stands at HW
    refine lv_aload_n hx hb dX10_stands_0 rfl (lv_at hl 0 rfl) ?_
    refine g_getr hx hb hw inG10 hown hK hG gl_0 rfl gk_0 (by decide) 0 (by decide) (by rw [gm_0]; decide) (r := 1) gr_0_0 lk10 dX10_stands_1 ?_
    refine g_getr hx hb hw inG6 hown hK hG gl_1 rfl gk_1 (by decide) 0 (by decide) (by rw [gm_1]; decide) (r := 2) gr_1_0 lk85 dX10_stands_4 ?_
    refine lv_iload_n hx hb dX10_stands_7 rfl (lv_at hl 1 rfl) ?_
    obtain ⟨P_8, HC_8, HW⟩ := HW
    refine g_callz (g_runV (As := [.int x1]) (rest := []) ⟨hx, hb, hml, hown, hts⟩ (m_X8_has l D cy ad h g H.size 2 (gs_2) x1 P_8 HC_8) (cwV 1 hts (gd_V (wm2 201 rfl rfl) (wm2 202 rfl rfl) (wm2 203 rfl rfl) (wm1 3 rfl rfl) (wm2 204 rfl rfl)) rfl rfl rfl (by decide +kernel) ⟨Nat.le_of_ble_eq_true rfl, Nat.le_of_ble_eq_true rfl⟩) hK hNw hG gl_2 rfl gk_2 (by decide) rfl rfl hl.1 rfl (lv_room (Nat.le_of_ble_eq_true rfl)) dX10_stands_8 ⟨Nat.zero_le _, Nat.zero_le _⟩) hG (fun r_8 h_8 g_8 H locs hz hq hG => ?_)
    replace HW := HW r_8 h_8 g_8 hz hq
    refine lv_if_eq (tgt := 43) hx hb dX10_stands_11 (by decide) (fun c_11 => ?_) (fun c_11 => ?_)
    · replace HW := HW.1 c_11
      refine lv_bipush (v := (-2)) hx hb dX10_stands_43 (by decide) ?_
      exact W.iret (v := (-2 : Int32)) hx hb hr (fun t ht hW => ⟨⟨(-2 : Int32), (h_8, g_8), rfl, HW, g_B ht hG⟩, hG.2.2.F ht⟩) hG.2.2.2.2 dX10_stands_45
    · replace HW := HW.2 c_11
      refine lv_aload_n hx hb dX10_stands_14 rfl (lv_at hl 0 rfl) ?_
      refine g_getr hx hb hw inG10 hown hK hG gl_0 rfl gk_0 (by decide) 0 (by decide) (by rw [gm_0]; decide) (r := 1) gr_0_0 lk10 dX10_stands_15 ?_
      refine g_getr hx hb hw inG6 hown hK hG gl_1 rfl gk_1 (by decide) 0 (by decide) (by rw [gm_1]; decide) (r := 2) gr_1_0 lk85 dX10_stands_18 ?_
      refine lv_iload_n hx hb dX10_stands_21 rfl (lv_at hl 2 rfl) ?_
      obtain ⟨P_22, HC_22, HW⟩ := HW
      refine g_callz (g_runV (As := [.int x2]) (rest := []) ⟨hx, hb, hml, hown, hts⟩ (m_X8_has l D cy ad h_8 g_8 H.size 2 (gs_2) x2 P_22 HC_22) (cwV 1 hts (gd_V (wm2 201 rfl rfl) (wm2 202 rfl rfl) (wm2 203 rfl rfl) (wm1 3 rfl rfl) (wm2 204 rfl rfl)) rfl rfl rfl (by decide +kernel) ⟨Nat.le_of_ble_eq_true rfl, Nat.le_of_ble_eq_true rfl⟩) hK hNw hG gl_2 rfl gk_2 (by decide) rfl rfl hl.1 rfl (lv_room (Nat.le_of_ble_eq_true rfl)) dX10_stands_22 ⟨Nat.zero_le _, Nat.zero_le _⟩) hG (fun r_22 h_22 g_22 H locs hz hq hG => ?_)
      replace HW := HW r_22 h_22 g_22 hz hq
      refine lv_if_eq (tgt := 43) hx hb dX10_stands_25 (by decide) (fun c_25 => ?_) (fun c_25 => ?_)
      · replace HW := HW.1 c_25
        refine lv_bipush (v := (-2)) hx hb dX10_stands_43 (by decide) ?_
        exact W.iret (v := (-2 : Int32)) hx hb hr (fun t ht hW => ⟨⟨(-2 : Int32), (h_22, g_22), rfl, HW, g_B ht hG⟩, hG.2.2.F ht⟩) hG.2.2.2.2 dX10_stands_45
      · replace HW := HW.2 c_25
        refine lv_iload_n hx hb dX10_stands_28 rfl (lv_at hl 1 rfl) ?_
        refine lv_iload_n hx hb dX10_stands_29 rfl (lv_at hl 2 rfl) ?_
        refine lv_icmp_eq (tgt := 43) hx hb dX10_stands_30 (by decide) (fun c_30 => ?_) (fun c_30 => ?_)
        · replace HW := HW.1 c_30
          refine lv_bipush (v := (-2)) hx hb dX10_stands_43 (by decide) ?_
          exact W.iret (v := (-2 : Int32)) hx hb hr (fun t ht hW => ⟨⟨(-2 : Int32), (h_22, g_22), rfl, HW, g_B ht hG⟩, hG.2.2.F ht⟩) hG.2.2.2.2 dX10_stands_45
        · replace HW := HW.2 c_30
          refine lv_iload_n hx hb dX10_stands_33 rfl (lv_at hl 3 rfl) ?_
          refine lv_iconst (v := 0) hx hb dX10_stands_34 (by decide) ?_
          refine lv_bipush (v := 99) hx hb dX10_stands_35 (by decide) ?_
          obtain ⟨P_37, HC_37, HW⟩ := HW
          refine g_callz (g_runS (As := [.int x3, .int (0 : Int32), .int (99 : Int32)]) (rest := []) ⟨hx, hb, hml, hown, hts⟩ (m_X10_within l D cy ad h_22 g_22 H.size x3 (0 : Int32) (99 : Int32) P_37 HC_37) (va_cwS 3 hts (gd_S (wm2 193 rfl rfl) (wm2 194 rfl rfl) (wm1 1 rfl rfl) (wm2 195 rfl rfl)) rfl rfl rfl (by decide +kernel) ⟨Nat.le_of_ble_eq_true rfl, Nat.le_of_ble_eq_true rfl⟩) hK hNw hG rfl rfl hl.1 rfl (lv_room (Nat.le_of_ble_eq_true rfl)) dX10_stands_37 ⟨Nat.zero_le _, Nat.zero_le _⟩) hG (fun r_37 h_37 g_37 H locs hz hq hG => ?_)
          replace HW := HW r_37 h_37 g_37 hz hq
          refine lv_if_ne (tgt := 46) hx hb dX10_stands_40 (by decide) (fun c_40 => ?_) (fun c_40 => ?_)
          · replace HW := HW.1 c_40
            refine lv_iconst (v := 0) hx hb dX10_stands_46 (by decide) ?_
            refine lv_istore (lv' := [(4, .int (0 : Int32)), (0, .ref (ad 0)), (1, .int x1), (2, .int x2), (3, .int x3)]) hx hb dX10_stands_47 hl (by decide) rfl (fun ls hl => ?_)
            obtain ⟨n_49, HW⟩ := HW
            exact L49 n_49 x1 x2 x3 (0 : Int32) h_37 g_37 _ _ _ HW hG (lv_sub hl [1, 2, 3, 4, 0] rfl)
          · replace HW := HW.2 c_40
            refine lv_bipush (v := (-2)) hx hb dX10_stands_43 (by decide) ?_
            exact W.iret (v := (-2 : Int32)) hx hb hr (fun t ht hW => ⟨⟨(-2 : Int32), (h_37, g_37), rfl, HW, g_B ht hG⟩, hG.2.2.F ht⟩) hG.2.2.2.2 dX10_stands_45
  exact E0 _ _ _ hG hl

def b_X10_life_42 (Q : Int32 → HI → HL → Prop) (K42 : Int32 → Int32 → HI → HL → Prop) (x3 : Int32) (x4 : Int32) (h : HI) (g : HL) : Prop :=
  (((99 : Int32) < x4 → Q x3 h g) ∧ (¬ (99 : Int32) < x4 → (∃ P_55 : Int32 → HI → HL → Prop, w_X2_holdIn x4 h g P_55 ∧ ∀ (r_55 : Int32) (h_55 : HI) (g_55 : HL), zb r_55 → P_55 r_55 h_55 g_55 → ((r_55 = 0 → Q x3 h_55 g_55) ∧ (¬ r_55 = 0 → (∀ x3_61 : Int32, x3_61 = (x3 + 1) → (∀ x4_64 : Int32, x4_64 = (x4 + 1) → K42 x3_61 x4_64 h_55 g_55)))))))
def F_X10_life_42 (Q : Int32 → HI → HL → Prop) (K : Int32 × Int32 × HI × HL → Prop) (q : Int32 × Int32 × HI × HL) : Prop := b_X10_life_42 Q (fun x3 x4 h g => K (x3, x4, h, g)) q.1 q.2.1 q.2.2.1 q.2.2.2
def w_X10_life (x1 : Int32) (x2 : Int32) (h : HI) (g : HL) (Q : Int32 → HI → HL → Prop) : Prop :=
  (∃ P_8 : Int32 → HI → HL → Prop, w_X8_has 8 x1 h g P_8 ∧ ∀ (r_8 : Int32) (h_8 : HI) (g_8 : HL), zb r_8 → P_8 r_8 h_8 g_8 → ((r_8 = 0 → Q (-2 : Int32) h_8 g_8) ∧ (¬ r_8 = 0 → (∃ P_18 : Int32 → HI → HL → Prop, w_X10_within x2 (0 : Int32) (99 : Int32) h_8 g_8 P_18 ∧ ∀ (r_18 : Int32) (h_18 : HI) (g_18 : HL), zb r_18 → P_18 r_18 h_18 g_18 → ((¬ r_18 = 0 → (∃ P_34 : HI → HL → Prop, w_X2_take x1 (-1 : Int32) (-1 : Int32) h_18 g_18 P_34 ∧ ∀ (h_34 : HI) (g_34 : HL), P_34 h_34 g_34 → lpE (F_X10_life_42 Q) ((0 : Int32), x2, h_34, g_34))) ∧ (r_18 = 0 → Q (-2 : Int32) h_18 g_18))))))
set_option maxHeartbeats 8000000 in
set_option maxRecDepth 100000 in
theorem m_X10_life (l : Launch) (D : va_G) (cy : Nat → ClassId) (ad : Nat → Nat) (h : HI) (g : HL) (sz : Nat) (x1 : Int32) (x2 : Int32) (Q : Int32 → HI → HL → Prop) (HW : w_X10_life x1 x2 h g Q) : Met l yX10_life (wa yX10_life cX10_life 5 (some .int)) ({ frames := 6, cells := 0, slots := 0, locals := 150 }) (va_Pc [.ref (ad 0), .int x1, .int x2] (gI D cy ad h g sz)) (va_Qi (fun (r : Int32) (u : HI × HL) => Q r u.1 u.2) (gB D cy ad sz) (gA ad sz)) 0 0 (gA ad sz) := by
  refine Met.ofW (cc := cX10_life) (maxL := 5) (ret := (some .int)) (by decide) rfl ?_
  intro p e s m args below meth c s₁ B hml hv
  obtain ⟨hav, hsz, hP, hK, hD0, hNw⟩ := hv
  have hx := B.exec
  have hb := B.bytes
  have hr := B.returns
  have hts := atoms_spec (ws := (wa yX10_life cX10_life 5 (some .int))) B.pre
  have hw := wa_hw hts
  have hown : s.vm.findClass RX10 = some m.cls := findClass_of_methodNamed B.named
  have hlocks := B.notSynchronized
  subst hsz
  have hG : gG D cy ad (gA ad s.heap.size) s.heap h g s.heap [] := ⟨hP, gA_self hD0, va_S.rf⟩
  clear hP hD0
  have lk10 := hw (.fieldLink RX10 10 "OldWorks" "shop" "LOldWorks$Shop;") (wm2 155 rfl rfl)
  have lk153 := hw (.fieldLink RX10 153 "OldWorks$Shop" "chains" "LOldWorks$Table;") (wm1 73 rfl rfl)
  have lk49 := hw (.fieldLink RX10 49 "OldWorks" "fits" "LOldWorks$Fits;") (wm2 161 rfl rfl)
  rw [show (headSpec (wa yX10_life cX10_life 5 (some .int)) ({ frames := 6, cells := 0, slots := 0, locals := 150 } : Room)).room = ({ frames := 6, cells := 0, slots := 0, locals := 150 } : Room) from rfl]
  have hl := lv_entry ([.ref (ad 0), .int x1, .int x2]) (n := 5) (Nat.le_of_ble_eq_true rfl)
  rw [show entryFrame m args 5 = entryFrame m ([.ref (ad 0), .int x1, .int x2] : List Value).toArray 5 from by rw [hav], lg_entry_eq]
  generalize (lg_sl ([.ref (ad 0), .int x1, .int x2]) ++ List.replicate (5 - (lg_sl ([.ref (ad 0), .int x1, .int x2])).length) Slot.unset).toArray = ls at hl ⊢
  have hl : lv_has ls 5 [(0, .ref (ad 0)), (1, .int x1), (2, .int x2)] := hl
  have L42 : ∀ (n : Nat) (x3 : Int32) (x4 : Int32) (h : HI) (g : HL) (H : Heap) (locs : List Loc) (ls : Array Slot), lpN (F_X10_life_42 Q) n (x3, x4, h, g) → gG D cy ad (gA ad s.heap.size) s.heap h g H locs → lv_has ls 5 [(0, .ref (ad 0)), (3, .int x3), (4, .int x4)] → W p l e ({ frames := 6, cells := 0, slots := 0, locals := 150 } : Room) s m args below meth c H locs 0 0 (MQ below (va_Qi (fun (r : Int32) (u : HI × HL) => Q r u.1 u.2) (gB D cy ad s.heap.size) (gA ad s.heap.size)) args s 0 0 (gA ad s.heap.size)) (F0 m 42 ls []) := by
    intro n
    induction n with
    | zero => intro x3 x4 h g H locs ls HW; exact HW.elim
    | succ n ih =>
      intro x3 x4 h g H locs ls HW hG hl
      have HW : b_X10_life_42 Q (fun x3 x4 h g => lpN (F_X10_life_42 Q) n (x3, x4, h, g)) x3 x4 h g := HW
      generalize hKe : (fun (x3 : Int32) (x4 : Int32) (h : HI) (g : HL) => lpN (F_X10_life_42 Q) n (x3, x4, h, g)) = K42 at HW
      have hK42 : ∀ (x3 : Int32) (x4 : Int32) (h : HI) (g : HL) (H : Heap) (locs : List Loc) (ls : Array Slot), K42 x3 x4 h g → gG D cy ad (gA ad s.heap.size) s.heap h g H locs → lv_has ls 5 [(0, .ref (ad 0)), (3, .int x3), (4, .int x4)] → W p l e ({ frames := 6, cells := 0, slots := 0, locals := 150 } : Room) s m args below meth c H locs 0 0 (MQ below (va_Qi (fun (r : Int32) (u : HI × HL) => Q r u.1 u.2) (gB D cy ad s.heap.size) (gA ad s.heap.size)) args s 0 0 (gA ad s.heap.size)) (F0 m 42 ls []) := by subst hKe; exact ih
      clear ih
      clear hKe
      unfold b_X10_life_42 at HW
      refine lv_iload hx hb dX10_life_42 (lv_at hl 2 rfl) ?_
      refine lv_bipush (v := 99) hx hb dX10_life_44 (by decide) ?_
      refine lv_icmp_gt (tgt := 70) hx hb dX10_life_46 (by decide) (fun c_46 => ?_) (fun c_46 => ?_)
      · replace HW := HW.1 c_46
        refine lv_iload_n hx hb dX10_life_70 rfl (lv_at hl 1 rfl) ?_
        exact W.iret (v := x3) hx hb hr (fun t ht hW => ⟨⟨x3, (h, g), rfl, HW, g_B ht hG⟩, hG.2.2.F ht⟩) hG.2.2.2.2 dX10_life_71
      · replace HW := HW.2 c_46
        refine lv_aload_n hx hb dX10_life_49 rfl (lv_at hl 0 rfl) ?_
        refine g_getr hx hb hw inG10 hown hK hG gl_0 rfl gk_0 (by decide) 6 (by decide) (by rw [gm_0]; decide) (r := 85) gr_0_6 lk49 dX10_life_50 ?_
        refine lv_iload hx hb dX10_life_53 (lv_at hl 2 rfl) ?_
        obtain ⟨P_55, HC_55, HW⟩ := HW
        refine g_callz (g_runV (As := [.int x4]) (rest := []) ⟨hx, hb, hml, hown, hts⟩ (m_X2_holdIn l D cy ad h g H.size x4 P_55 HC_55) (cwV 1 hts (gd_V (wm3 155 rfl rfl) (wm3 156 rfl rfl) (wm3 157 rfl rfl) (wm1 6 rfl rfl) (wm3 158 rfl rfl)) rfl rfl rfl (by decide +kernel) ⟨Nat.le_of_ble_eq_true rfl, Nat.le_of_ble_eq_true rfl⟩) hK hNw hG gl_85 rfl gk_85 (by decide) rfl rfl hl.1 rfl (lv_room (Nat.le_of_ble_eq_true rfl)) dX10_life_55 ⟨Nat.zero_le _, Nat.zero_le _⟩) hG (fun r_55 h_55 g_55 H locs hz hq hG => ?_)
        replace HW := HW r_55 h_55 g_55 hz hq
        refine lv_if_eq (tgt := 70) hx hb dX10_life_58 (by decide) (fun c_58 => ?_) (fun c_58 => ?_)
        · replace HW := HW.1 c_58
          refine lv_iload_n hx hb dX10_life_70 rfl (lv_at hl 1 rfl) ?_
          exact W.iret (v := x3) hx hb hr (fun t ht hW => ⟨⟨x3, (h_55, g_55), rfl, HW, g_B ht hG⟩, hG.2.2.F ht⟩) hG.2.2.2.2 dX10_life_71
        · replace HW := HW.2 c_58
          obtain ⟨x3_61, ex3_61⟩ : ∃ y : Int32, y = (x3 + 1) := ⟨_, rfl⟩
          replace HW := HW x3_61 ex3_61
          refine lv_iinc (v := x3_61) (lv' := [(3, .int x3_61), (0, .ref (ad 0)), (4, .int x4)]) hx hb dX10_life_61 hl (k := 1) rfl (by rw [ex3_61]; rfl) (by decide) rfl (fun ls hl => ?_)
          obtain ⟨x4_64, ex4_64⟩ : ∃ y : Int32, y = (x4 + 1) := ⟨_, rfl⟩
          replace HW := HW x4_64 ex4_64
          refine lv_iinc (v := x4_64) (lv' := [(4, .int x4_64), (3, .int x3_61), (0, .ref (ad 0))]) hx hb dX10_life_64 hl (k := 2) rfl (by rw [ex4_64]; rfl) (by decide) rfl (fun ls hl => ?_)
          refine lv_goto (tgt := 42) hx hb dX10_life_67 (by decide) ?_
          exact hK42 x3_61 x4_64 h_55 g_55 _ _ _ HW hG (lv_sub hl [2, 1, 0] rfl)
  have E0 : ∀ (H : Heap) (locs : List Loc) (ls : Array Slot), gG D cy ad (gA ad s.heap.size) s.heap h g H locs → lv_has ls 5 [(0, .ref (ad 0)), (1, .int x1), (2, .int x2)] → W p l e ({ frames := 6, cells := 0, slots := 0, locals := 150 } : Room) s m args below meth c H locs 0 0 (MQ below (va_Qi (fun (r : Int32) (u : HI × HL) => Q r u.1 u.2) (gB D cy ad s.heap.size) (gA ad s.heap.size)) args s 0 0 (gA ad s.heap.size)) (F0 m 0 ls []) := by
    intro H locs ls hG hl
    unfold w_X10_life at HW
    refine lv_aload_n hx hb dX10_life_0 rfl (lv_at hl 0 rfl) ?_
    refine g_getr hx hb hw inG10 hown hK hG gl_0 rfl gk_0 (by decide) 0 (by decide) (by rw [gm_0]; decide) (r := 1) gr_0_0 lk10 dX10_life_1 ?_
    refine g_getr hx hb hw inG6 hown hK hG gl_1 rfl gk_1 (by decide) 3 (by decide) (by rw [gm_1]; decide) (r := 8) gr_1_3 lk153 dX10_life_4 ?_
    refine lv_iload_n hx hb dX10_life_7 rfl (lv_at hl 1 rfl) ?_
    obtain ⟨P_8, HC_8, HW⟩ := HW
    refine g_callz (g_runV (As := [.int x1]) (rest := []) ⟨hx, hb, hml, hown, hts⟩ (m_X8_has l D cy ad h g H.size 8 (gs_8) x1 P_8 HC_8) (cwV 1 hts (gd_V (wm2 201 rfl rfl) (wm2 202 rfl rfl) (wm2 203 rfl rfl) (wm1 3 rfl rfl) (wm2 204 rfl rfl)) rfl rfl rfl (by decide +kernel) ⟨Nat.le_of_ble_eq_true rfl, Nat.le_of_ble_eq_true rfl⟩) hK hNw hG gl_8 rfl gk_8 (by decide) rfl rfl hl.1 rfl (lv_room (Nat.le_of_ble_eq_true rfl)) dX10_life_8 ⟨Nat.zero_le _, Nat.zero_le _⟩) hG (fun r_8 h_8 g_8 H locs hz hq hG => ?_)
    replace HW := HW r_8 h_8 g_8 hz hq
    refine lv_if_eq (tgt := 24) hx hb dX10_life_11 (by decide) (fun c_11 => ?_) (fun c_11 => ?_)
    · replace HW := HW.1 c_11
      refine lv_bipush (v := (-2)) hx hb dX10_life_24 (by decide) ?_
      exact W.iret (v := (-2 : Int32)) hx hb hr (fun t ht hW => ⟨⟨(-2 : Int32), (h_8, g_8), rfl, HW, g_B ht hG⟩, hG.2.2.F ht⟩) hG.2.2.2.2 dX10_life_26
    · replace HW := HW.2 c_11
      refine lv_iload_n hx hb dX10_life_14 rfl (lv_at hl 2 rfl) ?_
      refine lv_iconst (v := 0) hx hb dX10_life_15 (by decide) ?_
      refine lv_bipush (v := 99) hx hb dX10_life_16 (by decide) ?_
      obtain ⟨P_18, HC_18, HW⟩ := HW
      refine g_callz (g_runS (As := [.int x2, .int (0 : Int32), .int (99 : Int32)]) (rest := []) ⟨hx, hb, hml, hown, hts⟩ (m_X10_within l D cy ad h_8 g_8 H.size x2 (0 : Int32) (99 : Int32) P_18 HC_18) (va_cwS 3 hts (gd_S (wm2 193 rfl rfl) (wm2 194 rfl rfl) (wm1 1 rfl rfl) (wm2 195 rfl rfl)) rfl rfl rfl (by decide +kernel) ⟨Nat.le_of_ble_eq_true rfl, Nat.le_of_ble_eq_true rfl⟩) hK hNw hG rfl rfl hl.1 rfl (lv_room (Nat.le_of_ble_eq_true rfl)) dX10_life_18 ⟨Nat.zero_le _, Nat.zero_le _⟩) hG (fun r_18 h_18 g_18 H locs hz hq hG => ?_)
      replace HW := HW r_18 h_18 g_18 hz hq
      refine lv_if_ne (tgt := 27) hx hb dX10_life_21 (by decide) (fun c_21 => ?_) (fun c_21 => ?_)
      · replace HW := HW.1 c_21
        refine lv_aload_n hx hb dX10_life_27 rfl (lv_at hl 0 rfl) ?_
        refine g_getr hx hb hw inG10 hown hK hG gl_0 rfl gk_0 (by decide) 6 (by decide) (by rw [gm_0]; decide) (r := 85) gr_0_6 lk49 dX10_life_28 ?_
        refine lv_iload_n hx hb dX10_life_31 rfl (lv_at hl 1 rfl) ?_
        refine lv_iconst (v := (-1)) hx hb dX10_life_32 (by decide) ?_
        refine lv_iconst (v := (-1)) hx hb dX10_life_33 (by decide) ?_
        obtain ⟨P_34, HC_34, HW⟩ := HW
        refine g_callv (g_runV (As := [.int x1, .int (-1 : Int32), .int (-1 : Int32)]) (rest := []) ⟨hx, hb, hml, hown, hts⟩ (m_X2_take l D cy ad h_18 g_18 H.size x1 (-1 : Int32) (-1 : Int32) P_34 HC_34) (cwV 3 hts (gd_V (wm3 149 rfl rfl) (wm3 150 rfl rfl) (wm3 151 rfl rfl) (wm1 6 rfl rfl) (wm3 152 rfl rfl)) rfl rfl rfl (by decide +kernel) ⟨Nat.le_of_ble_eq_true rfl, Nat.le_of_ble_eq_true rfl⟩) hK hNw hG gl_85 rfl gk_85 (by decide) rfl rfl hl.1 rfl (lv_room (Nat.le_of_ble_eq_true rfl)) dX10_life_34 ⟨Nat.zero_le _, Nat.zero_le _⟩) hG (fun h_34 g_34 H locs hq hG => ?_)
        replace HW := HW h_34 g_34 hq
        refine lv_iconst (v := 0) hx hb dX10_life_37 (by decide) ?_
        refine lv_istore_n (lv' := [(3, .int (0 : Int32)), (0, .ref (ad 0)), (1, .int x1), (2, .int x2)]) hx hb dX10_life_38 rfl hl (by decide) rfl (fun ls hl => ?_)
        refine lv_iload_n hx hb dX10_life_39 rfl (lv_at hl 3 rfl) ?_
        refine lv_istore (lv' := [(4, .int x2), (3, .int (0 : Int32)), (0, .ref (ad 0)), (1, .int x1), (2, .int x2)]) hx hb dX10_life_40 hl (by decide) rfl (fun ls hl => ?_)
        obtain ⟨n_42, HW⟩ := HW
        exact L42 n_42 (0 : Int32) x2 h_34 g_34 _ _ _ HW hG (lv_sub hl [2, 1, 0] rfl)
      · replace HW := HW.2 c_21
        refine lv_bipush (v := (-2)) hx hb dX10_life_24 (by decide) ?_
        exact W.iret (v := (-2 : Int32)) hx hb hr (fun t ht hW => ⟨⟨(-2 : Int32), (h_18, g_18), rfl, HW, g_B ht hG⟩, hG.2.2.F ht⟩) hG.2.2.2.2 dX10_life_26
  exact E0 _ _ _ hG hl

def w_X10_work (x1 : Int32) (x2 : Int32) (x3 : Int32) (x4 : Int32) (h : HI) (g : HL) (Q : Int32 → HI → HL → Prop) : Prop :=
  ((x1 = 0 → Q (-2 : Int32) h g) ∧ (¬ x1 = 0 → (∃ P_11 : Int32 → HI → HL → Prop, w_X10_within x1 (-500 : Int32) (500 : Int32) h g P_11 ∧ ∀ (r_11 : Int32) (h_11 : HI) (g_11 : HL), zb r_11 → P_11 r_11 h_11 g_11 → ((r_11 = 0 → Q (-2 : Int32) h_11 g_11) ∧ (¬ r_11 = 0 → (∃ P_22 : Int32 → HI → HL → Prop, w_X10_within x2 (1 : Int32) (1000 : Int32) h_11 g_11 P_22 ∧ ∀ (r_22 : Int32) (h_22 : HI) (g_22 : HL), zb r_22 → P_22 r_22 h_22 g_22 → ((¬ r_22 = 0 → (∃ P_36 : Int32 → HI → HL → Prop, w_X10_within x3 (1 : Int32) (3000 : Int32) h_22 g_22 P_36 ∧ ∀ (r_36 : Int32) (h_36 : HI) (g_36 : HL), zb r_36 → P_36 r_36 h_36 g_36 → ((r_36 = 0 → Q (-2 : Int32) h_36 g_36) ∧ (¬ r_36 = 0 → (∃ P_48 : Int32 → HI → HL → Prop, w_X10_within x4 x3 (3000 : Int32) h_36 g_36 P_48 ∧ ∀ (r_48 : Int32) (h_48 : HI) (g_48 : HL), zb r_48 → P_48 r_48 h_48 g_48 → ((¬ r_48 = 0 → (∃ P_69 : Int32 → HI → HL → Prop, w_X8_add 10 x1 x2 x3 x4 h_48 g_48 P_69 ∧ ∀ (r_69 : Int32) (h_69 : HI) (g_69 : HL), P_69 r_69 h_69 g_69 → Q r_69 h_69 g_69)) ∧ (r_48 = 0 → Q (-2 : Int32) h_48 g_48))))))) ∧ (r_22 = 0 → Q (-2 : Int32) h_22 g_22))))))))
set_option maxHeartbeats 8000000 in
set_option maxRecDepth 100000 in
theorem m_X10_work (l : Launch) (D : va_G) (cy : Nat → ClassId) (ad : Nat → Nat) (h : HI) (g : HL) (sz : Nat) (x1 : Int32) (x2 : Int32) (x3 : Int32) (x4 : Int32) (Q : Int32 → HI → HL → Prop) (HW : w_X10_work x1 x2 x3 x4 h g Q) : Met l yX10_work (wa yX10_work cX10_work 5 (some .int)) ({ frames := 2, cells := 0, slots := 0, locals := 50 }) (va_Pc [.ref (ad 0), .int x1, .int x2, .int x3, .int x4] (gI D cy ad h g sz)) (va_Qi (fun (r : Int32) (u : HI × HL) => Q r u.1 u.2) (gB D cy ad sz) (gA ad sz)) 0 0 (gA ad sz) := by
  refine Met.ofW (cc := cX10_work) (maxL := 5) (ret := (some .int)) (by decide) rfl ?_
  intro p e s m args below meth c s₁ B hml hv
  obtain ⟨hav, hsz, hP, hK, hD0, hNw⟩ := hv
  have hx := B.exec
  have hb := B.bytes
  have hr := B.returns
  have hts := atoms_spec (ws := (wa yX10_work cX10_work 5 (some .int))) B.pre
  have hw := wa_hw hts
  have hown : s.vm.findClass RX10 = some m.cls := findClass_of_methodNamed B.named
  have hlocks := B.notSynchronized
  subst hsz
  have hG : gG D cy ad (gA ad s.heap.size) s.heap h g s.heap [] := ⟨hP, gA_self hD0, va_S.rf⟩
  clear hP hD0
  have lk10 := hw (.fieldLink RX10 10 "OldWorks" "shop" "LOldWorks$Shop;") (wm2 155 rfl rfl)
  have lk182 := hw (.fieldLink RX10 182 "OldWorks$Shop" "works" "LOldWorks$Table;") (wm1 76 rfl rfl)
  rw [show (headSpec (wa yX10_work cX10_work 5 (some .int)) ({ frames := 2, cells := 0, slots := 0, locals := 50 } : Room)).room = ({ frames := 2, cells := 0, slots := 0, locals := 50 } : Room) from rfl]
  have hl := lv_entry ([.ref (ad 0), .int x1, .int x2, .int x3, .int x4]) (n := 5) (Nat.le_of_ble_eq_true rfl)
  rw [show entryFrame m args 5 = entryFrame m ([.ref (ad 0), .int x1, .int x2, .int x3, .int x4] : List Value).toArray 5 from by rw [hav], lg_entry_eq]
  generalize (lg_sl ([.ref (ad 0), .int x1, .int x2, .int x3, .int x4]) ++ List.replicate (5 - (lg_sl ([.ref (ad 0), .int x1, .int x2, .int x3, .int x4])).length) Slot.unset).toArray = ls at hl ⊢
  have hl : lv_has ls 5 [(0, .ref (ad 0)), (1, .int x1), (2, .int x2), (3, .int x3), (4, .int x4)] := hl
  have E0 : ∀ (H : Heap) (locs : List Loc) (ls : Array Slot), gG D cy ad (gA ad s.heap.size) s.heap h g H locs → lv_has ls 5 [(0, .ref (ad 0)), (1, .int x1), (2, .int x2), (3, .int x3), (4, .int x4)] → W p l e ({ frames := 2, cells := 0, slots := 0, locals := 50 } : Room) s m args below meth c H locs 0 0 (MQ below (va_Qi (fun (r : Int32) (u : HI × HL) => Q r u.1 u.2) (gB D cy ad s.heap.size) (gA ad s.heap.size)) args s 0 0 (gA ad s.heap.size)) (F0 m 0 ls []) := by
    intro H locs ls hG hl
    unfold w_X10_work at HW
    refine lv_iload_n hx hb dX10_work_0 rfl (lv_at hl 1 rfl) ?_
    refine lv_if_eq (tgt := 28) hx hb dX10_work_1 (by decide) (fun c_1 => ?_) (fun c_1 => ?_)
    · replace HW := HW.1 c_1
      refine lv_bipush (v := (-2)) hx hb dX10_work_28 (by decide) ?_
      exact W.iret (v := (-2 : Int32)) hx hb hr (fun t ht hW => ⟨⟨(-2 : Int32), (h, g), rfl, HW, g_B ht hG⟩, hG.2.2.F ht⟩) hG.2.2.2.2 dX10_work_30
    · replace HW := HW.2 c_1
      refine lv_iload_n hx hb dX10_work_4 rfl (lv_at hl 1 rfl) ?_
      refine lv_sipush (v := (-500)) hx hb dX10_work_5 (by decide) ?_
      refine lv_sipush (v := 500) hx hb dX10_work_8 (by decide) ?_
      obtain ⟨P_11, HC_11, HW⟩ := HW
      refine g_callz (g_runS (As := [.int x1, .int (-500 : Int32), .int (500 : Int32)]) (rest := []) ⟨hx, hb, hml, hown, hts⟩ (m_X10_within l D cy ad h g H.size x1 (-500 : Int32) (500 : Int32) P_11 HC_11) (va_cwS 3 hts (gd_S (wm2 193 rfl rfl) (wm2 194 rfl rfl) (wm1 1 rfl rfl) (wm2 195 rfl rfl)) rfl rfl rfl (by decide +kernel) ⟨Nat.le_of_ble_eq_true rfl, Nat.le_of_ble_eq_true rfl⟩) hK hNw hG rfl rfl hl.1 rfl (lv_room (Nat.le_of_ble_eq_true rfl)) dX10_work_11 ⟨Nat.zero_le _, Nat.zero_le _⟩) hG (fun r_11 h_11 g_11 H locs hz hq hG => ?_)
      replace HW := HW r_11 h_11 g_11 hz hq
      refine lv_if_eq (tgt := 28) hx hb dX10_work_14 (by decide) (fun c_14 => ?_) (fun c_14 => ?_)
      · replace HW := HW.1 c_14
        refine lv_bipush (v := (-2)) hx hb dX10_work_28 (by decide) ?_
        exact W.iret (v := (-2 : Int32)) hx hb hr (fun t ht hW => ⟨⟨(-2 : Int32), (h_11, g_11), rfl, HW, g_B ht hG⟩, hG.2.2.F ht⟩) hG.2.2.2.2 dX10_work_30
      · replace HW := HW.2 c_14
        refine lv_iload_n hx hb dX10_work_17 rfl (lv_at hl 2 rfl) ?_
        refine lv_iconst (v := 1) hx hb dX10_work_18 (by decide) ?_
        refine lv_sipush (v := 1000) hx hb dX10_work_19 (by decide) ?_
        obtain ⟨P_22, HC_22, HW⟩ := HW
        refine g_callz (g_runS (As := [.int x2, .int (1 : Int32), .int (1000 : Int32)]) (rest := []) ⟨hx, hb, hml, hown, hts⟩ (m_X10_within l D cy ad h_11 g_11 H.size x2 (1 : Int32) (1000 : Int32) P_22 HC_22) (va_cwS 3 hts (gd_S (wm2 193 rfl rfl) (wm2 194 rfl rfl) (wm1 1 rfl rfl) (wm2 195 rfl rfl)) rfl rfl rfl (by decide +kernel) ⟨Nat.le_of_ble_eq_true rfl, Nat.le_of_ble_eq_true rfl⟩) hK hNw hG rfl rfl hl.1 rfl (lv_room (Nat.le_of_ble_eq_true rfl)) dX10_work_22 ⟨Nat.zero_le _, Nat.zero_le _⟩) hG (fun r_22 h_22 g_22 H locs hz hq hG => ?_)
        replace HW := HW r_22 h_22 g_22 hz hq
        refine lv_if_ne (tgt := 31) hx hb dX10_work_25 (by decide) (fun c_25 => ?_) (fun c_25 => ?_)
        · replace HW := HW.1 c_25
          refine lv_iload_n hx hb dX10_work_31 rfl (lv_at hl 3 rfl) ?_
          refine lv_iconst (v := 1) hx hb dX10_work_32 (by decide) ?_
          refine lv_sipush (v := 3000) hx hb dX10_work_33 (by decide) ?_
          obtain ⟨P_36, HC_36, HW⟩ := HW
          refine g_callz (g_runS (As := [.int x3, .int (1 : Int32), .int (3000 : Int32)]) (rest := []) ⟨hx, hb, hml, hown, hts⟩ (m_X10_within l D cy ad h_22 g_22 H.size x3 (1 : Int32) (3000 : Int32) P_36 HC_36) (va_cwS 3 hts (gd_S (wm2 193 rfl rfl) (wm2 194 rfl rfl) (wm1 1 rfl rfl) (wm2 195 rfl rfl)) rfl rfl rfl (by decide +kernel) ⟨Nat.le_of_ble_eq_true rfl, Nat.le_of_ble_eq_true rfl⟩) hK hNw hG rfl rfl hl.1 rfl (lv_room (Nat.le_of_ble_eq_true rfl)) dX10_work_36 ⟨Nat.zero_le _, Nat.zero_le _⟩) hG (fun r_36 h_36 g_36 H locs hz hq hG => ?_)
          replace HW := HW r_36 h_36 g_36 hz hq
          refine lv_if_eq (tgt := 54) hx hb dX10_work_39 (by decide) (fun c_39 => ?_) (fun c_39 => ?_)
          · replace HW := HW.1 c_39
            refine lv_bipush (v := (-2)) hx hb dX10_work_54 (by decide) ?_
            exact W.iret (v := (-2 : Int32)) hx hb hr (fun t ht hW => ⟨⟨(-2 : Int32), (h_36, g_36), rfl, HW, g_B ht hG⟩, hG.2.2.F ht⟩) hG.2.2.2.2 dX10_work_56
          · replace HW := HW.2 c_39
            refine lv_iload hx hb dX10_work_42 (lv_at hl 4 rfl) ?_
            refine lv_iload_n hx hb dX10_work_44 rfl (lv_at hl 3 rfl) ?_
            refine lv_sipush (v := 3000) hx hb dX10_work_45 (by decide) ?_
            obtain ⟨P_48, HC_48, HW⟩ := HW
            refine g_callz (g_runS (As := [.int x4, .int x3, .int (3000 : Int32)]) (rest := []) ⟨hx, hb, hml, hown, hts⟩ (m_X10_within l D cy ad h_36 g_36 H.size x4 x3 (3000 : Int32) P_48 HC_48) (va_cwS 3 hts (gd_S (wm2 193 rfl rfl) (wm2 194 rfl rfl) (wm1 1 rfl rfl) (wm2 195 rfl rfl)) rfl rfl rfl (by decide +kernel) ⟨Nat.le_of_ble_eq_true rfl, Nat.le_of_ble_eq_true rfl⟩) hK hNw hG rfl rfl hl.1 rfl (lv_room (Nat.le_of_ble_eq_true rfl)) dX10_work_48 ⟨Nat.zero_le _, Nat.zero_le _⟩) hG (fun r_48 h_48 g_48 H locs hz hq hG => ?_)
            replace HW := HW r_48 h_48 g_48 hz hq
            refine lv_if_ne (tgt := 57) hx hb dX10_work_51 (by decide) (fun c_51 => ?_) (fun c_51 => ?_)
            · replace HW := HW.1 c_51
              refine lv_aload_n hx hb dX10_work_57 rfl (lv_at hl 0 rfl) ?_
              refine g_getr hx hb hw inG10 hown hK hG gl_0 rfl gk_0 (by decide) 0 (by decide) (by rw [gm_0]; decide) (r := 1) gr_0_0 lk10 dX10_work_58 ?_
              refine g_getr hx hb hw inG6 hown hK hG gl_1 rfl gk_1 (by decide) 4 (by decide) (by rw [gm_1]; decide) (r := 10) gr_1_4 lk182 dX10_work_61 ?_
              refine lv_iload_n hx hb dX10_work_64 rfl (lv_at hl 1 rfl) ?_
              refine lv_iload_n hx hb dX10_work_65 rfl (lv_at hl 2 rfl) ?_
              refine lv_iload_n hx hb dX10_work_66 rfl (lv_at hl 3 rfl) ?_
              refine lv_iload hx hb dX10_work_67 (lv_at hl 4 rfl) ?_
              obtain ⟨P_69, HC_69, HW⟩ := HW
              refine g_calli (g_runV (As := [.int x1, .int x2, .int x3, .int x4]) (rest := []) ⟨hx, hb, hml, hown, hts⟩ (m_X8_add l D cy ad h_48 g_48 H.size 10 (gs_10) x1 x2 x3 x4 P_69 HC_69) (cwV 4 hts (gd_V (wm2 196 rfl rfl) (wm1 53 rfl rfl) (wm1 54 rfl rfl) (wm1 3 rfl rfl) (wm1 55 rfl rfl)) rfl rfl rfl (by decide +kernel) ⟨Nat.le_of_ble_eq_true rfl, Nat.le_of_ble_eq_true rfl⟩) hK hNw hG gl_10 rfl gk_10 (by decide) rfl rfl hl.1 rfl (lv_room (Nat.le_of_ble_eq_true rfl)) dX10_work_69 ⟨Nat.zero_le _, Nat.zero_le _⟩) hG (fun r_69 h_69 g_69 H locs hq hG => ?_)
              replace HW := HW r_69 h_69 g_69 hq
              exact W.iret (v := r_69) hx hb hr (fun t ht hW => ⟨⟨r_69, (h_69, g_69), rfl, HW, g_B ht hG⟩, hG.2.2.F ht⟩) hG.2.2.2.2 dX10_work_72
            · replace HW := HW.2 c_51
              refine lv_bipush (v := (-2)) hx hb dX10_work_54 (by decide) ?_
              exact W.iret (v := (-2 : Int32)) hx hb hr (fun t ht hW => ⟨⟨(-2 : Int32), (h_48, g_48), rfl, HW, g_B ht hG⟩, hG.2.2.F ht⟩) hG.2.2.2.2 dX10_work_56
        · replace HW := HW.2 c_25
          refine lv_bipush (v := (-2)) hx hb dX10_work_28 (by decide) ?_
          exact W.iret (v := (-2 : Int32)) hx hb hr (fun t ht hW => ⟨⟨(-2 : Int32), (h_22, g_22), rfl, HW, g_B ht hG⟩, hG.2.2.F ht⟩) hG.2.2.2.2 dX10_work_30
  exact E0 _ _ _ hG hl

def w_X10_way (x1 : Int32) (x2 : Int32) (x3 : Int32) (x4 : Int32) (h : HI) (g : HL) (Q : Int32 → HI → HL → Prop) : Prop :=
  (∃ P_5 : Int32 → HI → HL → Prop, w_X10_within x1 (1 : Int32) (3000 : Int32) h g P_5 ∧ ∀ (r_5 : Int32) (h_5 : HI) (g_5 : HL), zb r_5 → P_5 r_5 h_5 g_5 → ((r_5 = 0 → Q (-10 : Int32) h_5 g_5) ∧ (¬ r_5 = 0 → (∃ P_16 : Int32 → HI → HL → Prop, w_X10_within x2 (1 : Int32) (3000 : Int32) h_5 g_5 P_16 ∧ ∀ (r_16 : Int32) (h_16 : HI) (g_16 : HL), zb r_16 → P_16 r_16 h_16 g_16 → ((¬ r_16 = 0 → (∃ P_30 : Int32 → HI → HL → Prop, w_X10_within x3 x2 (3000 : Int32) h_16 g_16 P_30 ∧ ∀ (r_30 : Int32) (h_30 : HI) (g_30 : HL), zb r_30 → P_30 r_30 h_30 g_30 → ((r_30 = 0 → Q (-10 : Int32) h_30 g_30) ∧ (¬ r_30 = 0 → (((-2 : Int32) ≤ x4 → (∃ P_53 : HI → HL → Prop, w_X9_find x1 x2 x3 h_30 g_30 P_53 ∧ ∀ (h_53 : HI) (g_53 : HL), P_53 h_53 g_53 → ((¬ (h_53 89 5) = (-1 : Int32) → ((¬ x4 = (-1 : Int32) → ((¬ x4 = (-2 : Int32) → (∃ P_105 : Int32 → HI → HL → Prop, w_X9_stepAt x4 h_53 g_53 P_105 ∧ ∀ (r_105 : Int32) (h_105 : HI) (g_105 : HL), P_105 r_105 h_105 g_105 → Q r_105 h_105 g_105)) ∧ (x4 = (-2 : Int32) → Q (h_53 89 6) h_53 g_53))) ∧ (x4 = (-1 : Int32) → Q (h_53 89 5) h_53 g_53))) ∧ ((h_53 89 5) = (-1 : Int32) → Q (-5 : Int32) h_53 g_53)))) ∧ (¬ (-2 : Int32) ≤ x4 → Q (-10 : Int32) h_30 g_30)))))) ∧ (r_16 = 0 → Q (-10 : Int32) h_16 g_16))))))
set_option maxHeartbeats 8000000 in
set_option maxRecDepth 100000 in
theorem m_X10_way (l : Launch) (D : va_G) (cy : Nat → ClassId) (ad : Nat → Nat) (h : HI) (g : HL) (sz : Nat) (x1 : Int32) (x2 : Int32) (x3 : Int32) (x4 : Int32) (Q : Int32 → HI → HL → Prop) (HW : w_X10_way x1 x2 x3 x4 h g Q) : Met l yX10_way (wa yX10_way cX10_way 5 (some .int)) ({ frames := 4, cells := 0, slots := 0, locals := 98 }) (va_Pc [.ref (ad 0), .int x1, .int x2, .int x3, .int x4] (gI D cy ad h g sz)) (va_Qi (fun (r : Int32) (u : HI × HL) => Q r u.1 u.2) (gB D cy ad sz) (gA ad sz)) 0 0 (gA ad sz) := by
  refine Met.ofW (cc := cX10_way) (maxL := 5) (ret := (some .int)) (by decide) rfl ?_
  intro p e s m args below meth c s₁ B hml hv
  obtain ⟨hav, hsz, hP, hK, hD0, hNw⟩ := hv
  have hx := B.exec
  have hb := B.bytes
  have hr := B.returns
  have hts := atoms_spec (ws := (wa yX10_way cX10_way 5 (some .int))) B.pre
  have hw := wa_hw hts
  have hown : s.vm.findClass RX10 = some m.cls := findClass_of_methodNamed B.named
  have hlocks := B.notSynchronized
  subst hsz
  have hG : gG D cy ad (gA ad s.heap.size) s.heap h g s.heap [] := ⟨hP, gA_self hD0, va_S.rf⟩
  clear hP hD0
  have lk56 := hw (.fieldLink RX10 56 "OldWorks" "ways" "LOldWorks$Ways;") (wm2 162 rfl rfl)
  have lk187 := hw (.fieldLink RX10 187 "OldWorks$Ways" "price" "I") (wm2 25 rfl rfl)
  have lk190 := hw (.fieldLink RX10 190 "OldWorks$Ways" "steps" "I") (wm2 27 rfl rfl)
  rw [show (headSpec (wa yX10_way cX10_way 5 (some .int)) ({ frames := 4, cells := 0, slots := 0, locals := 98 } : Room)).room = ({ frames := 4, cells := 0, slots := 0, locals := 98 } : Room) from rfl]
  have hl := lv_entry ([.ref (ad 0), .int x1, .int x2, .int x3, .int x4]) (n := 5) (Nat.le_of_ble_eq_true rfl)
  rw [show entryFrame m args 5 = entryFrame m ([.ref (ad 0), .int x1, .int x2, .int x3, .int x4] : List Value).toArray 5 from by rw [hav], lg_entry_eq]
  generalize (lg_sl ([.ref (ad 0), .int x1, .int x2, .int x3, .int x4]) ++ List.replicate (5 - (lg_sl ([.ref (ad 0), .int x1, .int x2, .int x3, .int x4])).length) Slot.unset).toArray = ls at hl ⊢
  have hl : lv_has ls 5 [(0, .ref (ad 0)), (1, .int x1), (2, .int x2), (3, .int x3), (4, .int x4)] := hl
  have E0 : ∀ (H : Heap) (locs : List Loc) (ls : Array Slot), gG D cy ad (gA ad s.heap.size) s.heap h g H locs → lv_has ls 5 [(0, .ref (ad 0)), (1, .int x1), (2, .int x2), (3, .int x3), (4, .int x4)] → W p l e ({ frames := 4, cells := 0, slots := 0, locals := 98 } : Room) s m args below meth c H locs 0 0 (MQ below (va_Qi (fun (r : Int32) (u : HI × HL) => Q r u.1 u.2) (gB D cy ad s.heap.size) (gA ad s.heap.size)) args s 0 0 (gA ad s.heap.size)) (F0 m 0 ls []) := by
    intro H locs ls hG hl
    unfold w_X10_way at HW
    refine lv_iload_n hx hb dX10_way_0 rfl (lv_at hl 1 rfl) ?_
    refine lv_iconst (v := 1) hx hb dX10_way_1 (by decide) ?_
    refine lv_sipush (v := 3000) hx hb dX10_way_2 (by decide) ?_
    obtain ⟨P_5, HC_5, HW⟩ := HW
    refine g_callz (g_runS (As := [.int x1, .int (1 : Int32), .int (3000 : Int32)]) (rest := []) ⟨hx, hb, hml, hown, hts⟩ (m_X10_within l D cy ad h g H.size x1 (1 : Int32) (3000 : Int32) P_5 HC_5) (va_cwS 3 hts (gd_S (wm2 193 rfl rfl) (wm2 194 rfl rfl) (wm1 1 rfl rfl) (wm2 195 rfl rfl)) rfl rfl rfl (by decide +kernel) ⟨Nat.le_of_ble_eq_true rfl, Nat.le_of_ble_eq_true rfl⟩) hK hNw hG rfl rfl hl.1 rfl (lv_room (Nat.le_of_ble_eq_true rfl)) dX10_way_5 ⟨Nat.zero_le _, Nat.zero_le _⟩) hG (fun r_5 h_5 g_5 H locs hz hq hG => ?_)
    replace HW := HW r_5 h_5 g_5 hz hq
    refine lv_if_eq (tgt := 22) hx hb dX10_way_8 (by decide) (fun c_8 => ?_) (fun c_8 => ?_)
    · replace HW := HW.1 c_8
      refine lv_bipush (v := (-10)) hx hb dX10_way_22 (by decide) ?_
      exact W.iret (v := (-10 : Int32)) hx hb hr (fun t ht hW => ⟨⟨(-10 : Int32), (h_5, g_5), rfl, HW, g_B ht hG⟩, hG.2.2.F ht⟩) hG.2.2.2.2 dX10_way_24
    · replace HW := HW.2 c_8
      refine lv_iload_n hx hb dX10_way_11 rfl (lv_at hl 2 rfl) ?_
      refine lv_iconst (v := 1) hx hb dX10_way_12 (by decide) ?_
      refine lv_sipush (v := 3000) hx hb dX10_way_13 (by decide) ?_
      obtain ⟨P_16, HC_16, HW⟩ := HW
      refine g_callz (g_runS (As := [.int x2, .int (1 : Int32), .int (3000 : Int32)]) (rest := []) ⟨hx, hb, hml, hown, hts⟩ (m_X10_within l D cy ad h_5 g_5 H.size x2 (1 : Int32) (3000 : Int32) P_16 HC_16) (va_cwS 3 hts (gd_S (wm2 193 rfl rfl) (wm2 194 rfl rfl) (wm1 1 rfl rfl) (wm2 195 rfl rfl)) rfl rfl rfl (by decide +kernel) ⟨Nat.le_of_ble_eq_true rfl, Nat.le_of_ble_eq_true rfl⟩) hK hNw hG rfl rfl hl.1 rfl (lv_room (Nat.le_of_ble_eq_true rfl)) dX10_way_16 ⟨Nat.zero_le _, Nat.zero_le _⟩) hG (fun r_16 h_16 g_16 H locs hz hq hG => ?_)
      replace HW := HW r_16 h_16 g_16 hz hq
      refine lv_if_ne (tgt := 25) hx hb dX10_way_19 (by decide) (fun c_19 => ?_) (fun c_19 => ?_)
      · replace HW := HW.1 c_19
        refine lv_iload_n hx hb dX10_way_25 rfl (lv_at hl 3 rfl) ?_
        refine lv_iload_n hx hb dX10_way_26 rfl (lv_at hl 2 rfl) ?_
        refine lv_sipush (v := 3000) hx hb dX10_way_27 (by decide) ?_
        obtain ⟨P_30, HC_30, HW⟩ := HW
        refine g_callz (g_runS (As := [.int x3, .int x2, .int (3000 : Int32)]) (rest := []) ⟨hx, hb, hml, hown, hts⟩ (m_X10_within l D cy ad h_16 g_16 H.size x3 x2 (3000 : Int32) P_30 HC_30) (va_cwS 3 hts (gd_S (wm2 193 rfl rfl) (wm2 194 rfl rfl) (wm1 1 rfl rfl) (wm2 195 rfl rfl)) rfl rfl rfl (by decide +kernel) ⟨Nat.le_of_ble_eq_true rfl, Nat.le_of_ble_eq_true rfl⟩) hK hNw hG rfl rfl hl.1 rfl (lv_room (Nat.le_of_ble_eq_true rfl)) dX10_way_30 ⟨Nat.zero_le _, Nat.zero_le _⟩) hG (fun r_30 h_30 g_30 H locs hz hq hG => ?_)
        replace HW := HW r_30 h_30 g_30 hz hq
        refine lv_if_eq (tgt := 43) hx hb dX10_way_33 (by decide) (fun c_33 => ?_) (fun c_33 => ?_)
        · replace HW := HW.1 c_33
          refine lv_bipush (v := (-10)) hx hb dX10_way_43 (by decide) ?_
          exact W.iret (v := (-10 : Int32)) hx hb hr (fun t ht hW => ⟨⟨(-10 : Int32), (h_30, g_30), rfl, HW, g_B ht hG⟩, hG.2.2.F ht⟩) hG.2.2.2.2 dX10_way_45
        · replace HW := HW.2 c_33
          refine lv_iload hx hb dX10_way_36 (lv_at hl 4 rfl) ?_
          refine lv_bipush (v := (-2)) hx hb dX10_way_38 (by decide) ?_
          refine lv_icmp_ge (tgt := 46) hx hb dX10_way_40 (by decide) (fun c_40 => ?_) (fun c_40 => ?_)
          · replace HW := HW.1 c_40
            refine lv_aload_n hx hb dX10_way_46 rfl (lv_at hl 0 rfl) ?_
            refine g_getr hx hb hw inG10 hown hK hG gl_0 rfl gk_0 (by decide) 7 (by decide) (by rw [gm_0]; decide) (r := 89) gr_0_7 lk56 dX10_way_47 ?_
            refine lv_iload_n hx hb dX10_way_50 rfl (lv_at hl 1 rfl) ?_
            refine lv_iload_n hx hb dX10_way_51 rfl (lv_at hl 2 rfl) ?_
            refine lv_iload_n hx hb dX10_way_52 rfl (lv_at hl 3 rfl) ?_
            obtain ⟨P_53, HC_53, HW⟩ := HW
            refine g_callv (g_runV (As := [.int x1, .int x2, .int x3]) (rest := []) ⟨hx, hb, hml, hown, hts⟩ (m_X9_find l D cy ad h_30 g_30 H.size x1 x2 x3 P_53 HC_53) (cwV 3 hts (gd_V (wm3 182 rfl rfl) (wm3 183 rfl rfl) (wm3 184 rfl rfl) (wm1 7 rfl rfl) (wm3 185 rfl rfl)) rfl rfl rfl (by decide +kernel) ⟨Nat.le_of_ble_eq_true rfl, Nat.le_of_ble_eq_true rfl⟩) hK hNw hG gl_89 rfl gk_89 (by decide) rfl rfl hl.1 rfl (lv_room (Nat.le_of_ble_eq_true rfl)) dX10_way_53 ⟨Nat.zero_le _, Nat.zero_le _⟩) hG (fun h_53 g_53 H locs hq hG => ?_)
            replace HW := HW h_53 g_53 hq
            refine lv_aload_n hx hb dX10_way_56 rfl (lv_at hl 0 rfl) ?_
            refine g_getr hx hb hw inG10 hown hK hG gl_0 rfl gk_0 (by decide) 7 (by decide) (by rw [gm_0]; decide) (r := 89) gr_0_7 lk56 dX10_way_57 ?_
            refine g_geti hx hb hw inG9 hown hK hG gl_89 rfl gk_89 (by decide) 5 (by decide) (by rw [gm_89]; decide) gr_89_5 lk187 dX10_way_60 ?_
            refine lv_iconst (v := (-1)) hx hb dX10_way_63 (by decide) ?_
            refine lv_icmp_ne (tgt := 70) hx hb dX10_way_64 (by decide) (fun c_64 => ?_) (fun c_64 => ?_)
            · replace HW := HW.1 c_64
              refine lv_iload hx hb dX10_way_70 (lv_at hl 4 rfl) ?_
              refine lv_iconst (v := (-1)) hx hb dX10_way_72 (by decide) ?_
              refine lv_icmp_ne (tgt := 84) hx hb dX10_way_73 (by decide) (fun c_73 => ?_) (fun c_73 => ?_)
              · replace HW := HW.1 c_73
                refine lv_iload hx hb dX10_way_84 (lv_at hl 4 rfl) ?_
                refine lv_bipush (v := (-2)) hx hb dX10_way_86 (by decide) ?_
                refine lv_icmp_ne (tgt := 99) hx hb dX10_way_88 (by decide) (fun c_88 => ?_) (fun c_88 => ?_)
                · replace HW := HW.1 c_88
                  refine lv_aload_n hx hb dX10_way_99 rfl (lv_at hl 0 rfl) ?_
                  refine g_getr hx hb hw inG10 hown hK hG gl_0 rfl gk_0 (by decide) 7 (by decide) (by rw [gm_0]; decide) (r := 89) gr_0_7 lk56 dX10_way_100 ?_
                  refine lv_iload hx hb dX10_way_103 (lv_at hl 4 rfl) ?_
                  obtain ⟨P_105, HC_105, HW⟩ := HW
                  refine g_calli (g_runV (As := [.int x4]) (rest := []) ⟨hx, hb, hml, hown, hts⟩ (m_X9_stepAt l D cy ad h_53 g_53 H.size x4 P_105 HC_105) (cwV 1 hts (gd_V (wm3 208 rfl rfl) (wm3 209 rfl rfl) (wm3 210 rfl rfl) (wm1 7 rfl rfl) (wm3 211 rfl rfl)) rfl rfl rfl (by decide +kernel) ⟨Nat.le_of_ble_eq_true rfl, Nat.le_of_ble_eq_true rfl⟩) hK hNw hG gl_89 rfl gk_89 (by decide) rfl rfl hl.1 rfl (lv_room (Nat.le_of_ble_eq_true rfl)) dX10_way_105 ⟨Nat.zero_le _, Nat.zero_le _⟩) hG (fun r_105 h_105 g_105 H locs hq hG => ?_)
                  replace HW := HW r_105 h_105 g_105 hq
                  exact W.iret (v := r_105) hx hb hr (fun t ht hW => ⟨⟨r_105, (h_105, g_105), rfl, HW, g_B ht hG⟩, hG.2.2.F ht⟩) hG.2.2.2.2 dX10_way_108
                · replace HW := HW.2 c_88
                  refine lv_aload_n hx hb dX10_way_91 rfl (lv_at hl 0 rfl) ?_
                  refine g_getr hx hb hw inG10 hown hK hG gl_0 rfl gk_0 (by decide) 7 (by decide) (by rw [gm_0]; decide) (r := 89) gr_0_7 lk56 dX10_way_92 ?_
                  refine g_geti hx hb hw inG9 hown hK hG gl_89 rfl gk_89 (by decide) 6 (by decide) (by rw [gm_89]; decide) gr_89_6 lk190 dX10_way_95 ?_
                  exact W.iret (v := (h_53 89 6)) hx hb hr (fun t ht hW => ⟨⟨(h_53 89 6), (h_53, g_53), rfl, HW, g_B ht hG⟩, hG.2.2.F ht⟩) hG.2.2.2.2 dX10_way_98
              · replace HW := HW.2 c_73
                refine lv_aload_n hx hb dX10_way_76 rfl (lv_at hl 0 rfl) ?_
                refine g_getr hx hb hw inG10 hown hK hG gl_0 rfl gk_0 (by decide) 7 (by decide) (by rw [gm_0]; decide) (r := 89) gr_0_7 lk56 dX10_way_77 ?_
                refine g_geti hx hb hw inG9 hown hK hG gl_89 rfl gk_89 (by decide) 5 (by decide) (by rw [gm_89]; decide) gr_89_5 lk187 dX10_way_80 ?_
                exact W.iret (v := (h_53 89 5)) hx hb hr (fun t ht hW => ⟨⟨(h_53 89 5), (h_53, g_53), rfl, HW, g_B ht hG⟩, hG.2.2.F ht⟩) hG.2.2.2.2 dX10_way_83
            · replace HW := HW.2 c_64
              refine lv_bipush (v := (-5)) hx hb dX10_way_67 (by decide) ?_
              exact W.iret (v := (-5 : Int32)) hx hb hr (fun t ht hW => ⟨⟨(-5 : Int32), (h_53, g_53), rfl, HW, g_B ht hG⟩, hG.2.2.F ht⟩) hG.2.2.2.2 dX10_way_69
          · replace HW := HW.2 c_40
            refine lv_bipush (v := (-10)) hx hb dX10_way_43 (by decide) ?_
            exact W.iret (v := (-10 : Int32)) hx hb hr (fun t ht hW => ⟨⟨(-10 : Int32), (h_30, g_30), rfl, HW, g_B ht hG⟩, hG.2.2.F ht⟩) hG.2.2.2.2 dX10_way_45
      · replace HW := HW.2 c_19
        refine lv_bipush (v := (-10)) hx hb dX10_way_22 (by decide) ?_
        exact W.iret (v := (-10 : Int32)) hx hb hr (fun t ht hW => ⟨⟨(-10 : Int32), (h_16, g_16), rfl, HW, g_B ht hG⟩, hG.2.2.F ht⟩) hG.2.2.2.2 dX10_way_24
  exact E0 _ _ _ hG hl

def w_X10_machine (x1 : Int32) (h : HI) (g : HL) (Q : Int32 → HI → HL → Prop) : Prop :=
  (∃ P_3 : Int32 → HI → HL → Prop, w_X10_within x1 (0 : Int32) (3 : Int32) h g P_3 ∧ ∀ (r_3 : Int32) (h_3 : HI) (g_3 : HL), zb r_3 → P_3 r_3 h_3 g_3 → ((¬ r_3 = 0 → (∃ P_23 : Int32 → HI → HL → Prop, w_X8_add 12 x1 (0 : Int32) (0 : Int32) (0 : Int32) h_3 g_3 P_23 ∧ ∀ (r_23 : Int32) (h_23 : HI) (g_23 : HL), P_23 r_23 h_23 g_23 → Q r_23 h_23 g_23)) ∧ (r_3 = 0 → Q (-2 : Int32) h_3 g_3)))
set_option maxHeartbeats 8000000 in
set_option maxRecDepth 100000 in
theorem m_X10_machine (l : Launch) (D : va_G) (cy : Nat → ClassId) (ad : Nat → Nat) (h : HI) (g : HL) (sz : Nat) (x1 : Int32) (Q : Int32 → HI → HL → Prop) (HW : w_X10_machine x1 h g Q) : Met l yX10_machine (wa yX10_machine cX10_machine 2 (some .int)) ({ frames := 2, cells := 0, slots := 0, locals := 50 }) (va_Pc [.ref (ad 0), .int x1] (gI D cy ad h g sz)) (va_Qi (fun (r : Int32) (u : HI × HL) => Q r u.1 u.2) (gB D cy ad sz) (gA ad sz)) 0 0 (gA ad sz) := by
  refine Met.ofW (cc := cX10_machine) (maxL := 2) (ret := (some .int)) (by decide) rfl ?_
  intro p e s m args below meth c s₁ B hml hv
  obtain ⟨hav, hsz, hP, hK, hD0, hNw⟩ := hv
  have hx := B.exec
  have hb := B.bytes
  have hr := B.returns
  have hts := atoms_spec (ws := (wa yX10_machine cX10_machine 2 (some .int))) B.pre
  have hw := wa_hw hts
  have hown : s.vm.findClass RX10 = some m.cls := findClass_of_methodNamed B.named
  have hlocks := B.notSynchronized
  subst hsz
  have hG : gG D cy ad (gA ad s.heap.size) s.heap h g s.heap [] := ⟨hP, gA_self hD0, va_S.rf⟩
  clear hP hD0
  have lk10 := hw (.fieldLink RX10 10 "OldWorks" "shop" "LOldWorks$Shop;") (wm2 155 rfl rfl)
  have lk196 := hw (.fieldLink RX10 196 "OldWorks$Shop" "machines" "LOldWorks$Table;") (wm1 79 rfl rfl)
  rw [show (headSpec (wa yX10_machine cX10_machine 2 (some .int)) ({ frames := 2, cells := 0, slots := 0, locals := 50 } : Room)).room = ({ frames := 2, cells := 0, slots := 0, locals := 50 } : Room) from rfl]
  have hl := lv_entry ([.ref (ad 0), .int x1]) (n := 2) (Nat.le_of_ble_eq_true rfl)
  rw [show entryFrame m args 2 = entryFrame m ([.ref (ad 0), .int x1] : List Value).toArray 2 from by rw [hav], lg_entry_eq]
  generalize (lg_sl ([.ref (ad 0), .int x1]) ++ List.replicate (2 - (lg_sl ([.ref (ad 0), .int x1])).length) Slot.unset).toArray = ls at hl ⊢
  have hl : lv_has ls 2 [(0, .ref (ad 0)), (1, .int x1)] := hl
  have E0 : ∀ (H : Heap) (locs : List Loc) (ls : Array Slot), gG D cy ad (gA ad s.heap.size) s.heap h g H locs → lv_has ls 2 [(0, .ref (ad 0)), (1, .int x1)] → W p l e ({ frames := 2, cells := 0, slots := 0, locals := 50 } : Room) s m args below meth c H locs 0 0 (MQ below (va_Qi (fun (r : Int32) (u : HI × HL) => Q r u.1 u.2) (gB D cy ad s.heap.size) (gA ad s.heap.size)) args s 0 0 (gA ad s.heap.size)) (F0 m 0 ls []) := by
    intro H locs ls hG hl
    unfold w_X10_machine at HW
    refine lv_iload_n hx hb dX10_machine_0 rfl (lv_at hl 1 rfl) ?_
    refine lv_iconst (v := 0) hx hb dX10_machine_1 (by decide) ?_
    refine lv_iconst (v := 3) hx hb dX10_machine_2 (by decide) ?_
    obtain ⟨P_3, HC_3, HW⟩ := HW
    refine g_callz (g_runS (As := [.int x1, .int (0 : Int32), .int (3 : Int32)]) (rest := []) ⟨hx, hb, hml, hown, hts⟩ (m_X10_within l D cy ad h g H.size x1 (0 : Int32) (3 : Int32) P_3 HC_3) (va_cwS 3 hts (gd_S (wm2 193 rfl rfl) (wm2 194 rfl rfl) (wm1 1 rfl rfl) (wm2 195 rfl rfl)) rfl rfl rfl (by decide +kernel) ⟨Nat.le_of_ble_eq_true rfl, Nat.le_of_ble_eq_true rfl⟩) hK hNw hG rfl rfl hl.1 rfl (lv_room (Nat.le_of_ble_eq_true rfl)) dX10_machine_3 ⟨Nat.zero_le _, Nat.zero_le _⟩) hG (fun r_3 h_3 g_3 H locs hz hq hG => ?_)
    replace HW := HW r_3 h_3 g_3 hz hq
    refine lv_if_ne (tgt := 12) hx hb dX10_machine_6 (by decide) (fun c_6 => ?_) (fun c_6 => ?_)
    · replace HW := HW.1 c_6
      refine lv_aload_n hx hb dX10_machine_12 rfl (lv_at hl 0 rfl) ?_
      refine g_getr hx hb hw inG10 hown hK hG gl_0 rfl gk_0 (by decide) 0 (by decide) (by rw [gm_0]; decide) (r := 1) gr_0_0 lk10 dX10_machine_13 ?_
      refine g_getr hx hb hw inG6 hown hK hG gl_1 rfl gk_1 (by decide) 5 (by decide) (by rw [gm_1]; decide) (r := 12) gr_1_5 lk196 dX10_machine_16 ?_
      refine lv_iload_n hx hb dX10_machine_19 rfl (lv_at hl 1 rfl) ?_
      refine lv_iconst (v := 0) hx hb dX10_machine_20 (by decide) ?_
      refine lv_iconst (v := 0) hx hb dX10_machine_21 (by decide) ?_
      refine lv_iconst (v := 0) hx hb dX10_machine_22 (by decide) ?_
      obtain ⟨P_23, HC_23, HW⟩ := HW
      refine g_calli (g_runV (As := [.int x1, .int (0 : Int32), .int (0 : Int32), .int (0 : Int32)]) (rest := []) ⟨hx, hb, hml, hown, hts⟩ (m_X8_add l D cy ad h_3 g_3 H.size 12 (gs_12) x1 (0 : Int32) (0 : Int32) (0 : Int32) P_23 HC_23) (cwV 4 hts (gd_V (wm2 196 rfl rfl) (wm1 53 rfl rfl) (wm1 54 rfl rfl) (wm1 3 rfl rfl) (wm1 55 rfl rfl)) rfl rfl rfl (by decide +kernel) ⟨Nat.le_of_ble_eq_true rfl, Nat.le_of_ble_eq_true rfl⟩) hK hNw hG gl_12 rfl gk_12 (by decide) rfl rfl hl.1 rfl (lv_room (Nat.le_of_ble_eq_true rfl)) dX10_machine_23 ⟨Nat.zero_le _, Nat.zero_le _⟩) hG (fun r_23 h_23 g_23 H locs hq hG => ?_)
      replace HW := HW r_23 h_23 g_23 hq
      exact W.iret (v := r_23) hx hb hr (fun t ht hW => ⟨⟨r_23, (h_23, g_23), rfl, HW, g_B ht hG⟩, hG.2.2.F ht⟩) hG.2.2.2.2 dX10_machine_26
    · replace HW := HW.2 c_6
      refine lv_bipush (v := (-2)) hx hb dX10_machine_9 (by decide) ?_
      exact W.iret (v := (-2 : Int32)) hx hb hr (fun t ht hW => ⟨⟨(-2 : Int32), (h_3, g_3), rfl, HW, g_B ht hG⟩, hG.2.2.F ht⟩) hG.2.2.2.2 dX10_machine_11
  exact E0 _ _ _ hG hl

def w_X10_spare (x1 : Int32) (x2 : Int32) (x3 : Int32) (h : HI) (g : HL) (Q : Int32 → HI → HL → Prop) : Prop :=
  (∃ P_3 : Int32 → HI → HL → Prop, w_X10_within x1 (0 : Int32) (3 : Int32) h g P_3 ∧ ∀ (r_3 : Int32) (h_3 : HI) (g_3 : HL), zb r_3 → P_3 r_3 h_3 g_3 → ((r_3 = 0 → Q (-2 : Int32) h_3 g_3) ∧ (¬ r_3 = 0 → (∃ P_13 : Int32 → HI → HL → Prop, w_X10_within x2 (1 : Int32) (50 : Int32) h_3 g_3 P_13 ∧ ∀ (r_13 : Int32) (h_13 : HI) (g_13 : HL), zb r_13 → P_13 r_13 h_13 g_13 → ((r_13 = 0 → Q (-2 : Int32) h_13 g_13) ∧ (¬ r_13 = 0 → (∃ P_22 : Int32 → HI → HL → Prop, w_X10_within x3 (-1 : Int32) (3 : Int32) h_13 g_13 P_22 ∧ ∀ (r_22 : Int32) (h_22 : HI) (g_22 : HL), zb r_22 → P_22 r_22 h_22 g_22 → ((¬ r_22 = 0 → (∃ P_42 : Int32 → HI → HL → Prop, w_X8_add 14 x1 x2 x3 (0 : Int32) h_22 g_22 P_42 ∧ ∀ (r_42 : Int32) (h_42 : HI) (g_42 : HL), P_42 r_42 h_42 g_42 → Q r_42 h_42 g_42)) ∧ (r_22 = 0 → Q (-2 : Int32) h_22 g_22)))))))))
set_option maxHeartbeats 8000000 in
set_option maxRecDepth 100000 in
theorem m_X10_spare (l : Launch) (D : va_G) (cy : Nat → ClassId) (ad : Nat → Nat) (h : HI) (g : HL) (sz : Nat) (x1 : Int32) (x2 : Int32) (x3 : Int32) (Q : Int32 → HI → HL → Prop) (HW : w_X10_spare x1 x2 x3 h g Q) : Met l yX10_spare (wa yX10_spare cX10_spare 4 (some .int)) ({ frames := 2, cells := 0, slots := 0, locals := 50 }) (va_Pc [.ref (ad 0), .int x1, .int x2, .int x3] (gI D cy ad h g sz)) (va_Qi (fun (r : Int32) (u : HI × HL) => Q r u.1 u.2) (gB D cy ad sz) (gA ad sz)) 0 0 (gA ad sz) := by
  refine Met.ofW (cc := cX10_spare) (maxL := 4) (ret := (some .int)) (by decide) rfl ?_
  intro p e s m args below meth c s₁ B hml hv
  obtain ⟨hav, hsz, hP, hK, hD0, hNw⟩ := hv
  have hx := B.exec
  have hb := B.bytes
  have hr := B.returns
  have hts := atoms_spec (ws := (wa yX10_spare cX10_spare 4 (some .int))) B.pre
  have hw := wa_hw hts
  have hown : s.vm.findClass RX10 = some m.cls := findClass_of_methodNamed B.named
  have hlocks := B.notSynchronized
  subst hsz
  have hG : gG D cy ad (gA ad s.heap.size) s.heap h g s.heap [] := ⟨hP, gA_self hD0, va_S.rf⟩
  clear hP hD0
  have lk10 := hw (.fieldLink RX10 10 "OldWorks" "shop" "LOldWorks$Shop;") (wm2 155 rfl rfl)
  have lk199 := hw (.fieldLink RX10 199 "OldWorks$Shop" "spares" "LOldWorks$Table;") (wm1 82 rfl rfl)
  rw [show (headSpec (wa yX10_spare cX10_spare 4 (some .int)) ({ frames := 2, cells := 0, slots := 0, locals := 50 } : Room)).room = ({ frames := 2, cells := 0, slots := 0, locals := 50 } : Room) from rfl]
  have hl := lv_entry ([.ref (ad 0), .int x1, .int x2, .int x3]) (n := 4) (Nat.le_of_ble_eq_true rfl)
  rw [show entryFrame m args 4 = entryFrame m ([.ref (ad 0), .int x1, .int x2, .int x3] : List Value).toArray 4 from by rw [hav], lg_entry_eq]
  generalize (lg_sl ([.ref (ad 0), .int x1, .int x2, .int x3]) ++ List.replicate (4 - (lg_sl ([.ref (ad 0), .int x1, .int x2, .int x3])).length) Slot.unset).toArray = ls at hl ⊢
  have hl : lv_has ls 4 [(0, .ref (ad 0)), (1, .int x1), (2, .int x2), (3, .int x3)] := hl
  have E0 : ∀ (H : Heap) (locs : List Loc) (ls : Array Slot), gG D cy ad (gA ad s.heap.size) s.heap h g H locs → lv_has ls 4 [(0, .ref (ad 0)), (1, .int x1), (2, .int x2), (3, .int x3)] → W p l e ({ frames := 2, cells := 0, slots := 0, locals := 50 } : Room) s m args below meth c H locs 0 0 (MQ below (va_Qi (fun (r : Int32) (u : HI × HL) => Q r u.1 u.2) (gB D cy ad s.heap.size) (gA ad s.heap.size)) args s 0 0 (gA ad s.heap.size)) (F0 m 0 ls []) := by
    intro H locs ls hG hl
    unfold w_X10_spare at HW
    refine lv_iload_n hx hb dX10_spare_0 rfl (lv_at hl 1 rfl) ?_
    refine lv_iconst (v := 0) hx hb dX10_spare_1 (by decide) ?_
    refine lv_iconst (v := 3) hx hb dX10_spare_2 (by decide) ?_
    obtain ⟨P_3, HC_3, HW⟩ := HW
    refine g_callz (g_runS (As := [.int x1, .int (0 : Int32), .int (3 : Int32)]) (rest := []) ⟨hx, hb, hml, hown, hts⟩ (m_X10_within l D cy ad h g H.size x1 (0 : Int32) (3 : Int32) P_3 HC_3) (va_cwS 3 hts (gd_S (wm2 193 rfl rfl) (wm2 194 rfl rfl) (wm1 1 rfl rfl) (wm2 195 rfl rfl)) rfl rfl rfl (by decide +kernel) ⟨Nat.le_of_ble_eq_true rfl, Nat.le_of_ble_eq_true rfl⟩) hK hNw hG rfl rfl hl.1 rfl (lv_room (Nat.le_of_ble_eq_true rfl)) dX10_spare_3 ⟨Nat.zero_le _, Nat.zero_le _⟩) hG (fun r_3 h_3 g_3 H locs hz hq hG => ?_)
    replace HW := HW r_3 h_3 g_3 hz hq
    refine lv_if_eq (tgt := 28) hx hb dX10_spare_6 (by decide) (fun c_6 => ?_) (fun c_6 => ?_)
    · replace HW := HW.1 c_6
      refine lv_bipush (v := (-2)) hx hb dX10_spare_28 (by decide) ?_
      exact W.iret (v := (-2 : Int32)) hx hb hr (fun t ht hW => ⟨⟨(-2 : Int32), (h_3, g_3), rfl, HW, g_B ht hG⟩, hG.2.2.F ht⟩) hG.2.2.2.2 dX10_spare_30
    · replace HW := HW.2 c_6
      refine lv_iload_n hx hb dX10_spare_9 rfl (lv_at hl 2 rfl) ?_
      refine lv_iconst (v := 1) hx hb dX10_spare_10 (by decide) ?_
      refine lv_bipush (v := 50) hx hb dX10_spare_11 (by decide) ?_
      obtain ⟨P_13, HC_13, HW⟩ := HW
      refine g_callz (g_runS (As := [.int x2, .int (1 : Int32), .int (50 : Int32)]) (rest := []) ⟨hx, hb, hml, hown, hts⟩ (m_X10_within l D cy ad h_3 g_3 H.size x2 (1 : Int32) (50 : Int32) P_13 HC_13) (va_cwS 3 hts (gd_S (wm2 193 rfl rfl) (wm2 194 rfl rfl) (wm1 1 rfl rfl) (wm2 195 rfl rfl)) rfl rfl rfl (by decide +kernel) ⟨Nat.le_of_ble_eq_true rfl, Nat.le_of_ble_eq_true rfl⟩) hK hNw hG rfl rfl hl.1 rfl (lv_room (Nat.le_of_ble_eq_true rfl)) dX10_spare_13 ⟨Nat.zero_le _, Nat.zero_le _⟩) hG (fun r_13 h_13 g_13 H locs hz hq hG => ?_)
      replace HW := HW r_13 h_13 g_13 hz hq
      refine lv_if_eq (tgt := 28) hx hb dX10_spare_16 (by decide) (fun c_16 => ?_) (fun c_16 => ?_)
      · replace HW := HW.1 c_16
        refine lv_bipush (v := (-2)) hx hb dX10_spare_28 (by decide) ?_
        exact W.iret (v := (-2 : Int32)) hx hb hr (fun t ht hW => ⟨⟨(-2 : Int32), (h_13, g_13), rfl, HW, g_B ht hG⟩, hG.2.2.F ht⟩) hG.2.2.2.2 dX10_spare_30
      · replace HW := HW.2 c_16
        refine lv_iload_n hx hb dX10_spare_19 rfl (lv_at hl 3 rfl) ?_
        refine lv_iconst (v := (-1)) hx hb dX10_spare_20 (by decide) ?_
        refine lv_iconst (v := 3) hx hb dX10_spare_21 (by decide) ?_
        obtain ⟨P_22, HC_22, HW⟩ := HW
        refine g_callz (g_runS (As := [.int x3, .int (-1 : Int32), .int (3 : Int32)]) (rest := []) ⟨hx, hb, hml, hown, hts⟩ (m_X10_within l D cy ad h_13 g_13 H.size x3 (-1 : Int32) (3 : Int32) P_22 HC_22) (va_cwS 3 hts (gd_S (wm2 193 rfl rfl) (wm2 194 rfl rfl) (wm1 1 rfl rfl) (wm2 195 rfl rfl)) rfl rfl rfl (by decide +kernel) ⟨Nat.le_of_ble_eq_true rfl, Nat.le_of_ble_eq_true rfl⟩) hK hNw hG rfl rfl hl.1 rfl (lv_room (Nat.le_of_ble_eq_true rfl)) dX10_spare_22 ⟨Nat.zero_le _, Nat.zero_le _⟩) hG (fun r_22 h_22 g_22 H locs hz hq hG => ?_)
        replace HW := HW r_22 h_22 g_22 hz hq
        refine lv_if_ne (tgt := 31) hx hb dX10_spare_25 (by decide) (fun c_25 => ?_) (fun c_25 => ?_)
        · replace HW := HW.1 c_25
          refine lv_aload_n hx hb dX10_spare_31 rfl (lv_at hl 0 rfl) ?_
          refine g_getr hx hb hw inG10 hown hK hG gl_0 rfl gk_0 (by decide) 0 (by decide) (by rw [gm_0]; decide) (r := 1) gr_0_0 lk10 dX10_spare_32 ?_
          refine g_getr hx hb hw inG6 hown hK hG gl_1 rfl gk_1 (by decide) 6 (by decide) (by rw [gm_1]; decide) (r := 14) gr_1_6 lk199 dX10_spare_35 ?_
          refine lv_iload_n hx hb dX10_spare_38 rfl (lv_at hl 1 rfl) ?_
          refine lv_iload_n hx hb dX10_spare_39 rfl (lv_at hl 2 rfl) ?_
          refine lv_iload_n hx hb dX10_spare_40 rfl (lv_at hl 3 rfl) ?_
          refine lv_iconst (v := 0) hx hb dX10_spare_41 (by decide) ?_
          obtain ⟨P_42, HC_42, HW⟩ := HW
          refine g_calli (g_runV (As := [.int x1, .int x2, .int x3, .int (0 : Int32)]) (rest := []) ⟨hx, hb, hml, hown, hts⟩ (m_X8_add l D cy ad h_22 g_22 H.size 14 (gs_14) x1 x2 x3 (0 : Int32) P_42 HC_42) (cwV 4 hts (gd_V (wm2 196 rfl rfl) (wm1 53 rfl rfl) (wm1 54 rfl rfl) (wm1 3 rfl rfl) (wm1 55 rfl rfl)) rfl rfl rfl (by decide +kernel) ⟨Nat.le_of_ble_eq_true rfl, Nat.le_of_ble_eq_true rfl⟩) hK hNw hG gl_14 rfl gk_14 (by decide) rfl rfl hl.1 rfl (lv_room (Nat.le_of_ble_eq_true rfl)) dX10_spare_42 ⟨Nat.zero_le _, Nat.zero_le _⟩) hG (fun r_42 h_42 g_42 H locs hq hG => ?_)
          replace HW := HW r_42 h_42 g_42 hq
          exact W.iret (v := r_42) hx hb hr (fun t ht hW => ⟨⟨r_42, (h_42, g_42), rfl, HW, g_B ht hG⟩, hG.2.2.F ht⟩) hG.2.2.2.2 dX10_spare_45
        · replace HW := HW.2 c_25
          refine lv_bipush (v := (-2)) hx hb dX10_spare_28 (by decide) ?_
          exact W.iret (v := (-2 : Int32)) hx hb hr (fun t ht hW => ⟨⟨(-2 : Int32), (h_22, g_22), rfl, HW, g_B ht hG⟩, hG.2.2.F ht⟩) hG.2.2.2.2 dX10_spare_30
  exact E0 _ _ _ hG hl

def w_X10_scrap  (h : HI) (g : HL) (Q : Int32 → HI → HL → Prop) : Prop :=
  (∃ P_7 : Int32 → HI → HL → Prop, w_X8_rows 12 h g P_7 ∧ ∀ (r_7 : Int32) (h_7 : HI) (g_7 : HL), P_7 r_7 h_7 g_7 → (∃ P_17 : Int32 → HI → HL → Prop, w_X8_rows 14 h_7 g_7 P_17 ∧ ∀ (r_17 : Int32) (h_17 : HI) (g_17 : HL), P_17 r_17 h_17 g_17 → (∀ x1_21 : Int32, x1_21 = (r_7 + r_17) → (∃ P_29 : HI → HL → Prop, w_X8_empty 12 h_17 g_17 P_29 ∧ ∀ (h_29 : HI) (g_29 : HL), P_29 h_29 g_29 → (∃ P_39 : HI → HL → Prop, w_X8_empty 14 h_29 g_29 P_39 ∧ ∀ (h_39 : HI) (g_39 : HL), P_39 h_39 g_39 → Q x1_21 h_39 g_39)))))
set_option maxHeartbeats 8000000 in
set_option maxRecDepth 100000 in
theorem m_X10_scrap (l : Launch) (D : va_G) (cy : Nat → ClassId) (ad : Nat → Nat) (h : HI) (g : HL) (sz : Nat)  (Q : Int32 → HI → HL → Prop) (HW : w_X10_scrap h g Q) : Met l yX10_scrap (wa yX10_scrap cX10_scrap 2 (some .int)) ({ frames := 1, cells := 0, slots := 0, locals := 20 }) (va_Pc [.ref (ad 0)] (gI D cy ad h g sz)) (va_Qi (fun (r : Int32) (u : HI × HL) => Q r u.1 u.2) (gB D cy ad sz) (gA ad sz)) 0 0 (gA ad sz) := by
  refine Met.ofW (cc := cX10_scrap) (maxL := 2) (ret := (some .int)) (by decide) rfl ?_
  intro p e s m args below meth c s₁ B hml hv
  obtain ⟨hav, hsz, hP, hK, hD0, hNw⟩ := hv
  have hx := B.exec
  have hb := B.bytes
  have hr := B.returns
  have hts := atoms_spec (ws := (wa yX10_scrap cX10_scrap 2 (some .int))) B.pre
  have hw := wa_hw hts
  have hown : s.vm.findClass RX10 = some m.cls := findClass_of_methodNamed B.named
  have hlocks := B.notSynchronized
  subst hsz
  have hG : gG D cy ad (gA ad s.heap.size) s.heap h g s.heap [] := ⟨hP, gA_self hD0, va_S.rf⟩
  clear hP hD0
  have lk10 := hw (.fieldLink RX10 10 "OldWorks" "shop" "LOldWorks$Shop;") (wm2 155 rfl rfl)
  have lk196 := hw (.fieldLink RX10 196 "OldWorks$Shop" "machines" "LOldWorks$Table;") (wm1 79 rfl rfl)
  have lk199 := hw (.fieldLink RX10 199 "OldWorks$Shop" "spares" "LOldWorks$Table;") (wm1 82 rfl rfl)
  rw [show (headSpec (wa yX10_scrap cX10_scrap 2 (some .int)) ({ frames := 1, cells := 0, slots := 0, locals := 20 } : Room)).room = ({ frames := 1, cells := 0, slots := 0, locals := 20 } : Room) from rfl]
  have hl := lv_entry ([.ref (ad 0)]) (n := 2) (Nat.le_of_ble_eq_true rfl)
  rw [show entryFrame m args 2 = entryFrame m ([.ref (ad 0)] : List Value).toArray 2 from by rw [hav], lg_entry_eq]
  generalize (lg_sl ([.ref (ad 0)]) ++ List.replicate (2 - (lg_sl ([.ref (ad 0)])).length) Slot.unset).toArray = ls at hl ⊢
  have hl : lv_has ls 2 [(0, .ref (ad 0))] := hl
  have E0 : ∀ (H : Heap) (locs : List Loc) (ls : Array Slot), gG D cy ad (gA ad s.heap.size) s.heap h g H locs → lv_has ls 2 [(0, .ref (ad 0))] → W p l e ({ frames := 1, cells := 0, slots := 0, locals := 20 } : Room) s m args below meth c H locs 0 0 (MQ below (va_Qi (fun (r : Int32) (u : HI × HL) => Q r u.1 u.2) (gB D cy ad s.heap.size) (gA ad s.heap.size)) args s 0 0 (gA ad s.heap.size)) (F0 m 0 ls []) := by
    intro H locs ls hG hl
    unfold w_X10_scrap at HW
    refine lv_aload_n hx hb dX10_scrap_0 rfl (lv_at hl 0 rfl) ?_
    refine g_getr hx hb hw inG10 hown hK hG gl_0 rfl gk_0 (by decide) 0 (by decide) (by rw [gm_0]; decide) (r := 1) gr_0_0 lk10 dX10_scrap_1 ?_
    refine g_getr hx hb hw inG6 hown hK hG gl_1 rfl gk_1 (by decide) 5 (by decide) (by rw [gm_1]; decide) (r := 12) gr_1_5 lk196 dX10_scrap_4 ?_
    obtain ⟨P_7, HC_7, HW⟩ := HW
    refine g_calli (g_runV (As := []) (rest := []) ⟨hx, hb, hml, hown, hts⟩ (m_X8_rows l D cy ad h g H.size 12 (gs_12) P_7 HC_7) (cwV 0 hts (gd_V (wm3 19 rfl rfl) (wm2 217 rfl rfl) (wm2 218 rfl rfl) (wm1 3 rfl rfl) (wm2 219 rfl rfl)) rfl rfl rfl (by decide +kernel) ⟨Nat.le_of_ble_eq_true rfl, Nat.le_of_ble_eq_true rfl⟩) hK hNw hG gl_12 rfl gk_12 (by decide) rfl rfl hl.1 rfl (lv_room (Nat.le_of_ble_eq_true rfl)) dX10_scrap_7 ⟨Nat.zero_le _, Nat.zero_le _⟩) hG (fun r_7 h_7 g_7 H locs hq hG => ?_)
    replace HW := HW r_7 h_7 g_7 hq
    refine lv_aload_n hx hb dX10_scrap_10 rfl (lv_at hl 0 rfl) ?_
    refine g_getr hx hb hw inG10 hown hK hG gl_0 rfl gk_0 (by decide) 0 (by decide) (by rw [gm_0]; decide) (r := 1) gr_0_0 lk10 dX10_scrap_11 ?_
    refine g_getr hx hb hw inG6 hown hK hG gl_1 rfl gk_1 (by decide) 6 (by decide) (by rw [gm_1]; decide) (r := 14) gr_1_6 lk199 dX10_scrap_14 ?_
    obtain ⟨P_17, HC_17, HW⟩ := HW
    refine g_calli (g_runV (As := []) (rest := [.int r_7]) ⟨hx, hb, hml, hown, hts⟩ (m_X8_rows l D cy ad h_7 g_7 H.size 14 (gs_14) P_17 HC_17) (cwV 0 hts (gd_V (wm3 19 rfl rfl) (wm2 217 rfl rfl) (wm2 218 rfl rfl) (wm1 3 rfl rfl) (wm2 219 rfl rfl)) rfl rfl rfl (by decide +kernel) ⟨Nat.le_of_ble_eq_true rfl, Nat.le_of_ble_eq_true rfl⟩) hK hNw hG gl_14 rfl gk_14 (by decide) rfl rfl hl.1 rfl (lv_room (Nat.le_of_ble_eq_true rfl)) dX10_scrap_17 ⟨Nat.zero_le _, Nat.zero_le _⟩) hG (fun r_17 h_17 g_17 H locs hq hG => ?_)
    replace HW := HW r_17 h_17 g_17 hq
    refine lv_iadd hx hb dX10_scrap_20 ?_
    refine lv_topi (fun x1_21 ex1_21 => ?_)
    replace HW := HW x1_21 ex1_21
    refine lv_istore_n (lv' := [(1, .int x1_21), (0, .ref (ad 0))]) hx hb dX10_scrap_21 rfl hl (by decide) rfl (fun ls hl => ?_)
    refine lv_aload_n hx hb dX10_scrap_22 rfl (lv_at hl 1 rfl) ?_
    refine g_getr hx hb hw inG10 hown hK hG gl_0 rfl gk_0 (by decide) 0 (by decide) (by rw [gm_0]; decide) (r := 1) gr_0_0 lk10 dX10_scrap_23 ?_
    refine g_getr hx hb hw inG6 hown hK hG gl_1 rfl gk_1 (by decide) 5 (by decide) (by rw [gm_1]; decide) (r := 12) gr_1_5 lk196 dX10_scrap_26 ?_
    obtain ⟨P_29, HC_29, HW⟩ := HW
    refine g_callv (g_runV (As := []) (rest := []) ⟨hx, hb, hml, hown, hts⟩ (m_X8_empty l D cy ad h_17 g_17 H.size 12 (gs_12) P_29 HC_29) (cwV 0 hts (gd_V (wm3 24 rfl rfl) (wm3 25 rfl rfl) (wm3 26 rfl rfl) (wm1 3 rfl rfl) (wm3 27 rfl rfl)) rfl rfl rfl (by decide +kernel) ⟨Nat.le_of_ble_eq_true rfl, Nat.le_of_ble_eq_true rfl⟩) hK hNw hG gl_12 rfl gk_12 (by decide) rfl rfl hl.1 rfl (lv_room (Nat.le_of_ble_eq_true rfl)) dX10_scrap_29 ⟨Nat.zero_le _, Nat.zero_le _⟩) hG (fun h_29 g_29 H locs hq hG => ?_)
    replace HW := HW h_29 g_29 hq
    refine lv_aload_n hx hb dX10_scrap_32 rfl (lv_at hl 1 rfl) ?_
    refine g_getr hx hb hw inG10 hown hK hG gl_0 rfl gk_0 (by decide) 0 (by decide) (by rw [gm_0]; decide) (r := 1) gr_0_0 lk10 dX10_scrap_33 ?_
    refine g_getr hx hb hw inG6 hown hK hG gl_1 rfl gk_1 (by decide) 6 (by decide) (by rw [gm_1]; decide) (r := 14) gr_1_6 lk199 dX10_scrap_36 ?_
    obtain ⟨P_39, HC_39, HW⟩ := HW
    refine g_callv (g_runV (As := []) (rest := []) ⟨hx, hb, hml, hown, hts⟩ (m_X8_empty l D cy ad h_29 g_29 H.size 14 (gs_14) P_39 HC_39) (cwV 0 hts (gd_V (wm3 24 rfl rfl) (wm3 25 rfl rfl) (wm3 26 rfl rfl) (wm1 3 rfl rfl) (wm3 27 rfl rfl)) rfl rfl rfl (by decide +kernel) ⟨Nat.le_of_ble_eq_true rfl, Nat.le_of_ble_eq_true rfl⟩) hK hNw hG gl_14 rfl gk_14 (by decide) rfl rfl hl.1 rfl (lv_room (Nat.le_of_ble_eq_true rfl)) dX10_scrap_39 ⟨Nat.zero_le _, Nat.zero_le _⟩) hG (fun h_39 g_39 H locs hq hG => ?_)
    replace HW := HW h_39 g_39 hq
    refine lv_iload_n hx hb dX10_scrap_42 rfl (lv_at hl 0 rfl) ?_
    exact W.iret (v := x1_21) hx hb hr (fun t ht hW => ⟨⟨x1_21, (h_39, g_39), rfl, HW, g_B ht hG⟩, hG.2.2.F ht⟩) hG.2.2.2.2 dX10_scrap_43
  exact E0 _ _ _ hG hl

def j_X10_taking_22 (Q : Int32 → HI → HL → Prop) (x1 : Int32) (h : HI) (g : HL) : Prop :=
  (∃ P_26 : HI → HL → Prop, w_X3_find h g P_26 ∧ ∀ (h_26 : HI) (g_26 : HL), P_26 h_26 g_26 → ((¬ x1 = (-1 : Int32) → (∃ P_49 : Int32 → HI → HL → Prop, w_X3_spareOf x1 h_26 g_26 P_49 ∧ ∀ (r_49 : Int32) (h_49 : HI) (g_49 : HL), P_49 r_49 h_49 g_49 → Q r_49 h_49 g_49)) ∧ (x1 = (-1 : Int32) → (∃ P_38 : Int32 → HI → HL → Prop, w_X3_mostYears h_26 g_26 P_38 ∧ ∀ (r_38 : Int32) (h_38 : HI) (g_38 : HL), P_38 r_38 h_38 g_38 → Q r_38 h_38 g_38))))
def w_X10_taking (x1 : Int32) (h : HI) (g : HL) (Q : Int32 → HI → HL → Prop) : Prop :=
  ((x1 = (-1 : Int32) → j_X10_taking_22 Q x1 h g) ∧ (¬ x1 = (-1 : Int32) → (∃ P_13 : Int32 → HI → HL → Prop, w_X8_has 12 x1 h g P_13 ∧ ∀ (r_13 : Int32) (h_13 : HI) (g_13 : HL), zb r_13 → P_13 r_13 h_13 g_13 → ((¬ r_13 = 0 → j_X10_taking_22 Q x1 h_13 g_13) ∧ (r_13 = 0 → Q (-10 : Int32) h_13 g_13)))))
set_option maxHeartbeats 8000000 in
set_option maxRecDepth 100000 in
theorem m_X10_taking (l : Launch) (D : va_G) (cy : Nat → ClassId) (ad : Nat → Nat) (h : HI) (g : HL) (sz : Nat) (x1 : Int32) (Q : Int32 → HI → HL → Prop) (HW : w_X10_taking x1 h g Q) : Met l yX10_taking (wa yX10_taking cX10_taking 2 (some .int)) ({ frames := 4, cells := 0, slots := 0, locals := 95 }) (va_Pc [.ref (ad 0), .int x1] (gI D cy ad h g sz)) (va_Qi (fun (r : Int32) (u : HI × HL) => Q r u.1 u.2) (gB D cy ad sz) (gA ad sz)) 0 0 (gA ad sz) := by
  refine Met.ofW (cc := cX10_taking) (maxL := 2) (ret := (some .int)) (by decide) rfl ?_
  intro p e s m args below meth c s₁ B hml hv
  obtain ⟨hav, hsz, hP, hK, hD0, hNw⟩ := hv
  have hx := B.exec
  have hb := B.bytes
  have hr := B.returns
  have hts := atoms_spec (ws := (wa yX10_taking cX10_taking 2 (some .int))) B.pre
  have hw := wa_hw hts
  have hown : s.vm.findClass RX10 = some m.cls := findClass_of_methodNamed B.named
  have hlocks := B.notSynchronized
  subst hsz
  have hG : gG D cy ad (gA ad s.heap.size) s.heap h g s.heap [] := ⟨hP, gA_self hD0, va_S.rf⟩
  clear hP hD0
  have lk10 := hw (.fieldLink RX10 10 "OldWorks" "shop" "LOldWorks$Shop;") (wm2 155 rfl rfl)
  have lk196 := hw (.fieldLink RX10 196 "OldWorks$Shop" "machines" "LOldWorks$Table;") (wm1 79 rfl rfl)
  have lk63 := hw (.fieldLink RX10 63 "OldWorks" "givings" "LOldWorks$Givings;") (wm2 163 rfl rfl)
  rw [show (headSpec (wa yX10_taking cX10_taking 2 (some .int)) ({ frames := 4, cells := 0, slots := 0, locals := 95 } : Room)).room = ({ frames := 4, cells := 0, slots := 0, locals := 95 } : Room) from rfl]
  have hl := lv_entry ([.ref (ad 0), .int x1]) (n := 2) (Nat.le_of_ble_eq_true rfl)
  rw [show entryFrame m args 2 = entryFrame m ([.ref (ad 0), .int x1] : List Value).toArray 2 from by rw [hav], lg_entry_eq]
  generalize (lg_sl ([.ref (ad 0), .int x1]) ++ List.replicate (2 - (lg_sl ([.ref (ad 0), .int x1])).length) Slot.unset).toArray = ls at hl ⊢
  have hl : lv_has ls 2 [(0, .ref (ad 0)), (1, .int x1)] := hl
  have B22 : ∀ (x1 : Int32) (h : HI) (g : HL) (H : Heap) (locs : List Loc) (ls : Array Slot), j_X10_taking_22 Q x1 h g → gG D cy ad (gA ad s.heap.size) s.heap h g H locs → lv_has ls 2 [(0, .ref (ad 0)), (1, .int x1)] → W p l e ({ frames := 4, cells := 0, slots := 0, locals := 95 } : Room) s m args below meth c H locs 0 0 (MQ below (va_Qi (fun (r : Int32) (u : HI × HL) => Q r u.1 u.2) (gB D cy ad s.heap.size) (gA ad s.heap.size)) args s 0 0 (gA ad s.heap.size)) (F0 m 22 ls []) := by
    intro x1 h g H locs ls HW hG hl
    unfold j_X10_taking_22 at HW
    refine lv_aload_n hx hb dX10_taking_22 rfl (lv_at hl 0 rfl) ?_
    refine g_getr hx hb hw inG10 hown hK hG gl_0 rfl gk_0 (by decide) 8 (by decide) (by rw [gm_0]; decide) (r := 97) gr_0_8 lk63 dX10_taking_23 ?_
    obtain ⟨P_26, HC_26, HW⟩ := HW
    refine g_callv (g_runV (As := []) (rest := []) ⟨hx, hb, hml, hown, hts⟩ (m_X3_find l D cy ad h g H.size  P_26 HC_26) (cwV 0 hts (gd_V (wm3 228 rfl rfl) (wm3 229 rfl rfl) (wm3 230 rfl rfl) (wm1 9 rfl rfl) (wm3 231 rfl rfl)) rfl rfl rfl (by decide +kernel) ⟨Nat.le_of_ble_eq_true rfl, Nat.le_of_ble_eq_true rfl⟩) hK hNw hG gl_97 rfl gk_97 (by decide) rfl rfl hl.1 rfl (lv_room (Nat.le_of_ble_eq_true rfl)) dX10_taking_26 ⟨Nat.zero_le _, Nat.zero_le _⟩) hG (fun h_26 g_26 H locs hq hG => ?_)
    replace HW := HW h_26 g_26 hq
    refine lv_iload_n hx hb dX10_taking_29 rfl (lv_at hl 1 rfl) ?_
    refine lv_iconst (v := (-1)) hx hb dX10_taking_30 (by decide) ?_
    refine lv_icmp_ne (tgt := 44) hx hb dX10_taking_31 (by decide) (fun c_31 => ?_) (fun c_31 => ?_)
    · replace HW := HW.1 c_31
      refine lv_aload_n hx hb dX10_taking_44 rfl (lv_at hl 0 rfl) ?_
      refine g_getr hx hb hw inG10 hown hK hG gl_0 rfl gk_0 (by decide) 8 (by decide) (by rw [gm_0]; decide) (r := 97) gr_0_8 lk63 dX10_taking_45 ?_
      refine lv_iload_n hx hb dX10_taking_48 rfl (lv_at hl 1 rfl) ?_
      obtain ⟨P_49, HC_49, HW⟩ := HW
      refine g_calli (g_runV (As := [.int x1]) (rest := []) ⟨hx, hb, hml, hown, hts⟩ (m_X3_spareOf l D cy ad h_26 g_26 H.size x1 P_49 HC_49) (cwV 1 hts (gd_V (wm4 28 rfl rfl) (wm4 29 rfl rfl) (wm4 30 rfl rfl) (wm1 9 rfl rfl) (wm4 31 rfl rfl)) rfl rfl rfl (by decide +kernel) ⟨Nat.le_of_ble_eq_true rfl, Nat.le_of_ble_eq_true rfl⟩) hK hNw hG gl_97 rfl gk_97 (by decide) rfl rfl hl.1 rfl (lv_room (Nat.le_of_ble_eq_true rfl)) dX10_taking_49 ⟨Nat.zero_le _, Nat.zero_le _⟩) hG (fun r_49 h_49 g_49 H locs hq hG => ?_)
      replace HW := HW r_49 h_49 g_49 hq
      exact W.iret (v := r_49) hx hb hr (fun t ht hW => ⟨⟨r_49, (h_49, g_49), rfl, HW, g_B ht hG⟩, hG.2.2.F ht⟩) hG.2.2.2.2 dX10_taking_52
    · replace HW := HW.2 c_31
      refine lv_aload_n hx hb dX10_taking_34 rfl (lv_at hl 0 rfl) ?_
      refine g_getr hx hb hw inG10 hown hK hG gl_0 rfl gk_0 (by decide) 8 (by decide) (by rw [gm_0]; decide) (r := 97) gr_0_8 lk63 dX10_taking_35 ?_
      obtain ⟨P_38, HC_38, HW⟩ := HW
      refine g_calli (g_runV (As := []) (rest := []) ⟨hx, hb, hml, hown, hts⟩ (m_X3_mostYears l D cy ad h_26 g_26 H.size  P_38 HC_38) (cwV 0 hts (gd_V (wm4 24 rfl rfl) (wm4 25 rfl rfl) (wm4 26 rfl rfl) (wm1 9 rfl rfl) (wm4 27 rfl rfl)) rfl rfl rfl (by decide +kernel) ⟨Nat.le_of_ble_eq_true rfl, Nat.le_of_ble_eq_true rfl⟩) hK hNw hG gl_97 rfl gk_97 (by decide) rfl rfl hl.1 rfl (lv_room (Nat.le_of_ble_eq_true rfl)) dX10_taking_38 ⟨Nat.zero_le _, Nat.zero_le _⟩) hG (fun r_38 h_38 g_38 H locs hq hG => ?_)
      replace HW := HW r_38 h_38 g_38 hq
      refine lv_goto (tgt := 52) hx hb dX10_taking_41 (by decide) ?_
      exact W.iret (v := r_38) hx hb hr (fun t ht hW => ⟨⟨r_38, (h_38, g_38), rfl, HW, g_B ht hG⟩, hG.2.2.F ht⟩) hG.2.2.2.2 dX10_taking_52
  have E0 : ∀ (H : Heap) (locs : List Loc) (ls : Array Slot), gG D cy ad (gA ad s.heap.size) s.heap h g H locs → lv_has ls 2 [(0, .ref (ad 0)), (1, .int x1)] → W p l e ({ frames := 4, cells := 0, slots := 0, locals := 95 } : Room) s m args below meth c H locs 0 0 (MQ below (va_Qi (fun (r : Int32) (u : HI × HL) => Q r u.1 u.2) (gB D cy ad s.heap.size) (gA ad s.heap.size)) args s 0 0 (gA ad s.heap.size)) (F0 m 0 ls []) := by
    intro H locs ls hG hl
    unfold w_X10_taking at HW
    refine lv_iload_n hx hb dX10_taking_0 rfl (lv_at hl 1 rfl) ?_
    refine lv_iconst (v := (-1)) hx hb dX10_taking_1 (by decide) ?_
    refine lv_icmp_eq (tgt := 22) hx hb dX10_taking_2 (by decide) (fun c_2 => ?_) (fun c_2 => ?_)
    · replace HW := HW.1 c_2
      exact B22 x1 h g _ _ _ HW hG (lv_sub hl [0, 1] rfl)
    · replace HW := HW.2 c_2
      refine lv_aload_n hx hb dX10_taking_5 rfl (lv_at hl 0 rfl) ?_
      refine g_getr hx hb hw inG10 hown hK hG gl_0 rfl gk_0 (by decide) 0 (by decide) (by rw [gm_0]; decide) (r := 1) gr_0_0 lk10 dX10_taking_6 ?_
      refine g_getr hx hb hw inG6 hown hK hG gl_1 rfl gk_1 (by decide) 5 (by decide) (by rw [gm_1]; decide) (r := 12) gr_1_5 lk196 dX10_taking_9 ?_
      refine lv_iload_n hx hb dX10_taking_12 rfl (lv_at hl 1 rfl) ?_
      obtain ⟨P_13, HC_13, HW⟩ := HW
      refine g_callz (g_runV (As := [.int x1]) (rest := []) ⟨hx, hb, hml, hown, hts⟩ (m_X8_has l D cy ad h g H.size 12 (gs_12) x1 P_13 HC_13) (cwV 1 hts (gd_V (wm2 201 rfl rfl) (wm2 202 rfl rfl) (wm2 203 rfl rfl) (wm1 3 rfl rfl) (wm2 204 rfl rfl)) rfl rfl rfl (by decide +kernel) ⟨Nat.le_of_ble_eq_true rfl, Nat.le_of_ble_eq_true rfl⟩) hK hNw hG gl_12 rfl gk_12 (by decide) rfl rfl hl.1 rfl (lv_room (Nat.le_of_ble_eq_true rfl)) dX10_taking_13 ⟨Nat.zero_le _, Nat.zero_le _⟩) hG (fun r_13 h_13 g_13 H locs hz hq hG => ?_)
      replace HW := HW r_13 h_13 g_13 hz hq
      refine lv_if_ne (tgt := 22) hx hb dX10_taking_16 (by decide) (fun c_16 => ?_) (fun c_16 => ?_)
      · replace HW := HW.1 c_16
        exact B22 x1 h_13 g_13 _ _ _ HW hG (lv_sub hl [0, 1] rfl)
      · replace HW := HW.2 c_16
        refine lv_bipush (v := (-10)) hx hb dX10_taking_19 (by decide) ?_
        exact W.iret (v := (-10 : Int32)) hx hb hr (fun t ht hW => ⟨⟨(-10 : Int32), (h_13, g_13), rfl, HW, g_B ht hG⟩, hG.2.2.F ht⟩) hG.2.2.2.2 dX10_taking_21
  exact E0 _ _ _ hG hl

def w_X10_odds (x1 : Int32) (x2 : Int32) (h : HI) (g : HL) (Q : Int32 → HI → HL → Prop) : Prop :=
  (∃ P_4 : Int32 → HI → HL → Prop, w_X10_within x1 (0 : Int32) (9 : Int32) h g P_4 ∧ ∀ (r_4 : Int32) (h_4 : HI) (g_4 : HL), zb r_4 → P_4 r_4 h_4 g_4 → ((r_4 = 0 → Q (-2 : Int32) h_4 g_4) ∧ (¬ r_4 = 0 → (∃ P_14 : Int32 → HI → HL → Prop, w_X10_within x2 (0 : Int32) (9 : Int32) h_4 g_4 P_14 ∧ ∀ (r_14 : Int32) (h_14 : HI) (g_14 : HL), zb r_14 → P_14 r_14 h_14 g_14 → ((¬ r_14 = 0 → (∃ P_33 : HI → HL → Prop, w_X8_put 16 (0 : Int32) (0 : Int32) x1 h_14 g_14 P_33 ∧ ∀ (h_33 : HI) (g_33 : HL), P_33 h_33 g_33 → (∃ P_46 : HI → HL → Prop, w_X8_put 16 (0 : Int32) (1 : Int32) x2 h_33 g_33 P_46 ∧ ∀ (h_46 : HI) (g_46 : HL), P_46 h_46 g_46 → Q (1 : Int32) h_46 g_46))) ∧ (r_14 = 0 → Q (-2 : Int32) h_14 g_14))))))
set_option maxHeartbeats 8000000 in
set_option maxRecDepth 100000 in
theorem m_X10_odds (l : Launch) (D : va_G) (cy : Nat → ClassId) (ad : Nat → Nat) (h : HI) (g : HL) (sz : Nat) (x1 : Int32) (x2 : Int32) (Q : Int32 → HI → HL → Prop) (HW : w_X10_odds x1 x2 h g Q) : Met l yX10_odds (wa yX10_odds cX10_odds 3 (some .int)) ({ frames := 1, cells := 0, slots := 0, locals := 24 }) (va_Pc [.ref (ad 0), .int x1, .int x2] (gI D cy ad h g sz)) (va_Qi (fun (r : Int32) (u : HI × HL) => Q r u.1 u.2) (gB D cy ad sz) (gA ad sz)) 0 0 (gA ad sz) := by
  refine Met.ofW (cc := cX10_odds) (maxL := 3) (ret := (some .int)) (by decide) rfl ?_
  intro p e s m args below meth c s₁ B hml hv
  obtain ⟨hav, hsz, hP, hK, hD0, hNw⟩ := hv
  have hx := B.exec
  have hb := B.bytes
  have hr := B.returns
  have hts := atoms_spec (ws := (wa yX10_odds cX10_odds 3 (some .int))) B.pre
  have hw := wa_hw hts
  have hown : s.vm.findClass RX10 = some m.cls := findClass_of_methodNamed B.named
  have hlocks := B.notSynchronized
  subst hsz
  have hG : gG D cy ad (gA ad s.heap.size) s.heap h g s.heap [] := ⟨hP, gA_self hD0, va_S.rf⟩
  clear hP hD0
  have lk10 := hw (.fieldLink RX10 10 "OldWorks" "shop" "LOldWorks$Shop;") (wm2 155 rfl rfl)
  have lk210 := hw (.fieldLink RX10 210 "OldWorks$Shop" "odds" "LOldWorks$Table;") (wm1 85 rfl rfl)
  rw [show (headSpec (wa yX10_odds cX10_odds 3 (some .int)) ({ frames := 1, cells := 0, slots := 0, locals := 24 } : Room)).room = ({ frames := 1, cells := 0, slots := 0, locals := 24 } : Room) from rfl]
  have hl := lv_entry ([.ref (ad 0), .int x1, .int x2]) (n := 3) (Nat.le_of_ble_eq_true rfl)
  rw [show entryFrame m args 3 = entryFrame m ([.ref (ad 0), .int x1, .int x2] : List Value).toArray 3 from by rw [hav], lg_entry_eq]
  generalize (lg_sl ([.ref (ad 0), .int x1, .int x2]) ++ List.replicate (3 - (lg_sl ([.ref (ad 0), .int x1, .int x2])).length) Slot.unset).toArray = ls at hl ⊢
  have hl : lv_has ls 3 [(0, .ref (ad 0)), (1, .int x1), (2, .int x2)] := hl
  have E0 : ∀ (H : Heap) (locs : List Loc) (ls : Array Slot), gG D cy ad (gA ad s.heap.size) s.heap h g H locs → lv_has ls 3 [(0, .ref (ad 0)), (1, .int x1), (2, .int x2)] → W p l e ({ frames := 1, cells := 0, slots := 0, locals := 24 } : Room) s m args below meth c H locs 0 0 (MQ below (va_Qi (fun (r : Int32) (u : HI × HL) => Q r u.1 u.2) (gB D cy ad s.heap.size) (gA ad s.heap.size)) args s 0 0 (gA ad s.heap.size)) (F0 m 0 ls []) := by
    intro H locs ls hG hl
    unfold w_X10_odds at HW
    refine lv_iload_n hx hb dX10_odds_0 rfl (lv_at hl 1 rfl) ?_
    refine lv_iconst (v := 0) hx hb dX10_odds_1 (by decide) ?_
    refine lv_bipush (v := 9) hx hb dX10_odds_2 (by decide) ?_
    obtain ⟨P_4, HC_4, HW⟩ := HW
    refine g_callz (g_runS (As := [.int x1, .int (0 : Int32), .int (9 : Int32)]) (rest := []) ⟨hx, hb, hml, hown, hts⟩ (m_X10_within l D cy ad h g H.size x1 (0 : Int32) (9 : Int32) P_4 HC_4) (va_cwS 3 hts (gd_S (wm2 193 rfl rfl) (wm2 194 rfl rfl) (wm1 1 rfl rfl) (wm2 195 rfl rfl)) rfl rfl rfl (by decide +kernel) ⟨Nat.le_of_ble_eq_true rfl, Nat.le_of_ble_eq_true rfl⟩) hK hNw hG rfl rfl hl.1 rfl (lv_room (Nat.le_of_ble_eq_true rfl)) dX10_odds_4 ⟨Nat.zero_le _, Nat.zero_le _⟩) hG (fun r_4 h_4 g_4 H locs hz hq hG => ?_)
    replace HW := HW r_4 h_4 g_4 hz hq
    refine lv_if_eq (tgt := 20) hx hb dX10_odds_7 (by decide) (fun c_7 => ?_) (fun c_7 => ?_)
    · replace HW := HW.1 c_7
      refine lv_bipush (v := (-2)) hx hb dX10_odds_20 (by decide) ?_
      exact W.iret (v := (-2 : Int32)) hx hb hr (fun t ht hW => ⟨⟨(-2 : Int32), (h_4, g_4), rfl, HW, g_B ht hG⟩, hG.2.2.F ht⟩) hG.2.2.2.2 dX10_odds_22
    · replace HW := HW.2 c_7
      refine lv_iload_n hx hb dX10_odds_10 rfl (lv_at hl 2 rfl) ?_
      refine lv_iconst (v := 0) hx hb dX10_odds_11 (by decide) ?_
      refine lv_bipush (v := 9) hx hb dX10_odds_12 (by decide) ?_
      obtain ⟨P_14, HC_14, HW⟩ := HW
      refine g_callz (g_runS (As := [.int x2, .int (0 : Int32), .int (9 : Int32)]) (rest := []) ⟨hx, hb, hml, hown, hts⟩ (m_X10_within l D cy ad h_4 g_4 H.size x2 (0 : Int32) (9 : Int32) P_14 HC_14) (va_cwS 3 hts (gd_S (wm2 193 rfl rfl) (wm2 194 rfl rfl) (wm1 1 rfl rfl) (wm2 195 rfl rfl)) rfl rfl rfl (by decide +kernel) ⟨Nat.le_of_ble_eq_true rfl, Nat.le_of_ble_eq_true rfl⟩) hK hNw hG rfl rfl hl.1 rfl (lv_room (Nat.le_of_ble_eq_true rfl)) dX10_odds_14 ⟨Nat.zero_le _, Nat.zero_le _⟩) hG (fun r_14 h_14 g_14 H locs hz hq hG => ?_)
      replace HW := HW r_14 h_14 g_14 hz hq
      refine lv_if_ne (tgt := 23) hx hb dX10_odds_17 (by decide) (fun c_17 => ?_) (fun c_17 => ?_)
      · replace HW := HW.1 c_17
        refine lv_aload_n hx hb dX10_odds_23 rfl (lv_at hl 0 rfl) ?_
        refine g_getr hx hb hw inG10 hown hK hG gl_0 rfl gk_0 (by decide) 0 (by decide) (by rw [gm_0]; decide) (r := 1) gr_0_0 lk10 dX10_odds_24 ?_
        refine g_getr hx hb hw inG6 hown hK hG gl_1 rfl gk_1 (by decide) 7 (by decide) (by rw [gm_1]; decide) (r := 16) gr_1_7 lk210 dX10_odds_27 ?_
        refine lv_iconst (v := 0) hx hb dX10_odds_30 (by decide) ?_
        refine lv_iconst (v := 0) hx hb dX10_odds_31 (by decide) ?_
        refine lv_iload_n hx hb dX10_odds_32 rfl (lv_at hl 1 rfl) ?_
        obtain ⟨P_33, HC_33, HW⟩ := HW
        refine g_callv (g_runV (As := [.int (0 : Int32), .int (0 : Int32), .int x1]) (rest := []) ⟨hx, hb, hml, hown, hts⟩ (m_X8_put l D cy ad h_14 g_14 H.size 16 (gs_16) (0 : Int32) (0 : Int32) x1 P_33 HC_33) (cwV 3 hts (gd_V (wm2 207 rfl rfl) (wm1 57 rfl rfl) (wm1 58 rfl rfl) (wm1 3 rfl rfl) (wm1 59 rfl rfl)) rfl rfl rfl (by decide +kernel) ⟨Nat.le_of_ble_eq_true rfl, Nat.le_of_ble_eq_true rfl⟩) hK hNw hG gl_16 rfl gk_16 (by decide) rfl rfl hl.1 rfl (lv_room (Nat.le_of_ble_eq_true rfl)) dX10_odds_33 ⟨Nat.zero_le _, Nat.zero_le _⟩) hG (fun h_33 g_33 H locs hq hG => ?_)
        replace HW := HW h_33 g_33 hq
        refine lv_aload_n hx hb dX10_odds_36 rfl (lv_at hl 0 rfl) ?_
        refine g_getr hx hb hw inG10 hown hK hG gl_0 rfl gk_0 (by decide) 0 (by decide) (by rw [gm_0]; decide) (r := 1) gr_0_0 lk10 dX10_odds_37 ?_
        refine g_getr hx hb hw inG6 hown hK hG gl_1 rfl gk_1 (by decide) 7 (by decide) (by rw [gm_1]; decide) (r := 16) gr_1_7 lk210 dX10_odds_40 ?_
        refine lv_iconst (v := 0) hx hb dX10_odds_43 (by decide) ?_
        refine lv_iconst (v := 1) hx hb dX10_odds_44 (by decide) ?_
        refine lv_iload_n hx hb dX10_odds_45 rfl (lv_at hl 2 rfl) ?_
        obtain ⟨P_46, HC_46, HW⟩ := HW
        refine g_callv (g_runV (As := [.int (0 : Int32), .int (1 : Int32), .int x2]) (rest := []) ⟨hx, hb, hml, hown, hts⟩ (m_X8_put l D cy ad h_33 g_33 H.size 16 (gs_16) (0 : Int32) (1 : Int32) x2 P_46 HC_46) (cwV 3 hts (gd_V (wm2 207 rfl rfl) (wm1 57 rfl rfl) (wm1 58 rfl rfl) (wm1 3 rfl rfl) (wm1 59 rfl rfl)) rfl rfl rfl (by decide +kernel) ⟨Nat.le_of_ble_eq_true rfl, Nat.le_of_ble_eq_true rfl⟩) hK hNw hG gl_16 rfl gk_16 (by decide) rfl rfl hl.1 rfl (lv_room (Nat.le_of_ble_eq_true rfl)) dX10_odds_46 ⟨Nat.zero_le _, Nat.zero_le _⟩) hG (fun h_46 g_46 H locs hq hG => ?_)
        replace HW := HW h_46 g_46 hq
        refine lv_iconst (v := 1) hx hb dX10_odds_49 (by decide) ?_
        exact W.iret (v := (1 : Int32)) hx hb hr (fun t ht hW => ⟨⟨(1 : Int32), (h_46, g_46), rfl, HW, g_B ht hG⟩, hG.2.2.F ht⟩) hG.2.2.2.2 dX10_odds_50
      · replace HW := HW.2 c_17
        refine lv_bipush (v := (-2)) hx hb dX10_odds_20 (by decide) ?_
        exact W.iret (v := (-2 : Int32)) hx hb hr (fun t ht hW => ⟨⟨(-2 : Int32), (h_14, g_14), rfl, HW, g_B ht hG⟩, hG.2.2.F ht⟩) hG.2.2.2.2 dX10_odds_22
  exact E0 _ _ _ hG hl

def w_X10_lasts (x1 : Int32) (x2 : Int32) (h : HI) (g : HL) (Q : Int32 → HI → HL → Prop) : Prop :=
  (∃ P_8 : Int32 → HI → HL → Prop, w_X8_has 2 x1 h g P_8 ∧ ∀ (r_8 : Int32) (h_8 : HI) (g_8 : HL), zb r_8 → P_8 r_8 h_8 g_8 → ((r_8 = 0 → Q (-2 : Int32) h_8 g_8) ∧ (¬ r_8 = 0 → (∃ P_18 : Int32 → HI → HL → Prop, w_X10_within x2 (0 : Int32) (60 : Int32) h_8 g_8 P_18 ∧ ∀ (r_18 : Int32) (h_18 : HI) (g_18 : HL), zb r_18 → P_18 r_18 h_18 g_18 → ((¬ r_18 = 0 → (∃ P_33 : HI → HL → Prop, w_X1_last x1 x2 h_18 g_18 P_33 ∧ ∀ (h_33 : HI) (g_33 : HL), P_33 h_33 g_33 → Q (1 : Int32) h_33 g_33)) ∧ (r_18 = 0 → Q (-2 : Int32) h_18 g_18))))))
set_option maxHeartbeats 8000000 in
set_option maxRecDepth 100000 in
theorem m_X10_lasts (l : Launch) (D : va_G) (cy : Nat → ClassId) (ad : Nat → Nat) (h : HI) (g : HL) (sz : Nat) (x1 : Int32) (x2 : Int32) (Q : Int32 → HI → HL → Prop) (HW : w_X10_lasts x1 x2 h g Q) : Met l yX10_lasts (wa yX10_lasts cX10_lasts 3 (some .int)) ({ frames := 3, cells := 0, slots := 0, locals := 79 }) (va_Pc [.ref (ad 0), .int x1, .int x2] (gI D cy ad h g sz)) (va_Qi (fun (r : Int32) (u : HI × HL) => Q r u.1 u.2) (gB D cy ad sz) (gA ad sz)) 0 0 (gA ad sz) := by
  refine Met.ofW (cc := cX10_lasts) (maxL := 3) (ret := (some .int)) (by decide) rfl ?_
  intro p e s m args below meth c s₁ B hml hv
  obtain ⟨hav, hsz, hP, hK, hD0, hNw⟩ := hv
  have hx := B.exec
  have hb := B.bytes
  have hr := B.returns
  have hts := atoms_spec (ws := (wa yX10_lasts cX10_lasts 3 (some .int))) B.pre
  have hw := wa_hw hts
  have hown : s.vm.findClass RX10 = some m.cls := findClass_of_methodNamed B.named
  have hlocks := B.notSynchronized
  subst hsz
  have hG : gG D cy ad (gA ad s.heap.size) s.heap h g s.heap [] := ⟨hP, gA_self hD0, va_S.rf⟩
  clear hP hD0
  have lk10 := hw (.fieldLink RX10 10 "OldWorks" "shop" "LOldWorks$Shop;") (wm2 155 rfl rfl)
  have lk85 := hw (.fieldLink RX10 85 "OldWorks$Shop" "parts" "LOldWorks$Table;") (wm1 62 rfl rfl)
  have lk70 := hw (.fieldLink RX10 70 "OldWorks" "breaks" "LOldWorks$Breaks;") (wm2 164 rfl rfl)
  rw [show (headSpec (wa yX10_lasts cX10_lasts 3 (some .int)) ({ frames := 3, cells := 0, slots := 0, locals := 79 } : Room)).room = ({ frames := 3, cells := 0, slots := 0, locals := 79 } : Room) from rfl]
  have hl := lv_entry ([.ref (ad 0), .int x1, .int x2]) (n := 3) (Nat.le_of_ble_eq_true rfl)
  rw [show entryFrame m args 3 = entryFrame m ([.ref (ad 0), .int x1, .int x2] : List Value).toArray 3 from by rw [hav], lg_entry_eq]
  generalize (lg_sl ([.ref (ad 0), .int x1, .int x2]) ++ List.replicate (3 - (lg_sl ([.ref (ad 0), .int x1, .int x2])).length) Slot.unset).toArray = ls at hl ⊢
  have hl : lv_has ls 3 [(0, .ref (ad 0)), (1, .int x1), (2, .int x2)] := hl
  have E0 : ∀ (H : Heap) (locs : List Loc) (ls : Array Slot), gG D cy ad (gA ad s.heap.size) s.heap h g H locs → lv_has ls 3 [(0, .ref (ad 0)), (1, .int x1), (2, .int x2)] → W p l e ({ frames := 3, cells := 0, slots := 0, locals := 79 } : Room) s m args below meth c H locs 0 0 (MQ below (va_Qi (fun (r : Int32) (u : HI × HL) => Q r u.1 u.2) (gB D cy ad s.heap.size) (gA ad s.heap.size)) args s 0 0 (gA ad s.heap.size)) (F0 m 0 ls []) := by
    intro H locs ls hG hl
    unfold w_X10_lasts at HW
    refine lv_aload_n hx hb dX10_lasts_0 rfl (lv_at hl 0 rfl) ?_
    refine g_getr hx hb hw inG10 hown hK hG gl_0 rfl gk_0 (by decide) 0 (by decide) (by rw [gm_0]; decide) (r := 1) gr_0_0 lk10 dX10_lasts_1 ?_
    refine g_getr hx hb hw inG6 hown hK hG gl_1 rfl gk_1 (by decide) 0 (by decide) (by rw [gm_1]; decide) (r := 2) gr_1_0 lk85 dX10_lasts_4 ?_
    refine lv_iload_n hx hb dX10_lasts_7 rfl (lv_at hl 1 rfl) ?_
    obtain ⟨P_8, HC_8, HW⟩ := HW
    refine g_callz (g_runV (As := [.int x1]) (rest := []) ⟨hx, hb, hml, hown, hts⟩ (m_X8_has l D cy ad h g H.size 2 (gs_2) x1 P_8 HC_8) (cwV 1 hts (gd_V (wm2 201 rfl rfl) (wm2 202 rfl rfl) (wm2 203 rfl rfl) (wm1 3 rfl rfl) (wm2 204 rfl rfl)) rfl rfl rfl (by decide +kernel) ⟨Nat.le_of_ble_eq_true rfl, Nat.le_of_ble_eq_true rfl⟩) hK hNw hG gl_2 rfl gk_2 (by decide) rfl rfl hl.1 rfl (lv_room (Nat.le_of_ble_eq_true rfl)) dX10_lasts_8 ⟨Nat.zero_le _, Nat.zero_le _⟩) hG (fun r_8 h_8 g_8 H locs hz hq hG => ?_)
    replace HW := HW r_8 h_8 g_8 hz hq
    refine lv_if_eq (tgt := 24) hx hb dX10_lasts_11 (by decide) (fun c_11 => ?_) (fun c_11 => ?_)
    · replace HW := HW.1 c_11
      refine lv_bipush (v := (-2)) hx hb dX10_lasts_24 (by decide) ?_
      exact W.iret (v := (-2 : Int32)) hx hb hr (fun t ht hW => ⟨⟨(-2 : Int32), (h_8, g_8), rfl, HW, g_B ht hG⟩, hG.2.2.F ht⟩) hG.2.2.2.2 dX10_lasts_26
    · replace HW := HW.2 c_11
      refine lv_iload_n hx hb dX10_lasts_14 rfl (lv_at hl 2 rfl) ?_
      refine lv_iconst (v := 0) hx hb dX10_lasts_15 (by decide) ?_
      refine lv_bipush (v := 60) hx hb dX10_lasts_16 (by decide) ?_
      obtain ⟨P_18, HC_18, HW⟩ := HW
      refine g_callz (g_runS (As := [.int x2, .int (0 : Int32), .int (60 : Int32)]) (rest := []) ⟨hx, hb, hml, hown, hts⟩ (m_X10_within l D cy ad h_8 g_8 H.size x2 (0 : Int32) (60 : Int32) P_18 HC_18) (va_cwS 3 hts (gd_S (wm2 193 rfl rfl) (wm2 194 rfl rfl) (wm1 1 rfl rfl) (wm2 195 rfl rfl)) rfl rfl rfl (by decide +kernel) ⟨Nat.le_of_ble_eq_true rfl, Nat.le_of_ble_eq_true rfl⟩) hK hNw hG rfl rfl hl.1 rfl (lv_room (Nat.le_of_ble_eq_true rfl)) dX10_lasts_18 ⟨Nat.zero_le _, Nat.zero_le _⟩) hG (fun r_18 h_18 g_18 H locs hz hq hG => ?_)
      replace HW := HW r_18 h_18 g_18 hz hq
      refine lv_if_ne (tgt := 27) hx hb dX10_lasts_21 (by decide) (fun c_21 => ?_) (fun c_21 => ?_)
      · replace HW := HW.1 c_21
        refine lv_aload_n hx hb dX10_lasts_27 rfl (lv_at hl 0 rfl) ?_
        refine g_getr hx hb hw inG10 hown hK hG gl_0 rfl gk_0 (by decide) 9 (by decide) (by rw [gm_0]; decide) (r := 109) gr_0_9 lk70 dX10_lasts_28 ?_
        refine lv_iload_n hx hb dX10_lasts_31 rfl (lv_at hl 1 rfl) ?_
        refine lv_iload_n hx hb dX10_lasts_32 rfl (lv_at hl 2 rfl) ?_
        obtain ⟨P_33, HC_33, HW⟩ := HW
        refine g_callv (g_runV (As := [.int x1, .int x2]) (rest := []) ⟨hx, hb, hml, hown, hts⟩ (m_X1_last l D cy ad h_18 g_18 H.size x1 x2 P_33 HC_33) (cwV 2 hts (gd_V (wm4 45 rfl rfl) (wm4 46 rfl rfl) (wm4 47 rfl rfl) (wm1 10 rfl rfl) (wm4 48 rfl rfl)) rfl rfl rfl (by decide +kernel) ⟨Nat.le_of_ble_eq_true rfl, Nat.le_of_ble_eq_true rfl⟩) hK hNw hG gl_109 rfl gk_109 (by decide) rfl rfl hl.1 rfl (lv_room (Nat.le_of_ble_eq_true rfl)) dX10_lasts_33 ⟨Nat.zero_le _, Nat.zero_le _⟩) hG (fun h_33 g_33 H locs hq hG => ?_)
        replace HW := HW h_33 g_33 hq
        refine lv_iconst (v := 1) hx hb dX10_lasts_36 (by decide) ?_
        exact W.iret (v := (1 : Int32)) hx hb hr (fun t ht hW => ⟨⟨(1 : Int32), (h_33, g_33), rfl, HW, g_B ht hG⟩, hG.2.2.F ht⟩) hG.2.2.2.2 dX10_lasts_37
      · replace HW := HW.2 c_21
        refine lv_bipush (v := (-2)) hx hb dX10_lasts_24 (by decide) ?_
        exact W.iret (v := (-2 : Int32)) hx hb hr (fun t ht hW => ⟨⟨(-2 : Int32), (h_18, g_18), rfl, HW, g_B ht hG⟩, hG.2.2.F ht⟩) hG.2.2.2.2 dX10_lasts_26
  exact E0 _ _ _ hG hl

def w_X10_half (x1 : Int32) (h : HI) (g : HL) (Q : Int32 → HI → HL → Prop) : Prop :=
  (∃ P_8 : Int32 → HI → HL → Prop, w_X8_has 2 x1 h g P_8 ∧ ∀ (r_8 : Int32) (h_8 : HI) (g_8 : HL), zb r_8 → P_8 r_8 h_8 g_8 → ((¬ r_8 = 0 → (∃ P_22 : Int32 → HI → HL → Prop, w_X1_halved x1 h_8 g_8 P_22 ∧ ∀ (r_22 : Int32) (h_22 : HI) (g_22 : HL), P_22 r_22 h_22 g_22 → Q r_22 h_22 g_22)) ∧ (r_8 = 0 → Q (-2 : Int32) h_8 g_8)))
set_option maxHeartbeats 8000000 in
set_option maxRecDepth 100000 in
theorem m_X10_half (l : Launch) (D : va_G) (cy : Nat → ClassId) (ad : Nat → Nat) (h : HI) (g : HL) (sz : Nat) (x1 : Int32) (Q : Int32 → HI → HL → Prop) (HW : w_X10_half x1 h g Q) : Met l yX10_half (wa yX10_half cX10_half 2 (some .int)) ({ frames := 3, cells := 0, slots := 0, locals := 78 }) (va_Pc [.ref (ad 0), .int x1] (gI D cy ad h g sz)) (va_Qi (fun (r : Int32) (u : HI × HL) => Q r u.1 u.2) (gB D cy ad sz) (gA ad sz)) 0 0 (gA ad sz) := by
  refine Met.ofW (cc := cX10_half) (maxL := 2) (ret := (some .int)) (by decide) rfl ?_
  intro p e s m args below meth c s₁ B hml hv
  obtain ⟨hav, hsz, hP, hK, hD0, hNw⟩ := hv
  have hx := B.exec
  have hb := B.bytes
  have hr := B.returns
  have hts := atoms_spec (ws := (wa yX10_half cX10_half 2 (some .int))) B.pre
  have hw := wa_hw hts
  have hown : s.vm.findClass RX10 = some m.cls := findClass_of_methodNamed B.named
  have hlocks := B.notSynchronized
  subst hsz
  have hG : gG D cy ad (gA ad s.heap.size) s.heap h g s.heap [] := ⟨hP, gA_self hD0, va_S.rf⟩
  clear hP hD0
  have lk10 := hw (.fieldLink RX10 10 "OldWorks" "shop" "LOldWorks$Shop;") (wm2 155 rfl rfl)
  have lk85 := hw (.fieldLink RX10 85 "OldWorks$Shop" "parts" "LOldWorks$Table;") (wm1 62 rfl rfl)
  have lk70 := hw (.fieldLink RX10 70 "OldWorks" "breaks" "LOldWorks$Breaks;") (wm2 164 rfl rfl)
  rw [show (headSpec (wa yX10_half cX10_half 2 (some .int)) ({ frames := 3, cells := 0, slots := 0, locals := 78 } : Room)).room = ({ frames := 3, cells := 0, slots := 0, locals := 78 } : Room) from rfl]
  have hl := lv_entry ([.ref (ad 0), .int x1]) (n := 2) (Nat.le_of_ble_eq_true rfl)
  rw [show entryFrame m args 2 = entryFrame m ([.ref (ad 0), .int x1] : List Value).toArray 2 from by rw [hav], lg_entry_eq]
  generalize (lg_sl ([.ref (ad 0), .int x1]) ++ List.replicate (2 - (lg_sl ([.ref (ad 0), .int x1])).length) Slot.unset).toArray = ls at hl ⊢
  have hl : lv_has ls 2 [(0, .ref (ad 0)), (1, .int x1)] := hl
  have E0 : ∀ (H : Heap) (locs : List Loc) (ls : Array Slot), gG D cy ad (gA ad s.heap.size) s.heap h g H locs → lv_has ls 2 [(0, .ref (ad 0)), (1, .int x1)] → W p l e ({ frames := 3, cells := 0, slots := 0, locals := 78 } : Room) s m args below meth c H locs 0 0 (MQ below (va_Qi (fun (r : Int32) (u : HI × HL) => Q r u.1 u.2) (gB D cy ad s.heap.size) (gA ad s.heap.size)) args s 0 0 (gA ad s.heap.size)) (F0 m 0 ls []) := by
    intro H locs ls hG hl
    unfold w_X10_half at HW
    refine lv_aload_n hx hb dX10_half_0 rfl (lv_at hl 0 rfl) ?_
    refine g_getr hx hb hw inG10 hown hK hG gl_0 rfl gk_0 (by decide) 0 (by decide) (by rw [gm_0]; decide) (r := 1) gr_0_0 lk10 dX10_half_1 ?_
    refine g_getr hx hb hw inG6 hown hK hG gl_1 rfl gk_1 (by decide) 0 (by decide) (by rw [gm_1]; decide) (r := 2) gr_1_0 lk85 dX10_half_4 ?_
    refine lv_iload_n hx hb dX10_half_7 rfl (lv_at hl 1 rfl) ?_
    obtain ⟨P_8, HC_8, HW⟩ := HW
    refine g_callz (g_runV (As := [.int x1]) (rest := []) ⟨hx, hb, hml, hown, hts⟩ (m_X8_has l D cy ad h g H.size 2 (gs_2) x1 P_8 HC_8) (cwV 1 hts (gd_V (wm2 201 rfl rfl) (wm2 202 rfl rfl) (wm2 203 rfl rfl) (wm1 3 rfl rfl) (wm2 204 rfl rfl)) rfl rfl rfl (by decide +kernel) ⟨Nat.le_of_ble_eq_true rfl, Nat.le_of_ble_eq_true rfl⟩) hK hNw hG gl_2 rfl gk_2 (by decide) rfl rfl hl.1 rfl (lv_room (Nat.le_of_ble_eq_true rfl)) dX10_half_8 ⟨Nat.zero_le _, Nat.zero_le _⟩) hG (fun r_8 h_8 g_8 H locs hz hq hG => ?_)
    replace HW := HW r_8 h_8 g_8 hz hq
    refine lv_if_ne (tgt := 17) hx hb dX10_half_11 (by decide) (fun c_11 => ?_) (fun c_11 => ?_)
    · replace HW := HW.1 c_11
      refine lv_aload_n hx hb dX10_half_17 rfl (lv_at hl 0 rfl) ?_
      refine g_getr hx hb hw inG10 hown hK hG gl_0 rfl gk_0 (by decide) 9 (by decide) (by rw [gm_0]; decide) (r := 109) gr_0_9 lk70 dX10_half_18 ?_
      refine lv_iload_n hx hb dX10_half_21 rfl (lv_at hl 1 rfl) ?_
      obtain ⟨P_22, HC_22, HW⟩ := HW
      refine g_calli (g_runV (As := [.int x1]) (rest := []) ⟨hx, hb, hml, hown, hts⟩ (m_X1_halved l D cy ad h_8 g_8 H.size x1 P_22 HC_22) (cwV 1 hts (gd_V (wm4 72 rfl rfl) (wm4 73 rfl rfl) (wm4 74 rfl rfl) (wm1 10 rfl rfl) (wm4 75 rfl rfl)) rfl rfl rfl (by decide +kernel) ⟨Nat.le_of_ble_eq_true rfl, Nat.le_of_ble_eq_true rfl⟩) hK hNw hG gl_109 rfl gk_109 (by decide) rfl rfl hl.1 rfl (lv_room (Nat.le_of_ble_eq_true rfl)) dX10_half_22 ⟨Nat.zero_le _, Nat.zero_le _⟩) hG (fun r_22 h_22 g_22 H locs hq hG => ?_)
      replace HW := HW r_22 h_22 g_22 hq
      exact W.iret (v := r_22) hx hb hr (fun t ht hW => ⟨⟨r_22, (h_22, g_22), rfl, HW, g_B ht hG⟩, hG.2.2.F ht⟩) hG.2.2.2.2 dX10_half_25
    · replace HW := HW.2 c_11
      refine lv_bipush (v := (-2)) hx hb dX10_half_14 (by decide) ?_
      exact W.iret (v := (-2 : Int32)) hx hb hr (fun t ht hW => ⟨⟨(-2 : Int32), (h_8, g_8), rfl, HW, g_B ht hG⟩, hG.2.2.F ht⟩) hG.2.2.2.2 dX10_half_16
  exact E0 _ _ _ hG hl
